/-! branches, stores, fields, arrays, calls, returns over the judgement -/
section WP2
variable {M : MD} {d : Nat} {Post : Option Value → HI → HL → Prop} {pc : Nat} {lv : LV} {st : List Value} {hi : HI} {hl : HL}
theorem wp_if_eq {x : Int32} {off : Int} {tgt : Nat} (hd : decode M.2.1 pc = .ok (.ifCond .eq off, 3)) (ht : (pc : Int) + off = (tgt : Int)) (kt : x = 0 → Wp M d Post tgt lv st hi hl) (kf : ¬ x = 0 → Wp M d Post (pc + 3) lv st hi hl) : Wp M d Post pc lv (.int x :: st) hi hl := fun Ω p l e R s m args below meth c cells slots Q C H locs ls hP hS hL => lv_if_eq C.1 C.2.1 hd ht (fun h => kt h Ω p l e R s m args below meth c cells slots Q C H locs ls hP hS hL) (fun h => kf h Ω p l e R s m args below meth c cells slots Q C H locs ls hP hS hL)
theorem wp_icmp_eq {x y : Int32} {off : Int} {tgt : Nat} (hd : decode M.2.1 pc = .ok (.if_icmp .eq off, 3)) (ht : (pc : Int) + off = (tgt : Int)) (kt : x = y → Wp M d Post tgt lv st hi hl) (kf : ¬ x = y → Wp M d Post (pc + 3) lv st hi hl) : Wp M d Post pc lv (.int y :: .int x :: st) hi hl := fun Ω p l e R s m args below meth c cells slots Q C H locs ls hP hS hL => lv_icmp_eq C.1 C.2.1 hd ht (fun h => kt h Ω p l e R s m args below meth c cells slots Q C H locs ls hP hS hL) (fun h => kf h Ω p l e R s m args below meth c cells slots Q C H locs ls hP hS hL)
theorem wp_if_ne {x : Int32} {off : Int} {tgt : Nat} (hd : decode M.2.1 pc = .ok (.ifCond .ne off, 3)) (ht : (pc : Int) + off = (tgt : Int)) (kt : ¬ x = 0 → Wp M d Post tgt lv st hi hl) (kf : x = 0 → Wp M d Post (pc + 3) lv st hi hl) : Wp M d Post pc lv (.int x :: st) hi hl := fun Ω p l e R s m args below meth c cells slots Q C H locs ls hP hS hL => lv_if_ne C.1 C.2.1 hd ht (fun h => kt h Ω p l e R s m args below meth c cells slots Q C H locs ls hP hS hL) (fun h => kf h Ω p l e R s m args below meth c cells slots Q C H locs ls hP hS hL)
theorem wp_icmp_ne {x y : Int32} {off : Int} {tgt : Nat} (hd : decode M.2.1 pc = .ok (.if_icmp .ne off, 3)) (ht : (pc : Int) + off = (tgt : Int)) (kt : ¬ x = y → Wp M d Post tgt lv st hi hl) (kf : x = y → Wp M d Post (pc + 3) lv st hi hl) : Wp M d Post pc lv (.int y :: .int x :: st) hi hl := fun Ω p l e R s m args below meth c cells slots Q C H locs ls hP hS hL => lv_icmp_ne C.1 C.2.1 hd ht (fun h => kt h Ω p l e R s m args below meth c cells slots Q C H locs ls hP hS hL) (fun h => kf h Ω p l e R s m args below meth c cells slots Q C H locs ls hP hS hL)
theorem wp_if_lt {x : Int32} {off : Int} {tgt : Nat} (hd : decode M.2.1 pc = .ok (.ifCond .lt off, 3)) (ht : (pc : Int) + off = (tgt : Int)) (kt : x < 0 → Wp M d Post tgt lv st hi hl) (kf : ¬ x < 0 → Wp M d Post (pc + 3) lv st hi hl) : Wp M d Post pc lv (.int x :: st) hi hl := fun Ω p l e R s m args below meth c cells slots Q C H locs ls hP hS hL => lv_if_lt C.1 C.2.1 hd ht (fun h => kt h Ω p l e R s m args below meth c cells slots Q C H locs ls hP hS hL) (fun h => kf h Ω p l e R s m args below meth c cells slots Q C H locs ls hP hS hL)
theorem wp_icmp_lt {x y : Int32} {off : Int} {tgt : Nat} (hd : decode M.2.1 pc = .ok (.if_icmp .lt off, 3)) (ht : (pc : Int) + off = (tgt : Int)) (kt : x < y → Wp M d Post tgt lv st hi hl) (kf : ¬ x < y → Wp M d Post (pc + 3) lv st hi hl) : Wp M d Post pc lv (.int y :: .int x :: st) hi hl := fun Ω p l e R s m args below meth c cells slots Q C H locs ls hP hS hL => lv_icmp_lt C.1 C.2.1 hd ht (fun h => kt h Ω p l e R s m args below meth c cells slots Q C H locs ls hP hS hL) (fun h => kf h Ω p l e R s m args below meth c cells slots Q C H locs ls hP hS hL)
theorem wp_if_ge {x : Int32} {off : Int} {tgt : Nat} (hd : decode M.2.1 pc = .ok (.ifCond .ge off, 3)) (ht : (pc : Int) + off = (tgt : Int)) (kt : 0 ≤ x → Wp M d Post tgt lv st hi hl) (kf : ¬ 0 ≤ x → Wp M d Post (pc + 3) lv st hi hl) : Wp M d Post pc lv (.int x :: st) hi hl := fun Ω p l e R s m args below meth c cells slots Q C H locs ls hP hS hL => lv_if_ge C.1 C.2.1 hd ht (fun h => kt h Ω p l e R s m args below meth c cells slots Q C H locs ls hP hS hL) (fun h => kf h Ω p l e R s m args below meth c cells slots Q C H locs ls hP hS hL)
theorem wp_icmp_ge {x y : Int32} {off : Int} {tgt : Nat} (hd : decode M.2.1 pc = .ok (.if_icmp .ge off, 3)) (ht : (pc : Int) + off = (tgt : Int)) (kt : y ≤ x → Wp M d Post tgt lv st hi hl) (kf : ¬ y ≤ x → Wp M d Post (pc + 3) lv st hi hl) : Wp M d Post pc lv (.int y :: .int x :: st) hi hl := fun Ω p l e R s m args below meth c cells slots Q C H locs ls hP hS hL => lv_icmp_ge C.1 C.2.1 hd ht (fun h => kt h Ω p l e R s m args below meth c cells slots Q C H locs ls hP hS hL) (fun h => kf h Ω p l e R s m args below meth c cells slots Q C H locs ls hP hS hL)
theorem wp_if_gt {x : Int32} {off : Int} {tgt : Nat} (hd : decode M.2.1 pc = .ok (.ifCond .gt off, 3)) (ht : (pc : Int) + off = (tgt : Int)) (kt : 0 < x → Wp M d Post tgt lv st hi hl) (kf : ¬ 0 < x → Wp M d Post (pc + 3) lv st hi hl) : Wp M d Post pc lv (.int x :: st) hi hl := fun Ω p l e R s m args below meth c cells slots Q C H locs ls hP hS hL => lv_if_gt C.1 C.2.1 hd ht (fun h => kt h Ω p l e R s m args below meth c cells slots Q C H locs ls hP hS hL) (fun h => kf h Ω p l e R s m args below meth c cells slots Q C H locs ls hP hS hL)
theorem wp_icmp_gt {x y : Int32} {off : Int} {tgt : Nat} (hd : decode M.2.1 pc = .ok (.if_icmp .gt off, 3)) (ht : (pc : Int) + off = (tgt : Int)) (kt : y < x → Wp M d Post tgt lv st hi hl) (kf : ¬ y < x → Wp M d Post (pc + 3) lv st hi hl) : Wp M d Post pc lv (.int y :: .int x :: st) hi hl := fun Ω p l e R s m args below meth c cells slots Q C H locs ls hP hS hL => lv_icmp_gt C.1 C.2.1 hd ht (fun h => kt h Ω p l e R s m args below meth c cells slots Q C H locs ls hP hS hL) (fun h => kf h Ω p l e R s m args below meth c cells slots Q C H locs ls hP hS hL)
theorem wp_if_le {x : Int32} {off : Int} {tgt : Nat} (hd : decode M.2.1 pc = .ok (.ifCond .le off, 3)) (ht : (pc : Int) + off = (tgt : Int)) (kt : x ≤ 0 → Wp M d Post tgt lv st hi hl) (kf : ¬ x ≤ 0 → Wp M d Post (pc + 3) lv st hi hl) : Wp M d Post pc lv (.int x :: st) hi hl := fun Ω p l e R s m args below meth c cells slots Q C H locs ls hP hS hL => lv_if_le C.1 C.2.1 hd ht (fun h => kt h Ω p l e R s m args below meth c cells slots Q C H locs ls hP hS hL) (fun h => kf h Ω p l e R s m args below meth c cells slots Q C H locs ls hP hS hL)
theorem wp_icmp_le {x y : Int32} {off : Int} {tgt : Nat} (hd : decode M.2.1 pc = .ok (.if_icmp .le off, 3)) (ht : (pc : Int) + off = (tgt : Int)) (kt : x ≤ y → Wp M d Post tgt lv st hi hl) (kf : ¬ x ≤ y → Wp M d Post (pc + 3) lv st hi hl) : Wp M d Post pc lv (.int y :: .int x :: st) hi hl := fun Ω p l e R s m args below meth c cells slots Q C H locs ls hP hS hL => lv_icmp_le C.1 C.2.1 hd ht (fun h => kt h Ω p l e R s m args below meth c cells slots Q C H locs ls hP hS hL) (fun h => kf h Ω p l e R s m args below meth c cells slots Q C H locs ls hP hS hL)
theorem wp_switchOut {dflt lo hj : Int} {offs : Array Int} {len : Nat} {x : Int32} {tgt : Nat} (hd : decode M.2.1 pc = .ok (.tableswitch dflt lo hj offs, len)) (h : x.toInt < lo ∨ hj < x.toInt) (ht : (pc : Int) + dflt = (tgt : Int)) (k : Wp M d Post tgt lv st hi hl) : Wp M d Post pc lv (.int x :: st) hi hl := wp_go (fun _ _ _ _ _ _ _ _ _ _ _ _ _ _ _ _ _ hx hb _ _ _ k => lv_tableOut hx hb hd h ht k) k
theorem wp_switchIn {dflt lo hj : Int} {offs : Array Int} {len : Nat} {x : Int32} {off : Int} {tgt : Nat} (hd : decode M.2.1 pc = .ok (.tableswitch dflt lo hj offs, len)) (h1 : ¬ x.toInt < lo) (h2 : ¬ hj < x.toInt) (ho : offs[(x.toInt - lo).toNat]? = some off) (ht : (pc : Int) + off = (tgt : Int)) (k : Wp M d Post tgt lv st hi hl) : Wp M d Post pc lv (.int x :: st) hi hl := wp_go (fun _ _ _ _ _ _ _ _ _ _ _ _ _ _ _ _ _ hx hb _ _ _ k => lv_tableIn hx hb hd h1 h2 ho ht k) k
theorem wp_istore_n {n : Fin 4} {x : Int32} {lv' : LV} (hd : decode M.2.1 pc = .ok (.istore_n n, 1)) (hn : (n : Nat) < M.2.2.1) (hlv : lset lv n (.int x) = lv') (k : Wp M d Post (pc + 1) lv' st hi hl) : Wp M d Post pc lv (.int x :: st) hi hl := fun Ω p l e R s m args below meth c cells slots Q C H locs ls hP hS hL => lv_istore_n C.1 C.2.1 hd rfl (hasL_asc.mp hL) hn rfl (fun ls' hl' => k Ω p l e R s m args below meth c cells slots Q C H locs ls' hP hS (hlv ▸ hasL_store hl'))
theorem wp_istore {n : Nat} {x : Int32} {lv' : LV} (hd : decode M.2.1 pc = .ok (.istore n, 2)) (hn : n < M.2.2.1) (hlv : lset lv n (.int x) = lv') (k : Wp M d Post (pc + 2) lv' st hi hl) : Wp M d Post pc lv (.int x :: st) hi hl := fun Ω p l e R s m args below meth c cells slots Q C H locs ls hP hS hL => lv_istore C.1 C.2.1 hd (hasL_asc.mp hL) hn rfl (fun ls' hl' => k Ω p l e R s m args below meth c cells slots Q C H locs ls' hP hS (hlv ▸ hasL_store hl'))
theorem wp_lstore_n {n : Fin 4} {x : Int64} {lv' : LV} (hd : decode M.2.1 pc = .ok (.lstore_n n, 1)) (hn : (n : Nat) + 1 < M.2.2.1) (hlv : lset2 lv n (.long x) = lv') (k : Wp M d Post (pc + 1) lv' st hi hl) : Wp M d Post pc lv (.long x :: st) hi hl := fun Ω p l e R s m args below meth c cells slots Q C H locs ls hP hS hL => lv_lstore_n C.1 C.2.1 hd rfl (hasL_asc.mp hL) hn rfl (fun ls' hl' => k Ω p l e R s m args below meth c cells slots Q C H locs ls' hP hS (hlv ▸ hasL_store2 hl'))
theorem wp_lstore {n : Nat} {x : Int64} {lv' : LV} (hd : decode M.2.1 pc = .ok (.lstore n, 2)) (hn : n + 1 < M.2.2.1) (hlv : lset2 lv n (.long x) = lv') (k : Wp M d Post (pc + 2) lv' st hi hl) : Wp M d Post pc lv (.long x :: st) hi hl := fun Ω p l e R s m args below meth c cells slots Q C H locs ls hP hS hL => lv_lstore C.1 C.2.1 hd (hasL_asc.mp hL) hn rfl (fun ls' hl' => k Ω p l e R s m args below meth c cells slots Q C H locs ls' hP hS (hlv ▸ hasL_store2 hl'))
theorem wp_iinc {n : Nat} {b : Int} {x v : Int32} {lv' : LV} (hd : decode M.2.1 pc = .ok (.iinc n b, 3)) (hg : lvg lv n = some (.int x)) (hv : x + Int32.ofInt b = v) (hn : n < M.2.2.1) (hlv : lset lv n (.int v) = lv') (k : Wp M d Post (pc + 3) lv' st hi hl) : Wp M d Post pc lv st hi hl := by
  intro Ω p l e R s m args below meth c cells slots Q C H locs ls hP hS hL
  have hm : (n, Value.int x) ∈ asc Ω 0 lv := (asc_mem Ω lv 0 _).mpr ⟨n, .int x, lvg_at hg, by rw [Nat.zero_add]; rfl⟩
  obtain ⟨k0, hk0⟩ := List.getElem?_of_mem hm
  exact lv_iinc C.1 C.2.1 hd (hasL_asc.mp hL) hk0 hv hn rfl (fun ls' hl' => k Ω p l e R s m args below meth c cells slots Q C H locs ls' hP hS (hlv ▸ hasL_store hl'))
/-! the contents: one place anew -/
def setI (hi : HI) (k i : Nat) (v : Int32) : HI := fun k' => if k' = k then upd (hi k) i v else hi k'
def setL (hl : HL) (k i : Nat) (v : Int64) : HL := fun k' => if k' = k then vp_updL (hl k) i v else hl k'
theorem setI_same (hi : HI) (k i : Nat) (v : Int32) : setI hi k i v k = upd (hi k) i v := by simp [setI]
theorem setI_ne (hi : HI) {k k' : Nat} (i : Nat) (v : Int32) (h : k' ≠ k) : setI hi k i v k' = hi k' := by simp [setI, h]
theorem setL_same (hl : HL) (k i : Nat) (v : Int64) : setL hl k i v k = vp_updL (hl k) i v := by simp [setL]
theorem setL_ne (hl : HL) {k k' : Nat} (i : Nat) (v : Int64) (h : k' ≠ k) : setL hl k i v k' = hl k' := by simp [setL, h]
theorem setI_at (hi : HI) (k i : Nat) (v : Int32) : setI hi k i v k i = v := by simp [setI, upd]
theorem setI_at_ne (hi : HI) (k : Nat) {i j : Nat} (v : Int32) (h : j ≠ i) : setI hi k i v k j = hi k j := by simp [setI, upd, h]
theorem setL_at (hl : HL) (k i : Nat) (v : Int64) : setL hl k i v k i = v := by simp [setL, vp_updL]
theorem setL_at_ne (hl : HL) (k : Nat) {i j : Nat} (v : Int64) (h : j ≠ i) : setL hl k i v k j = hl k j := by simp [setL, vp_updL, h]
theorem fvals_get (α : Nat → Nat) (fi : Nat → Int32) (fl : Nat → Int64) : ∀ (fs : List (Option (Option Nat))) (b k : Nat) (t : Option (Option Nat)), fs[k]? = some t → (fvals α fi fl b fs)[k]? = some (fval α fi fl t (b + k))
  | [], b, k, t, h => by simp at h
  | f :: fs, b, 0, t, h => by simp at h; simp [fvals, h]
  | f :: fs, b, k + 1, t, h => by
    have := fvals_get α fi fl fs (b + 1) k t (by simpa using h)
    simpa [fvals, Nat.add_assoc, Nat.add_comm 1 k] using this
theorem fvals_length (α : Nat → Nat) (fi : Nat → Int32) (fl : Nat → Int64) : ∀ (fs : List (Option (Option Nat))) (b : Nat), (fvals α fi fl b fs).length = fs.length
  | [], b => rfl
  | f :: fs, b => by simp [fvals, fvals_length α fi fl fs (b + 1)]
theorem fvals_ext (α : Nat → Nat) {fi fi' : Nat → Int32} {fl fl' : Nat → Int64} (fs : List (Option (Option Nat))) (b k : Nat) (v : Value) (hk : k < fs.length) (h1 : ∀ t, fs[k]? = some t → fval α fi' fl' t (b + k) = v) (h2 : ∀ j, j ≠ b + k → fi' j = fi j ∧ fl' j = fl j) : (fvals α fi fl b fs).set k v = fvals α fi' fl' b fs := by
  apply List.ext_getElem?
  intro j
  by_cases hj : j < fs.length
  · obtain ⟨t, ht⟩ : ∃ t, fs[j]? = some t := ⟨fs[j], List.getElem?_eq_getElem hj⟩
    rw [fvals_get α fi' fl' fs b j t ht]
    by_cases e : j = k
    · subst e
      rw [List.getElem?_set_self (by rw [fvals_length]; exact hj), h1 t ht]
    · rw [List.getElem?_set_ne (fun q => e q.symm), fvals_get α fi fl fs b j t ht]
      have := h2 (b + j) (by omega)
      cases t with
      | none => simp [fval, this.1]
      | some t => cases t <;> simp [fval, this.2]
  · rw [List.getElem?_eq_none (by rw [List.length_set, fvals_length]; omega), List.getElem?_eq_none (by rw [fvals_length]; omega)]
/-- a field's link: by its own class or by the nest -/
def Fld (own : String) (idx ci f : Nat) : Prop := ∃ (C : String) (T : u_T) (N : Nat) (ty0 : Nat → FieldType), classes[ci]? = some (C, T, N) ∧ f < N ∧ (∀ w ∈ u_ws C T N, w ∈ gtbl) ∧ (∀ k, k < N → parseFieldDescriptor (T k).2.2.1 = some (ty0 k)) ∧ (∀ a, a < N → ∀ b, b < N → a ≠ b → (T a).2.1 ≠ (T b).2.1) ∧
  (Cond.fieldLink own idx C (T f).2.1 (T f).2.2.1 ∈ gtbl ∨ ∃ host, Cond.fieldLinkNest own idx C (T f).2.1 (T f).2.2.1 host ∈ nests) ∧ (T f).1 = C
theorem wp_getV {q ci f idx : Nat} {fs : List (Option (Option Nat))} {t : Option (Option Nat)} {v : Value} (hd : decode M.2.1 pc = .ok (.getfield idx, 3)) (hf : Fld M.1.cls idx ci f) (hq : q < 61) (hs : shp q = .inr (ci, fs)) (ht : fs[f]? = some t) (hv : ∀ Ω : Om, fval Ω.1 (hi q) (hl q) t f = trv Ω v) (k : Wp M d Post (pc + 3) lv (v :: st) hi hl) : Wp M d Post pc lv (.ref q :: st) hi hl := by
  intro Ω p l e R s m args below meth c cells slots Q C H locs ls hP hS hL
  obtain ⟨Cn, T, N, ty0, hc, hk, hin, hty, hnm, hlk, hsm⟩ := hf
  have he : (wcells Ω hi hl)[q]? = some (Ω.1 q, .inr (ci, fvals Ω.1 (hi q) (hl q) 0 fs)) := by rw [wcells_at Ω hi hl hq, hs]; rfl
  have hg : (fvals Ω.1 (hi q) (hl q) 0 fs)[f]? = some (trv Ω v) := by rw [fvals_get Ω.1 (hi q) (hl q) fs 0 f t ht, Nat.zero_add, hv Ω]
  have kk := k Ω p l e R s m args below meth c cells slots Q C H locs ls hP hS hL
  rcases hlk with h1 | ⟨host, h1⟩
  · exact va_get (D := Ω.2.1) C.1 C.2.1 C.2.2.2.2.1 hin C.2.2.2.1 C.2.2.2.2.2.2.1.1 hP q he hc f hk (C.2.2.2.2.1 _ h1) (fun x h => by rw [← hsm]; exact h) hg hd kk
  · exact va_getN (D := Ω.2.1) C.1 C.2.1 C.2.2.2.2.1 hin C.2.2.2.1 C.2.2.2.2.2.2.1.1 hP q he hc f hk ((C.2.2.2.2.2.2.1.2.2.2.2 _ h1).use rfl) (fun x h => by rw [← hsm]; exact h) hg hd kk
theorem wp_getI {q ci f idx : Nat} {fs : List (Option (Option Nat))} (hd : decode M.2.1 pc = .ok (.getfield idx, 3)) (hf : Fld M.1.cls idx ci f) (hq : q < 61) (hs : shp q = .inr (ci, fs)) (ht : fs[f]? = some none) (k : Wp M d Post (pc + 3) lv (.int (hi q f) :: st) hi hl) : Wp M d Post pc lv (.ref q :: st) hi hl := wp_getV hd hf hq hs ht (fun _ => rfl) k
theorem wp_getJ {q ci f idx : Nat} {fs : List (Option (Option Nat))} (hd : decode M.2.1 pc = .ok (.getfield idx, 3)) (hf : Fld M.1.cls idx ci f) (hq : q < 61) (hs : shp q = .inr (ci, fs)) (ht : fs[f]? = some (some none)) (k : Wp M d Post (pc + 3) lv (.long (hl q f) :: st) hi hl) : Wp M d Post pc lv (.ref q :: st) hi hl := wp_getV hd hf hq hs ht (fun _ => rfl) k
theorem wp_getR {q ci f idx r : Nat} {fs : List (Option (Option Nat))} (hd : decode M.2.1 pc = .ok (.getfield idx, 3)) (hf : Fld M.1.cls idx ci f) (hq : q < 61) (hs : shp q = .inr (ci, fs)) (ht : fs[f]? = some (some (some r))) (k : Wp M d Post (pc + 3) lv (.ref r :: st) hi hl) : Wp M d Post pc lv (.ref q :: st) hi hl := wp_getV hd hf hq hs ht (fun _ => rfl) k
theorem wp_putV {q ci f idx : Nat} {fs : List (Option (Option Nat))} {v : Value} {ty : FieldType} {hi' : HI} {hl' : HL} (hd : decode M.2.1 pc = .ok (.putfield idx, 3)) (hf : Fld M.1.cls idx ci f) (hq : q < 61) (hs : shp q = .inr (ci, fs)) (hlen : f < fs.length) (hty : ∀ C T N, classes[ci]? = some (C, T, N) → (T f).2.2.2 = false ∧ parseFieldDescriptor (T f).2.2.1 = some ty) (hn : narrow ty v = v) (hfit : fits ty v = true) (htr : ∀ Ω : Om, trv Ω v = v)
    (h1 : ∀ (α : Nat → Nat) t, fs[f]? = some t → fval α (hi' q) (hl' q) t f = v) (h2 : ∀ j, j ≠ f → hi' q j = hi q j ∧ hl' q j = hl q j) (h3 : ∀ j, j ≠ q → hi' j = hi j ∧ hl' j = hl j)
    (k : Wp M d Post (pc + 3) lv st hi' hl') : Wp M d Post pc lv (v :: .ref q :: st) hi hl := by
  intro Ω p l e R s m args below meth c cells slots Q C H locs ls hP hS hL
  obtain ⟨Cn, T, N, ty0, hc, hk, hin, hty0, hnm, hlk, hsm⟩ := hf
  obtain ⟨hfin, hdsc⟩ := hty Cn T N hc
  have he : (wcells Ω hi hl)[q]? = some (Ω.1 q, .inr (ci, fvals Ω.1 (hi q) (hl q) 0 fs)) := by rw [wcells_at Ω hi hl hq, hs]; rfl
  have hlen' : f < (fvals Ω.1 (hi q) (hl q) 0 fs).length := by rw [fvals_length]; exact hlen
  have heq : (wcells Ω hi hl).set q (Ω.1 q, .inr (ci, (fvals Ω.1 (hi q) (hl q) 0 fs).set f v)) = wcells Ω hi' hl' := by
    refine wcells_set Ω hq ?_ h3
    rw [hs, fvals_ext Ω.1 fs 0 f v hlen (fun t ht => by rw [Nat.zero_add]; exact h1 Ω.1 t ht) (fun j hj => h2 j (by omega))]
    rfl
  show W p l e R s m args below meth c H locs cells slots Q (F0 m pc ls (trv Ω v :: .ref (Ω.1 q) :: trs Ω st))
  rw [htr Ω]
  have hD := wD C.2.2.2.2.2.2.1.2.1 hi hl
  rcases hlk with g1 | ⟨host, g1⟩
  · exact va_put (D := Ω.2.1) C.1 C.2.1 C.2.2.2.2.1 hin ty0 hty0 hnm C.2.2.2.1 C.2.2.2.2.2.2.1.1 hP hD hS q he hc f hk (C.2.2.2.2.1 _ g1) (fun x h => by rw [← hsm]; exact h) hfin hdsc hn hfit hlen' hd (fun H1 locs1 hP1 _ hS1 => k Ω p l e R s m args below meth c cells slots Q C H1 locs1 ls (by rw [← heq]; exact hP1) hS1 hL)
  · exact va_putN (D := Ω.2.1) C.1 C.2.1 C.2.2.2.2.1 hin ty0 hty0 hnm C.2.2.2.1 C.2.2.2.2.2.2.1.1 hP hD hS q he hc f hk ((C.2.2.2.2.2.2.1.2.2.2.2 _ g1).use rfl) (fun x h => by rw [← hsm]; exact h) hfin hdsc hn hfit hlen' hd (fun H1 locs1 hP1 _ hS1 => k Ω p l e R s m args below meth c cells slots Q C H1 locs1 ls (by rw [← heq]; exact hP1) hS1 hL)
/-- the field f of the class ci is an int (a long) that may be written -/
def putOk (ci f : Nat) (ty : FieldType) : Prop := ∀ C T N, classes[ci]? = some (C, T, N) → (T f).2.2.2 = false ∧ parseFieldDescriptor (T f).2.2.1 = some ty
theorem putOk_of {ci f : Nat} {ty : FieldType} {C : String} {T : u_T} {N : Nat} (hc : classes[ci]? = some (C, T, N)) (h1 : (T f).2.2.2 = false) (h2 : parseFieldDescriptor (T f).2.2.1 = some ty) : putOk ci f ty := by
  intro C' T' N' h
  rw [hc] at h
  cases h
  exact ⟨h1, h2⟩
theorem wp_putI {q ci f idx : Nat} {fs : List (Option (Option Nat))} {v : Int32} (hd : decode M.2.1 pc = .ok (.putfield idx, 3)) (hf : Fld M.1.cls idx ci f) (hw : putOk ci f .int) (hq : q < 61) (hs : shp q = .inr (ci, fs)) (ht : fs[f]? = some none) (k : Wp M d Post (pc + 3) lv st (setI hi q f v) hl) : Wp M d Post pc lv (.int v :: .ref q :: st) hi hl :=
  wp_putV hd hf hq hs (List.getElem?_eq_some_iff.mp ht).1 hw rfl rfl (fun _ => rfl) (fun α t h => by rw [ht] at h; cases h; simp [fval, setI_at]) (fun j hj => ⟨setI_at_ne hi q v hj, rfl⟩) (fun j hj => ⟨setI_ne hi f v hj, rfl⟩) k
theorem wp_putJ {q ci f idx : Nat} {fs : List (Option (Option Nat))} {v : Int64} (hd : decode M.2.1 pc = .ok (.putfield idx, 3)) (hf : Fld M.1.cls idx ci f) (hw : putOk ci f .long) (hq : q < 61) (hs : shp q = .inr (ci, fs)) (ht : fs[f]? = some (some none)) (k : Wp M d Post (pc + 3) lv st hi (setL hl q f v)) : Wp M d Post pc lv (.long v :: .ref q :: st) hi hl :=
  wp_putV hd hf hq hs (List.getElem?_eq_some_iff.mp ht).1 hw rfl rfl (fun _ => rfl) (fun α t h => by rw [ht] at h; cases h; simp [fval, setL_at]) (fun j hj => ⟨rfl, setL_at_ne hl q v hj⟩) (fun j hj => ⟨rfl, setL_ne hl f v hj⟩) k
/-! arrays -/
theorem in_n {j n : Nat} {ix : Int32} (hix : ix = nI j) (hj : j < n) (hn : n ≤ 384) : vp_in ix n ∧ ix.toNatClampNeg = j := by
  subst hix
  exact ⟨vp_in_nI hj (by omega), nI_clamp (by omega)⟩
theorem wp_iald {q n j : Nat} {ix : Int32} (hd : decode M.2.1 pc = .ok (.iaload, 1)) (hq : q < 61) (hs : shp q = .inl (0, n)) (hn : n ≤ 384) (hix : ix = nI j) (hj : j < n) (k : Wp M d Post (pc + 1) lv (.int (hi q j) :: st) hi hl) : Wp M d Post pc lv (.int ix :: .ref q :: st) hi hl := by
  intro Ω p l e R s m args below meth c cells slots Q C H locs ls hP hS hL
  obtain ⟨h1, h2⟩ := in_n hix hj hn
  have he : (wcells Ω hi hl)[q]? = some (Ω.1 q, .inl (Ω.2.2 0, n, .inl (hi q))) := by rw [wcells_at Ω hi hl hq, hs]; rfl
  refine va_iald C.1 C.2.1 C.2.2.2.2.2.2.1.1 hP q 0 he rfl h1 hd ?_
  rw [h2]
  exact k Ω p l e R s m args below meth c cells slots Q C H locs ls hP hS hL
theorem wp_bald {q n j : Nat} {ix : Int32} (hd : decode M.2.1 pc = .ok (.baload, 1)) (hq : q < 61) (hs : shp q = .inl (1, n)) (hn : n ≤ 384) (hix : ix = nI j) (hj : j < n) (k : Wp M d Post (pc + 1) lv (.int (hi q j) :: st) hi hl) : Wp M d Post pc lv (.int ix :: .ref q :: st) hi hl := by
  intro Ω p l e R s m args below meth c cells slots Q C H locs ls hP hS hL
  obtain ⟨h1, h2⟩ := in_n hix hj hn
  have he : (wcells Ω hi hl)[q]? = some (Ω.1 q, .inl (Ω.2.2 1, n, .inl (hi q))) := by rw [wcells_at Ω hi hl hq, hs]; rfl
  refine va_bald C.1 C.2.1 C.2.2.2.2.2.2.1.1 hP q 1 he rfl h1 hd ?_
  rw [h2]
  exact k Ω p l e R s m args below meth c cells slots Q C H locs ls hP hS hL
theorem wp_zald {q n j : Nat} {ix : Int32} (hd : decode M.2.1 pc = .ok (.baload, 1)) (hq : q < 61) (hs : shp q = .inl (2, n)) (hn : n ≤ 384) (hix : ix = nI j) (hj : j < n) (k : Wp M d Post (pc + 1) lv (.int (hi q j) :: st) hi hl) : Wp M d Post pc lv (.int ix :: .ref q :: st) hi hl := by
  intro Ω p l e R s m args below meth c cells slots Q C H locs ls hP hS hL
  obtain ⟨h1, h2⟩ := in_n hix hj hn
  have he : (wcells Ω hi hl)[q]? = some (Ω.1 q, .inl (Ω.2.2 2, n, .inl (hi q))) := by rw [wcells_at Ω hi hl hq, hs]; rfl
  refine va_zald C.1 C.2.1 C.2.2.2.2.2.2.1.1 hP q 2 he rfl h1 hd ?_
  rw [h2]
  exact k Ω p l e R s m args below meth c cells slots Q C H locs ls hP hS hL
theorem wp_iast {q n j : Nat} {ix x : Int32} (hd : decode M.2.1 pc = .ok (.iastore, 1)) (hq : q < 61) (hs : shp q = .inl (0, n)) (hn : n ≤ 384) (hix : ix = nI j) (hj : j < n) (k : Wp M d Post (pc + 1) lv st (setI hi q j x) hl) : Wp M d Post pc lv (.int x :: .int ix :: .ref q :: st) hi hl := by
  intro Ω p l e R s m args below meth c cells slots Q C H locs ls hP hS hL
  obtain ⟨h1, h2⟩ := in_n hix hj hn
  have he : (wcells Ω hi hl)[q]? = some (Ω.1 q, .inl (Ω.2.2 0, n, .inl (hi q))) := by rw [wcells_at Ω hi hl hq, hs]; rfl
  refine va_iast C.1 C.2.1 C.2.2.2.2.2.2.1.1 hP (wD C.2.2.2.2.2.2.1.2.1 hi hl) hS q 0 he rfl h1 hd (fun H1 locs1 hP1 _ hS1 => ?_)
  rw [h2, wcells_set Ω (hi' := setI hi q j x) (hl' := hl) hq (by rw [hs, setI_same]; rfl) (fun i hij => ⟨setI_ne hi j _ hij, rfl⟩)] at hP1
  exact k Ω p l e R s m args below meth c cells slots Q C H1 locs1 ls hP1 hS1 hL
theorem wp_bast {q n j : Nat} {ix x : Int32} (hd : decode M.2.1 pc = .ok (.bastore, 1)) (hq : q < 61) (hs : shp q = .inl (1, n)) (hn : n ≤ 384) (hix : ix = nI j) (hj : j < n) (k : Wp M d Post (pc + 1) lv st (setI hi q j (vp_nar .byte x)) hl) : Wp M d Post pc lv (.int x :: .int ix :: .ref q :: st) hi hl := by
  intro Ω p l e R s m args below meth c cells slots Q C H locs ls hP hS hL
  obtain ⟨h1, h2⟩ := in_n hix hj hn
  have he : (wcells Ω hi hl)[q]? = some (Ω.1 q, .inl (Ω.2.2 1, n, .inl (hi q))) := by rw [wcells_at Ω hi hl hq, hs]; rfl
  refine va_bast C.1 C.2.1 C.2.2.2.2.2.2.1.1 hP (wD C.2.2.2.2.2.2.1.2.1 hi hl) hS q 1 he rfl h1 hd (fun H1 locs1 hP1 _ hS1 => ?_)
  rw [h2, wcells_set Ω (hi' := setI hi q j (vp_nar .byte x)) (hl' := hl) hq (by rw [hs, setI_same]; rfl) (fun i hij => ⟨setI_ne hi j _ hij, rfl⟩)] at hP1
  exact k Ω p l e R s m args below meth c cells slots Q C H1 locs1 ls hP1 hS1 hL
theorem wp_zast {q n j : Nat} {ix x : Int32} (hd : decode M.2.1 pc = .ok (.bastore, 1)) (hq : q < 61) (hs : shp q = .inl (2, n)) (hn : n ≤ 384) (hix : ix = nI j) (hj : j < n) (k : Wp M d Post (pc + 1) lv st (setI hi q j (vp_nar .boolean x)) hl) : Wp M d Post pc lv (.int x :: .int ix :: .ref q :: st) hi hl := by
  intro Ω p l e R s m args below meth c cells slots Q C H locs ls hP hS hL
  obtain ⟨h1, h2⟩ := in_n hix hj hn
  have he : (wcells Ω hi hl)[q]? = some (Ω.1 q, .inl (Ω.2.2 2, n, .inl (hi q))) := by rw [wcells_at Ω hi hl hq, hs]; rfl
  refine va_zast C.1 C.2.1 C.2.2.2.2.2.2.1.1 hP (wD C.2.2.2.2.2.2.1.2.1 hi hl) hS q 2 he rfl h1 hd (fun H1 locs1 hP1 _ hS1 => ?_)
  rw [h2, wcells_set Ω (hi' := setI hi q j (vp_nar .boolean x)) (hl' := hl) hq (by rw [hs, setI_same]; rfl) (fun i hij => ⟨setI_ne hi j _ hij, rfl⟩)] at hP1
  exact k Ω p l e R s m args below meth c cells slots Q C H1 locs1 ls hP1 hS1 hL
theorem wp_lald {q n j : Nat} {ix : Int32} (hd : decode M.2.1 pc = .ok (.laload, 1)) (hq : q < 61) (hs : shp q = .inl (3, n)) (hn : n ≤ 384) (hix : ix = nI j) (hj : j < n) (k : Wp M d Post (pc + 1) lv (.long (hl q j) :: st) hi hl) : Wp M d Post pc lv (.int ix :: .ref q :: st) hi hl := by
  intro Ω p l e R s m args below meth c cells slots Q C H locs ls hP hS hL
  obtain ⟨h1, h2⟩ := in_n hix hj hn
  have he : (wcells Ω hi hl)[q]? = some (Ω.1 q, .inl (Ω.2.2 3, n, .inr (.inl (hl q)))) := by rw [wcells_at Ω hi hl hq, hs]; rfl
  refine va_lald C.1 C.2.1 C.2.2.2.2.2.2.1.1 hP q 3 he rfl h1 hd ?_
  rw [h2]
  exact k Ω p l e R s m args below meth c cells slots Q C H locs ls hP hS hL
theorem wp_last {q n j : Nat} {ix : Int32} {x : Int64} (hd : decode M.2.1 pc = .ok (.lastore, 1)) (hq : q < 61) (hs : shp q = .inl (3, n)) (hn : n ≤ 384) (hix : ix = nI j) (hj : j < n) (k : Wp M d Post (pc + 1) lv st hi (setL hl q j x)) : Wp M d Post pc lv (.long x :: .int ix :: .ref q :: st) hi hl := by
  intro Ω p l e R s m args below meth c cells slots Q C H locs ls hP hS hL
  obtain ⟨h1, h2⟩ := in_n hix hj hn
  have he : (wcells Ω hi hl)[q]? = some (Ω.1 q, .inl (Ω.2.2 3, n, .inr (.inl (hl q)))) := by rw [wcells_at Ω hi hl hq, hs]; rfl
  refine va_last C.1 C.2.1 C.2.2.2.2.2.2.1.1 hP (wD C.2.2.2.2.2.2.1.2.1 hi hl) hS q 3 he rfl h1 hd (fun H1 locs1 hP1 _ hS1 => ?_)
  rw [h2, wcells_set Ω (hi' := hi) (hl' := setL hl q j x) hq (by rw [hs, setL_same]; rfl) (fun i hij => ⟨rfl, setL_ne hl j _ hij⟩)] at hP1
  exact k Ω p l e R s m args below meth c cells slots Q C H1 locs1 ls hP1 hS1 hL
theorem wp_aald {j r : Nat} {ix : Int32} (hd : decode M.2.1 pc = .ok (.aaload, 1)) (hix : ix = nI j) (hj : j < 2) (hr : slotRef j = some r) (k : Wp M d Post (pc + 1) lv (.ref r :: st) hi hl) : Wp M d Post pc lv (.int ix :: .ref 39 :: st) hi hl := by
  intro Ω p l e R s m args below meth c cells slots Q C H locs ls hP hS hL
  obtain ⟨h1, h2⟩ := in_n hix hj (by omega)
  have he : (wcells Ω hi hl)[39]? = some (Ω.1 39, .inl (Ω.2.2 4, 2, .inr (.inr (.inr (.inr (fun i => (slotRef i).map Ω.1)))))) := by rw [wcells_at Ω hi hl (by omega)]; rfl
  refine va_aldq C.1 C.2.1 C.2.2.2.2.2.2.1.1 hP 39 4 he rfl h1 hd ?_
  rw [h2, hr]
  exact k Ω p l e R s m args below meth c cells slots Q C H locs ls hP hS hL
/-- the static table of figures -/
theorem wp_gets {idx : Nat} (hd : decode M.2.1 pc = .ok (.getstatic idx, 3)) (hw : Cond.fieldLink M.1.cls idx "BlownByAll$SeatPlan" "FIGURE_OF" "[I" ∈ gtbl) (k : Wp M d Post (pc + 3) lv (.ref 100 :: st) hi hl) : Wp M d Post pc lv st hi hl := fun Ω p l e R s m args below meth c cells slots Q C H locs ls hP hS hL =>
  va_gets C.1 C.2.1 C.2.2.2.2.2.2.1.2.2.1 hS C.2.2.2.1 (C.2.2.2.2.1 _ hw) (fun _ h => h) hd (k Ω p l e R s m args below meth c cells slots Q C H locs ls hP hS hL)
theorem wp_tald {j : Nat} {ix v : Int32} (hd : decode M.2.1 pc = .ok (.iaload, 1)) (hix : ix = nI j) (hj : j < 6) (hv : figs j = .int v) (k : Wp M d Post (pc + 1) lv (.int v :: st) hi hl) : Wp M d Post pc lv (.int ix :: .ref 100 :: st) hi hl := fun Ω p l e R s m args below meth c cells slots Q C H locs ls hP hS hL => by
  obtain ⟨h1, h2⟩ := in_n (n := 6) hix hj (by omega)
  exact va_ti C.1 C.2.1 C.2.2.2.2.2.2.1.2.2.2.1 hS h1 (by rw [h2]; exact hv) hd (k Ω p l e R s m args below meth c cells slots Q C H locs ls hP hS hL)
/-! returns -/
theorem wp_iret {v : Int32} (hd : decode M.2.1 pc = .ok (.ireturn, 1)) (ho : bOkI M.2.2.2 v) (hp : Post (some (.int v)) hi hl) : Wp M d Post pc lv [.int v] hi hl := fun Ω p l e R s m args below meth c cells slots Q C H locs ls hP hS hL => (C.2.2.2.2.2.2.2 pc ls hi hl H locs hP hS).1 v hd ho hp
theorem wp_lret {v : Int64} (hd : decode M.2.1 pc = .ok (.lreturn, 1)) (ho : M.2.2.2 = some .long) (hp : Post (some (.long v)) hi hl) : Wp M d Post pc lv [.long v] hi hl := fun Ω p l e R s m args below meth c cells slots Q C H locs ls hP hS hL => (C.2.2.2.2.2.2.2 pc ls hi hl H locs hP hS).2.1 v hd ho hp
theorem wp_vret (hd : decode M.2.1 pc = .ok (.return_, 1)) (ho : M.2.2.2 = none) (hp : Post none hi hl) : Wp M d Post pc lv [] hi hl := fun Ω p l e R s m args below meth c cells slots Q C H locs ls hP hS hL => (C.2.2.2.2.2.2.2 pc ls hi hl H locs hP hS).2.2 hd ho hp
end WP2
