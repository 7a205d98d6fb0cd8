/-! THE LAW'S START: two objects are made; then its loop -/
theorem slot_same {α β : Nat → Nat} (h1 : β 12 = α 12) (h2 : β 18 = α 18) : (fun i => (slotRef i).map β) = fun i => (slotRef i).map α := by
  funext i
  match i with
  | 0 => show some (β 12) = some (α 12); rw [h1]
  | 1 => show some (β 18) = some (α 18); rw [h2]
  | n + 2 => rfl
/-- the addresses, with the table's and the script's -/
def aF (α : Nat → Nat) (t b : Nat) : Nat → Nat := fun j => if j = 100 then t else if j = 101 then b else α j
theorem aF_lt (α : Nat → Nat) (t b : Nat) {k : Nat} (h : k < 61) : aF α t b k = α k := by
  unfold aF
  rw [if_neg (by omega), if_neg (by omega)]
def sg0 : SG := up (up (fun _ _ => 0) 0 0 1) 1 0 1
theorem kp0 (s : Nat) : kp sg0 s = 0 := by simp [kp, sg0, up]
theorem ok0 : Ok sg0 := by
  have eP : nP sg0 = 1 := rfl
  have eM : nM sg0 = 0 := rfl
  have eB : nB sg0 = 0 := rfl
  have eL : lt sg0 = 0 := rfl
  have eR : rm sg0 = 0 := rfl
  have eT : tl sg0 = 0 := rfl
  refine ⟨by omega, fun p hp => ?_, fun j hj => by omega, fun m hm => by omega, fun i hi => by omega, fun s hs => ?_⟩
  · have h : p = 0 := by omega
    subst h
    have e : dr sg0 0 = 1 := rfl
    omega
  · have e := kp0 s
    exact ⟨by omega, fun h => by omega⟩
theorem ax0 : AX sg0 hi0 := by
  refine ⟨⟨rfl, rfl, rfl, fun m hm => absurd hm (Nat.not_lt_zero m), fun m hm => absurd hm (Nat.not_lt_zero m), fun m hm => absurd hm (Nat.not_lt_zero m), fun m hm => absurd hm (Nat.not_lt_zero m), fun m hm => absurd hm (Nat.not_lt_zero m)⟩, ⟨rfl, rfl, fun p hp => ?_, fun m hm => absurd hm (Nat.not_lt_zero m)⟩, ⟨rfl, fun m hm => absurd hm (Nat.not_lt_zero m)⟩, fun s hs => ⟨?_, fun h => ?_⟩⟩
  · have h : p = 0 := by have e : nP sg0 = 1 := rfl; omega
    subst h
    rfl
  · rw [kp0 s]
    rfl
  · rw [kp0 s] at h
    omega
theorem am0 : AM sg0 hi0 := by
  refine ⟨⟨rfl, rfl, rfl, fun m hm => absurd hm (Nat.not_lt_zero m), fun m hm => absurd hm (Nat.not_lt_zero m), fun m hm => absurd hm (Nat.not_lt_zero m), fun m hm => absurd hm (Nat.not_lt_zero m), fun m hm => absurd hm (Nat.not_lt_zero m)⟩, ⟨rfl, rfl, fun p hp => ?_, fun m hm => absurd hm (Nat.not_lt_zero m)⟩, ⟨rfl, fun m hm => absurd hm (Nat.not_lt_zero m)⟩, fun s hs => ⟨?_, fun h => ?_⟩⟩
  · have h : p = 0 := by have e : nP sg0 = 1 := rfl; omega
    subst h
    rfl
  · rw [kp0 s]
    rfl
  · rw [kp0 s] at h
    omega
/-- what the law needs beside the cells that it makes -/
def XL (Δ : Dl) (b t L : Nat) (xs : Nat → Int32) (nc ns : Nat) : Xt := fun p l e R s m args below meth c Q =>
  va_X b L xs s s.heap ∧ b < s.heap.size ∧ Δ.2.2 = s.heap.size ∧ va_Z "BlownByAll$SeatPlan" "FIGURE_OF" "[I" (.ref t) (bA Δ) s s.heap ∧ va_T .int t 6 figs (bA Δ) s s.heap ∧ (∀ w ∈ nests, va_Nw w s) ∧
  ∀ (pc : Nat) (ls : Array Slot) (H : Heap) (locs : List Loc), decode code pc = .ok (.ireturn, 1) → (∀ q ∈ locs, s.heap.size ≤ q.base) → W p l e R s m args below meth c H locs nc ns Q (F0 m pc ls [.int 1])
theorem wn_law {Δ : Dl} {b t L mc ms nc ns : Nat} {xs : Nat → Int32} {α : Nat → Nat} {E : Nat → va_E} {ks : List Nat} (hL : L ≤ 2560) (hks : ∀ k, k < 61 → k ∈ ks) (hm : ∀ k, k < 61 → E k = ent (aF α t b, Δ.1, Δ.2.1) (shp k) (hi0 k) (hl0 k)) (hnc : nc ≤ mc) (hns : ns ≤ ms) :
    WN Δ M_LW_law 20 mc ms (XL Δ b t L xs nc ns) (fun _ _ _ => False) 18 [some (.ref b), some (.ref (α 0)), some (.ref (α 41)), some (.int 0)] [] α E ks nc ns := by
  intro p l e R s m args below meth c Q C H locs ls hP hD hS hl
  obtain ⟨x1, x2, x3, x4, x5, x6, x7⟩ := C.hX
  have at' : ∀ k, k < 61 → ∃ i : Nat, (bcel α E ks)[i]? = some (α k, ent (aF α t b, Δ.1, Δ.2.1) (shp k) (hi0 k) (hl0 k)) ∧ ks[i]? = some k := by
    intro k hk
    obtain ⟨i, hi⟩ := List.getElem?_of_mem (hks k hk)
    exact ⟨i, by rw [bcel_at hi, hm k hk], hi⟩
  have inb : ∀ q, inA (aF α t b, Δ.1, Δ.2.1) q → bA Δ q := by
    rintro q ⟨k, hk, rfl⟩
    obtain ⟨i, h1, -⟩ := at' k hk
    show Δ.2.2 ≤ aF α t b k
    rw [aF_lt α t b hk]
    exact hD.2 i _ h1
  have hap : apartO (aF α t b, Δ.1, Δ.2.1) := by
    intro i j hi hj he
    obtain ⟨i', h1, h2⟩ := at' i hi
    obtain ⟨j', h3, h4⟩ := at' j hj
    have he' : α i = α j := by rw [← aF_lt α t b hi, ← aF_lt α t b hj]; exact he
    have hq := hD.1 i' j' _ _ h1 h3 he'
    subst hq
    exact Option.some.inj (h2.symm.trans h4)
  have hP' : va_P Δ.1 classes (wcells (aF α t b, Δ.1, Δ.2.1) hi0 hl0) H := by
    intro k q hq
    by_cases hk : k < 61
    · rw [wcells_at (aF α t b, Δ.1, Δ.2.1) hi0 hl0 hk] at hq
      cases hq
      obtain ⟨i, h1, -⟩ := at' k hk
      have h2 := hP i _ h1
      have e1 : (aF α t b, Δ.1, Δ.2.1).1 k = α k := aF_lt α t b hk
      rw [e1]
      exact h2
    · rw [List.getElem?_eq_none (by simp [wcells]; omega)] at hq
      cases hq
  refine va_forget (fun q hq => by have h := hS.2.2 q hq; rw [← x3]; exact h) ?_
  refine law_loop hL L 0 (by omega) (by omega) hi0 hl0 ⟨sg0, ok0, ax0, am0⟩ (aF α t b, Δ.1, Δ.2.1) p l e R s m args below meth c nc ns Q ⟨x1, x2, fun h => ?_⟩ ⟨C.hx, C.hb, C.hml, C.hown, C.hts, ⟨C.r1, C.r2, Nat.le_trans hnc C.r3, Nat.le_trans hns C.r4⟩, ⟨C.hK, hap, x4.narrow inb, x5.narrow inb, x6⟩, ?_⟩ H [] ls hP' ⟨hS.1, fun q h1 h2 => hS.2.1 q h1 (fun h => ?_), fun l hl => absurd hl List.not_mem_nil⟩ ⟨hl.1, hl.2.1, fun i v hi => ?_⟩
  · have h' : Δ.2.2 ≤ b := inb _ h
    omega
  · intro pc ls' hi' hl' H' locs' hP2 hS2
    refine ⟨fun v hd ho hp => ?_, fun v hd ho hp => (by cases ho), fun hd ho hp => (by cases ho)⟩
    have hv : v = 1 := Value.int.inj (Option.some.inj hp)
    subst hv
    exact x7 pc ls' H' locs' hd (fun q hq => by rw [← x3]; exact inb _ (hS2.2.2 q hq))
  · have h' : Δ.2.2 ≤ q := h
    omega
  · match i, hi with
    | 0, hi => cases hi; exact hl.2.2 0 _ rfl
    | 1, hi => cases hi; exact hl.2.2 1 _ rfl
    | 2, hi => cases hi; exact hl.2.2 2 _ rfl
    | 3, hi => cases hi; exact hl.2.2 3 _ rfl
    | i + 4, hi => simp at hi
set_option maxHeartbeats 8000000 in
theorem law_make {Δ : Dl} {b t L : Nat} {xs : Nat → Int32} {α0 : Nat → Nat} {E0 : Nat → va_E} (hL : L ≤ 2560) : WN Δ M_LW_law 20 61 1928 (XL Δ b t L xs 61 1928) (fun _ _ _ => False) 0 [some (.ref b), none, none, none] [] α0 E0 [] 0 0 := by
  refine wn_new (k := 0) nw_LW_7 bl_BB d_LW_law_0 (by decide) (Nat.le_of_ble_eq_true rfl) (Nat.le_of_ble_eq_true rfl) (fun q0 => ?_)
  refine wn_dup d_LW_law_3 rfl ?_
  refine wn_callI (cn_BB rfl) d_LW_law_4 ki_LW_9 rfl rfl (Nat.le_of_ble_eq_true rfl) (by decide) (Nat.le_of_ble_eq_true rfl) (Nat.le_of_ble_eq_true rfl) ?_
  rintro α1 E1 _ ⟨e0, rfl, m0, m1, m2, m3, m4, m5, m6, m7, m8, m9, m10, m11, m12, m13, m14, m15, m16, m17, m18, m19, m20, m21, m22, m23, m24, m25, m26, m27, m28, m29, m30, m31, m32, m33, m34, m35, m36, m37, m38, m39, m40⟩
  have e0 : α1 0 = q0 := e0
  subst e0
  refine wn_astore_n (lv' := [_, _, _, _]) d_LW_law_7 (by decide) rfl ?_
  refine wn_new (k := 41) nw_LW_10 bl_MO d_LW_law_8 (by decide) (Nat.le_of_ble_eq_true rfl) (Nat.le_of_ble_eq_true rfl) (fun q41 => ?_)
  refine wn_dup d_LW_law_11 rfl ?_
  refine wn_callI (cn_MO_41 (by decide) (by decide) (by decide) (by decide) (by decide) (by decide) (by decide) (by decide) (by decide) (by decide) (by decide) (by decide) (by decide) (by decide) (by decide) (by decide) (by decide) (by decide) (by decide) (by decide) rfl) d_LW_law_12 ki_LW_12 rfl rfl (Nat.le_of_ble_eq_true rfl) (by decide) (Nat.le_of_ble_eq_true rfl) (Nat.le_of_ble_eq_true rfl) ?_
  rintro _ _ _ ⟨q42, q43, q44, q45, q46, q47, q48, q49, q50, q51, q52, q53, q54, q55, q56, q57, q58, q59, q60, rfl, rfl, rfl⟩
  refine wn_astore_n (lv' := [_, _, _, _]) d_LW_law_15 (by decide) rfl ?_
  refine wn_iconst (v := 0) d_LW_law_16 rfl ?_
  refine wn_istore_n (lv' := [_, _, _, _]) d_LW_law_17 (by decide) rfl ?_
  refine wn_law hL (by decide) ?_ (Nat.le_of_ble_eq_true rfl) (Nat.le_of_ble_eq_true rfl)
  intro k hk
  have hc : k = 0 ∨ k = 1 ∨ k = 2 ∨ k = 3 ∨ k = 4 ∨ k = 5 ∨ k = 6 ∨ k = 7 ∨ k = 8 ∨ k = 9 ∨ k = 10 ∨ k = 11 ∨ k = 12 ∨ k = 13 ∨ k = 14 ∨ k = 15 ∨ k = 16 ∨ k = 17 ∨ k = 18 ∨ k = 19 ∨ k = 20 ∨ k = 21 ∨ k = 22 ∨ k = 23 ∨ k = 24 ∨ k = 25 ∨ k = 26 ∨ k = 27 ∨ k = 28 ∨ k = 29 ∨ k = 30 ∨ k = 31 ∨ k = 32 ∨ k = 33 ∨ k = 34 ∨ k = 35 ∨ k = 36 ∨ k = 37 ∨ k = 38 ∨ k = 39 ∨ k = 40 ∨ k = 41 ∨ k = 42 ∨ k = 43 ∨ k = 44 ∨ k = 45 ∨ k = 46 ∨ k = 47 ∨ k = 48 ∨ k = 49 ∨ k = 50 ∨ k = 51 ∨ k = 52 ∨ k = 53 ∨ k = 54 ∨ k = 55 ∨ k = 56 ∨ k = 57 ∨ k = 58 ∨ k = 59 ∨ k = 60 := by omega
  rcases hc with rfl | rfl | rfl | rfl | rfl | rfl | rfl | rfl | rfl | rfl | rfl | rfl | rfl | rfl | rfl | rfl | rfl | rfl | rfl | rfl | rfl | rfl | rfl | rfl | rfl | rfl | rfl | rfl | rfl | rfl | rfl | rfl | rfl | rfl | rfl | rfl | rfl | rfl | rfl | rfl | rfl | rfl | rfl | rfl | rfl | rfl | rfl | rfl | rfl | rfl | rfl | rfl | rfl | rfl | rfl | rfl | rfl | rfl | rfl | rfl | rfl
  · exact m0
  · exact m1
  · exact m2
  · exact m3
  · exact m4
  · exact m5
  · exact m6
  · exact m7
  · exact m8
  · exact m9
  · exact m10
  · exact m11
  · exact m12
  · exact m13
  · exact m14
  · exact m15
  · exact m16
  · exact m17
  · exact m18
  · exact m19
  · exact m20
  · exact m21
  · exact m22
  · exact m23
  · exact m24
  · exact m25
  · exact m26
  · exact m27
  · exact m28
  · exact m29
  · exact m30
  · exact m31
  · exact m32
  · exact m33
  · exact m34
  · exact m35
  · exact m36
  · exact m37
  · exact m38
  · exact made_39 m39 (slot_same rfl rfl)
  · exact m40
  · rfl
  · rfl
  · rfl
  · rfl
  · rfl
  · rfl
  · rfl
  · rfl
  · rfl
  · rfl
  · rfl
  · rfl
  · rfl
  · rfl
  · rfl
  · rfl
  · rfl
  · rfl
  · rfl
  · rfl
