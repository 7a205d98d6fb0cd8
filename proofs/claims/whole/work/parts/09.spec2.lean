/-! one number of the state anew: the views and the limits -/
section UPD
variable {σ : SG} {hi hi' : HI}
theorem kf_up {σ : SG} {f i v : Nat} (hf : f < 20) (s g m : Nat) : kf (up σ f i v) s g m = kf σ s g m := by
  unfold kf up
  rw [if_neg (by omega)]
theorem TV.keep (h : TV σ hi) (e1 : hi' 1 1 = hi 1 1) (e2 : hi' 2 = hi 2) : TV σ hi' := by
  unfold TV at h ⊢
  rw [e1, e2]
  exact h
theorem KV.keep (h : KV σ hi) (e : ∀ c, 12 ≤ c → c ≤ 23 → hi' c = hi c) (e4 : hi' 40 = hi 40) : KV σ hi' := by
  intro s hs
  obtain ⟨h1, h2⟩ := h s hs
  refine ⟨by rw [e4]; exact h1, fun hk => ?_⟩
  rw [e (12 + 6 * s) (by omega) (by omega), e (13 + 6 * s) (by omega) (by omega), e (14 + 6 * s) (by omega) (by omega), e (15 + 6 * s) (by omega) (by omega), e (16 + 6 * s) (by omega) (by omega), e (17 + 6 * s) (by omega) (by omega)]
  exact h2 hk
theorem KV.anew (h : KV σ hi) {f i v : Nat} (hf : f ≤ 8) (h0 : f = 0 → i ≠ 1) : KV (up σ f i v) hi := by
  have e1 : nM (up σ f i v) = nM σ := by
    unfold nM up
    rw [if_neg (by omega)]
  have e2 : ∀ s, kp (up σ f i v) s = kp σ s := fun s => by unfold kp up; rw [if_neg (by omega)]
  have e3 : ∀ s, klt (up σ f i v) s = klt σ s := fun s => by unfold klt up; rw [if_neg (by omega)]
  have e4 : ∀ s, krm (up σ f i v) s = krm σ s := fun s => by unfold krm up; rw [if_neg (by omega)]
  intro s hs
  have := h s hs
  rw [e1, e2, e3, e4]
  simp only [kf_up (show f < 20 by omega)]
  exact this
theorem AX.keep (h : AX σ hi) (e : ∀ c, c < 24 ∨ c = 40 → hi' c = hi c) : AX σ hi' :=
  ⟨h.1.keep (fun c _ _ => e c (by omega)), h.2.1.keep (fun c _ _ => e c (by omega)), h.2.2.1.keep (by rw [e 1 (by omega)]) (e 2 (by omega)), h.2.2.2.keep (fun c _ _ => e c (by omega)) (e 40 (by omega))⟩
theorem AMk.keep (h : AMk σ hi) (e1 : hi' 58 = hi 58) (e2 : hi' 59 = hi 59) (e3 : hi' 60 = hi 60) : AMk σ hi' := by
  unfold AMk at h ⊢
  rw [e1, e2, e3]
  exact h
theorem AMk.anew (h : AMk σ hi) {f i v : Nat} (hf : f ≤ 8) (h0 : f = 0 → i ≠ 1) : AMk (up σ f i v) hi := by
  have e1 : nM (up σ f i v) = nM σ := by
    unfold nM up
    rw [if_neg (by omega)]
  have e2 : ∀ s, kp (up σ f i v) s = kp σ s := fun s => by unfold kp up; rw [if_neg (by omega)]
  have e3 : ∀ s, klt (up σ f i v) s = klt σ s := fun s => by unfold klt up; rw [if_neg (by omega)]
  have e4 : ∀ s, krm (up σ f i v) s = krm σ s := fun s => by unfold krm up; rw [if_neg (by omega)]
  intro s hs
  have := h s hs
  rw [e1, e2, e3, e4]
  simp only [kf_up (show f < 20 by omega)]
  exact this
/-- the reference's cells that are no scratch -/
theorem AM.keep (h : AM σ hi) (e0 : ∀ f, 9 ≤ f → f ≤ 15 → hi' 41 f = hi 41 f) (e : ∀ c, (45 ≤ c ∧ c ≤ 48) ∨ 58 ≤ c → hi' c = hi c) : AM σ hi' := by
  obtain ⟨h1, h2, h3, h4⟩ := h
  refine ⟨?_, ?_, ?_, h4.keep (e 58 (by omega)) (e 59 (by omega)) (e 60 (by omega))⟩
  · unfold AMp at h1 ⊢
    rw [e0 10 (by omega) (by omega), e0 12 (by omega) (by omega), e0 13 (by omega) (by omega), e 46 (by omega)]
    exact h1
  · unfold AMi at h2 ⊢
    rw [e0 9 (by omega) (by omega), e0 11 (by omega) (by omega), e 45 (by omega), e 47 (by omega)]
    exact h2
  · unfold AMt at h3 ⊢
    rw [e0 15 (by omega) (by omega), e 48 (by omega)]
    exact h3
theorem okM_up {σ : SG} {f i v : Nat} (h : f = 0 → i ≠ 0) {l g p q b : Nat} (h2 : okM σ l g p q b) : okM (up σ f i v) l g p q b := by
  have : nP (up σ f i v) = nP σ := by
    unfold nP up
    rw [if_neg (by omega)]
  unfold okM at h2 ⊢
  rw [this]
  exact h2
theorem okK_up {σ : SG} {f i v : Nat} (hf : f ≤ 8) (h0 : f = 0 → i ≠ 1) (h1 : f = 0 → i ≠ 0) (h : ∀ s, s < 2 → kp σ s ≤ 1 ∧ (kp σ s = 1 → klt σ s ≤ 99 ∧ krm σ s ≤ 9 ∧ ∀ m, m < nM σ → okM σ (kf σ s 3 m) (kf σ s 4 m) (kf σ s 5 m) (kf σ s 6 m) (kf σ s 7 m))) :
    ∀ s, s < 2 → kp (up σ f i v) s ≤ 1 ∧ (kp (up σ f i v) s = 1 → klt (up σ f i v) s ≤ 99 ∧ krm (up σ f i v) s ≤ 9 ∧ ∀ m, m < nM (up σ f i v) → okM (up σ f i v) (kf (up σ f i v) s 3 m) (kf (up σ f i v) s 4 m) (kf (up σ f i v) s 5 m) (kf (up σ f i v) s 6 m) (kf (up σ f i v) s 7 m)) := by
  have e1 : nM (up σ f i v) = nM σ := by
    unfold nM up
    rw [if_neg (by omega)]
  have e2 : ∀ s, kp (up σ f i v) s = kp σ s := fun s => by unfold kp up; rw [if_neg (by omega)]
  have e3 : ∀ s, klt (up σ f i v) s = klt σ s := fun s => by unfold klt up; rw [if_neg (by omega)]
  have e4 : ∀ s, krm (up σ f i v) s = krm σ s := fun s => by unfold krm up; rw [if_neg (by omega)]
  intro s hs
  have := h s hs
  rw [e1, e2, e3, e4]
  simp only [kf_up (show f < 20 by omega)]
  exact ⟨this.1, fun k => ⟨(this.2 k).1, (this.2 k).2.1, fun m hm => okM_up h1 ((this.2 k).2.2 m hm)⟩⟩
theorem AX_3 (h : AX σ hi) {m v : Nat} : AX (up σ 3 m v) (setI hi 7 m (zI v)) := by
  obtain ⟨⟨a1, a2, a3, a4, a5, a6, a7, a8⟩, hI, hT, hK⟩ := h
  refine ⟨⟨a1, a2, a3, ?_, a5, a6, a7, a8⟩, hI, hT, (hK.keep (fun c h1 h2 => setI_ne _ _ _ (by omega)) rfl).anew (by omega) (by omega)⟩
  intro m' hm'
  show setI hi 7 m (zI v) 7 m' = zI ((if 3 = 3 ∧ m' = m then v else σ 3 m' : Nat) : Int)
  by_cases e : m' = m
  · subst e
    rw [setI_at]
    simp
  · rw [setI_at_ne _ _ _ e, if_neg (fun q => e q.2)]
    exact a4 m' hm'
theorem AM_3 (h : AM σ hi) {m v : Nat} : AM (up σ 3 m v) (setI hi 46 (5 * m + 0) (zI v)) := by
  obtain ⟨⟨a1, a2, a3, a4, a5, a6, a7, a8⟩, hI, hT, hK⟩ := h
  refine ⟨⟨a1, a2, a3, ?_, ?_, ?_, ?_, ?_⟩, hI, hT, (hK.keep rfl rfl rfl).anew (by omega) (by omega)⟩
  · intro m' hm'
    show setI hi 46 (5 * m + 0) (zI v) 46 (5 * m' + 0) = zI ((if 3 = 3 ∧ m' = m then v else σ 3 m' : Nat) : Int)
    by_cases e : m' = m
    · subst e
      rw [setI_at]
      simp
    · rw [setI_at_ne _ _ _ (by omega), if_neg (fun q => e q.2)]
      exact a4 m' hm'
  · intro m' hm'
    have := a5 m' hm'
    rw [setI_at_ne _ _ _ (by omega)]
    exact this
  · intro m' hm'
    have := a6 m' hm'
    rw [setI_at_ne _ _ _ (by omega)]
    exact this
  · intro m' hm'
    have := a7 m' hm'
    rw [setI_at_ne _ _ _ (by omega)]
    exact this
  · intro m' hm'
    have := a8 m' hm'
    rw [setI_at_ne _ _ _ (by omega)]
    exact this
theorem Ok_3 (h : Ok σ) {m v : Nat} (hv : ph σ m ≤ v ∧ 1 ≤ v ∧ v ≤ 9) : Ok (up σ 3 m v) := by
  obtain ⟨h0, h1, h2, h3, h4, h5⟩ := h
  refine ⟨h0, h1, h2, fun m' hm' => ?_, h4, okK_up (by omega) (by omega) (by omega) h5⟩
  have h6 := h3 m' hm'
  by_cases e : m' = m
  · subst e
    have e1 : lu (up σ 3 m' v) m' = v := by unfold lu up; simp
    unfold okM at h6 ⊢
    rw [e1]
    show _
    first | exact ⟨hv.2.1, hv.2.2, h6.2.2.1, h6.2.2.2.1, h6.2.2.2.2.1, hv.1, h6.2.2.2.2.2.2⟩ | exact ⟨h6.1, h6.2.1, h6.2.2.1, h6.2.2.2.1, hv, h6.2.2.2.2.2⟩ | exact ⟨h6.1, h6.2.1, h6.2.2.1, h6.2.2.2.1, h6.2.2.2.2.1, hv, h6.2.2.2.2.2.2⟩ | exact ⟨h6.1, h6.2.1, h6.2.2.1, h6.2.2.2.1, h6.2.2.2.2.1, h6.2.2.2.2.2.1, hv⟩
  · have e1 : lu (up σ 3 m v) m' = lu σ m' := by unfold lu up; simp [e]
    rw [e1]
    exact h6
theorem AX_5 (h : AX σ hi) {m v : Nat} : AX (up σ 5 m v) (setI hi 9 m (zI v)) := by
  obtain ⟨⟨a1, a2, a3, a4, a5, a6, a7, a8⟩, hI, hT, hK⟩ := h
  refine ⟨⟨a1, a2, a3, a4, a5, ?_, a7, a8⟩, hI, hT, (hK.keep (fun c h1 h2 => setI_ne _ _ _ (by omega)) rfl).anew (by omega) (by omega)⟩
  intro m' hm'
  show setI hi 9 m (zI v) 9 m' = zI ((if 5 = 5 ∧ m' = m then v else σ 5 m' : Nat) : Int)
  by_cases e : m' = m
  · subst e
    rw [setI_at]
    simp
  · rw [setI_at_ne _ _ _ e, if_neg (fun q => e q.2)]
    exact a6 m' hm'
theorem AM_5 (h : AM σ hi) {m v : Nat} : AM (up σ 5 m v) (setI hi 46 (5 * m + 2) (zI v)) := by
  obtain ⟨⟨a1, a2, a3, a4, a5, a6, a7, a8⟩, hI, hT, hK⟩ := h
  refine ⟨⟨a1, a2, a3, ?_, ?_, ?_, ?_, ?_⟩, hI, hT, (hK.keep rfl rfl rfl).anew (by omega) (by omega)⟩
  · intro m' hm'
    have := a4 m' hm'
    rw [setI_at_ne _ _ _ (by omega)]
    exact this
  · intro m' hm'
    have := a5 m' hm'
    rw [setI_at_ne _ _ _ (by omega)]
    exact this
  · intro m' hm'
    show setI hi 46 (5 * m + 2) (zI v) 46 (5 * m' + 2) = zI ((if 5 = 5 ∧ m' = m then v else σ 5 m' : Nat) : Int)
    by_cases e : m' = m
    · subst e
      rw [setI_at]
      simp
    · rw [setI_at_ne _ _ _ (by omega), if_neg (fun q => e q.2)]
      exact a6 m' hm'
  · intro m' hm'
    have := a7 m' hm'
    rw [setI_at_ne _ _ _ (by omega)]
    exact this
  · intro m' hm'
    have := a8 m' hm'
    rw [setI_at_ne _ _ _ (by omega)]
    exact this
theorem Ok_5 (h : Ok σ) {m v : Nat} (hv : v < nP σ) : Ok (up σ 5 m v) := by
  obtain ⟨h0, h1, h2, h3, h4, h5⟩ := h
  refine ⟨h0, h1, h2, fun m' hm' => ?_, h4, okK_up (by omega) (by omega) (by omega) h5⟩
  have h6 := h3 m' hm'
  by_cases e : m' = m
  · subst e
    have e1 : pl (up σ 5 m' v) m' = v := by unfold pl up; simp
    unfold okM at h6 ⊢
    rw [e1]
    show _
    first | exact ⟨hv.2.1, hv.2.2, h6.2.2.1, h6.2.2.2.1, h6.2.2.2.2.1, hv.1, h6.2.2.2.2.2.2⟩ | exact ⟨h6.1, h6.2.1, h6.2.2.1, h6.2.2.2.1, hv, h6.2.2.2.2.2⟩ | exact ⟨h6.1, h6.2.1, h6.2.2.1, h6.2.2.2.1, h6.2.2.2.2.1, hv, h6.2.2.2.2.2.2⟩ | exact ⟨h6.1, h6.2.1, h6.2.2.1, h6.2.2.2.1, h6.2.2.2.2.1, h6.2.2.2.2.2.1, hv⟩
  · have e1 : pl (up σ 5 m v) m' = pl σ m' := by unfold pl up; simp [e]
    rw [e1]
    exact h6
theorem AX_6 (h : AX σ hi) {m v : Nat} : AX (up σ 6 m v) (setI hi 10 m (zI v)) := by
  obtain ⟨⟨a1, a2, a3, a4, a5, a6, a7, a8⟩, hI, hT, hK⟩ := h
  refine ⟨⟨a1, a2, a3, a4, a5, a6, ?_, a8⟩, hI, hT, (hK.keep (fun c h1 h2 => setI_ne _ _ _ (by omega)) rfl).anew (by omega) (by omega)⟩
  intro m' hm'
  show setI hi 10 m (zI v) 10 m' = zI ((if 6 = 6 ∧ m' = m then v else σ 6 m' : Nat) : Int)
  by_cases e : m' = m
  · subst e
    rw [setI_at]
    simp
  · rw [setI_at_ne _ _ _ e, if_neg (fun q => e q.2)]
    exact a7 m' hm'
theorem AM_6 (h : AM σ hi) {m v : Nat} : AM (up σ 6 m v) (setI hi 46 (5 * m + 3) (zI v)) := by
  obtain ⟨⟨a1, a2, a3, a4, a5, a6, a7, a8⟩, hI, hT, hK⟩ := h
  refine ⟨⟨a1, a2, a3, ?_, ?_, ?_, ?_, ?_⟩, hI, hT, (hK.keep rfl rfl rfl).anew (by omega) (by omega)⟩
  · intro m' hm'
    have := a4 m' hm'
    rw [setI_at_ne _ _ _ (by omega)]
    exact this
  · intro m' hm'
    have := a5 m' hm'
    rw [setI_at_ne _ _ _ (by omega)]
    exact this
  · intro m' hm'
    have := a6 m' hm'
    rw [setI_at_ne _ _ _ (by omega)]
    exact this
  · intro m' hm'
    show setI hi 46 (5 * m + 3) (zI v) 46 (5 * m' + 3) = zI ((if 6 = 6 ∧ m' = m then v else σ 6 m' : Nat) : Int)
    by_cases e : m' = m
    · subst e
      rw [setI_at]
      simp
    · rw [setI_at_ne _ _ _ (by omega), if_neg (fun q => e q.2)]
      exact a7 m' hm'
  · intro m' hm'
    have := a8 m' hm'
    rw [setI_at_ne _ _ _ (by omega)]
    exact this
theorem Ok_6 (h : Ok σ) {m v : Nat} (hv : v ≤ lu σ m) : Ok (up σ 6 m v) := by
  obtain ⟨h0, h1, h2, h3, h4, h5⟩ := h
  refine ⟨h0, h1, h2, fun m' hm' => ?_, h4, okK_up (by omega) (by omega) (by omega) h5⟩
  have h6 := h3 m' hm'
  by_cases e : m' = m
  · subst e
    have e1 : ph (up σ 6 m' v) m' = v := by unfold ph up; simp
    unfold okM at h6 ⊢
    rw [e1]
    show _
    first | exact ⟨hv.2.1, hv.2.2, h6.2.2.1, h6.2.2.2.1, h6.2.2.2.2.1, hv.1, h6.2.2.2.2.2.2⟩ | exact ⟨h6.1, h6.2.1, h6.2.2.1, h6.2.2.2.1, hv, h6.2.2.2.2.2⟩ | exact ⟨h6.1, h6.2.1, h6.2.2.1, h6.2.2.2.1, h6.2.2.2.2.1, hv, h6.2.2.2.2.2.2⟩ | exact ⟨h6.1, h6.2.1, h6.2.2.1, h6.2.2.2.1, h6.2.2.2.2.1, h6.2.2.2.2.2.1, hv⟩
  · have e1 : ph (up σ 6 m v) m' = ph σ m' := by unfold ph up; simp [e]
    rw [e1]
    exact h6
theorem AX_7 (h : AX σ hi) {m v : Nat} : AX (up σ 7 m v) (setI hi 11 m (zI v)) := by
  obtain ⟨⟨a1, a2, a3, a4, a5, a6, a7, a8⟩, hI, hT, hK⟩ := h
  refine ⟨⟨a1, a2, a3, a4, a5, a6, a7, ?_⟩, hI, hT, (hK.keep (fun c h1 h2 => setI_ne _ _ _ (by omega)) rfl).anew (by omega) (by omega)⟩
  intro m' hm'
  show setI hi 11 m (zI v) 11 m' = zI ((if 7 = 7 ∧ m' = m then v else σ 7 m' : Nat) : Int)
  by_cases e : m' = m
  · subst e
    rw [setI_at]
    simp
  · rw [setI_at_ne _ _ _ e, if_neg (fun q => e q.2)]
    exact a8 m' hm'
theorem AM_7 (h : AM σ hi) {m v : Nat} : AM (up σ 7 m v) (setI hi 46 (5 * m + 4) (zI v)) := by
  obtain ⟨⟨a1, a2, a3, a4, a5, a6, a7, a8⟩, hI, hT, hK⟩ := h
  refine ⟨⟨a1, a2, a3, ?_, ?_, ?_, ?_, ?_⟩, hI, hT, (hK.keep rfl rfl rfl).anew (by omega) (by omega)⟩
  · intro m' hm'
    have := a4 m' hm'
    rw [setI_at_ne _ _ _ (by omega)]
    exact this
  · intro m' hm'
    have := a5 m' hm'
    rw [setI_at_ne _ _ _ (by omega)]
    exact this
  · intro m' hm'
    have := a6 m' hm'
    rw [setI_at_ne _ _ _ (by omega)]
    exact this
  · intro m' hm'
    have := a7 m' hm'
    rw [setI_at_ne _ _ _ (by omega)]
    exact this
  · intro m' hm'
    show setI hi 46 (5 * m + 4) (zI v) 46 (5 * m' + 4) = zI ((if 7 = 7 ∧ m' = m then v else σ 7 m' : Nat) : Int)
    by_cases e : m' = m
    · subst e
      rw [setI_at]
      simp
    · rw [setI_at_ne _ _ _ (by omega), if_neg (fun q => e q.2)]
      exact a8 m' hm'
theorem Ok_7 (h : Ok σ) {m v : Nat} (hv : v ≤ 1) : Ok (up σ 7 m v) := by
  obtain ⟨h0, h1, h2, h3, h4, h5⟩ := h
  refine ⟨h0, h1, h2, fun m' hm' => ?_, h4, okK_up (by omega) (by omega) (by omega) h5⟩
  have h6 := h3 m' hm'
  by_cases e : m' = m
  · subst e
    have e1 : br (up σ 7 m' v) m' = v := by unfold br up; simp
    unfold okM at h6 ⊢
    rw [e1]
    show _
    first | exact ⟨hv.2.1, hv.2.2, h6.2.2.1, h6.2.2.2.1, h6.2.2.2.2.1, hv.1, h6.2.2.2.2.2.2⟩ | exact ⟨h6.1, h6.2.1, h6.2.2.1, h6.2.2.2.1, hv, h6.2.2.2.2.2⟩ | exact ⟨h6.1, h6.2.1, h6.2.2.1, h6.2.2.2.1, h6.2.2.2.2.1, hv, h6.2.2.2.2.2.2⟩ | exact ⟨h6.1, h6.2.1, h6.2.2.1, h6.2.2.2.1, h6.2.2.2.2.1, h6.2.2.2.2.2.1, hv⟩
  · have e1 : br (up σ 7 m v) m' = br σ m' := by unfold br up; simp [e]
    rw [e1]
    exact h6
theorem AX_03 (h : AX σ hi) {v : Nat} : AX (up σ 0 3 v) (setI hi 6 1 (zI v)) := by
  obtain ⟨⟨a1, a2, a3, a4, a5, a6, a7, a8⟩, hI, hT, hK⟩ := h
  exact ⟨⟨a1, rfl, a3, a4, a5, a6, a7, a8⟩, hI, hT, (hK.keep (fun c h1 h2 => setI_ne _ _ _ (by omega)) rfl).anew (by omega) (by omega)⟩
theorem AM_03 (h : AM σ hi) {v : Nat} : AM (up σ 0 3 v) (setI hi 41 12 (zI v)) := by
  obtain ⟨⟨a1, a2, a3, a4, a5, a6, a7, a8⟩, hI, hT, hK⟩ := h
  exact ⟨⟨a1, rfl, a3, a4, a5, a6, a7, a8⟩, hI, hT, (hK.keep rfl rfl rfl).anew (by omega) (by omega)⟩
theorem Ok_03 (h : Ok σ) {v : Nat} (hv : v ≤ 99) : Ok (up σ 0 3 v) := by
  obtain ⟨⟨b1, b2, b3, b4, b5, b6, b7⟩, h1, h2, h3, h4, h5⟩ := h
  exact ⟨⟨b1, b2, b3, b4, hv, b6, b7⟩, h1, h2, h3, h4, okK_up (by omega) (by omega) (by omega) h5⟩
theorem AX_04 (h : AX σ hi) {v : Nat} : AX (up σ 0 4 v) (setI hi 6 2 (zI v)) := by
  obtain ⟨⟨a1, a2, a3, a4, a5, a6, a7, a8⟩, hI, hT, hK⟩ := h
  exact ⟨⟨a1, a2, rfl, a4, a5, a6, a7, a8⟩, hI, hT, (hK.keep (fun c h1 h2 => setI_ne _ _ _ (by omega)) rfl).anew (by omega) (by omega)⟩
theorem AM_04 (h : AM σ hi) {v : Nat} : AM (up σ 0 4 v) (setI hi 41 13 (zI v)) := by
  obtain ⟨⟨a1, a2, a3, a4, a5, a6, a7, a8⟩, hI, hT, hK⟩ := h
  exact ⟨⟨a1, a2, rfl, a4, a5, a6, a7, a8⟩, hI, hT, (hK.keep rfl rfl rfl).anew (by omega) (by omega)⟩
theorem Ok_04 (h : Ok σ) {v : Nat} (hv : v ≤ 9) : Ok (up σ 0 4 v) := by
  obtain ⟨⟨b1, b2, b3, b4, b5, b6, b7⟩, h1, h2, h3, h4, h5⟩ := h
  exact ⟨⟨b1, b2, b3, b4, b5, hv, b7⟩, h1, h2, h3, h4, okK_up (by omega) (by omega) (by omega) h5⟩
end UPD
/-- what a call of the class (the reference) answers, the state behind it, and that the other side's cells stay -/
def pX (σ' : SG) (x : Int32) (hi : HI) : Option Value → HI → HL → Prop := fun r hi' _ => r = some (.int x) ∧ AX σ' hi' ∧ ∀ c, 41 ≤ c → hi' c = hi c
def pM (σ' : SG) (x : Int32) (hi : HI) : Option Value → HI → HL → Prop := fun r hi' _ => r = some (.int x) ∧ AM σ' hi' ∧ ∀ c, c < 41 → hi' c = hi c
def pXl (σ' : SG) (x : Int64) (hi : HI) : Option Value → HI → HL → Prop := fun r hi' _ => r = some (.long x) ∧ AX σ' hi' ∧ ∀ c, 41 ≤ c → hi' c = hi c
def pMl (σ' : SG) (x : Int64) (hi : HI) : Option Value → HI → HL → Prop := fun r hi' _ => r = some (.long x) ∧ AM σ' hi' ∧ ∀ c, c < 41 → hi' c = hi c
theorem pX_of {σ : SG} {x y : Int32} {hi : HI} {hl : HL} (h : AX σ hi) (e : y = x) : pX σ x hi (some (.int y)) hi hl := ⟨by rw [e], h, fun _ _ => rfl⟩
theorem pM_of {σ : SG} {x y : Int32} {hi : HI} {hl : HL} (h : AM σ hi) (e : y = x) : pM σ x hi (some (.int y)) hi hl := ⟨by rw [e], h, fun _ _ => rfl⟩
/-! the answers -/
abbrev inP (σ : SG) (a : Int) : Prop := 0 ≤ a ∧ a < nP σ
abbrev inM (σ : SG) (a : Int) : Prop := 0 ≤ a ∧ a < nM σ
abbrev inB (σ : SG) (a : Int) : Prop := 0 ≤ a ∧ a < nB σ
def r_drinks (σ : SG) (a : Int) : Int := if inP σ a then dr σ a.toNat else -1
def r_sounds (σ : SG) (a b : Int) : Int := if inP σ a ∧ inB σ b then (if (sn σ b.toNat).testBit a.toNat = true then 1 else 0) else -1
def r_person (σ : SG) (a b : Int) : Int := if inM σ a then (if 0 ≤ b ∧ b ≤ 4 then σ (3 + b.toNat) a.toNat else -2) else -1
def r_seat (σ : SG) (a b : Int) : Int := if inM σ a ∧ inP σ b then pl σ a.toNat else -1
def sx_seat (σ : SG) (a b : Int) : SG := if inM σ a ∧ inP σ b then up σ 5 a.toNat b.toNat else σ
def r_phase (σ : SG) (a b : Int) : Int := if inM σ a then (if 0 ≤ b ∧ b ≤ lu σ a.toNat then ph σ a.toNat else -2) else -1
def sx_phase (σ : SG) (a b : Int) : SG := if inM σ a ∧ 0 ≤ b ∧ b ≤ lu σ a.toNat then up σ 6 a.toNat b.toNat else σ
def r_bribe (σ : SG) (a : Int) (b : Nat) : Int := if inM σ a then (if br σ a.toNat = b then 0 else 1) else -1
def sx_bribe (σ : SG) (a : Int) (b : Nat) : SG := if inM σ a then up σ 7 a.toNat b else σ
def r_grow (σ : SG) (a : Int) : Int := if inM σ a then (if lu σ a.toNat = 9 then -3 else lu σ a.toNat + 1) else -1
def sx_grow (σ : SG) (a : Int) : SG := if inM σ a ∧ lu σ a.toNat ≠ 9 then up σ 3 a.toNat (lu σ a.toNat + 1) else σ
def r_store (σ : SG) (a : Int) : Int := if 0 ≤ a ∧ a ≤ 9 then rm σ else -2
def sx_store (σ : SG) (a : Int) : SG := if 0 ≤ a ∧ a ≤ 9 then up σ 0 4 a.toNat else σ
def r_late (σ : SG) (a : Int) : Int := if 0 ≤ a ∧ a ≤ 99 then lt σ else -2
def sx_late (σ : SG) (a : Int) : SG := if 0 ≤ a ∧ a ≤ 99 then up σ 0 3 a.toNat else σ
def r_gives (σ : SG) (a b : Int) : Int := if inM σ a ∧ inB σ b then gv σ a.toNat (b.toNat + lt σ) else -1
def r_air (σ : SG) (a b : Int) : Int := if inP σ a ∧ inB σ b then wnd σ (sit σ a.toNat) (lt σ) b.toNat else -1
def r_stored (σ : SG) (a b : Int) : Int := if inP σ a ∧ inB σ b then stA (rm σ) (dnS σ a.toNat) (wnd σ (sit σ a.toNat) (lt σ)) (b.toNat + 1) else -1
def r_sags (σ : SG) (a b : Int) : Int := if inP σ a ∧ inB σ b then msA (rm σ) (dnS σ a.toNat) (wnd σ (sit σ a.toNat) (lt σ)) b.toNat else -1
def r_count (σ : SG) (a : Int) : Int := if a = 0 then tl σ else if a = 1 then nP σ else if a = 2 then nM σ else if a = 3 then nB σ else if a = 4 then brN σ (nM σ) else if a = 5 then lt σ else if a = 6 then rm σ else -2
theorem toN {a : Int} {n : Nat} (h : 0 ≤ a ∧ a < n) : ∃ p : Nat, a = p ∧ p < n := ⟨a.toNat, by omega, by omega⟩
