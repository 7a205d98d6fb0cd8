/-! THE LAW: its cases -/
def Inv (hi : HI) : Prop := ∃ σ : SG, Ok σ ∧ AX σ hi ∧ AM σ hi
theorem AM.far {σ : SG} {hi hi' : HI} (h : AM σ hi) (e : ∀ c, 41 ≤ c → hi' c = hi c) : AM σ hi' := h.keep (fun f _ _ => by rw [e 41 (by omega)]) (fun c hc => e c (by omega))
theorem AX.far {σ : SG} {hi hi' : HI} (h : AX σ hi) (e : ∀ c, c < 41 → hi' c = hi c) : AX σ hi' := h.keep (fun c hc => e c (by omega))
section OKS
variable {σ : SG}
theorem Ok_seat (ok : Ok σ) (a b : Int) : Ok (sx_seat σ a b) := by
  unfold sx_seat
  split
  · exact Ok_5 ok (by omega)
  · exact ok
theorem Ok_phase (ok : Ok σ) (a b : Int) : Ok (sx_phase σ a b) := by
  unfold sx_phase
  split
  · exact Ok_6 ok (by omega)
  · exact ok
theorem Ok_bribe (ok : Ok σ) (a : Int) {n : Nat} (hn : n ≤ 1) : Ok (sx_bribe σ a n) := by
  unfold sx_bribe
  split
  · exact Ok_7 ok hn
  · exact ok
theorem Ok_grow (ok : Ok σ) (a : Int) : Ok (sx_grow σ a) := by
  unfold sx_grow
  split
  · rename_i h
    have hm := ok.m (m := a.toNat) (by omega)
    exact Ok_3 ok (by omega)
  · exact ok
theorem Ok_store (ok : Ok σ) (a : Int) : Ok (sx_store σ a) := by
  unfold sx_store
  split
  · exact Ok_04 ok (by omega)
  · exact ok
theorem Ok_late (ok : Ok σ) (a : Int) : Ok (sx_late σ a) := by
  unfold sx_late
  split
  · exact Ok_03 ok (by omega)
  · exact ok
theorem Ok_keep (ok : Ok σ) (a : Int) : Ok (sx_keep σ a) := by
  unfold sx_keep
  split
  · exact Ok_kept ok (by omega)
  · exact ok
theorem Ok_again (ok : Ok σ) (a : Int) : Ok (sx_again σ a) := by
  unfold sx_again
  split
  · rename_i h
    exact Ok_anew ok (by omega) h.2
  · exact ok
theorem Ok_write (ok : Ok σ) (a : Int) (v : Int64) : Ok (sx_write σ a v) := by
  unfold sx_write
  split
  · exact Ok_wrt ok v (by omega)
  · exact ok
theorem Ok_organ (ok : Ok σ) : Ok (sx_organ σ) := by
  unfold sx_organ
  split
  · rename_i h
    exact Ok_newS ok h
  · exact ok
end OKS
section LAWC
variable {L : Nat} {xs : Nat → Int32} {i : Nat} {hi : HI} {hl : HL}
theorem lc_0 (hL : L ≤ 2560) (h5 : i + 5 ≤ L) (hI : Inv hi) (K : ∀ (h : HI) (l : HL), Inv h → Wl L xs 1089 [some (.ref 101), some (.ref 0), some (.ref 41), some (.int (zI i))] [] h l) : Wl L xs 180 [some (.ref 101), some (.ref 0), some (.ref 41), some (.int (zI i))] [] hi hl := by
  obtain ⟨σ, ok, hX, hM⟩ := hI
  refine wl_aload_n d_LW_law_180 rfl ?_
  refine wl_aload_n d_LW_law_181 rfl ?_
  refine wl_iload_n d_LW_law_182 rfl ?_
  refine wl_iconst (v := zI 1) d_LW_law_183 rfl ?_
  refine wlz_iadd d_LW_law_184 ?_
  refine wl_sld (j := i + 1) d_LW_law_185 (by omega) (by omega) (by omega) ?_
  refine wl_aload_n d_LW_law_186 rfl ?_
  refine wl_iload_n d_LW_law_187 rfl ?_
  refine wl_iconst (v := zI 2) d_LW_law_188 rfl ?_
  refine wlz_iadd d_LW_law_189 ?_
  refine wl_sld (j := i + 2) d_LW_law_190 (by omega) (by omega) (by omega) ?_
  refine wl_i2l d_LW_law_191 ?_
  refine wl_bipush (v := zI 32) d_LW_law_192 rfl ?_
  refine wl_lshl d_LW_law_194 ?_
  refine wl_aload_n d_LW_law_195 rfl ?_
  refine wl_iload_n d_LW_law_196 rfl ?_
  refine wl_iconst (v := zI 3) d_LW_law_197 rfl ?_
  refine wlz_iadd d_LW_law_198 ?_
  refine wl_sld (j := i + 3) d_LW_law_199 (by omega) (by omega) (by omega) ?_
  refine wl_i2l d_LW_law_200 ?_
  refine wl_ldc2 d_LW_law_201 cs_LW_13 ?_
  refine wl_land d_LW_law_204 ?_
  refine wl_lor d_LW_law_205 ?_
  refine wl_callV (cx_write ok hX (sc_in xs (i + 1))) d_LW_law_206 k_LW_15 (by decide) rfl rfl rfl rfl (Nat.le_of_ble_eq_true rfl) (by omega) ?_
  rintro _ h2 l2 ⟨rfl, hX2, e2⟩
  have hM2 := hM.far e2
  refine wl_aload_n d_LW_law_209 rfl ?_
  refine wl_aload_n d_LW_law_210 rfl ?_
  refine wl_iload_n d_LW_law_211 rfl ?_
  refine wl_iconst (v := zI 1) d_LW_law_212 rfl ?_
  refine wlz_iadd d_LW_law_213 ?_
  refine wl_sld (j := i + 1) d_LW_law_214 (by omega) (by omega) (by omega) ?_
  refine wl_aload_n d_LW_law_215 rfl ?_
  refine wl_iload_n d_LW_law_216 rfl ?_
  refine wl_iconst (v := zI 2) d_LW_law_217 rfl ?_
  refine wlz_iadd d_LW_law_218 ?_
  refine wl_sld (j := i + 2) d_LW_law_219 (by omega) (by omega) (by omega) ?_
  refine wl_i2l d_LW_law_220 ?_
  refine wl_bipush (v := zI 32) d_LW_law_221 rfl ?_
  refine wl_lshl d_LW_law_223 ?_
  refine wl_aload_n d_LW_law_224 rfl ?_
  refine wl_iload_n d_LW_law_225 rfl ?_
  refine wl_iconst (v := zI 3) d_LW_law_226 rfl ?_
  refine wlz_iadd d_LW_law_227 ?_
  refine wl_sld (j := i + 3) d_LW_law_228 (by omega) (by omega) (by omega) ?_
  refine wl_i2l d_LW_law_229 ?_
  refine wl_ldc2 d_LW_law_230 cs_LW_13 ?_
  refine wl_land d_LW_law_233 ?_
  refine wl_lor d_LW_law_234 ?_
  refine wl_callV (cm_write ok hM2 (sc_in xs (i + 1))) d_LW_law_235 k_LW_19 (by decide) rfl rfl rfl rfl (Nat.le_of_ble_eq_true rfl) (by omega) ?_
  rintro _ h3 l3 ⟨rfl, hM3, e3⟩
  have hX3 := hX2.far e3
  refine wl_icmp_eq (tgt := 1089) d_LW_law_238 (by decide) (fun _ => ?_) (fun h => absurd rfl h)
  exact K _ _ ⟨_, Ok_write ok _ _, hX3, hM3⟩
theorem lc_1 (hL : L ≤ 2560) (h5 : i + 5 ≤ L) (hI : Inv hi) (K : ∀ (h : HI) (l : HL), Inv h → Wl L xs 1089 [some (.ref 101), some (.ref 0), some (.ref 41), some (.int (zI i))] [] h l) : Wl L xs 243 [some (.ref 101), some (.ref 0), some (.ref 41), some (.int (zI i))] [] hi hl := by
  obtain ⟨σ, ok, hX, hM⟩ := hI
  refine wl_aload_n d_LW_law_243 rfl ?_
  refine wl_callV (cx_wipe hX ) d_LW_law_244 k_LW_20 (by decide) rfl rfl rfl rfl (Nat.le_of_ble_eq_true rfl) (by omega) ?_
  rintro _ h2 l2 ⟨rfl, hX2, e2⟩
  have hM2 := hM.far e2
  refine wl_aload_n d_LW_law_247 rfl ?_
  refine wl_callV (cm_wipe hM2 ) d_LW_law_248 k_LW_24 (by decide) rfl rfl rfl rfl (Nat.le_of_ble_eq_true rfl) (by omega) ?_
  rintro _ h3 l3 ⟨rfl, hM3, e3⟩
  have hX3 := hX2.far e3
  refine wl_icmp_eq (tgt := 1089) d_LW_law_251 (by decide) (fun _ => ?_) (fun h => absurd rfl h)
  exact K _ _ ⟨_, Ok_wipe ok, hX3, hM3⟩
theorem lc_2 (hL : L ≤ 2560) (h5 : i + 5 ≤ L) (hI : Inv hi) (K : ∀ (h : HI) (l : HL), Inv h → Wl L xs 1089 [some (.ref 101), some (.ref 0), some (.ref 41), some (.int (zI i))] [] h l) : Wl L xs 256 [some (.ref 101), some (.ref 0), some (.ref 41), some (.int (zI i))] [] hi hl := by
  obtain ⟨σ, ok, hX, hM⟩ := hI
  refine wl_aload_n d_LW_law_256 rfl ?_
  refine wl_callV (cx_fault ok hX ) d_LW_law_257 k_LW_25 (by decide) rfl rfl rfl rfl (Nat.le_of_ble_eq_true rfl) (by omega) ?_
  rintro _ h2 l2 ⟨rfl, hX2, e2⟩
  have hM2 := hM.far e2
  refine wl_aload_n d_LW_law_260 rfl ?_
  refine wl_callV (cm_fault ok hM2 ) d_LW_law_261 k_LW_28 (by decide) rfl rfl rfl rfl (Nat.le_of_ble_eq_true rfl) (by omega) ?_
  rintro _ h3 l3 ⟨rfl, hM3, e3⟩
  have hX3 := hX2.far e3
  refine wl_icmp_eq (tgt := 1089) d_LW_law_264 (by decide) (fun _ => ?_) (fun h => absurd rfl h)
  exact K _ _ ⟨_, ok, hX3, hM3⟩
theorem lc_3 (hL : L ≤ 2560) (h5 : i + 5 ≤ L) (hI : Inv hi) (K : ∀ (h : HI) (l : HL), Inv h → Wl L xs 1089 [some (.ref 101), some (.ref 0), some (.ref 41), some (.int (zI i))] [] h l) : Wl L xs 269 [some (.ref 101), some (.ref 0), some (.ref 41), some (.int (zI i))] [] hi hl := by
  obtain ⟨σ, ok, hX, hM⟩ := hI
  refine wl_aload_n d_LW_law_269 rfl ?_
  refine wl_callV (cx_organ ok hX ) d_LW_law_270 k_LW_29 (by decide) rfl rfl rfl rfl (Nat.le_of_ble_eq_true rfl) (by omega) ?_
  rintro _ h2 l2 ⟨rfl, hX2, e2⟩
  have hM2 := hM.far e2
  refine wl_aload_n d_LW_law_273 rfl ?_
  refine wl_callV (cm_organ ok hM2 ) d_LW_law_274 k_LW_32 (by decide) rfl rfl rfl rfl (Nat.le_of_ble_eq_true rfl) (by omega) ?_
  rintro _ h3 l3 ⟨rfl, hM3, e3⟩
  have hX3 := hX2.far e3
  refine wl_icmp_eq (tgt := 1089) d_LW_law_277 (by decide) (fun _ => ?_) (fun h => absurd rfl h)
  exact K _ _ ⟨_, Ok_organ ok, hX3, hM3⟩
theorem lc_4 (hL : L ≤ 2560) (h5 : i + 5 ≤ L) (hI : Inv hi) (K : ∀ (h : HI) (l : HL), Inv h → Wl L xs 1089 [some (.ref 101), some (.ref 0), some (.ref 41), some (.int (zI i))] [] h l) : Wl L xs 282 [some (.ref 101), some (.ref 0), some (.ref 41), some (.int (zI i))] [] hi hl := by
  obtain ⟨σ, ok, hX, hM⟩ := hI
  refine wl_aload_n d_LW_law_282 rfl ?_
  refine wl_aload_n d_LW_law_283 rfl ?_
  refine wl_iload_n d_LW_law_284 rfl ?_
  refine wl_iconst (v := zI 1) d_LW_law_285 rfl ?_
  refine wlz_iadd d_LW_law_286 ?_
  refine wl_sld (j := i + 1) d_LW_law_287 (by omega) (by omega) (by omega) ?_
  refine wl_callV (cx_drinks ok hX (sc_in xs (i + 1))) d_LW_law_288 k_LW_33 (by decide) rfl rfl rfl rfl (Nat.le_of_ble_eq_true rfl) (by omega) ?_
  rintro _ h2 l2 ⟨rfl, hX2, e2⟩
  have hM2 := hM.far e2
  refine wl_aload_n d_LW_law_291 rfl ?_
  refine wl_aload_n d_LW_law_292 rfl ?_
  refine wl_iload_n d_LW_law_293 rfl ?_
  refine wl_iconst (v := zI 1) d_LW_law_294 rfl ?_
  refine wlz_iadd d_LW_law_295 ?_
  refine wl_sld (j := i + 1) d_LW_law_296 (by omega) (by omega) (by omega) ?_
  refine wl_callV (cm_drinks ok hM2 (sc_in xs (i + 1))) d_LW_law_297 k_LW_37 (by decide) rfl rfl rfl rfl (Nat.le_of_ble_eq_true rfl) (by omega) ?_
  rintro _ h3 l3 ⟨rfl, hM3, e3⟩
  have hX3 := hX2.far e3
  refine wl_icmp_eq (tgt := 1089) d_LW_law_300 (by decide) (fun _ => ?_) (fun h => absurd rfl h)
  exact K _ _ ⟨_, ok, hX3, hM3⟩
theorem lc_5 (hL : L ≤ 2560) (h5 : i + 5 ≤ L) (hI : Inv hi) (K : ∀ (h : HI) (l : HL), Inv h → Wl L xs 1089 [some (.ref 101), some (.ref 0), some (.ref 41), some (.int (zI i))] [] h l) : Wl L xs 305 [some (.ref 101), some (.ref 0), some (.ref 41), some (.int (zI i))] [] hi hl := by
  obtain ⟨σ, ok, hX, hM⟩ := hI
  refine wl_aload_n d_LW_law_305 rfl ?_
  refine wl_aload_n d_LW_law_306 rfl ?_
  refine wl_iload_n d_LW_law_307 rfl ?_
  refine wl_iconst (v := zI 1) d_LW_law_308 rfl ?_
  refine wlz_iadd d_LW_law_309 ?_
  refine wl_sld (j := i + 1) d_LW_law_310 (by omega) (by omega) (by omega) ?_
  refine wl_aload_n d_LW_law_311 rfl ?_
  refine wl_iload_n d_LW_law_312 rfl ?_
  refine wl_iconst (v := zI 2) d_LW_law_313 rfl ?_
  refine wlz_iadd d_LW_law_314 ?_
  refine wl_sld (j := i + 2) d_LW_law_315 (by omega) (by omega) (by omega) ?_
  refine wl_callV (cx_sounds ok hX (sc_in xs (i + 1)) (sc_in xs (i + 2))) d_LW_law_316 k_LW_38 (by decide) rfl rfl rfl rfl (Nat.le_of_ble_eq_true rfl) (by omega) ?_
  rintro _ h2 l2 ⟨rfl, hX2, e2⟩
  have hM2 := hM.far e2
  refine wl_aload_n d_LW_law_319 rfl ?_
  refine wl_aload_n d_LW_law_320 rfl ?_
  refine wl_iload_n d_LW_law_321 rfl ?_
  refine wl_iconst (v := zI 1) d_LW_law_322 rfl ?_
  refine wlz_iadd d_LW_law_323 ?_
  refine wl_sld (j := i + 1) d_LW_law_324 (by omega) (by omega) (by omega) ?_
  refine wl_aload_n d_LW_law_325 rfl ?_
  refine wl_iload_n d_LW_law_326 rfl ?_
  refine wl_iconst (v := zI 2) d_LW_law_327 rfl ?_
  refine wlz_iadd d_LW_law_328 ?_
  refine wl_sld (j := i + 2) d_LW_law_329 (by omega) (by omega) (by omega) ?_
  refine wl_callV (cm_sounds ok hM2 (sc_in xs (i + 1)) (sc_in xs (i + 2))) d_LW_law_330 k_LW_42 (by decide) rfl rfl rfl rfl (Nat.le_of_ble_eq_true rfl) (by omega) ?_
  rintro _ h3 l3 ⟨rfl, hM3, e3⟩
  have hX3 := hX2.far e3
  refine wl_icmp_eq (tgt := 1089) d_LW_law_333 (by decide) (fun _ => ?_) (fun h => absurd rfl h)
  exact K _ _ ⟨_, ok, hX3, hM3⟩
theorem lc_6 (hL : L ≤ 2560) (h5 : i + 5 ≤ L) (hI : Inv hi) (K : ∀ (h : HI) (l : HL), Inv h → Wl L xs 1089 [some (.ref 101), some (.ref 0), some (.ref 41), some (.int (zI i))] [] h l) : Wl L xs 338 [some (.ref 101), some (.ref 0), some (.ref 41), some (.int (zI i))] [] hi hl := by
  obtain ⟨σ, ok, hX, hM⟩ := hI
  refine wl_aload_n d_LW_law_338 rfl ?_
  refine wl_aload_n d_LW_law_339 rfl ?_
  refine wl_iload_n d_LW_law_340 rfl ?_
  refine wl_iconst (v := zI 1) d_LW_law_341 rfl ?_
  refine wlz_iadd d_LW_law_342 ?_
  refine wl_sld (j := i + 1) d_LW_law_343 (by omega) (by omega) (by omega) ?_
  refine wl_aload_n d_LW_law_344 rfl ?_
  refine wl_iload_n d_LW_law_345 rfl ?_
  refine wl_iconst (v := zI 2) d_LW_law_346 rfl ?_
  refine wlz_iadd d_LW_law_347 ?_
  refine wl_sld (j := i + 2) d_LW_law_348 (by omega) (by omega) (by omega) ?_
  refine wl_callV (cx_person ok hX (sc_in xs (i + 1)) (sc_in xs (i + 2))) d_LW_law_349 k_LW_43 (by decide) rfl rfl rfl rfl (Nat.le_of_ble_eq_true rfl) (by omega) ?_
  rintro _ h2 l2 ⟨rfl, hX2, e2⟩
  have hM2 := hM.far e2
  refine wl_aload_n d_LW_law_352 rfl ?_
  refine wl_aload_n d_LW_law_353 rfl ?_
  refine wl_iload_n d_LW_law_354 rfl ?_
  refine wl_iconst (v := zI 1) d_LW_law_355 rfl ?_
  refine wlz_iadd d_LW_law_356 ?_
  refine wl_sld (j := i + 1) d_LW_law_357 (by omega) (by omega) (by omega) ?_
  refine wl_aload_n d_LW_law_358 rfl ?_
  refine wl_iload_n d_LW_law_359 rfl ?_
  refine wl_iconst (v := zI 2) d_LW_law_360 rfl ?_
  refine wlz_iadd d_LW_law_361 ?_
  refine wl_sld (j := i + 2) d_LW_law_362 (by omega) (by omega) (by omega) ?_
  refine wl_callV (cm_person ok hM2 (sc_in xs (i + 1)) (sc_in xs (i + 2))) d_LW_law_363 k_LW_46 (by decide) rfl rfl rfl rfl (Nat.le_of_ble_eq_true rfl) (by omega) ?_
  rintro _ h3 l3 ⟨rfl, hM3, e3⟩
  have hX3 := hX2.far e3
  refine wl_icmp_eq (tgt := 1089) d_LW_law_366 (by decide) (fun _ => ?_) (fun h => absurd rfl h)
  exact K _ _ ⟨_, ok, hX3, hM3⟩
theorem lc_7 (hL : L ≤ 2560) (h5 : i + 5 ≤ L) (hI : Inv hi) (K : ∀ (h : HI) (l : HL), Inv h → Wl L xs 1089 [some (.ref 101), some (.ref 0), some (.ref 41), some (.int (zI i))] [] h l) : Wl L xs 371 [some (.ref 101), some (.ref 0), some (.ref 41), some (.int (zI i))] [] hi hl := by
  obtain ⟨σ, ok, hX, hM⟩ := hI
  refine wl_aload_n d_LW_law_371 rfl ?_
  refine wl_aload_n d_LW_law_372 rfl ?_
  refine wl_iload_n d_LW_law_373 rfl ?_
  refine wl_iconst (v := zI 1) d_LW_law_374 rfl ?_
  refine wlz_iadd d_LW_law_375 ?_
  refine wl_sld (j := i + 1) d_LW_law_376 (by omega) (by omega) (by omega) ?_
  refine wl_aload_n d_LW_law_377 rfl ?_
  refine wl_iload_n d_LW_law_378 rfl ?_
  refine wl_iconst (v := zI 2) d_LW_law_379 rfl ?_
  refine wlz_iadd d_LW_law_380 ?_
  refine wl_sld (j := i + 2) d_LW_law_381 (by omega) (by omega) (by omega) ?_
  refine wl_callV (cx_seat ok hX (sc_in xs (i + 1)) (sc_in xs (i + 2))) d_LW_law_382 k_LW_47 (by decide) rfl rfl rfl rfl (Nat.le_of_ble_eq_true rfl) (by omega) ?_
  rintro _ h2 l2 ⟨rfl, hX2, e2⟩
  have hM2 := hM.far e2
  refine wl_aload_n d_LW_law_385 rfl ?_
  refine wl_aload_n d_LW_law_386 rfl ?_
  refine wl_iload_n d_LW_law_387 rfl ?_
  refine wl_iconst (v := zI 1) d_LW_law_388 rfl ?_
  refine wlz_iadd d_LW_law_389 ?_
  refine wl_sld (j := i + 1) d_LW_law_390 (by omega) (by omega) (by omega) ?_
  refine wl_aload_n d_LW_law_391 rfl ?_
  refine wl_iload_n d_LW_law_392 rfl ?_
  refine wl_iconst (v := zI 2) d_LW_law_393 rfl ?_
  refine wlz_iadd d_LW_law_394 ?_
  refine wl_sld (j := i + 2) d_LW_law_395 (by omega) (by omega) (by omega) ?_
  refine wl_callV (cm_seat ok hM2 (sc_in xs (i + 1)) (sc_in xs (i + 2))) d_LW_law_396 k_LW_50 (by decide) rfl rfl rfl rfl (Nat.le_of_ble_eq_true rfl) (by omega) ?_
  rintro _ h3 l3 ⟨rfl, hM3, e3⟩
  have hX3 := hX2.far e3
  refine wl_icmp_eq (tgt := 1089) d_LW_law_399 (by decide) (fun _ => ?_) (fun h => absurd rfl h)
  exact K _ _ ⟨_, Ok_seat ok _ _, hX3, hM3⟩
theorem lc_8 (hL : L ≤ 2560) (h5 : i + 5 ≤ L) (hI : Inv hi) (K : ∀ (h : HI) (l : HL), Inv h → Wl L xs 1089 [some (.ref 101), some (.ref 0), some (.ref 41), some (.int (zI i))] [] h l) : Wl L xs 404 [some (.ref 101), some (.ref 0), some (.ref 41), some (.int (zI i))] [] hi hl := by
  obtain ⟨σ, ok, hX, hM⟩ := hI
  refine wl_aload_n d_LW_law_404 rfl ?_
  refine wl_aload_n d_LW_law_405 rfl ?_
  refine wl_iload_n d_LW_law_406 rfl ?_
  refine wl_iconst (v := zI 1) d_LW_law_407 rfl ?_
  refine wlz_iadd d_LW_law_408 ?_
  refine wl_sld (j := i + 1) d_LW_law_409 (by omega) (by omega) (by omega) ?_
  refine wl_aload_n d_LW_law_410 rfl ?_
  refine wl_iload_n d_LW_law_411 rfl ?_
  refine wl_iconst (v := zI 2) d_LW_law_412 rfl ?_
  refine wlz_iadd d_LW_law_413 ?_
  refine wl_sld (j := i + 2) d_LW_law_414 (by omega) (by omega) (by omega) ?_
  refine wl_callV (cx_phase ok hX (sc_in xs (i + 1)) (sc_in xs (i + 2))) d_LW_law_415 k_LW_51 (by decide) rfl rfl rfl rfl (Nat.le_of_ble_eq_true rfl) (by omega) ?_
  rintro _ h2 l2 ⟨rfl, hX2, e2⟩
  have hM2 := hM.far e2
  refine wl_aload_n d_LW_law_418 rfl ?_
  refine wl_aload_n d_LW_law_419 rfl ?_
  refine wl_iload_n d_LW_law_420 rfl ?_
  refine wl_iconst (v := zI 1) d_LW_law_421 rfl ?_
  refine wlz_iadd d_LW_law_422 ?_
  refine wl_sld (j := i + 1) d_LW_law_423 (by omega) (by omega) (by omega) ?_
  refine wl_aload_n d_LW_law_424 rfl ?_
  refine wl_iload_n d_LW_law_425 rfl ?_
  refine wl_iconst (v := zI 2) d_LW_law_426 rfl ?_
  refine wlz_iadd d_LW_law_427 ?_
  refine wl_sld (j := i + 2) d_LW_law_428 (by omega) (by omega) (by omega) ?_
  refine wl_callV (cm_phase ok hM2 (sc_in xs (i + 1)) (sc_in xs (i + 2))) d_LW_law_429 k_LW_54 (by decide) rfl rfl rfl rfl (Nat.le_of_ble_eq_true rfl) (by omega) ?_
  rintro _ h3 l3 ⟨rfl, hM3, e3⟩
  have hX3 := hX2.far e3
  refine wl_icmp_eq (tgt := 1089) d_LW_law_432 (by decide) (fun _ => ?_) (fun h => absurd rfl h)
  exact K _ _ ⟨_, Ok_phase ok _ _, hX3, hM3⟩
theorem lc_9 (hL : L ≤ 2560) (h5 : i + 5 ≤ L) (hI : Inv hi) (K : ∀ (h : HI) (l : HL), Inv h → Wl L xs 1089 [some (.ref 101), some (.ref 0), some (.ref 41), some (.int (zI i))] [] h l) : Wl L xs 437 [some (.ref 101), some (.ref 0), some (.ref 41), some (.int (zI i))] [] hi hl := by
  obtain ⟨σ, ok, hX, hM⟩ := hI
  by_cases hz : sc xs (i + 2) = 0
  · refine wl_aload_n d_LW_law_437 rfl ?_
    refine wl_aload_n d_LW_law_438 rfl ?_
    refine wl_iload_n d_LW_law_439 rfl ?_
    refine wl_iconst (v := zI 1) d_LW_law_440 rfl ?_
    refine wlz_iadd d_LW_law_441 ?_
    refine wl_sld (j := i + 1) d_LW_law_442 (by omega) (by omega) (by omega) ?_
    refine wl_aload_n d_LW_law_443 rfl ?_
    refine wl_iload_n d_LW_law_444 rfl ?_
    refine wl_iconst (v := zI 2) d_LW_law_445 rfl ?_
    refine wlz_iadd d_LW_law_446 ?_
    refine wl_sld (j := i + 2) d_LW_law_447 (by omega) (by omega) (by omega) ?_
    refine wlz_if_eq (tgt := 455) d_LW_law_448 (by decide) (sc_in xs _) (fun _ => ?_) (fun h => absurd hz h)
    refine wl_iconst (v := zI ((0 : Nat) : Int)) d_LW_law_455 rfl ?_
    refine wl_callV (cx_bribe (n := 0) ok hX (sc_in xs (i + 1)) (by omega)) d_LW_law_456 k_LW_55 (by decide) rfl rfl rfl rfl (Nat.le_of_ble_eq_true rfl) (by omega) ?_
    rintro _ h2 l2 ⟨rfl, hX2, e2⟩
    have hM2 := hM.far e2
    refine wl_aload_n d_LW_law_459 rfl ?_
    refine wl_aload_n d_LW_law_460 rfl ?_
    refine wl_iload_n d_LW_law_461 rfl ?_
    refine wl_iconst (v := zI 1) d_LW_law_462 rfl ?_
    refine wlz_iadd d_LW_law_463 ?_
    refine wl_sld (j := i + 1) d_LW_law_464 (by omega) (by omega) (by omega) ?_
    refine wl_aload_n d_LW_law_465 rfl ?_
    refine wl_iload_n d_LW_law_466 rfl ?_
    refine wl_iconst (v := zI 2) d_LW_law_467 rfl ?_
    refine wlz_iadd d_LW_law_468 ?_
    refine wl_sld (j := i + 2) d_LW_law_469 (by omega) (by omega) (by omega) ?_
    refine wlz_if_eq (tgt := 477) d_LW_law_470 (by decide) (sc_in xs _) (fun _ => ?_) (fun h => absurd hz h)
    refine wl_iconst (v := zI ((0 : Nat) : Int)) d_LW_law_477 rfl ?_
    refine wl_callV (cm_bribe (n := 0) ok hM2 (sc_in xs (i + 1)) (by omega)) d_LW_law_478 k_LW_59 (by decide) rfl rfl rfl rfl (Nat.le_of_ble_eq_true rfl) (by omega) ?_
    rintro _ h3 l3 ⟨rfl, hM3, e3⟩
    have hX3 := hX2.far e3
    refine wl_icmp_eq (tgt := 1089) d_LW_law_481 (by decide) (fun _ => ?_) (fun h => absurd rfl h)
    exact K _ _ ⟨_, Ok_bribe ok _ (by omega), hX3, hM3⟩
  · refine wl_aload_n d_LW_law_437 rfl ?_
    refine wl_aload_n d_LW_law_438 rfl ?_
    refine wl_iload_n d_LW_law_439 rfl ?_
    refine wl_iconst (v := zI 1) d_LW_law_440 rfl ?_
    refine wlz_iadd d_LW_law_441 ?_
    refine wl_sld (j := i + 1) d_LW_law_442 (by omega) (by omega) (by omega) ?_
    refine wl_aload_n d_LW_law_443 rfl ?_
    refine wl_iload_n d_LW_law_444 rfl ?_
    refine wl_iconst (v := zI 2) d_LW_law_445 rfl ?_
    refine wlz_iadd d_LW_law_446 ?_
    refine wl_sld (j := i + 2) d_LW_law_447 (by omega) (by omega) (by omega) ?_
    refine wlz_if_eq (tgt := 455) d_LW_law_448 (by decide) (sc_in xs _) (fun h => absurd h hz) (fun _ => ?_)
    refine wl_iconst (v := zI ((1 : Nat) : Int)) d_LW_law_451 rfl ?_
    refine wl_goto (tgt := 456) d_LW_law_452 (by decide) ?_
    refine wl_callV (cx_bribe (n := 1) ok hX (sc_in xs (i + 1)) (by omega)) d_LW_law_456 k_LW_55 (by decide) rfl rfl rfl rfl (Nat.le_of_ble_eq_true rfl) (by omega) ?_
    rintro _ h2 l2 ⟨rfl, hX2, e2⟩
    have hM2 := hM.far e2
    refine wl_aload_n d_LW_law_459 rfl ?_
    refine wl_aload_n d_LW_law_460 rfl ?_
    refine wl_iload_n d_LW_law_461 rfl ?_
    refine wl_iconst (v := zI 1) d_LW_law_462 rfl ?_
    refine wlz_iadd d_LW_law_463 ?_
    refine wl_sld (j := i + 1) d_LW_law_464 (by omega) (by omega) (by omega) ?_
    refine wl_aload_n d_LW_law_465 rfl ?_
    refine wl_iload_n d_LW_law_466 rfl ?_
    refine wl_iconst (v := zI 2) d_LW_law_467 rfl ?_
    refine wlz_iadd d_LW_law_468 ?_
    refine wl_sld (j := i + 2) d_LW_law_469 (by omega) (by omega) (by omega) ?_
    refine wlz_if_eq (tgt := 477) d_LW_law_470 (by decide) (sc_in xs _) (fun h => absurd h hz) (fun _ => ?_)
    refine wl_iconst (v := zI ((1 : Nat) : Int)) d_LW_law_473 rfl ?_
    refine wl_goto (tgt := 478) d_LW_law_474 (by decide) ?_
    refine wl_callV (cm_bribe (n := 1) ok hM2 (sc_in xs (i + 1)) (by omega)) d_LW_law_478 k_LW_59 (by decide) rfl rfl rfl rfl (Nat.le_of_ble_eq_true rfl) (by omega) ?_
    rintro _ h3 l3 ⟨rfl, hM3, e3⟩
    have hX3 := hX2.far e3
    refine wl_icmp_eq (tgt := 1089) d_LW_law_481 (by decide) (fun _ => ?_) (fun h => absurd rfl h)
    exact K _ _ ⟨_, Ok_bribe ok _ (by omega), hX3, hM3⟩
theorem lc_10 (hL : L ≤ 2560) (h5 : i + 5 ≤ L) (hI : Inv hi) (K : ∀ (h : HI) (l : HL), Inv h → Wl L xs 1089 [some (.ref 101), some (.ref 0), some (.ref 41), some (.int (zI i))] [] h l) : Wl L xs 486 [some (.ref 101), some (.ref 0), some (.ref 41), some (.int (zI i))] [] hi hl := by
  obtain ⟨σ, ok, hX, hM⟩ := hI
  refine wl_aload_n d_LW_law_486 rfl ?_
  refine wl_aload_n d_LW_law_487 rfl ?_
  refine wl_iload_n d_LW_law_488 rfl ?_
  refine wl_iconst (v := zI 1) d_LW_law_489 rfl ?_
  refine wlz_iadd d_LW_law_490 ?_
  refine wl_sld (j := i + 1) d_LW_law_491 (by omega) (by omega) (by omega) ?_
  refine wl_callV (cx_grow ok hX (sc_in xs (i + 1))) d_LW_law_492 k_LW_60 (by decide) rfl rfl rfl rfl (Nat.le_of_ble_eq_true rfl) (by omega) ?_
  rintro _ h2 l2 ⟨rfl, hX2, e2⟩
  have hM2 := hM.far e2
  refine wl_aload_n d_LW_law_495 rfl ?_
  refine wl_aload_n d_LW_law_496 rfl ?_
  refine wl_iload_n d_LW_law_497 rfl ?_
  refine wl_iconst (v := zI 1) d_LW_law_498 rfl ?_
  refine wlz_iadd d_LW_law_499 ?_
  refine wl_sld (j := i + 1) d_LW_law_500 (by omega) (by omega) (by omega) ?_
  refine wl_callV (cm_grow ok hM2 (sc_in xs (i + 1))) d_LW_law_501 k_LW_63 (by decide) rfl rfl rfl rfl (Nat.le_of_ble_eq_true rfl) (by omega) ?_
  rintro _ h3 l3 ⟨rfl, hM3, e3⟩
  have hX3 := hX2.far e3
  refine wl_icmp_eq (tgt := 1089) d_LW_law_504 (by decide) (fun _ => ?_) (fun h => absurd rfl h)
  exact K _ _ ⟨_, Ok_grow ok _, hX3, hM3⟩
theorem lc_11 (hL : L ≤ 2560) (h5 : i + 5 ≤ L) (hI : Inv hi) (K : ∀ (h : HI) (l : HL), Inv h → Wl L xs 1089 [some (.ref 101), some (.ref 0), some (.ref 41), some (.int (zI i))] [] h l) : Wl L xs 509 [some (.ref 101), some (.ref 0), some (.ref 41), some (.int (zI i))] [] hi hl := by
  obtain ⟨σ, ok, hX, hM⟩ := hI
  refine wl_aload_n d_LW_law_509 rfl ?_
  refine wl_aload_n d_LW_law_510 rfl ?_
  refine wl_iload_n d_LW_law_511 rfl ?_
  refine wl_iconst (v := zI 1) d_LW_law_512 rfl ?_
  refine wlz_iadd d_LW_law_513 ?_
  refine wl_sld (j := i + 1) d_LW_law_514 (by omega) (by omega) (by omega) ?_
  refine wl_callV (cx_store ok hX (sc_in xs (i + 1))) d_LW_law_515 k_LW_64 (by decide) rfl rfl rfl rfl (Nat.le_of_ble_eq_true rfl) (by omega) ?_
  rintro _ h2 l2 ⟨rfl, hX2, e2⟩
  have hM2 := hM.far e2
  refine wl_aload_n d_LW_law_518 rfl ?_
  refine wl_aload_n d_LW_law_519 rfl ?_
  refine wl_iload_n d_LW_law_520 rfl ?_
  refine wl_iconst (v := zI 1) d_LW_law_521 rfl ?_
  refine wlz_iadd d_LW_law_522 ?_
  refine wl_sld (j := i + 1) d_LW_law_523 (by omega) (by omega) (by omega) ?_
  refine wl_callV (cm_store ok hM2 (sc_in xs (i + 1))) d_LW_law_524 k_LW_67 (by decide) rfl rfl rfl rfl (Nat.le_of_ble_eq_true rfl) (by omega) ?_
  rintro _ h3 l3 ⟨rfl, hM3, e3⟩
  have hX3 := hX2.far e3
  refine wl_icmp_eq (tgt := 1089) d_LW_law_527 (by decide) (fun _ => ?_) (fun h => absurd rfl h)
  exact K _ _ ⟨_, Ok_store ok _, hX3, hM3⟩
theorem lc_12 (hL : L ≤ 2560) (h5 : i + 5 ≤ L) (hI : Inv hi) (K : ∀ (h : HI) (l : HL), Inv h → Wl L xs 1089 [some (.ref 101), some (.ref 0), some (.ref 41), some (.int (zI i))] [] h l) : Wl L xs 532 [some (.ref 101), some (.ref 0), some (.ref 41), some (.int (zI i))] [] hi hl := by
  obtain ⟨σ, ok, hX, hM⟩ := hI
  refine wl_aload_n d_LW_law_532 rfl ?_
  refine wl_aload_n d_LW_law_533 rfl ?_
  refine wl_iload_n d_LW_law_534 rfl ?_
  refine wl_iconst (v := zI 1) d_LW_law_535 rfl ?_
  refine wlz_iadd d_LW_law_536 ?_
  refine wl_sld (j := i + 1) d_LW_law_537 (by omega) (by omega) (by omega) ?_
  refine wl_callV (cx_late ok hX (sc_in xs (i + 1))) d_LW_law_538 k_LW_68 (by decide) rfl rfl rfl rfl (Nat.le_of_ble_eq_true rfl) (by omega) ?_
  rintro _ h2 l2 ⟨rfl, hX2, e2⟩
  have hM2 := hM.far e2
  refine wl_aload_n d_LW_law_541 rfl ?_
  refine wl_aload_n d_LW_law_542 rfl ?_
  refine wl_iload_n d_LW_law_543 rfl ?_
  refine wl_iconst (v := zI 1) d_LW_law_544 rfl ?_
  refine wlz_iadd d_LW_law_545 ?_
  refine wl_sld (j := i + 1) d_LW_law_546 (by omega) (by omega) (by omega) ?_
  refine wl_callV (cm_late ok hM2 (sc_in xs (i + 1))) d_LW_law_547 k_LW_71 (by decide) rfl rfl rfl rfl (Nat.le_of_ble_eq_true rfl) (by omega) ?_
  rintro _ h3 l3 ⟨rfl, hM3, e3⟩
  have hX3 := hX2.far e3
  refine wl_icmp_eq (tgt := 1089) d_LW_law_550 (by decide) (fun _ => ?_) (fun h => absurd rfl h)
  exact K _ _ ⟨_, Ok_late ok _, hX3, hM3⟩
theorem lc_13 (hL : L ≤ 2560) (h5 : i + 5 ≤ L) (hI : Inv hi) (K : ∀ (h : HI) (l : HL), Inv h → Wl L xs 1089 [some (.ref 101), some (.ref 0), some (.ref 41), some (.int (zI i))] [] h l) : Wl L xs 555 [some (.ref 101), some (.ref 0), some (.ref 41), some (.int (zI i))] [] hi hl := by
  obtain ⟨σ, ok, hX, hM⟩ := hI
  refine wl_aload_n d_LW_law_555 rfl ?_
  refine wl_aload_n d_LW_law_556 rfl ?_
  refine wl_iload_n d_LW_law_557 rfl ?_
  refine wl_iconst (v := zI 1) d_LW_law_558 rfl ?_
  refine wlz_iadd d_LW_law_559 ?_
  refine wl_sld (j := i + 1) d_LW_law_560 (by omega) (by omega) (by omega) ?_
  refine wl_aload_n d_LW_law_561 rfl ?_
  refine wl_iload_n d_LW_law_562 rfl ?_
  refine wl_iconst (v := zI 2) d_LW_law_563 rfl ?_
  refine wlz_iadd d_LW_law_564 ?_
  refine wl_sld (j := i + 2) d_LW_law_565 (by omega) (by omega) (by omega) ?_
  refine wl_callV (cx_gives ok hX (sc_in xs (i + 1)) (sc_in xs (i + 2))) d_LW_law_566 k_LW_72 (by decide) rfl rfl rfl rfl (Nat.le_of_ble_eq_true rfl) (by omega) ?_
  rintro _ h2 l2 ⟨rfl, hX2, e2⟩
  have hM2 := hM.far e2
  refine wl_aload_n d_LW_law_569 rfl ?_
  refine wl_aload_n d_LW_law_570 rfl ?_
  refine wl_iload_n d_LW_law_571 rfl ?_
  refine wl_iconst (v := zI 1) d_LW_law_572 rfl ?_
  refine wlz_iadd d_LW_law_573 ?_
  refine wl_sld (j := i + 1) d_LW_law_574 (by omega) (by omega) (by omega) ?_
  refine wl_aload_n d_LW_law_575 rfl ?_
  refine wl_iload_n d_LW_law_576 rfl ?_
  refine wl_iconst (v := zI 2) d_LW_law_577 rfl ?_
  refine wlz_iadd d_LW_law_578 ?_
  refine wl_sld (j := i + 2) d_LW_law_579 (by omega) (by omega) (by omega) ?_
  refine wl_callV (cm_gives ok hM2 (sc_in xs (i + 1)) (sc_in xs (i + 2))) d_LW_law_580 k_LW_75 (by decide) rfl rfl rfl rfl (Nat.le_of_ble_eq_true rfl) (by omega) ?_
  rintro _ h3 l3 ⟨rfl, hM3, e3⟩
  have hX3 := hX2.far e3
  refine wl_icmp_eq (tgt := 1089) d_LW_law_583 (by decide) (fun _ => ?_) (fun h => absurd rfl h)
  exact K _ _ ⟨_, ok, hX3, hM3⟩
theorem lc_14 (hL : L ≤ 2560) (h5 : i + 5 ≤ L) (hI : Inv hi) (K : ∀ (h : HI) (l : HL), Inv h → Wl L xs 1089 [some (.ref 101), some (.ref 0), some (.ref 41), some (.int (zI i))] [] h l) : Wl L xs 588 [some (.ref 101), some (.ref 0), some (.ref 41), some (.int (zI i))] [] hi hl := by
  obtain ⟨σ, ok, hX, hM⟩ := hI
  refine wl_aload_n d_LW_law_588 rfl ?_
  refine wl_aload_n d_LW_law_589 rfl ?_
  refine wl_iload_n d_LW_law_590 rfl ?_
  refine wl_iconst (v := zI 1) d_LW_law_591 rfl ?_
  refine wlz_iadd d_LW_law_592 ?_
  refine wl_sld (j := i + 1) d_LW_law_593 (by omega) (by omega) (by omega) ?_
  refine wl_aload_n d_LW_law_594 rfl ?_
  refine wl_iload_n d_LW_law_595 rfl ?_
  refine wl_iconst (v := zI 2) d_LW_law_596 rfl ?_
  refine wlz_iadd d_LW_law_597 ?_
  refine wl_sld (j := i + 2) d_LW_law_598 (by omega) (by omega) (by omega) ?_
  refine wl_callV (cx_air ok hX (sc_in xs (i + 1)) (sc_in xs (i + 2))) d_LW_law_599 k_LW_76 (by decide) rfl rfl rfl rfl (Nat.le_of_ble_eq_true rfl) (by omega) ?_
  rintro _ h2 l2 ⟨rfl, hX2, e2⟩
  have hM2 := hM.far e2
  refine wl_aload_n d_LW_law_602 rfl ?_
  refine wl_aload_n d_LW_law_603 rfl ?_
  refine wl_iload_n d_LW_law_604 rfl ?_
  refine wl_iconst (v := zI 1) d_LW_law_605 rfl ?_
  refine wlz_iadd d_LW_law_606 ?_
  refine wl_sld (j := i + 1) d_LW_law_607 (by omega) (by omega) (by omega) ?_
  refine wl_aload_n d_LW_law_608 rfl ?_
  refine wl_iload_n d_LW_law_609 rfl ?_
  refine wl_iconst (v := zI 2) d_LW_law_610 rfl ?_
  refine wlz_iadd d_LW_law_611 ?_
  refine wl_sld (j := i + 2) d_LW_law_612 (by omega) (by omega) (by omega) ?_
  refine wl_callV (cm_air ok hM2 (sc_in xs (i + 1)) (sc_in xs (i + 2))) d_LW_law_613 k_LW_79 (by decide) rfl rfl rfl rfl (Nat.le_of_ble_eq_true rfl) (by omega) ?_
  rintro _ h3 l3 ⟨rfl, hM3, e3⟩
  have hX3 := hX2.far e3
  refine wl_icmp_eq (tgt := 1089) d_LW_law_616 (by decide) (fun _ => ?_) (fun h => absurd rfl h)
  exact K _ _ ⟨_, ok, hX3, hM3⟩
theorem lc_15 (hL : L ≤ 2560) (h5 : i + 5 ≤ L) (hI : Inv hi) (K : ∀ (h : HI) (l : HL), Inv h → Wl L xs 1089 [some (.ref 101), some (.ref 0), some (.ref 41), some (.int (zI i))] [] h l) : Wl L xs 621 [some (.ref 101), some (.ref 0), some (.ref 41), some (.int (zI i))] [] hi hl := by
  obtain ⟨σ, ok, hX, hM⟩ := hI
  refine wl_aload_n d_LW_law_621 rfl ?_
  refine wl_aload_n d_LW_law_622 rfl ?_
  refine wl_iload_n d_LW_law_623 rfl ?_
  refine wl_iconst (v := zI 1) d_LW_law_624 rfl ?_
  refine wlz_iadd d_LW_law_625 ?_
  refine wl_sld (j := i + 1) d_LW_law_626 (by omega) (by omega) (by omega) ?_
  refine wl_aload_n d_LW_law_627 rfl ?_
  refine wl_iload_n d_LW_law_628 rfl ?_
  refine wl_iconst (v := zI 2) d_LW_law_629 rfl ?_
  refine wlz_iadd d_LW_law_630 ?_
  refine wl_sld (j := i + 2) d_LW_law_631 (by omega) (by omega) (by omega) ?_
  refine wl_callV (cx_stored ok hX (sc_in xs (i + 1)) (sc_in xs (i + 2))) d_LW_law_632 k_LW_80 (by decide) rfl rfl rfl rfl (Nat.le_of_ble_eq_true rfl) (by omega) ?_
  rintro _ h2 l2 ⟨rfl, hX2, e2⟩
  have hM2 := hM.far e2
  refine wl_aload_n d_LW_law_635 rfl ?_
  refine wl_aload_n d_LW_law_636 rfl ?_
  refine wl_iload_n d_LW_law_637 rfl ?_
  refine wl_iconst (v := zI 1) d_LW_law_638 rfl ?_
  refine wlz_iadd d_LW_law_639 ?_
  refine wl_sld (j := i + 1) d_LW_law_640 (by omega) (by omega) (by omega) ?_
  refine wl_aload_n d_LW_law_641 rfl ?_
  refine wl_iload_n d_LW_law_642 rfl ?_
  refine wl_iconst (v := zI 2) d_LW_law_643 rfl ?_
  refine wlz_iadd d_LW_law_644 ?_
  refine wl_sld (j := i + 2) d_LW_law_645 (by omega) (by omega) (by omega) ?_
  refine wl_callV (cm_stored ok hM2 (sc_in xs (i + 1)) (sc_in xs (i + 2))) d_LW_law_646 k_LW_83 (by decide) rfl rfl rfl rfl (Nat.le_of_ble_eq_true rfl) (by omega) ?_
  rintro _ h3 l3 ⟨rfl, hM3, e3⟩
  have hX3 := hX2.far e3
  refine wl_icmp_eq (tgt := 1089) d_LW_law_649 (by decide) (fun _ => ?_) (fun h => absurd rfl h)
  exact K _ _ ⟨_, ok, hX3, hM3⟩
theorem lc_16 (hL : L ≤ 2560) (h5 : i + 5 ≤ L) (hI : Inv hi) (K : ∀ (h : HI) (l : HL), Inv h → Wl L xs 1089 [some (.ref 101), some (.ref 0), some (.ref 41), some (.int (zI i))] [] h l) : Wl L xs 654 [some (.ref 101), some (.ref 0), some (.ref 41), some (.int (zI i))] [] hi hl := by
  obtain ⟨σ, ok, hX, hM⟩ := hI
  refine wl_aload_n d_LW_law_654 rfl ?_
  refine wl_aload_n d_LW_law_655 rfl ?_
  refine wl_iload_n d_LW_law_656 rfl ?_
  refine wl_iconst (v := zI 1) d_LW_law_657 rfl ?_
  refine wlz_iadd d_LW_law_658 ?_
  refine wl_sld (j := i + 1) d_LW_law_659 (by omega) (by omega) (by omega) ?_
  refine wl_aload_n d_LW_law_660 rfl ?_
  refine wl_iload_n d_LW_law_661 rfl ?_
  refine wl_iconst (v := zI 2) d_LW_law_662 rfl ?_
  refine wlz_iadd d_LW_law_663 ?_
  refine wl_sld (j := i + 2) d_LW_law_664 (by omega) (by omega) (by omega) ?_
  refine wl_callV (cx_sags ok hX (sc_in xs (i + 1)) (sc_in xs (i + 2))) d_LW_law_665 k_LW_84 (by decide) rfl rfl rfl rfl (Nat.le_of_ble_eq_true rfl) (by omega) ?_
  rintro _ h2 l2 ⟨rfl, hX2, e2⟩
  have hM2 := hM.far e2
  refine wl_aload_n d_LW_law_668 rfl ?_
  refine wl_aload_n d_LW_law_669 rfl ?_
  refine wl_iload_n d_LW_law_670 rfl ?_
  refine wl_iconst (v := zI 1) d_LW_law_671 rfl ?_
  refine wlz_iadd d_LW_law_672 ?_
  refine wl_sld (j := i + 1) d_LW_law_673 (by omega) (by omega) (by omega) ?_
  refine wl_aload_n d_LW_law_674 rfl ?_
  refine wl_iload_n d_LW_law_675 rfl ?_
  refine wl_iconst (v := zI 2) d_LW_law_676 rfl ?_
  refine wlz_iadd d_LW_law_677 ?_
  refine wl_sld (j := i + 2) d_LW_law_678 (by omega) (by omega) (by omega) ?_
  refine wl_callV (cm_sags ok hM2 (sc_in xs (i + 1)) (sc_in xs (i + 2))) d_LW_law_679 k_LW_87 (by decide) rfl rfl rfl rfl (Nat.le_of_ble_eq_true rfl) (by omega) ?_
  rintro _ h3 l3 ⟨rfl, hM3, e3⟩
  have hX3 := hX2.far e3
  refine wl_icmp_eq (tgt := 1089) d_LW_law_682 (by decide) (fun _ => ?_) (fun h => absurd rfl h)
  exact K _ _ ⟨_, ok, hX3, hM3⟩
theorem lc_17 (hL : L ≤ 2560) (h5 : i + 5 ≤ L) (hI : Inv hi) (K : ∀ (h : HI) (l : HL), Inv h → Wl L xs 1089 [some (.ref 101), some (.ref 0), some (.ref 41), some (.int (zI i))] [] h l) : Wl L xs 687 [some (.ref 101), some (.ref 0), some (.ref 41), some (.int (zI i))] [] hi hl := by
  obtain ⟨σ, ok, hX, hM⟩ := hI
  refine wl_aload_n d_LW_law_687 rfl ?_
  refine wl_callV (cx_total ok hX ) d_LW_law_688 k_LW_88 (by decide) rfl rfl rfl rfl (Nat.le_of_ble_eq_true rfl) (by omega) ?_
  rintro _ h2 l2 ⟨rfl, hX2, e2⟩
  have hM2 := hM.far e2
  refine wl_aload_n d_LW_law_691 rfl ?_
  refine wl_callV (cm_total ok hM2 ) d_LW_law_692 k_LW_91 (by decide) rfl rfl rfl rfl (Nat.le_of_ble_eq_true rfl) (by omega) ?_
  rintro _ h3 l3 ⟨rfl, hM3, e3⟩
  have hX3 := hX2.far e3
  refine wl_icmp_eq (tgt := 1089) d_LW_law_695 (by decide) (fun _ => ?_) (fun h => absurd rfl h)
  exact K _ _ ⟨_, ok, hX3, hM3⟩
theorem lc_18 (hL : L ≤ 2560) (h5 : i + 5 ≤ L) (hI : Inv hi) (K : ∀ (h : HI) (l : HL), Inv h → Wl L xs 1089 [some (.ref 101), some (.ref 0), some (.ref 41), some (.int (zI i))] [] h l) : Wl L xs 700 [some (.ref 101), some (.ref 0), some (.ref 41), some (.int (zI i))] [] hi hl := by
  obtain ⟨σ, ok, hX, hM⟩ := hI
  refine wl_aload_n d_LW_law_700 rfl ?_
  refine wl_callV (cx_first ok hX ) d_LW_law_701 k_LW_92 (by decide) rfl rfl rfl rfl (Nat.le_of_ble_eq_true rfl) (by omega) ?_
  rintro _ h2 l2 ⟨rfl, hX2, e2⟩
  have hM2 := hM.far e2
  refine wl_aload_n d_LW_law_704 rfl ?_
  refine wl_callV (cm_first ok hM2 ) d_LW_law_705 k_LW_95 (by decide) rfl rfl rfl rfl (Nat.le_of_ble_eq_true rfl) (by omega) ?_
  rintro _ h3 l3 ⟨rfl, hM3, e3⟩
  have hX3 := hX2.far e3
  refine wl_icmp_eq (tgt := 1089) d_LW_law_708 (by decide) (fun _ => ?_) (fun h => absurd rfl h)
  exact K _ _ ⟨_, ok, hX3, hM3⟩
theorem lc_19 (hL : L ≤ 2560) (h5 : i + 5 ≤ L) (hI : Inv hi) (K : ∀ (h : HI) (l : HL), Inv h → Wl L xs 1089 [some (.ref 101), some (.ref 0), some (.ref 41), some (.int (zI i))] [] h l) : Wl L xs 713 [some (.ref 101), some (.ref 0), some (.ref 41), some (.int (zI i))] [] hi hl := by
  obtain ⟨σ, ok, hX, hM⟩ := hI
  refine wl_aload_n d_LW_law_713 rfl ?_
  refine wl_callV (cx_worst ok hX ) d_LW_law_714 k_LW_96 (by decide) rfl rfl rfl rfl (Nat.le_of_ble_eq_true rfl) (by omega) ?_
  rintro _ h2 l2 ⟨rfl, hX2, e2⟩
  have hM2 := hM.far e2
  refine wl_aload_n d_LW_law_717 rfl ?_
  refine wl_callV (cm_worst ok hM2 ) d_LW_law_718 k_LW_99 (by decide) rfl rfl rfl rfl (Nat.le_of_ble_eq_true rfl) (by omega) ?_
  rintro _ h3 l3 ⟨rfl, hM3, e3⟩
  have hX3 := hX2.far e3
  refine wl_icmp_eq (tgt := 1089) d_LW_law_721 (by decide) (fun _ => ?_) (fun h => absurd rfl h)
  exact K _ _ ⟨_, ok, hX3, hM3⟩
theorem lc_20 (hL : L ≤ 2560) (h5 : i + 5 ≤ L) (hI : Inv hi) (K : ∀ (h : HI) (l : HL), Inv h → Wl L xs 1089 [some (.ref 101), some (.ref 0), some (.ref 41), some (.int (zI i))] [] h l) : Wl L xs 726 [some (.ref 101), some (.ref 0), some (.ref 41), some (.int (zI i))] [] hi hl := by
  obtain ⟨σ, ok, hX, hM⟩ := hI
  refine wl_aload_n d_LW_law_726 rfl ?_
  refine wl_callV (cx_bestLate ok hX ) d_LW_law_727 k_LW_100 (by decide) rfl rfl rfl rfl (Nat.le_of_ble_eq_true rfl) (by omega) ?_
  rintro _ h2 l2 ⟨rfl, hX2, e2⟩
  have hM2 := hM.far e2
  refine wl_aload_n d_LW_law_730 rfl ?_
  refine wl_callV (cm_bestLate ok hM2 ) d_LW_law_731 k_LW_103 (by decide) rfl rfl rfl rfl (Nat.le_of_ble_eq_true rfl) (by omega) ?_
  rintro _ h3 l3 ⟨rfl, hM3, e3⟩
  have hX3 := hX2.far e3
  refine wl_icmp_eq (tgt := 1089) d_LW_law_734 (by decide) (fun _ => ?_) (fun h => absurd rfl h)
  exact K _ _ ⟨_, ok, hX3, hM3⟩
theorem lc_21 (hL : L ≤ 2560) (h5 : i + 5 ≤ L) (hI : Inv hi) (K : ∀ (h : HI) (l : HL), Inv h → Wl L xs 1089 [some (.ref 101), some (.ref 0), some (.ref 41), some (.int (zI i))] [] h l) : Wl L xs 739 [some (.ref 101), some (.ref 0), some (.ref 41), some (.int (zI i))] [] hi hl := by
  obtain ⟨σ, ok, hX, hM⟩ := hI
  refine wl_aload_n d_LW_law_739 rfl ?_
  refine wl_aload_n d_LW_law_740 rfl ?_
  refine wl_iload_n d_LW_law_741 rfl ?_
  refine wl_iconst (v := zI 1) d_LW_law_742 rfl ?_
  refine wlz_iadd d_LW_law_743 ?_
  refine wl_sld (j := i + 1) d_LW_law_744 (by omega) (by omega) (by omega) ?_
  refine wl_callV (cx_phases ok hX (sc_in xs (i + 1))) d_LW_law_745 k_LW_104 (by decide) rfl rfl rfl rfl (Nat.le_of_ble_eq_true rfl) (by omega) ?_
  rintro _ h2 l2 ⟨rfl, hX2, e2⟩
  have hM2 := hM.far e2
  refine wl_aload_n d_LW_law_748 rfl ?_
  refine wl_aload_n d_LW_law_749 rfl ?_
  refine wl_iload_n d_LW_law_750 rfl ?_
  refine wl_iconst (v := zI 1) d_LW_law_751 rfl ?_
  refine wlz_iadd d_LW_law_752 ?_
  refine wl_sld (j := i + 1) d_LW_law_753 (by omega) (by omega) (by omega) ?_
  refine wl_callV (cm_phases ok hM2 (sc_in xs (i + 1))) d_LW_law_754 k_LW_107 (by decide) rfl rfl rfl rfl (Nat.le_of_ble_eq_true rfl) (by omega) ?_
  rintro _ h3 l3 ⟨rfl, hM3, e3⟩
  have hX3 := hX2.far e3
  refine wl_icmp_eq (tgt := 1089) d_LW_law_757 (by decide) (fun _ => ?_) (fun h => absurd rfl h)
  exact K _ _ ⟨_, ok, hX3, hM3⟩
theorem lc_22 (hL : L ≤ 2560) (h5 : i + 5 ≤ L) (hI : Inv hi) (K : ∀ (h : HI) (l : HL), Inv h → Wl L xs 1089 [some (.ref 101), some (.ref 0), some (.ref 41), some (.int (zI i))] [] h l) : Wl L xs 762 [some (.ref 101), some (.ref 0), some (.ref 41), some (.int (zI i))] [] hi hl := by
  obtain ⟨σ, ok, hX, hM⟩ := hI
  refine wl_aload_n d_LW_law_762 rfl ?_
  refine wl_aload_n d_LW_law_763 rfl ?_
  refine wl_iload_n d_LW_law_764 rfl ?_
  refine wl_iconst (v := zI 1) d_LW_law_765 rfl ?_
  refine wlz_iadd d_LW_law_766 ?_
  refine wl_sld (j := i + 1) d_LW_law_767 (by omega) (by omega) (by omega) ?_
  refine wl_aload_n d_LW_law_768 rfl ?_
  refine wl_iload_n d_LW_law_769 rfl ?_
  refine wl_iconst (v := zI 2) d_LW_law_770 rfl ?_
  refine wlz_iadd d_LW_law_771 ?_
  refine wl_sld (j := i + 2) d_LW_law_772 (by omega) (by omega) (by omega) ?_
  refine wl_callV (cx_phaseAt ok hX (sc_in xs (i + 1)) (sc_in xs (i + 2))) d_LW_law_773 k_LW_108 (by decide) rfl rfl rfl rfl (Nat.le_of_ble_eq_true rfl) (by omega) ?_
  rintro _ h2 l2 ⟨rfl, hX2, e2⟩
  have hM2 := hM.far e2
  refine wl_aload_n d_LW_law_776 rfl ?_
  refine wl_aload_n d_LW_law_777 rfl ?_
  refine wl_iload_n d_LW_law_778 rfl ?_
  refine wl_iconst (v := zI 1) d_LW_law_779 rfl ?_
  refine wlz_iadd d_LW_law_780 ?_
  refine wl_sld (j := i + 1) d_LW_law_781 (by omega) (by omega) (by omega) ?_
  refine wl_aload_n d_LW_law_782 rfl ?_
  refine wl_iload_n d_LW_law_783 rfl ?_
  refine wl_iconst (v := zI 2) d_LW_law_784 rfl ?_
  refine wlz_iadd d_LW_law_785 ?_
  refine wl_sld (j := i + 2) d_LW_law_786 (by omega) (by omega) (by omega) ?_
  refine wl_callV (cm_phaseAt ok hM2 (sc_in xs (i + 1)) (sc_in xs (i + 2))) d_LW_law_787 k_LW_111 (by decide) rfl rfl rfl rfl (Nat.le_of_ble_eq_true rfl) (by omega) ?_
  rintro _ h3 l3 ⟨rfl, hM3, e3⟩
  have hX3 := hX2.far e3
  refine wl_icmp_eq (tgt := 1089) d_LW_law_790 (by decide) (fun _ => ?_) (fun h => absurd rfl h)
  exact K _ _ ⟨_, ok, hX3, hM3⟩
theorem lc_23 (hL : L ≤ 2560) (h5 : i + 5 ≤ L) (hI : Inv hi) (K : ∀ (h : HI) (l : HL), Inv h → Wl L xs 1089 [some (.ref 101), some (.ref 0), some (.ref 41), some (.int (zI i))] [] h l) : Wl L xs 795 [some (.ref 101), some (.ref 0), some (.ref 41), some (.int (zI i))] [] hi hl := by
  obtain ⟨σ, ok, hX, hM⟩ := hI
  refine wl_aload_n d_LW_law_795 rfl ?_
  refine wl_callV (cx_seats ok hX ) d_LW_law_796 k_LW_112 (by decide) rfl rfl rfl rfl (Nat.le_of_ble_eq_true rfl) (by omega) ?_
  rintro _ h2 l2 ⟨rfl, hX2, e2⟩
  have hM2 := hM.far e2
  refine wl_aload_n d_LW_law_799 rfl ?_
  refine wl_callV (cm_seats ok hM2 ) d_LW_law_800 k_LW_115 (by decide) rfl rfl rfl rfl (Nat.le_of_ble_eq_true rfl) (by omega) ?_
  rintro _ h3 l3 ⟨rfl, hM3, e3⟩
  have hX3 := hX2.far e3
  refine wl_icmp_eq (tgt := 1089) d_LW_law_803 (by decide) (fun _ => ?_) (fun h => absurd rfl h)
  exact K _ _ ⟨_, ok, hX3, hM3⟩
theorem lc_24 (hL : L ≤ 2560) (h5 : i + 5 ≤ L) (hI : Inv hi) (K : ∀ (h : HI) (l : HL), Inv h → Wl L xs 1089 [some (.ref 101), some (.ref 0), some (.ref 41), some (.int (zI i))] [] h l) : Wl L xs 808 [some (.ref 101), some (.ref 0), some (.ref 41), some (.int (zI i))] [] hi hl := by
  obtain ⟨σ, ok, hX, hM⟩ := hI
  refine wl_aload_n d_LW_law_808 rfl ?_
  refine wl_aload_n d_LW_law_809 rfl ?_
  refine wl_iload_n d_LW_law_810 rfl ?_
  refine wl_iconst (v := zI 1) d_LW_law_811 rfl ?_
  refine wlz_iadd d_LW_law_812 ?_
  refine wl_sld (j := i + 1) d_LW_law_813 (by omega) (by omega) (by omega) ?_
  refine wl_callV (cx_seatAt ok hX (sc_in xs (i + 1))) d_LW_law_814 k_LW_116 (by decide) rfl rfl rfl rfl (Nat.le_of_ble_eq_true rfl) (by omega) ?_
  rintro _ h2 l2 ⟨rfl, hX2, e2⟩
  have hM2 := hM.far e2
  refine wl_aload_n d_LW_law_817 rfl ?_
  refine wl_aload_n d_LW_law_818 rfl ?_
  refine wl_iload_n d_LW_law_819 rfl ?_
  refine wl_iconst (v := zI 1) d_LW_law_820 rfl ?_
  refine wlz_iadd d_LW_law_821 ?_
  refine wl_sld (j := i + 1) d_LW_law_822 (by omega) (by omega) (by omega) ?_
  refine wl_callV (cm_seatAt ok hM2 (sc_in xs (i + 1))) d_LW_law_823 k_LW_119 (by decide) rfl rfl rfl rfl (Nat.le_of_ble_eq_true rfl) (by omega) ?_
  rintro _ h3 l3 ⟨rfl, hM3, e3⟩
  have hX3 := hX2.far e3
  refine wl_icmp_eq (tgt := 1089) d_LW_law_826 (by decide) (fun _ => ?_) (fun h => absurd rfl h)
  exact K _ _ ⟨_, ok, hX3, hM3⟩
theorem lc_25 (hL : L ≤ 2560) (h5 : i + 5 ≤ L) (hI : Inv hi) (K : ∀ (h : HI) (l : HL), Inv h → Wl L xs 1089 [some (.ref 101), some (.ref 0), some (.ref 41), some (.int (zI i))] [] h l) : Wl L xs 831 [some (.ref 101), some (.ref 0), some (.ref 41), some (.int (zI i))] [] hi hl := by
  obtain ⟨σ, ok, hX, hM⟩ := hI
  refine wl_aload_n d_LW_law_831 rfl ?_
  refine wl_callV (cx_bribes ok hX ) d_LW_law_832 k_LW_120 (by decide) rfl rfl rfl rfl (Nat.le_of_ble_eq_true rfl) (by omega) ?_
  rintro _ h2 l2 ⟨rfl, hX2, e2⟩
  have hM2 := hM.far e2
  refine wl_aload_n d_LW_law_835 rfl ?_
  refine wl_callV (cm_bribes ok hM2 ) d_LW_law_836 k_LW_123 (by decide) rfl rfl rfl rfl (Nat.le_of_ble_eq_true rfl) (by omega) ?_
  rintro _ h3 l3 ⟨rfl, hM3, e3⟩
  have hX3 := hX2.far e3
  refine wl_icmp_eq (tgt := 1089) d_LW_law_839 (by decide) (fun _ => ?_) (fun h => absurd rfl h)
  exact K _ _ ⟨_, ok, hX3, hM3⟩
theorem lc_26 (hL : L ≤ 2560) (h5 : i + 5 ≤ L) (hI : Inv hi) (K : ∀ (h : HI) (l : HL), Inv h → Wl L xs 1089 [some (.ref 101), some (.ref 0), some (.ref 41), some (.int (zI i))] [] h l) : Wl L xs 844 [some (.ref 101), some (.ref 0), some (.ref 41), some (.int (zI i))] [] hi hl := by
  obtain ⟨σ, ok, hX, hM⟩ := hI
  refine wl_aload_n d_LW_law_844 rfl ?_
  refine wl_aload_n d_LW_law_845 rfl ?_
  refine wl_iload_n d_LW_law_846 rfl ?_
  refine wl_iconst (v := zI 1) d_LW_law_847 rfl ?_
  refine wlz_iadd d_LW_law_848 ?_
  refine wl_sld (j := i + 1) d_LW_law_849 (by omega) (by omega) (by omega) ?_
  refine wl_callV (cx_needed ok hX (sc_in xs (i + 1))) d_LW_law_850 k_LW_124 (by decide) rfl rfl rfl rfl (Nat.le_of_ble_eq_true rfl) (by omega) ?_
  rintro _ h2 l2 ⟨rfl, hX2, e2⟩
  have hM2 := hM.far e2
  refine wl_aload_n d_LW_law_853 rfl ?_
  refine wl_aload_n d_LW_law_854 rfl ?_
  refine wl_iload_n d_LW_law_855 rfl ?_
  refine wl_iconst (v := zI 1) d_LW_law_856 rfl ?_
  refine wlz_iadd d_LW_law_857 ?_
  refine wl_sld (j := i + 1) d_LW_law_858 (by omega) (by omega) (by omega) ?_
  refine wl_callV (cm_needed ok hM2 (sc_in xs (i + 1))) d_LW_law_859 k_LW_127 (by decide) rfl rfl rfl rfl (Nat.le_of_ble_eq_true rfl) (by omega) ?_
  rintro _ h3 l3 ⟨rfl, hM3, e3⟩
  have hX3 := hX2.far e3
  refine wl_icmp_eq (tgt := 1089) d_LW_law_862 (by decide) (fun _ => ?_) (fun h => absurd rfl h)
  exact K _ _ ⟨_, ok, hX3, hM3⟩
theorem lc_27 (hL : L ≤ 2560) (h5 : i + 5 ≤ L) (hI : Inv hi) (K : ∀ (h : HI) (l : HL), Inv h → Wl L xs 1089 [some (.ref 101), some (.ref 0), some (.ref 41), some (.int (zI i))] [] h l) : Wl L xs 867 [some (.ref 101), some (.ref 0), some (.ref 41), some (.int (zI i))] [] hi hl := by
  obtain ⟨σ, ok, hX, hM⟩ := hI
  refine wl_aload_n d_LW_law_867 rfl ?_
  refine wl_callV (cx_never ok hX ) d_LW_law_868 k_LW_128 (by decide) rfl rfl rfl rfl (Nat.le_of_ble_eq_true rfl) (by omega) ?_
  rintro _ h2 l2 ⟨rfl, hX2, e2⟩
  have hM2 := hM.far e2
  refine wl_aload_n d_LW_law_871 rfl ?_
  refine wl_callV (cm_never ok hM2 ) d_LW_law_872 k_LW_131 (by decide) rfl rfl rfl rfl (Nat.le_of_ble_eq_true rfl) (by omega) ?_
  rintro _ h3 l3 ⟨rfl, hM3, e3⟩
  have hX3 := hX2.far e3
  refine wl_icmp_eq (tgt := 1089) d_LW_law_875 (by decide) (fun _ => ?_) (fun h => absurd rfl h)
  exact K _ _ ⟨_, ok, hX3, hM3⟩
theorem lc_28 (hL : L ≤ 2560) (h5 : i + 5 ≤ L) (hI : Inv hi) (K : ∀ (h : HI) (l : HL), Inv h → Wl L xs 1089 [some (.ref 101), some (.ref 0), some (.ref 41), some (.int (zI i))] [] h l) : Wl L xs 880 [some (.ref 101), some (.ref 0), some (.ref 41), some (.int (zI i))] [] hi hl := by
  obtain ⟨σ, ok, hX, hM⟩ := hI
  by_cases hz : sc xs (i + 4) = 0
  · refine wl_aload_n d_LW_law_880 rfl ?_
    refine wl_aload_n d_LW_law_881 rfl ?_
    refine wl_iload_n d_LW_law_882 rfl ?_
    refine wl_iconst (v := zI 1) d_LW_law_883 rfl ?_
    refine wlz_iadd d_LW_law_884 ?_
    refine wl_sld (j := i + 1) d_LW_law_885 (by omega) (by omega) (by omega) ?_
    refine wl_aload_n d_LW_law_886 rfl ?_
    refine wl_iload_n d_LW_law_887 rfl ?_
    refine wl_iconst (v := zI 2) d_LW_law_888 rfl ?_
    refine wlz_iadd d_LW_law_889 ?_
    refine wl_sld (j := i + 2) d_LW_law_890 (by omega) (by omega) (by omega) ?_
    refine wl_aload_n d_LW_law_891 rfl ?_
    refine wl_iload_n d_LW_law_892 rfl ?_
    refine wl_iconst (v := zI 3) d_LW_law_893 rfl ?_
    refine wlz_iadd d_LW_law_894 ?_
    refine wl_sld (j := i + 3) d_LW_law_895 (by omega) (by omega) (by omega) ?_
    refine wl_aload_n d_LW_law_896 rfl ?_
    refine wl_iload_n d_LW_law_897 rfl ?_
    refine wl_iconst (v := zI 4) d_LW_law_898 rfl ?_
    refine wlz_iadd d_LW_law_899 ?_
    refine wl_sld (j := i + 4) d_LW_law_900 (by omega) (by omega) (by omega) ?_
    refine wlz_if_eq (tgt := 908) d_LW_law_901 (by decide) (sc_in xs _) (fun _ => ?_) (fun h => absurd hz h)
    refine wl_iconst (v := zI ((0 : Nat) : Int)) d_LW_law_908 rfl ?_
    refine wl_callV (cx_steady (u := 0) ok hX (sc_in xs (i + 1)) (sc_in xs (i + 2)) (sc_in xs (i + 3)) (by omega)) d_LW_law_909 k_LW_132 (by decide) rfl rfl rfl rfl (Nat.le_of_ble_eq_true rfl) (by omega) ?_
    rintro _ h2 l2 ⟨rfl, hX2, e2⟩
    have hM2 := hM.far e2
    refine wl_aload_n d_LW_law_912 rfl ?_
    refine wl_aload_n d_LW_law_913 rfl ?_
    refine wl_iload_n d_LW_law_914 rfl ?_
    refine wl_iconst (v := zI 1) d_LW_law_915 rfl ?_
    refine wlz_iadd d_LW_law_916 ?_
    refine wl_sld (j := i + 1) d_LW_law_917 (by omega) (by omega) (by omega) ?_
    refine wl_aload_n d_LW_law_918 rfl ?_
    refine wl_iload_n d_LW_law_919 rfl ?_
    refine wl_iconst (v := zI 2) d_LW_law_920 rfl ?_
    refine wlz_iadd d_LW_law_921 ?_
    refine wl_sld (j := i + 2) d_LW_law_922 (by omega) (by omega) (by omega) ?_
    refine wl_aload_n d_LW_law_923 rfl ?_
    refine wl_iload_n d_LW_law_924 rfl ?_
    refine wl_iconst (v := zI 3) d_LW_law_925 rfl ?_
    refine wlz_iadd d_LW_law_926 ?_
    refine wl_sld (j := i + 3) d_LW_law_927 (by omega) (by omega) (by omega) ?_
    refine wl_aload_n d_LW_law_928 rfl ?_
    refine wl_iload_n d_LW_law_929 rfl ?_
    refine wl_iconst (v := zI 4) d_LW_law_930 rfl ?_
    refine wlz_iadd d_LW_law_931 ?_
    refine wl_sld (j := i + 4) d_LW_law_932 (by omega) (by omega) (by omega) ?_
    refine wlz_if_eq (tgt := 940) d_LW_law_933 (by decide) (sc_in xs _) (fun _ => ?_) (fun h => absurd hz h)
    refine wl_iconst (v := zI ((0 : Nat) : Int)) d_LW_law_940 rfl ?_
    refine wl_callV (cm_steady (u := 0) ok hM2 (sc_in xs (i + 1)) (sc_in xs (i + 2)) (sc_in xs (i + 3)) (by omega)) d_LW_law_941 k_LW_136 (by decide) rfl rfl rfl rfl (Nat.le_of_ble_eq_true rfl) (by omega) ?_
    rintro _ h3 l3 ⟨rfl, hM3, e3⟩
    have hX3 := hX2.far e3
    refine wl_lcmp d_LW_law_944 ?_
    refine wl_if_eq (tgt := 1089) d_LW_law_945 (by decide) (fun _ => ?_) (fun h => absurd (cmp_self _) h)
    exact K _ _ ⟨_, ok, hX3, hM3⟩
  · refine wl_aload_n d_LW_law_880 rfl ?_
    refine wl_aload_n d_LW_law_881 rfl ?_
    refine wl_iload_n d_LW_law_882 rfl ?_
    refine wl_iconst (v := zI 1) d_LW_law_883 rfl ?_
    refine wlz_iadd d_LW_law_884 ?_
    refine wl_sld (j := i + 1) d_LW_law_885 (by omega) (by omega) (by omega) ?_
    refine wl_aload_n d_LW_law_886 rfl ?_
    refine wl_iload_n d_LW_law_887 rfl ?_
    refine wl_iconst (v := zI 2) d_LW_law_888 rfl ?_
    refine wlz_iadd d_LW_law_889 ?_
    refine wl_sld (j := i + 2) d_LW_law_890 (by omega) (by omega) (by omega) ?_
    refine wl_aload_n d_LW_law_891 rfl ?_
    refine wl_iload_n d_LW_law_892 rfl ?_
    refine wl_iconst (v := zI 3) d_LW_law_893 rfl ?_
    refine wlz_iadd d_LW_law_894 ?_
    refine wl_sld (j := i + 3) d_LW_law_895 (by omega) (by omega) (by omega) ?_
    refine wl_aload_n d_LW_law_896 rfl ?_
    refine wl_iload_n d_LW_law_897 rfl ?_
    refine wl_iconst (v := zI 4) d_LW_law_898 rfl ?_
    refine wlz_iadd d_LW_law_899 ?_
    refine wl_sld (j := i + 4) d_LW_law_900 (by omega) (by omega) (by omega) ?_
    refine wlz_if_eq (tgt := 908) d_LW_law_901 (by decide) (sc_in xs _) (fun h => absurd h hz) (fun _ => ?_)
    refine wl_iconst (v := zI ((1 : Nat) : Int)) d_LW_law_904 rfl ?_
    refine wl_goto (tgt := 909) d_LW_law_905 (by decide) ?_
    refine wl_callV (cx_steady (u := 1) ok hX (sc_in xs (i + 1)) (sc_in xs (i + 2)) (sc_in xs (i + 3)) (by omega)) d_LW_law_909 k_LW_132 (by decide) rfl rfl rfl rfl (Nat.le_of_ble_eq_true rfl) (by omega) ?_
    rintro _ h2 l2 ⟨rfl, hX2, e2⟩
    have hM2 := hM.far e2
    refine wl_aload_n d_LW_law_912 rfl ?_
    refine wl_aload_n d_LW_law_913 rfl ?_
    refine wl_iload_n d_LW_law_914 rfl ?_
    refine wl_iconst (v := zI 1) d_LW_law_915 rfl ?_
    refine wlz_iadd d_LW_law_916 ?_
    refine wl_sld (j := i + 1) d_LW_law_917 (by omega) (by omega) (by omega) ?_
    refine wl_aload_n d_LW_law_918 rfl ?_
    refine wl_iload_n d_LW_law_919 rfl ?_
    refine wl_iconst (v := zI 2) d_LW_law_920 rfl ?_
    refine wlz_iadd d_LW_law_921 ?_
    refine wl_sld (j := i + 2) d_LW_law_922 (by omega) (by omega) (by omega) ?_
    refine wl_aload_n d_LW_law_923 rfl ?_
    refine wl_iload_n d_LW_law_924 rfl ?_
    refine wl_iconst (v := zI 3) d_LW_law_925 rfl ?_
    refine wlz_iadd d_LW_law_926 ?_
    refine wl_sld (j := i + 3) d_LW_law_927 (by omega) (by omega) (by omega) ?_
    refine wl_aload_n d_LW_law_928 rfl ?_
    refine wl_iload_n d_LW_law_929 rfl ?_
    refine wl_iconst (v := zI 4) d_LW_law_930 rfl ?_
    refine wlz_iadd d_LW_law_931 ?_
    refine wl_sld (j := i + 4) d_LW_law_932 (by omega) (by omega) (by omega) ?_
    refine wlz_if_eq (tgt := 940) d_LW_law_933 (by decide) (sc_in xs _) (fun h => absurd h hz) (fun _ => ?_)
    refine wl_iconst (v := zI ((1 : Nat) : Int)) d_LW_law_936 rfl ?_
    refine wl_goto (tgt := 941) d_LW_law_937 (by decide) ?_
    refine wl_callV (cm_steady (u := 1) ok hM2 (sc_in xs (i + 1)) (sc_in xs (i + 2)) (sc_in xs (i + 3)) (by omega)) d_LW_law_941 k_LW_136 (by decide) rfl rfl rfl rfl (Nat.le_of_ble_eq_true rfl) (by omega) ?_
    rintro _ h3 l3 ⟨rfl, hM3, e3⟩
    have hX3 := hX2.far e3
    refine wl_lcmp d_LW_law_944 ?_
    refine wl_if_eq (tgt := 1089) d_LW_law_945 (by decide) (fun _ => ?_) (fun h => absurd (cmp_self _) h)
    exact K _ _ ⟨_, ok, hX3, hM3⟩
theorem lc_29 (hL : L ≤ 2560) (h5 : i + 5 ≤ L) (hI : Inv hi) (K : ∀ (h : HI) (l : HL), Inv h → Wl L xs 1089 [some (.ref 101), some (.ref 0), some (.ref 41), some (.int (zI i))] [] h l) : Wl L xs 950 [some (.ref 101), some (.ref 0), some (.ref 41), some (.int (zI i))] [] hi hl := by
  obtain ⟨σ, ok, hX, hM⟩ := hI
  by_cases hz : sc xs (i + 4) = 0
  · refine wl_aload_n d_LW_law_950 rfl ?_
    refine wl_aload_n d_LW_law_951 rfl ?_
    refine wl_iload_n d_LW_law_952 rfl ?_
    refine wl_iconst (v := zI 1) d_LW_law_953 rfl ?_
    refine wlz_iadd d_LW_law_954 ?_
    refine wl_sld (j := i + 1) d_LW_law_955 (by omega) (by omega) (by omega) ?_
    refine wl_aload_n d_LW_law_956 rfl ?_
    refine wl_iload_n d_LW_law_957 rfl ?_
    refine wl_iconst (v := zI 2) d_LW_law_958 rfl ?_
    refine wlz_iadd d_LW_law_959 ?_
    refine wl_sld (j := i + 2) d_LW_law_960 (by omega) (by omega) (by omega) ?_
    refine wl_aload_n d_LW_law_961 rfl ?_
    refine wl_iload_n d_LW_law_962 rfl ?_
    refine wl_iconst (v := zI 3) d_LW_law_963 rfl ?_
    refine wlz_iadd d_LW_law_964 ?_
    refine wl_sld (j := i + 3) d_LW_law_965 (by omega) (by omega) (by omega) ?_
    refine wl_aload_n d_LW_law_966 rfl ?_
    refine wl_iload_n d_LW_law_967 rfl ?_
    refine wl_iconst (v := zI 4) d_LW_law_968 rfl ?_
    refine wlz_iadd d_LW_law_969 ?_
    refine wl_sld (j := i + 4) d_LW_law_970 (by omega) (by omega) (by omega) ?_
    refine wlz_if_eq (tgt := 978) d_LW_law_971 (by decide) (sc_in xs _) (fun _ => ?_) (fun h => absurd hz h)
    refine wl_iconst (v := zI ((0 : Nat) : Int)) d_LW_law_978 rfl ?_
    refine wl_callV (cx_blame (u := 0) ok hX (sc_in xs (i + 1)) (sc_in xs (i + 2)) (sc_in xs (i + 3)) (by omega)) d_LW_law_979 k_LW_137 (by decide) rfl rfl rfl rfl (Nat.le_of_ble_eq_true rfl) (by omega) ?_
    rintro _ h2 l2 ⟨rfl, hX2, e2⟩
    have hM2 := hM.far e2
    refine wl_aload_n d_LW_law_982 rfl ?_
    refine wl_aload_n d_LW_law_983 rfl ?_
    refine wl_iload_n d_LW_law_984 rfl ?_
    refine wl_iconst (v := zI 1) d_LW_law_985 rfl ?_
    refine wlz_iadd d_LW_law_986 ?_
    refine wl_sld (j := i + 1) d_LW_law_987 (by omega) (by omega) (by omega) ?_
    refine wl_aload_n d_LW_law_988 rfl ?_
    refine wl_iload_n d_LW_law_989 rfl ?_
    refine wl_iconst (v := zI 2) d_LW_law_990 rfl ?_
    refine wlz_iadd d_LW_law_991 ?_
    refine wl_sld (j := i + 2) d_LW_law_992 (by omega) (by omega) (by omega) ?_
    refine wl_aload_n d_LW_law_993 rfl ?_
    refine wl_iload_n d_LW_law_994 rfl ?_
    refine wl_iconst (v := zI 3) d_LW_law_995 rfl ?_
    refine wlz_iadd d_LW_law_996 ?_
    refine wl_sld (j := i + 3) d_LW_law_997 (by omega) (by omega) (by omega) ?_
    refine wl_aload_n d_LW_law_998 rfl ?_
    refine wl_iload_n d_LW_law_999 rfl ?_
    refine wl_iconst (v := zI 4) d_LW_law_1000 rfl ?_
    refine wlz_iadd d_LW_law_1001 ?_
    refine wl_sld (j := i + 4) d_LW_law_1002 (by omega) (by omega) (by omega) ?_
    refine wlz_if_eq (tgt := 1010) d_LW_law_1003 (by decide) (sc_in xs _) (fun _ => ?_) (fun h => absurd hz h)
    refine wl_iconst (v := zI ((0 : Nat) : Int)) d_LW_law_1010 rfl ?_
    refine wl_callV (cm_blame (u := 0) ok hM2 (sc_in xs (i + 1)) (sc_in xs (i + 2)) (sc_in xs (i + 3)) (by omega)) d_LW_law_1011 k_LW_140 (by decide) rfl rfl rfl rfl (Nat.le_of_ble_eq_true rfl) (by omega) ?_
    rintro _ h3 l3 ⟨rfl, hM3, e3⟩
    have hX3 := hX2.far e3
    refine wl_lcmp d_LW_law_1014 ?_
    refine wl_if_eq (tgt := 1089) d_LW_law_1015 (by decide) (fun _ => ?_) (fun h => absurd (cmp_self _) h)
    exact K _ _ ⟨_, ok, hX3, hM3⟩
  · refine wl_aload_n d_LW_law_950 rfl ?_
    refine wl_aload_n d_LW_law_951 rfl ?_
    refine wl_iload_n d_LW_law_952 rfl ?_
    refine wl_iconst (v := zI 1) d_LW_law_953 rfl ?_
    refine wlz_iadd d_LW_law_954 ?_
    refine wl_sld (j := i + 1) d_LW_law_955 (by omega) (by omega) (by omega) ?_
    refine wl_aload_n d_LW_law_956 rfl ?_
    refine wl_iload_n d_LW_law_957 rfl ?_
    refine wl_iconst (v := zI 2) d_LW_law_958 rfl ?_
    refine wlz_iadd d_LW_law_959 ?_
    refine wl_sld (j := i + 2) d_LW_law_960 (by omega) (by omega) (by omega) ?_
    refine wl_aload_n d_LW_law_961 rfl ?_
    refine wl_iload_n d_LW_law_962 rfl ?_
    refine wl_iconst (v := zI 3) d_LW_law_963 rfl ?_
    refine wlz_iadd d_LW_law_964 ?_
    refine wl_sld (j := i + 3) d_LW_law_965 (by omega) (by omega) (by omega) ?_
    refine wl_aload_n d_LW_law_966 rfl ?_
    refine wl_iload_n d_LW_law_967 rfl ?_
    refine wl_iconst (v := zI 4) d_LW_law_968 rfl ?_
    refine wlz_iadd d_LW_law_969 ?_
    refine wl_sld (j := i + 4) d_LW_law_970 (by omega) (by omega) (by omega) ?_
    refine wlz_if_eq (tgt := 978) d_LW_law_971 (by decide) (sc_in xs _) (fun h => absurd h hz) (fun _ => ?_)
    refine wl_iconst (v := zI ((1 : Nat) : Int)) d_LW_law_974 rfl ?_
    refine wl_goto (tgt := 979) d_LW_law_975 (by decide) ?_
    refine wl_callV (cx_blame (u := 1) ok hX (sc_in xs (i + 1)) (sc_in xs (i + 2)) (sc_in xs (i + 3)) (by omega)) d_LW_law_979 k_LW_137 (by decide) rfl rfl rfl rfl (Nat.le_of_ble_eq_true rfl) (by omega) ?_
    rintro _ h2 l2 ⟨rfl, hX2, e2⟩
    have hM2 := hM.far e2
    refine wl_aload_n d_LW_law_982 rfl ?_
    refine wl_aload_n d_LW_law_983 rfl ?_
    refine wl_iload_n d_LW_law_984 rfl ?_
    refine wl_iconst (v := zI 1) d_LW_law_985 rfl ?_
    refine wlz_iadd d_LW_law_986 ?_
    refine wl_sld (j := i + 1) d_LW_law_987 (by omega) (by omega) (by omega) ?_
    refine wl_aload_n d_LW_law_988 rfl ?_
    refine wl_iload_n d_LW_law_989 rfl ?_
    refine wl_iconst (v := zI 2) d_LW_law_990 rfl ?_
    refine wlz_iadd d_LW_law_991 ?_
    refine wl_sld (j := i + 2) d_LW_law_992 (by omega) (by omega) (by omega) ?_
    refine wl_aload_n d_LW_law_993 rfl ?_
    refine wl_iload_n d_LW_law_994 rfl ?_
    refine wl_iconst (v := zI 3) d_LW_law_995 rfl ?_
    refine wlz_iadd d_LW_law_996 ?_
    refine wl_sld (j := i + 3) d_LW_law_997 (by omega) (by omega) (by omega) ?_
    refine wl_aload_n d_LW_law_998 rfl ?_
    refine wl_iload_n d_LW_law_999 rfl ?_
    refine wl_iconst (v := zI 4) d_LW_law_1000 rfl ?_
    refine wlz_iadd d_LW_law_1001 ?_
    refine wl_sld (j := i + 4) d_LW_law_1002 (by omega) (by omega) (by omega) ?_
    refine wlz_if_eq (tgt := 1010) d_LW_law_1003 (by decide) (sc_in xs _) (fun h => absurd h hz) (fun _ => ?_)
    refine wl_iconst (v := zI ((1 : Nat) : Int)) d_LW_law_1006 rfl ?_
    refine wl_goto (tgt := 1011) d_LW_law_1007 (by decide) ?_
    refine wl_callV (cm_blame (u := 1) ok hM2 (sc_in xs (i + 1)) (sc_in xs (i + 2)) (sc_in xs (i + 3)) (by omega)) d_LW_law_1011 k_LW_140 (by decide) rfl rfl rfl rfl (Nat.le_of_ble_eq_true rfl) (by omega) ?_
    rintro _ h3 l3 ⟨rfl, hM3, e3⟩
    have hX3 := hX2.far e3
    refine wl_lcmp d_LW_law_1014 ?_
    refine wl_if_eq (tgt := 1089) d_LW_law_1015 (by decide) (fun _ => ?_) (fun h => absurd (cmp_self _) h)
    exact K _ _ ⟨_, ok, hX3, hM3⟩
theorem lc_30 (hL : L ≤ 2560) (h5 : i + 5 ≤ L) (hI : Inv hi) (K : ∀ (h : HI) (l : HL), Inv h → Wl L xs 1089 [some (.ref 101), some (.ref 0), some (.ref 41), some (.int (zI i))] [] h l) : Wl L xs 1020 [some (.ref 101), some (.ref 0), some (.ref 41), some (.int (zI i))] [] hi hl := by
  obtain ⟨σ, ok, hX, hM⟩ := hI
  refine wl_aload_n d_LW_law_1020 rfl ?_
  refine wl_aload_n d_LW_law_1021 rfl ?_
  refine wl_iload_n d_LW_law_1022 rfl ?_
  refine wl_iconst (v := zI 1) d_LW_law_1023 rfl ?_
  refine wlz_iadd d_LW_law_1024 ?_
  refine wl_sld (j := i + 1) d_LW_law_1025 (by omega) (by omega) (by omega) ?_
  refine wl_callV (cx_keep ok hX (sc_in xs (i + 1))) d_LW_law_1026 k_LW_141 (by decide) rfl rfl rfl rfl (Nat.le_of_ble_eq_true rfl) (by omega) ?_
  rintro _ h2 l2 ⟨rfl, hX2, e2⟩
  have hM2 := hM.far e2
  refine wl_aload_n d_LW_law_1029 rfl ?_
  refine wl_aload_n d_LW_law_1030 rfl ?_
  refine wl_iload_n d_LW_law_1031 rfl ?_
  refine wl_iconst (v := zI 1) d_LW_law_1032 rfl ?_
  refine wlz_iadd d_LW_law_1033 ?_
  refine wl_sld (j := i + 1) d_LW_law_1034 (by omega) (by omega) (by omega) ?_
  refine wl_callV (cm_keepP ok hM2 (sc_in xs (i + 1))) d_LW_law_1035 k_LW_144 (by decide) rfl rfl rfl rfl (Nat.le_of_ble_eq_true rfl) (by omega) ?_
  rintro _ h3 l3 ⟨rfl, hM3, e3⟩
  have hX3 := hX2.far e3
  refine wl_icmp_eq (tgt := 1089) d_LW_law_1038 (by decide) (fun _ => ?_) (fun h => absurd rfl h)
  exact K _ _ ⟨_, Ok_keep ok _, hX3, hM3⟩
theorem lc_31 (hL : L ≤ 2560) (h5 : i + 5 ≤ L) (hI : Inv hi) (K : ∀ (h : HI) (l : HL), Inv h → Wl L xs 1089 [some (.ref 101), some (.ref 0), some (.ref 41), some (.int (zI i))] [] h l) : Wl L xs 1043 [some (.ref 101), some (.ref 0), some (.ref 41), some (.int (zI i))] [] hi hl := by
  obtain ⟨σ, ok, hX, hM⟩ := hI
  refine wl_aload_n d_LW_law_1043 rfl ?_
  refine wl_aload_n d_LW_law_1044 rfl ?_
  refine wl_iload_n d_LW_law_1045 rfl ?_
  refine wl_iconst (v := zI 1) d_LW_law_1046 rfl ?_
  refine wlz_iadd d_LW_law_1047 ?_
  refine wl_sld (j := i + 1) d_LW_law_1048 (by omega) (by omega) (by omega) ?_
  refine wl_callV (cx_again ok hX (sc_in xs (i + 1))) d_LW_law_1049 k_LW_145 (by decide) rfl rfl rfl rfl (Nat.le_of_ble_eq_true rfl) (by omega) ?_
  rintro _ h2 l2 ⟨rfl, hX2, e2⟩
  have hM2 := hM.far e2
  refine wl_aload_n d_LW_law_1052 rfl ?_
  refine wl_aload_n d_LW_law_1053 rfl ?_
  refine wl_iload_n d_LW_law_1054 rfl ?_
  refine wl_iconst (v := zI 1) d_LW_law_1055 rfl ?_
  refine wlz_iadd d_LW_law_1056 ?_
  refine wl_sld (j := i + 1) d_LW_law_1057 (by omega) (by omega) (by omega) ?_
  refine wl_callV (cm_again ok hM2 (sc_in xs (i + 1))) d_LW_law_1058 k_LW_148 (by decide) rfl rfl rfl rfl (Nat.le_of_ble_eq_true rfl) (by omega) ?_
  rintro _ h3 l3 ⟨rfl, hM3, e3⟩
  have hX3 := hX2.far e3
  refine wl_icmp_eq (tgt := 1089) d_LW_law_1061 (by decide) (fun _ => ?_) (fun h => absurd rfl h)
  exact K _ _ ⟨_, Ok_again ok _, hX3, hM3⟩
theorem lc_32 (hL : L ≤ 2560) (h5 : i + 5 ≤ L) (hI : Inv hi) (K : ∀ (h : HI) (l : HL), Inv h → Wl L xs 1089 [some (.ref 101), some (.ref 0), some (.ref 41), some (.int (zI i))] [] h l) : Wl L xs 1066 [some (.ref 101), some (.ref 0), some (.ref 41), some (.int (zI i))] [] hi hl := by
  obtain ⟨σ, ok, hX, hM⟩ := hI
  refine wl_aload_n d_LW_law_1066 rfl ?_
  refine wl_aload_n d_LW_law_1067 rfl ?_
  refine wl_iload_n d_LW_law_1068 rfl ?_
  refine wl_iconst (v := zI 1) d_LW_law_1069 rfl ?_
  refine wlz_iadd d_LW_law_1070 ?_
  refine wl_sld (j := i + 1) d_LW_law_1071 (by omega) (by omega) (by omega) ?_
  refine wl_callV (cx_count ok hX (sc_in xs (i + 1))) d_LW_law_1072 k_LW_149 (by decide) rfl rfl rfl rfl (Nat.le_of_ble_eq_true rfl) (by omega) ?_
  rintro _ h2 l2 ⟨rfl, hX2, e2⟩
  have hM2 := hM.far e2
  refine wl_aload_n d_LW_law_1075 rfl ?_
  refine wl_aload_n d_LW_law_1076 rfl ?_
  refine wl_iload_n d_LW_law_1077 rfl ?_
  refine wl_iconst (v := zI 1) d_LW_law_1078 rfl ?_
  refine wlz_iadd d_LW_law_1079 ?_
  refine wl_sld (j := i + 1) d_LW_law_1080 (by omega) (by omega) (by omega) ?_
  refine wl_callV (cm_count ok hM2 (sc_in xs (i + 1))) d_LW_law_1081 k_LW_152 (by decide) rfl rfl rfl rfl (Nat.le_of_ble_eq_true rfl) (by omega) ?_
  rintro _ h3 l3 ⟨rfl, hM3, e3⟩
  have hX3 := hX2.far e3
  refine wl_icmp_eq (tgt := 1089) d_LW_law_1084 (by decide) (fun _ => ?_) (fun h => absurd rfl h)
  exact K _ _ ⟨_, ok, hX3, hM3⟩
/-- THE LAW'S LOOP -/
theorem law_loop (hL : L ≤ 2560) : ∀ (n i : Nat), L ≤ i + n → i ≤ 2600 → ∀ (hi : HI) (hl : HL), Inv hi → Wl L xs 18 [some (.ref 101), some (.ref 0), some (.ref 41), some (.int (zI i))] [] hi hl := by
  intro n
  induction n with
  | zero =>
    intro i hin hi26 hi hl hI
    refine wl_iload_n d_LW_law_18 rfl ?_
    refine wl_aload_n d_LW_law_19 rfl ?_
    refine wl_slen d_LW_law_20 ?_
    refine wl_iconst (v := zI 5) d_LW_law_21 rfl ?_
    refine wlz_isub d_LW_law_22 ?_
    refine wlz_icmp_gt (tgt := 1095) d_LW_law_23 (by decide) (by omega) (by omega) (fun _ => ?_) (fun h => absurd h (by omega))
    refine wl_iconst (v := 1) d_LW_law_1095 rfl ?_
    exact wl_iret d_LW_law_1096 (Or.inr ⟨rfl, Or.inr rfl⟩) rfl
  | succ n ih =>
    intro i hin hi26 hi hl hI
    refine wl_iload_n d_LW_law_18 rfl ?_
    refine wl_aload_n d_LW_law_19 rfl ?_
    refine wl_slen d_LW_law_20 ?_
    refine wl_iconst (v := zI 5) d_LW_law_21 rfl ?_
    refine wlz_isub d_LW_law_22 ?_
    refine wlz_icmp_gt (tgt := 1095) d_LW_law_23 (by decide) (by omega) (by omega) (fun _ => ?_) (fun h => ?_)
    · refine wl_iconst (v := 1) d_LW_law_1095 rfl ?_
      exact wl_iret d_LW_law_1096 (Or.inr ⟨rfl, Or.inr rfl⟩) rfl
    · have K : ∀ (h : HI) (l : HL), Inv h → Wl L xs 1089 [some (.ref 101), some (.ref 0), some (.ref 41), some (.int (zI i))] [] h l := by
        intro h l hI
        refine wlz_iinc (lv' := [_, _, _, _]) d_LW_law_1089 rfl (by decide) rfl ?_
        refine wl_goto (tgt := 18) d_LW_law_1092 (by decide) ?_
        exact ih (i + 5) (by omega) (by omega) h l hI
      refine wl_aload_n d_LW_law_26 rfl ?_
      refine wl_iload_n d_LW_law_27 rfl ?_
      refine wl_sld (j := i) d_LW_law_28 rfl (by omega) (by omega) ?_
      refine wl_bipush (v := zI 63) d_LW_law_29 rfl ?_
      refine wl_iand d_LW_law_31 ?_
      obtain ⟨c, hc, ec⟩ := and63 (zI (sc xs i))
      refine wl_top ec ?_
      by_cases h33 : 33 ≤ c
      · refine wl_switchOut (tgt := 1089) d_LW_law_32 (Or.inr ?_) (by decide) (K hi hl hI)
        rw [zI_toInt (by omega)]
        omega
      · have hcc : c = 0 ∨ c = 1 ∨ c = 2 ∨ c = 3 ∨ c = 4 ∨ c = 5 ∨ c = 6 ∨ c = 7 ∨ c = 8 ∨ c = 9 ∨ c = 10 ∨ c = 11 ∨ c = 12 ∨ c = 13 ∨ c = 14 ∨ c = 15 ∨ c = 16 ∨ c = 17 ∨ c = 18 ∨ c = 19 ∨ c = 20 ∨ c = 21 ∨ c = 22 ∨ c = 23 ∨ c = 24 ∨ c = 25 ∨ c = 26 ∨ c = 27 ∨ c = 28 ∨ c = 29 ∨ c = 30 ∨ c = 31 ∨ c = 32 := by omega
        rcases hcc with rfl | rfl | rfl | rfl | rfl | rfl | rfl | rfl | rfl | rfl | rfl | rfl | rfl | rfl | rfl | rfl | rfl | rfl | rfl | rfl | rfl | rfl | rfl | rfl | rfl | rfl | rfl | rfl | rfl | rfl | rfl | rfl | rfl
        · exact wl_switchIn (tgt := 180) (off := 148) d_LW_law_32 (by decide) (by decide) (by decide +kernel) (by decide) (lc_0 hL (by omega) hI K)
        · exact wl_switchIn (tgt := 243) (off := 211) d_LW_law_32 (by decide) (by decide) (by decide +kernel) (by decide) (lc_1 hL (by omega) hI K)
        · exact wl_switchIn (tgt := 256) (off := 224) d_LW_law_32 (by decide) (by decide) (by decide +kernel) (by decide) (lc_2 hL (by omega) hI K)
        · exact wl_switchIn (tgt := 269) (off := 237) d_LW_law_32 (by decide) (by decide) (by decide +kernel) (by decide) (lc_3 hL (by omega) hI K)
        · exact wl_switchIn (tgt := 282) (off := 250) d_LW_law_32 (by decide) (by decide) (by decide +kernel) (by decide) (lc_4 hL (by omega) hI K)
        · exact wl_switchIn (tgt := 305) (off := 273) d_LW_law_32 (by decide) (by decide) (by decide +kernel) (by decide) (lc_5 hL (by omega) hI K)
        · exact wl_switchIn (tgt := 338) (off := 306) d_LW_law_32 (by decide) (by decide) (by decide +kernel) (by decide) (lc_6 hL (by omega) hI K)
        · exact wl_switchIn (tgt := 371) (off := 339) d_LW_law_32 (by decide) (by decide) (by decide +kernel) (by decide) (lc_7 hL (by omega) hI K)
        · exact wl_switchIn (tgt := 404) (off := 372) d_LW_law_32 (by decide) (by decide) (by decide +kernel) (by decide) (lc_8 hL (by omega) hI K)
        · exact wl_switchIn (tgt := 437) (off := 405) d_LW_law_32 (by decide) (by decide) (by decide +kernel) (by decide) (lc_9 hL (by omega) hI K)
        · exact wl_switchIn (tgt := 486) (off := 454) d_LW_law_32 (by decide) (by decide) (by decide +kernel) (by decide) (lc_10 hL (by omega) hI K)
        · exact wl_switchIn (tgt := 509) (off := 477) d_LW_law_32 (by decide) (by decide) (by decide +kernel) (by decide) (lc_11 hL (by omega) hI K)
        · exact wl_switchIn (tgt := 532) (off := 500) d_LW_law_32 (by decide) (by decide) (by decide +kernel) (by decide) (lc_12 hL (by omega) hI K)
        · exact wl_switchIn (tgt := 555) (off := 523) d_LW_law_32 (by decide) (by decide) (by decide +kernel) (by decide) (lc_13 hL (by omega) hI K)
        · exact wl_switchIn (tgt := 588) (off := 556) d_LW_law_32 (by decide) (by decide) (by decide +kernel) (by decide) (lc_14 hL (by omega) hI K)
        · exact wl_switchIn (tgt := 621) (off := 589) d_LW_law_32 (by decide) (by decide) (by decide +kernel) (by decide) (lc_15 hL (by omega) hI K)
        · exact wl_switchIn (tgt := 654) (off := 622) d_LW_law_32 (by decide) (by decide) (by decide +kernel) (by decide) (lc_16 hL (by omega) hI K)
        · exact wl_switchIn (tgt := 687) (off := 655) d_LW_law_32 (by decide) (by decide) (by decide +kernel) (by decide) (lc_17 hL (by omega) hI K)
        · exact wl_switchIn (tgt := 700) (off := 668) d_LW_law_32 (by decide) (by decide) (by decide +kernel) (by decide) (lc_18 hL (by omega) hI K)
        · exact wl_switchIn (tgt := 713) (off := 681) d_LW_law_32 (by decide) (by decide) (by decide +kernel) (by decide) (lc_19 hL (by omega) hI K)
        · exact wl_switchIn (tgt := 726) (off := 694) d_LW_law_32 (by decide) (by decide) (by decide +kernel) (by decide) (lc_20 hL (by omega) hI K)
        · exact wl_switchIn (tgt := 739) (off := 707) d_LW_law_32 (by decide) (by decide) (by decide +kernel) (by decide) (lc_21 hL (by omega) hI K)
        · exact wl_switchIn (tgt := 762) (off := 730) d_LW_law_32 (by decide) (by decide) (by decide +kernel) (by decide) (lc_22 hL (by omega) hI K)
        · exact wl_switchIn (tgt := 795) (off := 763) d_LW_law_32 (by decide) (by decide) (by decide +kernel) (by decide) (lc_23 hL (by omega) hI K)
        · exact wl_switchIn (tgt := 808) (off := 776) d_LW_law_32 (by decide) (by decide) (by decide +kernel) (by decide) (lc_24 hL (by omega) hI K)
        · exact wl_switchIn (tgt := 831) (off := 799) d_LW_law_32 (by decide) (by decide) (by decide +kernel) (by decide) (lc_25 hL (by omega) hI K)
        · exact wl_switchIn (tgt := 844) (off := 812) d_LW_law_32 (by decide) (by decide) (by decide +kernel) (by decide) (lc_26 hL (by omega) hI K)
        · exact wl_switchIn (tgt := 867) (off := 835) d_LW_law_32 (by decide) (by decide) (by decide +kernel) (by decide) (lc_27 hL (by omega) hI K)
        · exact wl_switchIn (tgt := 880) (off := 848) d_LW_law_32 (by decide) (by decide) (by decide +kernel) (by decide) (lc_28 hL (by omega) hI K)
        · exact wl_switchIn (tgt := 950) (off := 918) d_LW_law_32 (by decide) (by decide) (by decide +kernel) (by decide) (lc_29 hL (by omega) hI K)
        · exact wl_switchIn (tgt := 1020) (off := 988) d_LW_law_32 (by decide) (by decide) (by decide +kernel) (by decide) (lc_30 hL (by omega) hI K)
        · exact wl_switchIn (tgt := 1043) (off := 1011) d_LW_law_32 (by decide) (by decide) (by decide +kernel) (by decide) (lc_31 hL (by omega) hI K)
        · exact wl_switchIn (tgt := 1066) (off := 1034) d_LW_law_32 (by decide) (by decide) (by decide +kernel) (by decide) (lc_32 hL (by omega) hI K)
end LAWC
