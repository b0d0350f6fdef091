/-! The law: calls that change the state -/
theorem lc_set {l : Launch} {G : xG} {P : xT} {b L x c z k n : Nat} {xs : Int → Int} {w : Wd} {t : St} {hs : List St} {sl : Nat → Option St} {cs : List Int} (hM : xM RL cL_law 4 room_1 l G false P) (hS : scK P b L xs) (hi : 6 * (c : Int) + 6 ≤ L) (hc5 : c ≤ 511) (hk : k ≤ 300 + 22 * c) (hn : n ≤ 8000 + 248 * c) (h : lwI G w z x t hs sl cs c) (hN : lwJ P G b x c) : P 176 [some (.ref b), some (.ref x), some (.ref (x + 215)), some (.int (iI (6 * (c : Int))))] [] w (z, k, n) := by
  obtain ⟨hc, ⟨mn, pl, wr, hr⟩, hg, hz⟩ := h
  have hX := hS.2.2.2
  refine x_aload_n hM dL_law_176 rfl rfl ?_
  refine x_aload_n hM dL_law_177 rfl rfl ?_
  refine x_iload_n hM dL_law_178 rfl rfl ?_
  refine x_iconst hM dL_law_179 ?_
  refine x_iadd hM dL_law_180 ?_
  refine hS.1 _ _ _ _ _ _ (by omega) (by omega) dL_law_181 ?_
  refine x_aload_n hM dL_law_182 rfl rfl ?_
  refine x_iload_n hM dL_law_183 rfl rfl ?_
  refine x_iconst hM dL_law_184 ?_
  refine x_iadd hM dL_law_185 ?_
  refine hS.1 _ _ _ _ _ _ (by omega) (by omega) dL_law_186 ?_
  refine x_callV hM wv_L_13 (m_X6_set hc.1 hc.2.1  (hX _) (hX _) (b_set hg.1 _ _)) ⟨Nat.le_of_ble_eq_true rfl, Nat.le_of_ble_eq_true rfl⟩ hc.1.1 rfl rfl rfl rfl (Nat.le_of_ble_eq_true rfl) ⟨show k ≤ 600000 by omega, show n ≤ 7302250 by omega⟩ dL_law_187 (k_qI fun x_187 w_187 q_187 => ?_)
  rw [e_set] at q_187
  obtain ⟨rfl, q1, q2, f1⟩ := q_187
  have hr1 := lw_r hr f1 (by omega)
  obtain ⟨R1, hh1, -⟩ := id hr1.1
  refine x_aload_n hM dL_law_190 rfl rfl ?_
  refine x_aload_n hM dL_law_191 rfl rfl ?_
  refine x_iload_n hM dL_law_192 rfl rfl ?_
  refine x_iconst hM dL_law_193 ?_
  refine x_iadd hM dL_law_194 ?_
  refine hS.1 _ _ _ _ _ _ (by omega) (by omega) dL_law_195 ?_
  refine x_aload_n hM dL_law_196 rfl rfl ?_
  refine x_iload_n hM dL_law_197 rfl rfl ?_
  refine x_iconst hM dL_law_198 ?_
  refine x_iadd hM dL_law_199 ?_
  refine hS.1 _ _ _ _ _ _ (by omega) (by omega) dL_law_200 ?_
  refine x_callV hM wv_L_17 (m_X7_set hr1.1 (Or.inl rfl)  (hX _) (hX _)) ⟨Nat.le_of_ble_eq_true rfl, Nat.le_of_ble_eq_true rfl⟩ hh1 rfl rfl rfl rfl (Nat.le_of_ble_eq_true rfl) ⟨show k ≤ 600000 by omega, show n ≤ 7302250 by omega⟩ dL_law_201 (k_qI fun x_201 w_201 q_201 => ?_)
  obtain ⟨rfl, q3, f2⟩ := q_201
  refine x_same (tgt := 1053) hM rfl dL_law_204 (by decide) ?_
  exact hN _ _ k n _ _ _ _ (lw_in (cp_mu hc q1 q2 f1) f2.w (rp_mm hr1 q3 f2) ((gdA_up hg).his (gd_up (gd_set hg.1 _ _) (by omega) (by omega)) _) hz) (by omega) (by omega)
theorem lc_owner {l : Launch} {G : xG} {P : xT} {b L x c z k n : Nat} {xs : Int → Int} {w : Wd} {t : St} {hs : List St} {sl : Nat → Option St} {cs : List Int} (hM : xM RL cL_law 4 room_1 l G false P) (hS : scK P b L xs) (hi : 6 * (c : Int) + 6 ≤ L) (hc5 : c ≤ 511) (hk : k ≤ 300 + 22 * c) (hn : n ≤ 8000 + 248 * c) (h : lwI G w z x t hs sl cs c) (hN : lwJ P G b x c) : P 209 [some (.ref b), some (.ref x), some (.ref (x + 215)), some (.int (iI (6 * (c : Int))))] [] w (z, k, n) := by
  obtain ⟨hc, ⟨mn, pl, wr, hr⟩, hg, hz⟩ := h
  have hX := hS.2.2.2
  refine x_aload_n hM dL_law_209 rfl rfl ?_
  refine x_aload_n hM dL_law_210 rfl rfl ?_
  refine x_iload_n hM dL_law_211 rfl rfl ?_
  refine x_iconst hM dL_law_212 ?_
  refine x_iadd hM dL_law_213 ?_
  refine hS.1 _ _ _ _ _ _ (by omega) (by omega) dL_law_214 ?_
  refine x_callV hM wv_L_18 (m_X6_owner hc.1 hc.2.1  (hX _) (b_own hg.1 _)) ⟨Nat.le_of_ble_eq_true rfl, Nat.le_of_ble_eq_true rfl⟩ hc.1.1 rfl rfl rfl rfl (Nat.le_of_ble_eq_true rfl) ⟨show k ≤ 600000 by omega, show n ≤ 7302250 by omega⟩ dL_law_215 (k_qI fun x_215 w_215 q_215 => ?_)
  rw [e_own] at q_215
  obtain ⟨rfl, q1, q2, f1⟩ := q_215
  have hr1 := lw_r hr f1 (by omega)
  obtain ⟨R1, hh1, -⟩ := id hr1.1
  refine x_aload_n hM dL_law_218 rfl rfl ?_
  refine x_aload_n hM dL_law_219 rfl rfl ?_
  refine x_iload_n hM dL_law_220 rfl rfl ?_
  refine x_iconst hM dL_law_221 ?_
  refine x_iadd hM dL_law_222 ?_
  refine hS.1 _ _ _ _ _ _ (by omega) (by omega) dL_law_223 ?_
  refine x_callV hM wv_L_22 (m_X7_owner hr1.1 (Or.inl rfl) (gd_z hg.1 _ (Int.le_refl _)).1 (hX _)) ⟨Nat.le_of_ble_eq_true rfl, Nat.le_of_ble_eq_true rfl⟩ hh1 rfl rfl rfl rfl (Nat.le_of_ble_eq_true rfl) ⟨show k ≤ 600000 by omega, show n ≤ 7302250 by omega⟩ dL_law_224 (k_qI fun x_224 w_224 q_224 => ?_)
  obtain ⟨rfl, q3, f2⟩ := q_224
  refine x_same (tgt := 1053) hM rfl dL_law_227 (by decide) ?_
  exact hN _ _ k n _ _ _ _ (lw_in (cp_mu hc q1 q2 f1) f2.w (rp_mm hr1 q3 f2) ((gdA_up hg).his (gd_up (gd_own hg.1 _) (by omega) (by omega)) _) hz) (by omega) (by omega)
theorem lc_pay {l : Launch} {G : xG} {P : xT} {b L x c z k n : Nat} {xs : Int → Int} {w : Wd} {t : St} {hs : List St} {sl : Nat → Option St} {cs : List Int} (hM : xM RL cL_law 4 room_1 l G false P) (hS : scK P b L xs) (hi : 6 * (c : Int) + 6 ≤ L) (hc5 : c ≤ 511) (hk : k ≤ 300 + 22 * c) (hn : n ≤ 8000 + 248 * c) (h : lwI G w z x t hs sl cs c) (hN : lwJ P G b x c) : P 232 [some (.ref b), some (.ref x), some (.ref (x + 215)), some (.int (iI (6 * (c : Int))))] [] w (z, k, n) := by
  obtain ⟨hc, ⟨mn, pl, wr, hr⟩, hg, hz⟩ := h
  have hX := hS.2.2.2
  refine x_aload_n hM dL_law_232 rfl rfl ?_
  refine x_aload_n hM dL_law_233 rfl rfl ?_
  refine x_iload_n hM dL_law_234 rfl rfl ?_
  refine x_iconst hM dL_law_235 ?_
  refine x_iadd hM dL_law_236 ?_
  refine hS.1 _ _ _ _ _ _ (by omega) (by omega) dL_law_237 ?_
  refine x_aload_n hM dL_law_238 rfl rfl ?_
  refine x_iload_n hM dL_law_239 rfl rfl ?_
  refine x_iconst hM dL_law_240 ?_
  refine x_iadd hM dL_law_241 ?_
  refine hS.1 _ _ _ _ _ _ (by omega) (by omega) dL_law_242 ?_
  refine x_callV hM wv_L_23 (m_X6_pay hc.1 hc.2.1  (hX _) (hX _) (b_pay _ _ _)) ⟨Nat.le_of_ble_eq_true rfl, Nat.le_of_ble_eq_true rfl⟩ hc.1.1 rfl rfl rfl rfl (Nat.le_of_ble_eq_true rfl) ⟨show k ≤ 600000 by omega, show n ≤ 7302250 by omega⟩ dL_law_243 (k_qI fun x_243 w_243 q_243 => ?_)
  rw [e_pay] at q_243
  obtain ⟨rfl, q1, q2, f1⟩ := q_243
  have hr1 := lw_r hr f1 (by omega)
  obtain ⟨R1, hh1, -⟩ := id hr1.1
  refine x_aload_n hM dL_law_246 rfl rfl ?_
  refine x_aload_n hM dL_law_247 rfl rfl ?_
  refine x_iload_n hM dL_law_248 rfl rfl ?_
  refine x_iconst hM dL_law_249 ?_
  refine x_iadd hM dL_law_250 ?_
  refine hS.1 _ _ _ _ _ _ (by omega) (by omega) dL_law_251 ?_
  refine x_aload_n hM dL_law_252 rfl rfl ?_
  refine x_iload_n hM dL_law_253 rfl rfl ?_
  refine x_iconst hM dL_law_254 ?_
  refine x_iadd hM dL_law_255 ?_
  refine hS.1 _ _ _ _ _ _ (by omega) (by omega) dL_law_256 ?_
  refine x_callV hM wv_L_26 (m_X7_pay hr1.1 (Or.inl rfl)  (hX _) (hX _)) ⟨Nat.le_of_ble_eq_true rfl, Nat.le_of_ble_eq_true rfl⟩ hh1 rfl rfl rfl rfl (Nat.le_of_ble_eq_true rfl) ⟨show k ≤ 600000 by omega, show n ≤ 7302250 by omega⟩ dL_law_257 (k_qI fun x_257 w_257 q_257 => ?_)
  obtain ⟨rfl, q3, f2⟩ := q_257
  refine x_same (tgt := 1053) hM rfl dL_law_260 (by decide) ?_
  exact hN _ _ k n _ _ _ _ (lw_in (cp_mu hc q1 q2 f1) f2.w (rp_mm hr1 q3 f2) ((gdA_up hg).his (gd_up (gd_pay hg.1 _ _) (by omega) (by omega)) _) hz) (by omega) (by omega)
theorem lc_give {l : Launch} {G : xG} {P : xT} {b L x c z k n : Nat} {xs : Int → Int} {w : Wd} {t : St} {hs : List St} {sl : Nat → Option St} {cs : List Int} (hM : xM RL cL_law 4 room_1 l G false P) (hS : scK P b L xs) (hi : 6 * (c : Int) + 6 ≤ L) (hc5 : c ≤ 511) (hk : k ≤ 300 + 22 * c) (hn : n ≤ 8000 + 248 * c) (h : lwI G w z x t hs sl cs c) (hN : lwJ P G b x c) : P 265 [some (.ref b), some (.ref x), some (.ref (x + 215)), some (.int (iI (6 * (c : Int))))] [] w (z, k, n) := by
  obtain ⟨hc, ⟨mn, pl, wr, hr⟩, hg, hz⟩ := h
  have hX := hS.2.2.2
  refine x_aload_n hM dL_law_265 rfl rfl ?_
  refine x_aload_n hM dL_law_266 rfl rfl ?_
  refine x_iload_n hM dL_law_267 rfl rfl ?_
  refine x_iconst hM dL_law_268 ?_
  refine x_iadd hM dL_law_269 ?_
  refine hS.1 _ _ _ _ _ _ (by omega) (by omega) dL_law_270 ?_
  refine x_aload_n hM dL_law_271 rfl rfl ?_
  refine x_iload_n hM dL_law_272 rfl rfl ?_
  refine x_iconst hM dL_law_273 ?_
  refine x_iadd hM dL_law_274 ?_
  refine hS.1 _ _ _ _ _ _ (by omega) (by omega) dL_law_275 ?_
  refine x_aload_n hM dL_law_276 rfl rfl ?_
  refine x_iload_n hM dL_law_277 rfl rfl ?_
  refine x_iconst hM dL_law_278 ?_
  refine x_iadd hM dL_law_279 ?_
  refine hS.1 _ _ _ _ _ _ (by omega) (by omega) dL_law_280 ?_
  refine x_callV hM wv_L_27 (m_X6_give hc.1 hc.2.1  (hX _) (hX _) (hX _) (b_gv hg.1 _ _ _)) ⟨Nat.le_of_ble_eq_true rfl, Nat.le_of_ble_eq_true rfl⟩ hc.1.1 rfl rfl rfl rfl (Nat.le_of_ble_eq_true rfl) ⟨show k ≤ 600000 by omega, show n ≤ 7302250 by omega⟩ dL_law_281 (k_qI fun x_281 w_281 q_281 => ?_)
  rw [e_gv (gd_L hg.1) (gd_40 hg.1) (gd_10 hg.1)] at q_281
  obtain ⟨rfl, q1, q2, f1⟩ := q_281
  have hr1 := lw_r hr f1 (by omega)
  obtain ⟨R1, hh1, -⟩ := id hr1.1
  refine x_aload_n hM dL_law_284 rfl rfl ?_
  refine x_aload_n hM dL_law_285 rfl rfl ?_
  refine x_iload_n hM dL_law_286 rfl rfl ?_
  refine x_iconst hM dL_law_287 ?_
  refine x_iadd hM dL_law_288 ?_
  refine hS.1 _ _ _ _ _ _ (by omega) (by omega) dL_law_289 ?_
  refine x_aload_n hM dL_law_290 rfl rfl ?_
  refine x_iload_n hM dL_law_291 rfl rfl ?_
  refine x_iconst hM dL_law_292 ?_
  refine x_iadd hM dL_law_293 ?_
  refine hS.1 _ _ _ _ _ _ (by omega) (by omega) dL_law_294 ?_
  refine x_aload_n hM dL_law_295 rfl rfl ?_
  refine x_iload_n hM dL_law_296 rfl rfl ?_
  refine x_iconst hM dL_law_297 ?_
  refine x_iadd hM dL_law_298 ?_
  refine hS.1 _ _ _ _ _ _ (by omega) (by omega) dL_law_299 ?_
  refine x_callV hM wv_L_31 (m_X7_give hr1.1 (Or.inl rfl)  (hX _) (hX _) (hX _)) ⟨Nat.le_of_ble_eq_true rfl, Nat.le_of_ble_eq_true rfl⟩ hh1 rfl rfl rfl rfl (Nat.le_of_ble_eq_true rfl) ⟨show k ≤ 600000 by omega, show n ≤ 7302250 by omega⟩ dL_law_300 (k_qI fun x_300 w_300 q_300 => ?_)
  obtain ⟨rfl, q3, f2⟩ := q_300
  refine x_same (tgt := 1053) hM rfl dL_law_303 (by decide) ?_
  exact hN _ _ k n _ _ _ _ (lw_in (cp_mu hc q1 q2 f1) f2.w (rp_mm hr1 q3 f2) ((gdA_up hg).his (gd_up (gd_gv hg.1 _ _ _) (by omega) (by omega)) _) hz) (by omega) (by omega)
theorem lc_free {l : Launch} {G : xG} {P : xT} {b L x c z k n : Nat} {xs : Int → Int} {w : Wd} {t : St} {hs : List St} {sl : Nat → Option St} {cs : List Int} (hM : xM RL cL_law 4 room_1 l G false P) (hS : scK P b L xs) (hi : 6 * (c : Int) + 6 ≤ L) (hc5 : c ≤ 511) (hk : k ≤ 300 + 22 * c) (hn : n ≤ 8000 + 248 * c) (h : lwI G w z x t hs sl cs c) (hN : lwJ P G b x c) : P 308 [some (.ref b), some (.ref x), some (.ref (x + 215)), some (.int (iI (6 * (c : Int))))] [] w (z, k, n) := by
  obtain ⟨hc, ⟨mn, pl, wr, hr⟩, hg, hz⟩ := h
  have hX := hS.2.2.2
  refine x_aload_n hM dL_law_308 rfl rfl ?_
  refine x_aload_n hM dL_law_309 rfl rfl ?_
  refine x_iload_n hM dL_law_310 rfl rfl ?_
  refine x_iconst hM dL_law_311 ?_
  refine x_iadd hM dL_law_312 ?_
  refine hS.1 _ _ _ _ _ _ (by omega) (by omega) dL_law_313 ?_
  refine x_aload_n hM dL_law_314 rfl rfl ?_
  refine x_iload_n hM dL_law_315 rfl rfl ?_
  refine x_iconst hM dL_law_316 ?_
  refine x_iadd hM dL_law_317 ?_
  refine hS.1 _ _ _ _ _ _ (by omega) (by omega) dL_law_318 ?_
  refine x_callV hM wv_L_32 (m_X6_free hc.1 hc.2.1  (hX _) (hX _) (b_fr _ _ _)) ⟨Nat.le_of_ble_eq_true rfl, Nat.le_of_ble_eq_true rfl⟩ hc.1.1 rfl rfl rfl rfl (Nat.le_of_ble_eq_true rfl) ⟨show k ≤ 600000 by omega, show n ≤ 7302250 by omega⟩ dL_law_319 (k_qI fun x_319 w_319 q_319 => ?_)
  rw [e_fr (gd_L hg.1) (gd_40 hg.1)] at q_319
  obtain ⟨rfl, q1, q2, f1⟩ := q_319
  have hr1 := lw_r hr f1 (by omega)
  obtain ⟨R1, hh1, -⟩ := id hr1.1
  refine x_aload_n hM dL_law_322 rfl rfl ?_
  refine x_aload_n hM dL_law_323 rfl rfl ?_
  refine x_iload_n hM dL_law_324 rfl rfl ?_
  refine x_iconst hM dL_law_325 ?_
  refine x_iadd hM dL_law_326 ?_
  refine hS.1 _ _ _ _ _ _ (by omega) (by omega) dL_law_327 ?_
  refine x_aload_n hM dL_law_328 rfl rfl ?_
  refine x_iload_n hM dL_law_329 rfl rfl ?_
  refine x_iconst hM dL_law_330 ?_
  refine x_iadd hM dL_law_331 ?_
  refine hS.1 _ _ _ _ _ _ (by omega) (by omega) dL_law_332 ?_
  refine x_callV hM wv_L_35 (m_X7_free hr1.1 (Or.inl rfl)  (hX _) (hX _)) ⟨Nat.le_of_ble_eq_true rfl, Nat.le_of_ble_eq_true rfl⟩ hh1 rfl rfl rfl rfl (Nat.le_of_ble_eq_true rfl) ⟨show k ≤ 600000 by omega, show n ≤ 7302250 by omega⟩ dL_law_333 (k_qI fun x_333 w_333 q_333 => ?_)
  obtain ⟨rfl, q3, f2⟩ := q_333
  refine x_same (tgt := 1053) hM rfl dL_law_336 (by decide) ?_
  exact hN _ _ k n _ _ _ _ (lw_in (cp_mu hc q1 q2 f1) f2.w (rp_mm hr1 q3 f2) ((gdA_up hg).his (gd_up (gd_fr hg.1 _ _) (by omega) (by omega)) _) hz) (by omega) (by omega)
theorem lc_grab {l : Launch} {G : xG} {P : xT} {b L x c z k n : Nat} {xs : Int → Int} {w : Wd} {t : St} {hs : List St} {sl : Nat → Option St} {cs : List Int} (hM : xM RL cL_law 4 room_1 l G false P) (hS : scK P b L xs) (hi : 6 * (c : Int) + 6 ≤ L) (hc5 : c ≤ 511) (hk : k ≤ 300 + 22 * c) (hn : n ≤ 8000 + 248 * c) (h : lwI G w z x t hs sl cs c) (hN : lwJ P G b x c) : P 341 [some (.ref b), some (.ref x), some (.ref (x + 215)), some (.int (iI (6 * (c : Int))))] [] w (z, k, n) := by
  obtain ⟨hc, ⟨mn, pl, wr, hr⟩, hg, hz⟩ := h
  have hX := hS.2.2.2
  refine x_aload_n hM dL_law_341 rfl rfl ?_
  refine x_aload_n hM dL_law_342 rfl rfl ?_
  refine x_iload_n hM dL_law_343 rfl rfl ?_
  refine x_iconst hM dL_law_344 ?_
  refine x_iadd hM dL_law_345 ?_
  refine hS.1 _ _ _ _ _ _ (by omega) (by omega) dL_law_346 ?_
  refine x_aload_n hM dL_law_347 rfl rfl ?_
  refine x_iload_n hM dL_law_348 rfl rfl ?_
  refine x_iconst hM dL_law_349 ?_
  refine x_iadd hM dL_law_350 ?_
  refine hS.1 _ _ _ _ _ _ (by omega) (by omega) dL_law_351 ?_
  refine x_callV hM wv_L_36 (m_X6_grab hc.1 hc.2.1  (hX _) (hX _) (b_gr (rgaS hc.1.2.1).1 _ _)) ⟨Nat.le_of_ble_eq_true rfl, Nat.le_of_ble_eq_true rfl⟩ hc.1.1 rfl rfl rfl rfl (Nat.le_of_ble_eq_true rfl) ⟨show k ≤ 600000 by omega, show n ≤ 7302250 by omega⟩ dL_law_352 (k_qI fun x_352 w_352 q_352 => ?_)
  rw [e_gr (gd_L hg.1) (gd_40 hg.1) (gd_10 hg.1)] at q_352
  obtain ⟨rfl, q1, q2, f1⟩ := q_352
  have hr1 := lw_r hr f1 (by omega)
  obtain ⟨R1, hh1, -⟩ := id hr1.1
  refine x_aload_n hM dL_law_355 rfl rfl ?_
  refine x_aload_n hM dL_law_356 rfl rfl ?_
  refine x_iload_n hM dL_law_357 rfl rfl ?_
  refine x_iconst hM dL_law_358 ?_
  refine x_iadd hM dL_law_359 ?_
  refine hS.1 _ _ _ _ _ _ (by omega) (by omega) dL_law_360 ?_
  refine x_aload_n hM dL_law_361 rfl rfl ?_
  refine x_iload_n hM dL_law_362 rfl rfl ?_
  refine x_iconst hM dL_law_363 ?_
  refine x_iadd hM dL_law_364 ?_
  refine hS.1 _ _ _ _ _ _ (by omega) (by omega) dL_law_365 ?_
  refine x_callV hM wv_L_39 (m_X7_grab hr1.1 (Or.inl rfl)  (hX _) (hX _)) ⟨Nat.le_of_ble_eq_true rfl, Nat.le_of_ble_eq_true rfl⟩ hh1 rfl rfl rfl rfl (Nat.le_of_ble_eq_true rfl) ⟨show k ≤ 600000 by omega, show n ≤ 7302250 by omega⟩ dL_law_366 (k_qI fun x_366 w_366 q_366 => ?_)
  obtain ⟨rfl, q3, f2⟩ := q_366
  refine x_same (tgt := 1053) hM rfl dL_law_369 (by decide) ?_
  exact hN _ _ k n _ _ _ _ (lw_in (cp_mu hc q1 q2 f1) f2.w (rp_mm hr1 q3 f2) ((gdA_up hg).his (gd_up (gd_gr hg.1 _ _) (by omega) (by omega)) _) hz) (by omega) (by omega)
theorem lc_inherit {l : Launch} {G : xG} {P : xT} {b L x c z k n : Nat} {xs : Int → Int} {w : Wd} {t : St} {hs : List St} {sl : Nat → Option St} {cs : List Int} (hM : xM RL cL_law 4 room_1 l G false P) (hS : scK P b L xs) (hi : 6 * (c : Int) + 6 ≤ L) (hc5 : c ≤ 511) (hk : k ≤ 300 + 22 * c) (hn : n ≤ 8000 + 248 * c) (h : lwI G w z x t hs sl cs c) (hN : lwJ P G b x c) : P 374 [some (.ref b), some (.ref x), some (.ref (x + 215)), some (.int (iI (6 * (c : Int))))] [] w (z, k, n) := by
  obtain ⟨hc, ⟨mn, pl, wr, hr⟩, hg, hz⟩ := h
  have hX := hS.2.2.2
  refine x_aload_n hM dL_law_374 rfl rfl ?_
  refine x_aload_n hM dL_law_375 rfl rfl ?_
  refine x_iload_n hM dL_law_376 rfl rfl ?_
  refine x_iconst hM dL_law_377 ?_
  refine x_iadd hM dL_law_378 ?_
  refine hS.1 _ _ _ _ _ _ (by omega) (by omega) dL_law_379 ?_
  refine x_aload_n hM dL_law_380 rfl rfl ?_
  refine x_iload_n hM dL_law_381 rfl rfl ?_
  refine x_iconst hM dL_law_382 ?_
  refine x_iadd hM dL_law_383 ?_
  refine hS.1 _ _ _ _ _ _ (by omega) (by omega) dL_law_384 ?_
  refine x_callV hM wv_L_40 (m_X6_inherit hc.1 hc.2.1  (hX _) (hX _) (b_in hg.1 _ _)) ⟨Nat.le_of_ble_eq_true rfl, Nat.le_of_ble_eq_true rfl⟩ hc.1.1 rfl rfl rfl rfl (Nat.le_of_ble_eq_true rfl) ⟨show k ≤ 600000 by omega, show n ≤ 7302250 by omega⟩ dL_law_385 (k_qI fun x_385 w_385 q_385 => ?_)
  rw [e_in (gd_L hg.1) (gd_40 hg.1) (gd_10 hg.1)] at q_385
  obtain ⟨rfl, q1, q2, f1⟩ := q_385
  have hr1 := lw_r hr f1 (by omega)
  obtain ⟨R1, hh1, -⟩ := id hr1.1
  refine x_aload_n hM dL_law_388 rfl rfl ?_
  refine x_aload_n hM dL_law_389 rfl rfl ?_
  refine x_iload_n hM dL_law_390 rfl rfl ?_
  refine x_iconst hM dL_law_391 ?_
  refine x_iadd hM dL_law_392 ?_
  refine hS.1 _ _ _ _ _ _ (by omega) (by omega) dL_law_393 ?_
  refine x_aload_n hM dL_law_394 rfl rfl ?_
  refine x_iload_n hM dL_law_395 rfl rfl ?_
  refine x_iconst hM dL_law_396 ?_
  refine x_iadd hM dL_law_397 ?_
  refine hS.1 _ _ _ _ _ _ (by omega) (by omega) dL_law_398 ?_
  refine x_callV hM wv_L_43 (m_X7_inherit hr1.1 (Or.inl rfl)  (hX _) (hX _)) ⟨Nat.le_of_ble_eq_true rfl, Nat.le_of_ble_eq_true rfl⟩ hh1 rfl rfl rfl rfl (Nat.le_of_ble_eq_true rfl) ⟨show k ≤ 600000 by omega, show n ≤ 7302250 by omega⟩ dL_law_399 (k_qI fun x_399 w_399 q_399 => ?_)
  obtain ⟨rfl, q3, f2⟩ := q_399
  refine x_same (tgt := 1053) hM rfl dL_law_402 (by decide) ?_
  exact hN _ _ k n _ _ _ _ (lw_in (cp_mu hc q1 q2 f1) f2.w (rp_mm hr1 q3 f2) ((gdA_up hg).his (gd_up (gd_inh hg.1 _ _) (by omega) (by omega)) _) hz) (by omega) (by omega)
theorem lc_transfer {l : Launch} {G : xG} {P : xT} {b L x c z k n : Nat} {xs : Int → Int} {w : Wd} {t : St} {hs : List St} {sl : Nat → Option St} {cs : List Int} (hM : xM RL cL_law 4 room_1 l G false P) (hS : scK P b L xs) (hi : 6 * (c : Int) + 6 ≤ L) (hc5 : c ≤ 511) (hk : k ≤ 300 + 22 * c) (hn : n ≤ 8000 + 248 * c) (h : lwI G w z x t hs sl cs c) (hN : lwJ P G b x c) : P 407 [some (.ref b), some (.ref x), some (.ref (x + 215)), some (.int (iI (6 * (c : Int))))] [] w (z, k, n) := by
  obtain ⟨hc, ⟨mn, pl, wr, hr⟩, hg, hz⟩ := h
  have hX := hS.2.2.2
  refine x_aload_n hM dL_law_407 rfl rfl ?_
  refine x_aload_n hM dL_law_408 rfl rfl ?_
  refine x_iload_n hM dL_law_409 rfl rfl ?_
  refine x_iconst hM dL_law_410 ?_
  refine x_iadd hM dL_law_411 ?_
  refine hS.1 _ _ _ _ _ _ (by omega) (by omega) dL_law_412 ?_
  refine x_aload_n hM dL_law_413 rfl rfl ?_
  refine x_iload_n hM dL_law_414 rfl rfl ?_
  refine x_iconst hM dL_law_415 ?_
  refine x_iadd hM dL_law_416 ?_
  refine hS.1 _ _ _ _ _ _ (by omega) (by omega) dL_law_417 ?_
  refine x_aload_n hM dL_law_418 rfl rfl ?_
  refine x_iload_n hM dL_law_419 rfl rfl ?_
  refine x_iconst hM dL_law_420 ?_
  refine x_iadd hM dL_law_421 ?_
  refine hS.1 _ _ _ _ _ _ (by omega) (by omega) dL_law_422 ?_
  refine x_aload_n hM dL_law_423 rfl rfl ?_
  refine x_iload_n hM dL_law_424 rfl rfl ?_
  refine x_iconst hM dL_law_425 ?_
  refine x_iadd hM dL_law_426 ?_
  refine hS.1 _ _ _ _ _ _ (by omega) (by omega) dL_law_427 ?_
  refine x_aload_n hM dL_law_428 rfl rfl ?_
  refine x_iload_n hM dL_law_429 rfl rfl ?_
  refine x_iconst hM dL_law_430 ?_
  refine x_iadd hM dL_law_431 ?_
  refine hS.1 _ _ _ _ _ _ (by omega) (by omega) dL_law_432 ?_
  refine x_callV hM wv_L_44 (m_X6_transfer hc.1 hc.2.1  (hX _) (hX _) (hX _) (hX _) (hX _) (b_tr _ _ _ _ _ _)) ⟨Nat.le_of_ble_eq_true rfl, Nat.le_of_ble_eq_true rfl⟩ hc.1.1 rfl rfl rfl rfl (Nat.le_of_ble_eq_true rfl) ⟨show k ≤ 600000 by omega, show n ≤ 7302250 by omega⟩ dL_law_433 (k_qI fun x_433 w_433 q_433 => ?_)
  rw [e_tr] at q_433
  obtain ⟨rfl, q1, q2, f1⟩ := q_433
  have hr1 := lw_r hr f1 (by omega)
  obtain ⟨R1, hh1, -⟩ := id hr1.1
  refine x_aload_n hM dL_law_436 rfl rfl ?_
  refine x_aload_n hM dL_law_437 rfl rfl ?_
  refine x_iload_n hM dL_law_438 rfl rfl ?_
  refine x_iconst hM dL_law_439 ?_
  refine x_iadd hM dL_law_440 ?_
  refine hS.1 _ _ _ _ _ _ (by omega) (by omega) dL_law_441 ?_
  refine x_aload_n hM dL_law_442 rfl rfl ?_
  refine x_iload_n hM dL_law_443 rfl rfl ?_
  refine x_iconst hM dL_law_444 ?_
  refine x_iadd hM dL_law_445 ?_
  refine hS.1 _ _ _ _ _ _ (by omega) (by omega) dL_law_446 ?_
  refine x_aload_n hM dL_law_447 rfl rfl ?_
  refine x_iload_n hM dL_law_448 rfl rfl ?_
  refine x_iconst hM dL_law_449 ?_
  refine x_iadd hM dL_law_450 ?_
  refine hS.1 _ _ _ _ _ _ (by omega) (by omega) dL_law_451 ?_
  refine x_aload_n hM dL_law_452 rfl rfl ?_
  refine x_iload_n hM dL_law_453 rfl rfl ?_
  refine x_iconst hM dL_law_454 ?_
  refine x_iadd hM dL_law_455 ?_
  refine hS.1 _ _ _ _ _ _ (by omega) (by omega) dL_law_456 ?_
  refine x_aload_n hM dL_law_457 rfl rfl ?_
  refine x_iload_n hM dL_law_458 rfl rfl ?_
  refine x_iconst hM dL_law_459 ?_
  refine x_iadd hM dL_law_460 ?_
  refine hS.1 _ _ _ _ _ _ (by omega) (by omega) dL_law_461 ?_
  refine x_callV hM wv_L_48 (m_X7_transfer hr1.1 (Or.inl rfl)  (hX _) (hX _) (hX _) (hX _) (hX _)) ⟨Nat.le_of_ble_eq_true rfl, Nat.le_of_ble_eq_true rfl⟩ hh1 rfl rfl rfl rfl (Nat.le_of_ble_eq_true rfl) ⟨show k ≤ 600000 by omega, show n ≤ 7302250 by omega⟩ dL_law_462 (k_qI fun x_462 w_462 q_462 => ?_)
  obtain ⟨rfl, q3, f2⟩ := q_462
  refine x_same (tgt := 1053) hM rfl dL_law_465 (by decide) ?_
  exact hN _ _ k n _ _ _ _ (lw_in (cp_mu hc q1 q2 f1) f2.w (rp_mm hr1 q3 f2) ((gdA_up hg).his (gd_up (gd_tr hg.1 _ _ _ _ _) (by omega) (by omega)) _) hz) (by omega) (by omega)
theorem lc_drop {l : Launch} {G : xG} {P : xT} {b L x c z k n : Nat} {xs : Int → Int} {w : Wd} {t : St} {hs : List St} {sl : Nat → Option St} {cs : List Int} (hM : xM RL cL_law 4 room_1 l G false P) (hS : scK P b L xs) (hi : 6 * (c : Int) + 6 ≤ L) (hc5 : c ≤ 511) (hk : k ≤ 300 + 22 * c) (hn : n ≤ 8000 + 248 * c) (h : lwI G w z x t hs sl cs c) (hN : lwJ P G b x c) : P 470 [some (.ref b), some (.ref x), some (.ref (x + 215)), some (.int (iI (6 * (c : Int))))] [] w (z, k, n) := by
  obtain ⟨hc, ⟨mn, pl, wr, hr⟩, hg, hz⟩ := h
  have hX := hS.2.2.2
  refine x_aload_n hM dL_law_470 rfl rfl ?_
  refine x_callV hM wv_L_49 (m_X6_drop hc.1 hc.2.1   (b_dr hg.1)) ⟨Nat.le_of_ble_eq_true rfl, Nat.le_of_ble_eq_true rfl⟩ hc.1.1 rfl rfl rfl rfl (Nat.le_of_ble_eq_true rfl) ⟨show k ≤ 600000 by omega, show n ≤ 7302250 by omega⟩ dL_law_471 (k_qI fun x_471 w_471 q_471 => ?_)
  rw [e_dr] at q_471
  obtain ⟨rfl, q1, q2, f1⟩ := q_471
  have hr1 := lw_r hr f1 (by omega)
  obtain ⟨R1, hh1, -⟩ := id hr1.1
  refine x_aload_n hM dL_law_474 rfl rfl ?_
  refine x_callV hM wv_L_53 (m_X7_drop hr1.1 (Or.inl rfl)) ⟨Nat.le_of_ble_eq_true rfl, Nat.le_of_ble_eq_true rfl⟩ hh1 rfl rfl rfl rfl (Nat.le_of_ble_eq_true rfl) ⟨show k ≤ 600000 by omega, show n ≤ 7302250 by omega⟩ dL_law_475 (k_qI fun x_475 w_475 q_475 => ?_)
  obtain ⟨rfl, q3, f2⟩ := q_475
  refine x_same (tgt := 1053) hM rfl dL_law_478 (by decide) ?_
  exact hN _ _ k n _ _ _ _ (lw_in (cp_mu hc q1 q2 f1) f2.w (rp_mm hr1 q3 f2) ((gdA_up hg).his (gd_up (gd_dr hg.1) (by omega) (by omega)) _) hz) (by omega) (by omega)
theorem lc_close {l : Launch} {G : xG} {P : xT} {b L x c z k n : Nat} {xs : Int → Int} {w : Wd} {t : St} {hs : List St} {sl : Nat → Option St} {cs : List Int} (hM : xM RL cL_law 4 room_1 l G false P) (hS : scK P b L xs) (hi : 6 * (c : Int) + 6 ≤ L) (hc5 : c ≤ 511) (hk : k ≤ 300 + 22 * c) (hn : n ≤ 8000 + 248 * c) (h : lwI G w z x t hs sl cs c) (hN : lwJ P G b x c) : P 483 [some (.ref b), some (.ref x), some (.ref (x + 215)), some (.int (iI (6 * (c : Int))))] [] w (z, k, n) := by
  obtain ⟨hc, ⟨mn, pl, wr, hr⟩, hg, hz⟩ := h
  have hX := hS.2.2.2
  refine x_aload_n hM dL_law_483 rfl rfl ?_
  refine x_callV hM wv_L_54 (m_X6_close hc.1 hc.2.1   (b_cl hg.1)) ⟨Nat.le_of_ble_eq_true rfl, Nat.le_of_ble_eq_true rfl⟩ hc.1.1 rfl rfl rfl rfl (Nat.le_of_ble_eq_true rfl) ⟨show k ≤ 600000 by omega, show n ≤ 7302250 by omega⟩ dL_law_484 (k_qI fun x_484 w_484 q_484 => ?_)
  rw [(e_cl hg.1).1] at q_484
  obtain ⟨rfl, q1, q2, f1⟩ := q_484
  have hr1 := lw_r hr f1 (by omega)
  obtain ⟨R1, hh1, -⟩ := id hr1.1
  refine x_aload_n hM dL_law_487 rfl rfl ?_
  refine x_callV hM wv_L_57 (m_X7_close hr1.1 (Or.inl rfl) hr1.2.1) ⟨Nat.le_of_ble_eq_true rfl, Nat.le_of_ble_eq_true rfl⟩ hh1 rfl rfl rfl rfl (Nat.le_of_ble_eq_true rfl) ⟨show k ≤ 600000 by omega, show n ≤ 7302250 by omega⟩ dL_law_488 (k_qI fun x_488 w_488 q_488 => ?_)
  obtain ⟨rfl, q3, q4, f2⟩ := q_488
  refine x_same (tgt := 1053) hM rfl dL_law_491 (by decide) ?_
  exact hN _ _ k n _ _ _ _ (lw_in (cp_mu hc q1 q2 f1) f2.w (rp_mk hr1 q3 q4 f2) ((gdA_up hg).his (gd_up (e_cl hg.1).2 (by omega) (by omega)) _) hz) (by omega) (by omega)
theorem lc_days {l : Launch} {G : xG} {P : xT} {b L x c z k n : Nat} {xs : Int → Int} {w : Wd} {t : St} {hs : List St} {sl : Nat → Option St} {cs : List Int} (hM : xM RL cL_law 4 room_1 l G false P) (hS : scK P b L xs) (hi : 6 * (c : Int) + 6 ≤ L) (hc5 : c ≤ 511) (hk : k ≤ 300 + 22 * c) (hn : n ≤ 8000 + 248 * c) (h : lwI G w z x t hs sl cs c) (hN : lwJ P G b x c) : P 509 [some (.ref b), some (.ref x), some (.ref (x + 215)), some (.int (iI (6 * (c : Int))))] [] w (z, k, n) := by
  obtain ⟨hc, ⟨mn, pl, wr, hr⟩, hg, hz⟩ := h
  have hX := hS.2.2.2
  refine x_aload_n hM dL_law_509 rfl rfl ?_
  refine x_aload_n hM dL_law_510 rfl rfl ?_
  refine x_iload_n hM dL_law_511 rfl rfl ?_
  refine x_iconst hM dL_law_512 ?_
  refine x_iadd hM dL_law_513 ?_
  refine hS.1 _ _ _ _ _ _ (by omega) (by omega) dL_law_514 ?_
  refine x_callV hM wv_L_62 (m_X6_days hc.1 hc.2.1  (hX _) (b_da hg.1 (by omega) _)) ⟨Nat.le_of_ble_eq_true rfl, Nat.le_of_ble_eq_true rfl⟩ hc.1.1 rfl rfl rfl rfl (Nat.le_of_ble_eq_true rfl) ⟨show k ≤ 600000 by omega, show n ≤ 7302250 by omega⟩ dL_law_515 (k_qI fun x_515 w_515 q_515 => ?_)
  rw [e_da (gd_L hg.1)] at q_515
  obtain ⟨rfl, q1, q2, f1⟩ := q_515
  have hr1 := lw_r hr f1 (by omega)
  obtain ⟨R1, hh1, -⟩ := id hr1.1
  refine x_aload_n hM dL_law_518 rfl rfl ?_
  refine x_aload_n hM dL_law_519 rfl rfl ?_
  refine x_iload_n hM dL_law_520 rfl rfl ?_
  refine x_iconst hM dL_law_521 ?_
  refine x_iadd hM dL_law_522 ?_
  refine hS.1 _ _ _ _ _ _ (by omega) (by omega) dL_law_523 ?_
  refine x_callV hM wv_L_65 (m_X7_days hr1.1 (Or.inl rfl) (gd_d hg.1).1 (hX _)) ⟨Nat.le_of_ble_eq_true rfl, Nat.le_of_ble_eq_true rfl⟩ hh1 rfl rfl rfl rfl (Nat.le_of_ble_eq_true rfl) ⟨show k ≤ 600000 by omega, show n ≤ 7302250 by omega⟩ dL_law_524 (k_qI fun x_524 w_524 q_524 => ?_)
  obtain ⟨rfl, q3, f2⟩ := q_524
  refine x_same (tgt := 1053) hM rfl dL_law_527 (by decide) ?_
  exact hN _ _ k n _ _ _ _ (lw_in (cp_mu hc q1 q2 f1) f2.w (rp_mm hr1 q3 f2) ((gdA_up hg).his (gd_up (gd_da hg.1 _) (by omega) (by omega)) _) hz) (by omega) (by omega)
theorem lc_restore {l : Launch} {G : xG} {P : xT} {b L x c z k n : Nat} {xs : Int → Int} {w : Wd} {t : St} {hs : List St} {sl : Nat → Option St} {cs : List Int} (hM : xM RL cL_law 4 room_1 l G false P) (hS : scK P b L xs) (hi : 6 * (c : Int) + 6 ≤ L) (hc5 : c ≤ 511) (hk : k ≤ 300 + 22 * c) (hn : n ≤ 8000 + 248 * c) (h : lwI G w z x t hs sl cs c) (hN : lwJ P G b x c) : P 1030 [some (.ref b), some (.ref x), some (.ref (x + 215)), some (.int (iI (6 * (c : Int))))] [] w (z, k, n) := by
  obtain ⟨hc, ⟨mn, pl, wr, hr⟩, hg, hz⟩ := h
  have hX := hS.2.2.2
  refine x_aload_n hM dL_law_1030 rfl rfl ?_
  refine x_aload_n hM dL_law_1031 rfl rfl ?_
  refine x_iload_n hM dL_law_1032 rfl rfl ?_
  refine x_iconst hM dL_law_1033 ?_
  refine x_iadd hM dL_law_1034 ?_
  refine hS.1 _ _ _ _ _ _ (by omega) (by omega) dL_law_1035 ?_
  refine x_callV hM wv_L_146 (m_X6_restore hc.1 hc.2.1 hc.2.2.1 (hX _) (b_cb hg (by omega) _)) ⟨Nat.le_of_ble_eq_true rfl, Nat.le_of_ble_eq_true rfl⟩ hc.1.1 rfl rfl rfl rfl (Nat.le_of_ble_eq_true rfl) ⟨show k ≤ 600000 by omega, show n ≤ 7302250 by omega⟩ dL_law_1036 (k_qI fun x_1036 w_1036 q_1036 => ?_)
  rw [e_cb] at q_1036
  obtain ⟨rfl, q1, q2, f1⟩ := q_1036
  have hr1 := lw_r hr f1 (by omega)
  obtain ⟨R1, hh1, -⟩ := id hr1.1
  refine x_aload_n hM dL_law_1039 rfl rfl ?_
  refine x_aload_n hM dL_law_1040 rfl rfl ?_
  refine x_iload_n hM dL_law_1041 rfl rfl ?_
  refine x_iconst hM dL_law_1042 ?_
  refine x_iadd hM dL_law_1043 ?_
  refine hS.1 _ _ _ _ _ _ (by omega) (by omega) dL_law_1044 ?_
  refine x_callV hM wv_L_149 (m_X7_restore hr1.1 (Or.inl rfl) hr1.2.2.2.2 (fun i u a b => (gd_d (hg.2.2 i u a b)).1) (hX _)) ⟨Nat.le_of_ble_eq_true rfl, Nat.le_of_ble_eq_true rfl⟩ hh1 rfl rfl rfl rfl (Nat.le_of_ble_eq_true rfl) ⟨show k ≤ 600000 by omega, show n ≤ 7302250 by omega⟩ dL_law_1045 (k_qI fun x_1045 w_1045 q_1045 => ?_)
  obtain ⟨rfl, q3, f2⟩ := q_1045
  refine x_same (tgt := 1053) hM rfl dL_law_1048 (by decide) ?_
  exact hN _ _ k n _ _ _ _ (lw_in (cp_mu hc q1 q2 f1) f2.w (rp_mm hr1 q3 f2) ((gdA_up hg).his (gd_up (gd_cb hg _) (by omega) (by omega)) _) hz) (by omega) (by omega)
