/-! an act -/
theorem drF_b {s : St} (h : s.D.length ≤ 8) : iR (drF s).1 := by
  unfold drF
  split
  · show -2147483648 ≤ (-5 : Int) ∧ (-5 : Int) ≤ 2147483647; omega
  · show -2147483648 ≤ (s.D.length : Int) - 1 ∧ (s.D.length : Int) - 1 ≤ 2147483647; omega
theorem drF_iv {c : Nat} {s : St} (h : ivS c s) : ivS (c + 1) (drF s).2 ∧ (drF s).2.own = s.own := by
  unfold drF
  split
  · exact ⟨ivS_up h, rfl⟩
  · obtain ⟨g1, g2, g3, g4, g5⟩ := ivS_up h
    exact ⟨⟨g1, g2, g3, fun t ht => g4 t ((List.dropLast_sublist s.D).subset ht), g5⟩, rfl⟩
theorem m_L_isAct {l : Launch} {G : xG} {w : Wd} {z x c : Nat} {s : St} {at0 : Int} (h : obA G w x s) (hiv : ivS c s) (hz : x + 215 ≤ z) (hc : c ≤ 100) (ha : 0 ≤ at0 ∧ at0 ≤ 900) : xMet l G yL_isAct cL_isAct 10 (some .boolean) ({ frames := 8, cells := 7, slots := 394, locals := 206 } : Room) [.ref x, .ref (G.2.2.2 3), .int (iI at0)] w z (acQ G x c z s) := by
  obtain ⟨g1, g2, g3, g4, hown, -⟩ := id hiv
  have hW := (ob_W h).2.1
  have hDl := (ob_W h).2.2.1
  have hl := hW.1
  obtain ⟨-, ⟨hs, hh⟩, -⟩ := id h
  refine xMet_of RL rfl (by decide +kernel) false (by decide +kernel) (Nat.le_of_ble_eq_true rfl) rfl ?_
  intro P hM hR
  /- the act is chosen -/
  have S86 : ∀ a b f n : Int, (0 ≤ a ∧ a < s.own) → (0 ≤ b ∧ b < s.own) → (0 ≤ f ∧ 1 ≤ n ∧ f + n ≤ 10000 ∧ n ≤ 100) → P 86 [some (.ref x), some (.ref (G.2.2.2 3)), some (.int (iI at0)), some (.int (iI a)), some (.int (iI b)), some (.int (iI f)), some (.int (iI n)), none, none, none] [] w (z, 0, 0) := by
    intro a b f n ha2 hb2 hfn
    /- a transfer -/
    have ST : P 246 [some (.ref x), some (.ref (G.2.2.2 3)), some (.int (iI at0)), some (.int (iI a)), some (.int (iI b)), some (.int (iI f)), some (.int (iI n)), none, none, none] [] w (z, 0, 0) := by
      /- of a range -/
      have SR : ∀ kn : Nat, kn < s.L.length → P 270 [some (.ref x), some (.ref (G.2.2.2 3)), some (.int (iI at0)), some (.int (iI a)), some (.int (iI b)), some (.int (iI f)), some (.int (iI n)), none, none, none] [.int (iI kn)] w (z, 0, 0) := by
        intro kn hkn
        have hok := strW_at hW hkn
        have hko := g3 s.L[kn] (List.getElem_mem _)
        refine x_istore hM dL_isAct_270 rfl (Nat.le_of_ble_eq_true rfl) rfl ?_
        refine x_aload_n hM dL_isAct_272 rfl rfl ?_
        refine x_iload_n hM dL_isAct_273 rfl rfl ?_
        refine x_iconst hM dL_isAct_274 ?_
        refine x_iadd hM dL_isAct_275 ?_
        refine x_iconst hM dL_isAct_276 ?_
        refine x_callS hM ws_L_131 (m_L_cell (by omega) (by omega)) ⟨Nat.le_of_ble_eq_true rfl, Nat.le_of_ble_eq_true rfl⟩ rfl rfl (Nat.le_of_ble_eq_true rfl) ⟨Nat.le_of_ble_eq_true rfl, Nat.le_of_ble_eq_true rfl⟩ dL_isAct_277 (k_qI fun x_277 w_277 q_277 => ?_)
        obtain ⟨rfl, y0, y1⟩ := q_277
        refine x_if_ne (tgt := 287) hM dL_isAct_280 (by decide) (by omega) (fun c_280 => ?_) (fun c_280 => ?_)
        · refine x_iconst hM dL_isAct_287 ?_
          refine x_istore hM dL_isAct_288 rfl (Nat.le_of_ble_eq_true rfl) rfl ?_
          refine x_iload hM dL_isAct_290 rfl ?_
          refine x_if_ge (tgt := 320) hM dL_isAct_292 (by decide) (by omega) (fun c_292 => ?_) (fun c_292 => ?_)
          · refine x_aload_n hM dL_isAct_320 rfl rfl ?_
            refine x_aload_n hM dL_isAct_321 rfl rfl ?_
            refine x_iload hM dL_isAct_322 rfl ?_
            refine x_iconst hM dL_isAct_324 ?_
            refine x_callV hM wv_L_14 (o_r0 h hkn) ⟨Nat.le_of_ble_eq_true rfl, Nat.le_of_ble_eq_true rfl⟩ (ob_o h) rfl rfl rfl rfl (Nat.le_of_ble_eq_true rfl) ⟨Nat.le_of_ble_eq_true rfl, Nat.le_of_ble_eq_true rfl⟩ dL_isAct_325 (k_rI ?_)
            refine x_iload hM dL_isAct_328 rfl ?_
            refine x_aload_n hM dL_isAct_330 rfl rfl ?_
            refine x_iload hM dL_isAct_331 rfl ?_
            refine x_iconst hM dL_isAct_333 ?_
            refine x_callV hM wv_L_14 (o_r1 h hkn) ⟨Nat.le_of_ble_eq_true rfl, Nat.le_of_ble_eq_true rfl⟩ (ob_o h) rfl rfl rfl rfl (Nat.le_of_ble_eq_true rfl) ⟨Nat.le_of_ble_eq_true rfl, Nat.le_of_ble_eq_true rfl⟩ dL_isAct_334 (k_rI ?_)
            refine x_iload hM dL_isAct_337 rfl ?_
            refine x_if_eq (tgt := 352) hM dL_isAct_339 (by decide) (by omega) (fun c_339 => ?_) (fun c_339 => ?_)
            · refine x_iconst hM dL_isAct_352 ?_
              refine x_aload_n hM dL_isAct_353 rfl rfl ?_
              refine x_iload_n hM dL_isAct_354 rfl rfl ?_
              refine x_bipush hM dL_isAct_355 rfl ?_
              refine x_iadd hM dL_isAct_357 ?_
              refine x_sipush hM dL_isAct_358 rfl ?_
              refine x_callS hM ws_L_131 (m_L_cell (by omega) (by omega)) ⟨Nat.le_of_ble_eq_true rfl, Nat.le_of_ble_eq_true rfl⟩ rfl rfl (Nat.le_of_ble_eq_true rfl) ⟨Nat.le_of_ble_eq_true rfl, Nat.le_of_ble_eq_true rfl⟩ dL_isAct_361 (k_qI fun x_361 w_361 q_361 => ?_)
              obtain ⟨rfl, v0, v1⟩ := q_361
              refine x_callS hM ws_L_151 (m_L_isAdded h hiv hz (by omega) (by omega) (by omega) (by omega)) ⟨Nat.le_of_ble_eq_true rfl, Nat.le_of_ble_eq_true rfl⟩ rfl rfl (Nat.le_of_ble_eq_true rfl) ⟨Nat.le_of_ble_eq_true rfl, Nat.le_of_ble_eq_true rfl⟩ dL_isAct_364 (k_eI fun x_364 w_364 z_364 q_364 => ?_)
              obtain ⟨rfl, e2, s1, e3, e4, e5⟩ := q_364
              refine hR.b dL_isAct_367 rfl (Nat.le_of_ble_eq_true rfl) (Nat.le_of_ble_eq_true rfl) ?_
              exact p_ac rfl e2 e3 e4 e5
            · refine x_aload_n hM dL_isAct_342 rfl rfl ?_
              refine x_iload hM dL_isAct_343 rfl ?_
              refine x_iconst hM dL_isAct_345 ?_
              refine x_callV hM wv_L_14 (o_r2 h hkn) ⟨Nat.le_of_ble_eq_true rfl, Nat.le_of_ble_eq_true rfl⟩ (ob_o h) rfl rfl rfl rfl (Nat.le_of_ble_eq_true rfl) ⟨Nat.le_of_ble_eq_true rfl, Nat.le_of_ble_eq_true rfl⟩ dL_isAct_346 (k_rI ?_)
              refine x_goto (tgt := 353) hM dL_isAct_349 (by decide) ?_
              refine x_aload_n hM dL_isAct_353 rfl rfl ?_
              refine x_iload_n hM dL_isAct_354 rfl rfl ?_
              refine x_bipush hM dL_isAct_355 rfl ?_
              refine x_iadd hM dL_isAct_357 ?_
              refine x_sipush hM dL_isAct_358 rfl ?_
              refine x_callS hM ws_L_131 (m_L_cell (by omega) (by omega)) ⟨Nat.le_of_ble_eq_true rfl, Nat.le_of_ble_eq_true rfl⟩ rfl rfl (Nat.le_of_ble_eq_true rfl) ⟨Nat.le_of_ble_eq_true rfl, Nat.le_of_ble_eq_true rfl⟩ dL_isAct_361 (k_qI fun x_361 w_361 q_361 => ?_)
              obtain ⟨rfl, v0, v1⟩ := q_361
              refine x_callS hM ws_L_151 (m_L_isAdded h hiv hz (by omega) (by omega) (by omega) (by omega)) ⟨Nat.le_of_ble_eq_true rfl, Nat.le_of_ble_eq_true rfl⟩ rfl rfl (Nat.le_of_ble_eq_true rfl) ⟨Nat.le_of_ble_eq_true rfl, Nat.le_of_ble_eq_true rfl⟩ dL_isAct_364 (k_eI fun x_364 w_364 z_364 q_364 => ?_)
              obtain ⟨rfl, e2, s1, e3, e4, e5⟩ := q_364
              refine hR.b dL_isAct_367 rfl (Nat.le_of_ble_eq_true rfl) (Nat.le_of_ble_eq_true rfl) ?_
              exact p_ac rfl e2 e3 e4 e5
          · exfalso; omega
        · refine x_iconst hM dL_isAct_283 ?_
          refine x_goto (tgt := 288) hM dL_isAct_284 (by decide) ?_
          refine x_istore hM dL_isAct_288 rfl (Nat.le_of_ble_eq_true rfl) rfl ?_
          refine x_iload hM dL_isAct_290 rfl ?_
          refine x_if_ge (tgt := 320) hM dL_isAct_292 (by decide) (by omega) (fun c_292 => ?_) (fun c_292 => ?_)
          · refine x_aload_n hM dL_isAct_320 rfl rfl ?_
            refine x_aload_n hM dL_isAct_321 rfl rfl ?_
            refine x_iload hM dL_isAct_322 rfl ?_
            refine x_iconst hM dL_isAct_324 ?_
            refine x_callV hM wv_L_14 (o_r0 h hkn) ⟨Nat.le_of_ble_eq_true rfl, Nat.le_of_ble_eq_true rfl⟩ (ob_o h) rfl rfl rfl rfl (Nat.le_of_ble_eq_true rfl) ⟨Nat.le_of_ble_eq_true rfl, Nat.le_of_ble_eq_true rfl⟩ dL_isAct_325 (k_rI ?_)
            refine x_iload hM dL_isAct_328 rfl ?_
            refine x_aload_n hM dL_isAct_330 rfl rfl ?_
            refine x_iload hM dL_isAct_331 rfl ?_
            refine x_iconst hM dL_isAct_333 ?_
            refine x_callV hM wv_L_14 (o_r1 h hkn) ⟨Nat.le_of_ble_eq_true rfl, Nat.le_of_ble_eq_true rfl⟩ (ob_o h) rfl rfl rfl rfl (Nat.le_of_ble_eq_true rfl) ⟨Nat.le_of_ble_eq_true rfl, Nat.le_of_ble_eq_true rfl⟩ dL_isAct_334 (k_rI ?_)
            refine x_iload hM dL_isAct_337 rfl ?_
            refine x_if_eq (tgt := 352) hM dL_isAct_339 (by decide) (by omega) (fun c_339 => ?_) (fun c_339 => ?_)
            · refine x_iconst hM dL_isAct_352 ?_
              refine x_aload_n hM dL_isAct_353 rfl rfl ?_
              refine x_iload_n hM dL_isAct_354 rfl rfl ?_
              refine x_bipush hM dL_isAct_355 rfl ?_
              refine x_iadd hM dL_isAct_357 ?_
              refine x_sipush hM dL_isAct_358 rfl ?_
              refine x_callS hM ws_L_131 (m_L_cell (by omega) (by omega)) ⟨Nat.le_of_ble_eq_true rfl, Nat.le_of_ble_eq_true rfl⟩ rfl rfl (Nat.le_of_ble_eq_true rfl) ⟨Nat.le_of_ble_eq_true rfl, Nat.le_of_ble_eq_true rfl⟩ dL_isAct_361 (k_qI fun x_361 w_361 q_361 => ?_)
              obtain ⟨rfl, v0, v1⟩ := q_361
              refine x_callS hM ws_L_151 (m_L_isAdded h hiv hz (by omega) (by omega) (by omega) (by omega)) ⟨Nat.le_of_ble_eq_true rfl, Nat.le_of_ble_eq_true rfl⟩ rfl rfl (Nat.le_of_ble_eq_true rfl) ⟨Nat.le_of_ble_eq_true rfl, Nat.le_of_ble_eq_true rfl⟩ dL_isAct_364 (k_eI fun x_364 w_364 z_364 q_364 => ?_)
              obtain ⟨rfl, e2, s1, e3, e4, e5⟩ := q_364
              refine hR.b dL_isAct_367 rfl (Nat.le_of_ble_eq_true rfl) (Nat.le_of_ble_eq_true rfl) ?_
              exact p_ac rfl e2 e3 e4 e5
            · refine x_aload_n hM dL_isAct_342 rfl rfl ?_
              refine x_iload hM dL_isAct_343 rfl ?_
              refine x_iconst hM dL_isAct_345 ?_
              refine x_callV hM wv_L_14 (o_r2 h hkn) ⟨Nat.le_of_ble_eq_true rfl, Nat.le_of_ble_eq_true rfl⟩ (ob_o h) rfl rfl rfl rfl (Nat.le_of_ble_eq_true rfl) ⟨Nat.le_of_ble_eq_true rfl, Nat.le_of_ble_eq_true rfl⟩ dL_isAct_346 (k_rI ?_)
              refine x_goto (tgt := 353) hM dL_isAct_349 (by decide) ?_
              refine x_aload_n hM dL_isAct_353 rfl rfl ?_
              refine x_iload_n hM dL_isAct_354 rfl rfl ?_
              refine x_bipush hM dL_isAct_355 rfl ?_
              refine x_iadd hM dL_isAct_357 ?_
              refine x_sipush hM dL_isAct_358 rfl ?_
              refine x_callS hM ws_L_131 (m_L_cell (by omega) (by omega)) ⟨Nat.le_of_ble_eq_true rfl, Nat.le_of_ble_eq_true rfl⟩ rfl rfl (Nat.le_of_ble_eq_true rfl) ⟨Nat.le_of_ble_eq_true rfl, Nat.le_of_ble_eq_true rfl⟩ dL_isAct_361 (k_qI fun x_361 w_361 q_361 => ?_)
              obtain ⟨rfl, v0, v1⟩ := q_361
              refine x_callS hM ws_L_151 (m_L_isAdded h hiv hz (by omega) (by omega) (by omega) (by omega)) ⟨Nat.le_of_ble_eq_true rfl, Nat.le_of_ble_eq_true rfl⟩ rfl rfl (Nat.le_of_ble_eq_true rfl) ⟨Nat.le_of_ble_eq_true rfl, Nat.le_of_ble_eq_true rfl⟩ dL_isAct_364 (k_eI fun x_364 w_364 z_364 q_364 => ?_)
              obtain ⟨rfl, e2, s1, e3, e4, e5⟩ := q_364
              refine hR.b dL_isAct_367 rfl (Nat.le_of_ble_eq_true rfl) (Nat.le_of_ble_eq_true rfl) ?_
              exact p_ac rfl e2 e3 e4 e5
          · exfalso; omega
      by_cases c0 : s.L.length = 0
      · skip
        refine x_aload_n hM dL_isAct_246 rfl rfl ?_
        refine x_iconst hM dL_isAct_247 ?_
        refine x_callV hM wv_L_8 (o_c2 h) ⟨Nat.le_of_ble_eq_true rfl, Nat.le_of_ble_eq_true rfl⟩ (ob_o h) rfl rfl rfl rfl (Nat.le_of_ble_eq_true rfl) ⟨Nat.le_of_ble_eq_true rfl, Nat.le_of_ble_eq_true rfl⟩ dL_isAct_248 (k_rI ?_)
        refine x_if_ne (tgt := 258) hM dL_isAct_251 (by decide) (by omega) (fun c_251 => ?_) (fun c_251 => ?_)
        · exfalso; omega
        · refine x_iconst hM dL_isAct_254 ?_
          refine x_goto (tgt := 270) hM dL_isAct_255 (by decide) ?_
          refine x_istore hM dL_isAct_270 rfl (Nat.le_of_ble_eq_true rfl) rfl ?_
          refine x_aload_n hM dL_isAct_272 rfl rfl ?_
          refine x_iload_n hM dL_isAct_273 rfl rfl ?_
          refine x_iconst hM dL_isAct_274 ?_
          refine x_iadd hM dL_isAct_275 ?_
          refine x_iconst hM dL_isAct_276 ?_
          refine x_callS hM ws_L_131 (m_L_cell (by omega) (by omega)) ⟨Nat.le_of_ble_eq_true rfl, Nat.le_of_ble_eq_true rfl⟩ rfl rfl (Nat.le_of_ble_eq_true rfl) ⟨Nat.le_of_ble_eq_true rfl, Nat.le_of_ble_eq_true rfl⟩ dL_isAct_277 (k_qI fun x_277 w_277 q_277 => ?_)
          obtain ⟨rfl, y0, y1⟩ := q_277
          refine x_if_ne (tgt := 287) hM dL_isAct_280 (by decide) (by omega) (fun c_280 => ?_) (fun c_280 => ?_)
          · refine x_iconst hM dL_isAct_287 ?_
            refine x_istore hM dL_isAct_288 rfl (Nat.le_of_ble_eq_true rfl) rfl ?_
            refine x_iload hM dL_isAct_290 rfl ?_
            refine x_if_ge (tgt := 320) hM dL_isAct_292 (by decide) (by omega) (fun c_292 => ?_) (fun c_292 => ?_)
            · exfalso; omega
            · refine x_aload_n hM dL_isAct_295 rfl rfl ?_
              refine x_iload_n hM dL_isAct_296 rfl rfl ?_
              refine x_iload hM dL_isAct_297 rfl ?_
              refine x_iload hM dL_isAct_299 rfl ?_
              refine x_iload hM dL_isAct_301 rfl ?_
              refine x_aload_n hM dL_isAct_303 rfl rfl ?_
              refine x_iload_n hM dL_isAct_304 rfl rfl ?_
              refine x_bipush hM dL_isAct_305 rfl ?_
              refine x_iadd hM dL_isAct_307 ?_
              refine x_sipush hM dL_isAct_308 rfl ?_
              refine x_callS hM ws_L_131 (m_L_cell (by omega) (by omega)) ⟨Nat.le_of_ble_eq_true rfl, Nat.le_of_ble_eq_true rfl⟩ rfl rfl (Nat.le_of_ble_eq_true rfl) ⟨Nat.le_of_ble_eq_true rfl, Nat.le_of_ble_eq_true rfl⟩ dL_isAct_311 (k_qI fun x_311 w_311 q_311 => ?_)
              obtain ⟨rfl, v0, v1⟩ := q_311
              refine x_callS hM ws_L_151 (m_L_isAdded h hiv hz (by omega) (by omega) (by omega) (by omega)) ⟨Nat.le_of_ble_eq_true rfl, Nat.le_of_ble_eq_true rfl⟩ rfl rfl (Nat.le_of_ble_eq_true rfl) ⟨Nat.le_of_ble_eq_true rfl, Nat.le_of_ble_eq_true rfl⟩ dL_isAct_314 (k_eI fun x_314 w_314 z_314 q_314 => ?_)
              obtain ⟨rfl, e2, s1, e3, e4, e5⟩ := q_314
              refine x_goto (tgt := 367) hM dL_isAct_317 (by decide) ?_
              refine hR.b dL_isAct_367 rfl (Nat.le_of_ble_eq_true rfl) (Nat.le_of_ble_eq_true rfl) ?_
              exact p_ac rfl e2 e3 e4 e5
          · refine x_iconst hM dL_isAct_283 ?_
            refine x_goto (tgt := 288) hM dL_isAct_284 (by decide) ?_
            refine x_istore hM dL_isAct_288 rfl (Nat.le_of_ble_eq_true rfl) rfl ?_
            refine x_iload hM dL_isAct_290 rfl ?_
            refine x_if_ge (tgt := 320) hM dL_isAct_292 (by decide) (by omega) (fun c_292 => ?_) (fun c_292 => ?_)
            · exfalso; omega
            · refine x_aload_n hM dL_isAct_295 rfl rfl ?_
              refine x_iload_n hM dL_isAct_296 rfl rfl ?_
              refine x_iload hM dL_isAct_297 rfl ?_
              refine x_iload hM dL_isAct_299 rfl ?_
              refine x_iload hM dL_isAct_301 rfl ?_
              refine x_aload_n hM dL_isAct_303 rfl rfl ?_
              refine x_iload_n hM dL_isAct_304 rfl rfl ?_
              refine x_bipush hM dL_isAct_305 rfl ?_
              refine x_iadd hM dL_isAct_307 ?_
              refine x_sipush hM dL_isAct_308 rfl ?_
              refine x_callS hM ws_L_131 (m_L_cell (by omega) (by omega)) ⟨Nat.le_of_ble_eq_true rfl, Nat.le_of_ble_eq_true rfl⟩ rfl rfl (Nat.le_of_ble_eq_true rfl) ⟨Nat.le_of_ble_eq_true rfl, Nat.le_of_ble_eq_true rfl⟩ dL_isAct_311 (k_qI fun x_311 w_311 q_311 => ?_)
              obtain ⟨rfl, v0, v1⟩ := q_311
              refine x_callS hM ws_L_151 (m_L_isAdded h hiv hz (by omega) (by omega) (by omega) (by omega)) ⟨Nat.le_of_ble_eq_true rfl, Nat.le_of_ble_eq_true rfl⟩ rfl rfl (Nat.le_of_ble_eq_true rfl) ⟨Nat.le_of_ble_eq_true rfl, Nat.le_of_ble_eq_true rfl⟩ dL_isAct_314 (k_eI fun x_314 w_314 z_314 q_314 => ?_)
              obtain ⟨rfl, e2, s1, e3, e4, e5⟩ := q_314
              refine x_goto (tgt := 367) hM dL_isAct_317 (by decide) ?_
              refine hR.b dL_isAct_367 rfl (Nat.le_of_ble_eq_true rfl) (Nat.le_of_ble_eq_true rfl) ?_
              exact p_ac rfl e2 e3 e4 e5
      · skip
        refine x_aload_n hM dL_isAct_246 rfl rfl ?_
        refine x_iconst hM dL_isAct_247 ?_
        refine x_callV hM wv_L_8 (o_c2 h) ⟨Nat.le_of_ble_eq_true rfl, Nat.le_of_ble_eq_true rfl⟩ (ob_o h) rfl rfl rfl rfl (Nat.le_of_ble_eq_true rfl) ⟨Nat.le_of_ble_eq_true rfl, Nat.le_of_ble_eq_true rfl⟩ dL_isAct_248 (k_rI ?_)
        refine x_if_ne (tgt := 258) hM dL_isAct_251 (by decide) (by omega) (fun c_251 => ?_) (fun c_251 => ?_)
        · refine x_aload_n hM dL_isAct_258 rfl rfl ?_
          refine x_iload_n hM dL_isAct_259 rfl rfl ?_
          refine x_iconst hM dL_isAct_260 ?_
          refine x_iadd hM dL_isAct_261 ?_
          refine x_aload_n hM dL_isAct_262 rfl rfl ?_
          refine x_iconst hM dL_isAct_263 ?_
          refine x_callV hM wv_L_8 (o_c2 h) ⟨Nat.le_of_ble_eq_true rfl, Nat.le_of_ble_eq_true rfl⟩ (ob_o h) rfl rfl rfl rfl (Nat.le_of_ble_eq_true rfl) ⟨Nat.le_of_ble_eq_true rfl, Nat.le_of_ble_eq_true rfl⟩ dL_isAct_264 (k_rI ?_)
          refine x_callS hM ws_L_131 (m_L_cell (by omega) (by omega)) ⟨Nat.le_of_ble_eq_true rfl, Nat.le_of_ble_eq_true rfl⟩ rfl rfl (Nat.le_of_ble_eq_true rfl) ⟨Nat.le_of_ble_eq_true rfl, Nat.le_of_ble_eq_true rfl⟩ dL_isAct_267 (k_qI fun x_267 w_267 q_267 => ?_)
          obtain ⟨rfl, y0, y1⟩ := q_267
          obtain ⟨kn, rfl⟩ : ∃ kn : Nat, x_267 = kn := ⟨x_267.toNat, by omega⟩
          exact SR kn (by omega)
        · exfalso; omega
    have hdr := drF_iv hiv
    refine x_aload_n hM dL_isAct_86 rfl rfl ?_
    refine x_iload_n hM dL_isAct_87 rfl rfl ?_
    refine x_bipush hM dL_isAct_88 rfl ?_
    refine x_callS hM ws_L_131 (m_L_cell (by omega) (by omega)) ⟨Nat.le_of_ble_eq_true rfl, Nat.le_of_ble_eq_true rfl⟩ rfl rfl (Nat.le_of_ble_eq_true rfl) ⟨Nat.le_of_ble_eq_true rfl, Nat.le_of_ble_eq_true rfl⟩ dL_isAct_90 (k_qI fun x_90 w_90 q_90 => ?_)
    obtain ⟨rfl, y0, y1⟩ := q_90
    by_cases sO_93 : x_90 < 0 ∨ 13 < x_90
    · refine x_tableOut (tgt := 408) hM dL_isAct_93 (by omega) sO_93 (by decide) ?_
      refine x_aload_n hM dL_isAct_408 rfl rfl ?_
      refine x_callS hM ws_L_162 (m_L_isDay h hiv hz hc) ⟨Nat.le_of_ble_eq_true rfl, Nat.le_of_ble_eq_true rfl⟩ rfl rfl (Nat.le_of_ble_eq_true rfl) ⟨Nat.le_of_ble_eq_true rfl, Nat.le_of_ble_eq_true rfl⟩ dL_isAct_409 (k_eI fun x_409 w_409 z_409 q_409 => ?_)
      obtain ⟨rfl, e2, s1, e3, e4, e5⟩ := q_409
      refine hR.b dL_isAct_412 rfl (Nat.le_of_ble_eq_true rfl) (Nat.le_of_ble_eq_true rfl) ?_
      exact p_ac rfl e2 e3 e4 e5
    rcases (by omega : x_90 = 0 ∨ x_90 = 1 ∨ x_90 = 2 ∨ x_90 = 3 ∨ x_90 = 4 ∨ x_90 = 5 ∨ x_90 = 6 ∨ x_90 = 7 ∨ x_90 = 8 ∨ x_90 = 9 ∨ x_90 = 10 ∨ x_90 = 11 ∨ x_90 = 12 ∨ x_90 = 13) with rfl | rfl | rfl | rfl | rfl | rfl | rfl | rfl | rfl | rfl | rfl | rfl | rfl | rfl
    · refine x_tableIn (tgt := 164) hM dL_isAct_93 (by omega) (by omega) (by omega) rfl (by decide) ?_
      refine x_aload_n hM dL_isAct_164 rfl rfl ?_
      refine x_iload_n hM dL_isAct_165 rfl rfl ?_
      refine x_iload hM dL_isAct_166 rfl ?_
      refine x_iload hM dL_isAct_168 rfl ?_
      refine x_callS hM ws_L_135 (m_L_isGiven h hiv hz ha2 (by omega)) ⟨Nat.le_of_ble_eq_true rfl, Nat.le_of_ble_eq_true rfl⟩ rfl rfl (Nat.le_of_ble_eq_true rfl) ⟨Nat.le_of_ble_eq_true rfl, Nat.le_of_ble_eq_true rfl⟩ dL_isAct_170 (k_eI fun x_170 w_170 z_170 q_170 => ?_)
      obtain ⟨rfl, e2, s1, e3, e4, e5⟩ := q_170
      refine hR.b dL_isAct_173 rfl (Nat.le_of_ble_eq_true rfl) (Nat.le_of_ble_eq_true rfl) ?_
      exact p_ac rfl e2 e3 e4 e5
    · refine x_tableIn (tgt := 164) hM dL_isAct_93 (by omega) (by omega) (by omega) rfl (by decide) ?_
      refine x_aload_n hM dL_isAct_164 rfl rfl ?_
      refine x_iload_n hM dL_isAct_165 rfl rfl ?_
      refine x_iload hM dL_isAct_166 rfl ?_
      refine x_iload hM dL_isAct_168 rfl ?_
      refine x_callS hM ws_L_135 (m_L_isGiven h hiv hz ha2 (by omega)) ⟨Nat.le_of_ble_eq_true rfl, Nat.le_of_ble_eq_true rfl⟩ rfl rfl (Nat.le_of_ble_eq_true rfl) ⟨Nat.le_of_ble_eq_true rfl, Nat.le_of_ble_eq_true rfl⟩ dL_isAct_170 (k_eI fun x_170 w_170 z_170 q_170 => ?_)
      obtain ⟨rfl, e2, s1, e3, e4, e5⟩ := q_170
      refine hR.b dL_isAct_173 rfl (Nat.le_of_ble_eq_true rfl) (Nat.le_of_ble_eq_true rfl) ?_
      exact p_ac rfl e2 e3 e4 e5
    · refine x_tableIn (tgt := 164) hM dL_isAct_93 (by omega) (by omega) (by omega) rfl (by decide) ?_
      refine x_aload_n hM dL_isAct_164 rfl rfl ?_
      refine x_iload_n hM dL_isAct_165 rfl rfl ?_
      refine x_iload hM dL_isAct_166 rfl ?_
      refine x_iload hM dL_isAct_168 rfl ?_
      refine x_callS hM ws_L_135 (m_L_isGiven h hiv hz ha2 (by omega)) ⟨Nat.le_of_ble_eq_true rfl, Nat.le_of_ble_eq_true rfl⟩ rfl rfl (Nat.le_of_ble_eq_true rfl) ⟨Nat.le_of_ble_eq_true rfl, Nat.le_of_ble_eq_true rfl⟩ dL_isAct_170 (k_eI fun x_170 w_170 z_170 q_170 => ?_)
      obtain ⟨rfl, e2, s1, e3, e4, e5⟩ := q_170
      refine hR.b dL_isAct_173 rfl (Nat.le_of_ble_eq_true rfl) (Nat.le_of_ble_eq_true rfl) ?_
      exact p_ac rfl e2 e3 e4 e5
    · refine x_tableIn (tgt := 164) hM dL_isAct_93 (by omega) (by omega) (by omega) rfl (by decide) ?_
      refine x_aload_n hM dL_isAct_164 rfl rfl ?_
      refine x_iload_n hM dL_isAct_165 rfl rfl ?_
      refine x_iload hM dL_isAct_166 rfl ?_
      refine x_iload hM dL_isAct_168 rfl ?_
      refine x_callS hM ws_L_135 (m_L_isGiven h hiv hz ha2 (by omega)) ⟨Nat.le_of_ble_eq_true rfl, Nat.le_of_ble_eq_true rfl⟩ rfl rfl (Nat.le_of_ble_eq_true rfl) ⟨Nat.le_of_ble_eq_true rfl, Nat.le_of_ble_eq_true rfl⟩ dL_isAct_170 (k_eI fun x_170 w_170 z_170 q_170 => ?_)
      obtain ⟨rfl, e2, s1, e3, e4, e5⟩ := q_170
      refine hR.b dL_isAct_173 rfl (Nat.le_of_ble_eq_true rfl) (Nat.le_of_ble_eq_true rfl) ?_
      exact p_ac rfl e2 e3 e4 e5
    · refine x_tableIn (tgt := 174) hM dL_isAct_93 (by omega) (by omega) (by omega) rfl (by decide) ?_
      refine x_aload_n hM dL_isAct_174 rfl rfl ?_
      refine x_iload hM dL_isAct_175 rfl ?_
      refine x_iload hM dL_isAct_177 rfl ?_
      refine x_callS hM ws_L_138 (m_L_isFreed h hiv hz (by omega)) ⟨Nat.le_of_ble_eq_true rfl, Nat.le_of_ble_eq_true rfl⟩ rfl rfl (Nat.le_of_ble_eq_true rfl) ⟨Nat.le_of_ble_eq_true rfl, Nat.le_of_ble_eq_true rfl⟩ dL_isAct_179 (k_eI fun x_179 w_179 z_179 q_179 => ?_)
      obtain ⟨rfl, e2, s1, e3, e4, e5⟩ := q_179
      refine hR.b dL_isAct_182 rfl (Nat.le_of_ble_eq_true rfl) (Nat.le_of_ble_eq_true rfl) ?_
      exact p_ac rfl e2 e3 e4 e5
    · refine x_tableIn (tgt := 183) hM dL_isAct_93 (by omega) (by omega) (by omega) rfl (by decide) ?_
      refine x_aload_n hM dL_isAct_183 rfl rfl ?_
      refine x_iload_n hM dL_isAct_184 rfl rfl ?_
      refine x_aload_n hM dL_isAct_185 rfl rfl ?_
      refine x_iload_n hM dL_isAct_186 rfl rfl ?_
      refine x_iconst hM dL_isAct_187 ?_
      refine x_iadd hM dL_isAct_188 ?_
      refine x_bipush hM dL_isAct_189 rfl ?_
      refine x_callS hM ws_L_131 (m_L_cell (by omega) (by omega)) ⟨Nat.le_of_ble_eq_true rfl, Nat.le_of_ble_eq_true rfl⟩ rfl rfl (Nat.le_of_ble_eq_true rfl) ⟨Nat.le_of_ble_eq_true rfl, Nat.le_of_ble_eq_true rfl⟩ dL_isAct_191 (k_qI fun x_191 w_191 q_191 => ?_)
      obtain ⟨rfl, y2, y3⟩ := q_191
      refine x_if_ne (tgt := 203) hM dL_isAct_194 (by decide) (by omega) (fun c_194 => ?_) (fun c_194 => ?_)
      · refine x_iload hM dL_isAct_203 rfl ?_
        refine x_callS hM ws_L_142 (m_L_isGrabbed h hiv hz ha2 (by omega)) ⟨Nat.le_of_ble_eq_true rfl, Nat.le_of_ble_eq_true rfl⟩ rfl rfl (Nat.le_of_ble_eq_true rfl) ⟨Nat.le_of_ble_eq_true rfl, Nat.le_of_ble_eq_true rfl⟩ dL_isAct_205 (k_eI fun x_205 w_205 z_205 q_205 => ?_)
        obtain ⟨rfl, e2, s1, e3, e4, e5⟩ := q_205
        refine hR.b dL_isAct_208 rfl (Nat.le_of_ble_eq_true rfl) (Nat.le_of_ble_eq_true rfl) ?_
        exact p_ac rfl e2 e3 e4 e5
      · refine x_sipush hM dL_isAct_197 rfl ?_
        refine x_goto (tgt := 205) hM dL_isAct_200 (by decide) ?_
        refine x_callS hM ws_L_142 (m_L_isGrabbed h hiv hz ha2 (by omega)) ⟨Nat.le_of_ble_eq_true rfl, Nat.le_of_ble_eq_true rfl⟩ rfl rfl (Nat.le_of_ble_eq_true rfl) ⟨Nat.le_of_ble_eq_true rfl, Nat.le_of_ble_eq_true rfl⟩ dL_isAct_205 (k_eI fun x_205 w_205 z_205 q_205 => ?_)
        obtain ⟨rfl, e2, s1, e3, e4, e5⟩ := q_205
        refine hR.b dL_isAct_208 rfl (Nat.le_of_ble_eq_true rfl) (Nat.le_of_ble_eq_true rfl) ?_
        exact p_ac rfl e2 e3 e4 e5
    · refine x_tableIn (tgt := 183) hM dL_isAct_93 (by omega) (by omega) (by omega) rfl (by decide) ?_
      refine x_aload_n hM dL_isAct_183 rfl rfl ?_
      refine x_iload_n hM dL_isAct_184 rfl rfl ?_
      refine x_aload_n hM dL_isAct_185 rfl rfl ?_
      refine x_iload_n hM dL_isAct_186 rfl rfl ?_
      refine x_iconst hM dL_isAct_187 ?_
      refine x_iadd hM dL_isAct_188 ?_
      refine x_bipush hM dL_isAct_189 rfl ?_
      refine x_callS hM ws_L_131 (m_L_cell (by omega) (by omega)) ⟨Nat.le_of_ble_eq_true rfl, Nat.le_of_ble_eq_true rfl⟩ rfl rfl (Nat.le_of_ble_eq_true rfl) ⟨Nat.le_of_ble_eq_true rfl, Nat.le_of_ble_eq_true rfl⟩ dL_isAct_191 (k_qI fun x_191 w_191 q_191 => ?_)
      obtain ⟨rfl, y2, y3⟩ := q_191
      refine x_if_ne (tgt := 203) hM dL_isAct_194 (by decide) (by omega) (fun c_194 => ?_) (fun c_194 => ?_)
      · refine x_iload hM dL_isAct_203 rfl ?_
        refine x_callS hM ws_L_142 (m_L_isGrabbed h hiv hz ha2 (by omega)) ⟨Nat.le_of_ble_eq_true rfl, Nat.le_of_ble_eq_true rfl⟩ rfl rfl (Nat.le_of_ble_eq_true rfl) ⟨Nat.le_of_ble_eq_true rfl, Nat.le_of_ble_eq_true rfl⟩ dL_isAct_205 (k_eI fun x_205 w_205 z_205 q_205 => ?_)
        obtain ⟨rfl, e2, s1, e3, e4, e5⟩ := q_205
        refine hR.b dL_isAct_208 rfl (Nat.le_of_ble_eq_true rfl) (Nat.le_of_ble_eq_true rfl) ?_
        exact p_ac rfl e2 e3 e4 e5
      · refine x_sipush hM dL_isAct_197 rfl ?_
        refine x_goto (tgt := 205) hM dL_isAct_200 (by decide) ?_
        refine x_callS hM ws_L_142 (m_L_isGrabbed h hiv hz ha2 (by omega)) ⟨Nat.le_of_ble_eq_true rfl, Nat.le_of_ble_eq_true rfl⟩ rfl rfl (Nat.le_of_ble_eq_true rfl) ⟨Nat.le_of_ble_eq_true rfl, Nat.le_of_ble_eq_true rfl⟩ dL_isAct_205 (k_eI fun x_205 w_205 z_205 q_205 => ?_)
        obtain ⟨rfl, e2, s1, e3, e4, e5⟩ := q_205
        refine hR.b dL_isAct_208 rfl (Nat.le_of_ble_eq_true rfl) (Nat.le_of_ble_eq_true rfl) ?_
        exact p_ac rfl e2 e3 e4 e5
    · refine x_tableIn (tgt := 209) hM dL_isAct_93 (by omega) (by omega) (by omega) rfl (by decide) ?_
      refine x_aload_n hM dL_isAct_209 rfl rfl ?_
      refine x_iload_n hM dL_isAct_210 rfl rfl ?_
      refine x_iconst hM dL_isAct_211 ?_
      refine x_iadd hM dL_isAct_212 ?_
      refine x_iconst hM dL_isAct_213 ?_
      refine x_callS hM ws_L_131 (m_L_cell (by omega) (by omega)) ⟨Nat.le_of_ble_eq_true rfl, Nat.le_of_ble_eq_true rfl⟩ rfl rfl (Nat.le_of_ble_eq_true rfl) ⟨Nat.le_of_ble_eq_true rfl, Nat.le_of_ble_eq_true rfl⟩ dL_isAct_214 (k_qI fun x_214 w_214 q_214 => ?_)
      obtain ⟨rfl, y2, y3⟩ := q_214
      refine x_if_ne (tgt := 230) hM dL_isAct_217 (by decide) (by omega) (fun c_217 => ?_) (fun c_217 => ?_)
      · refine x_aload_n hM dL_isAct_230 rfl rfl ?_
        refine x_iload_n hM dL_isAct_231 rfl rfl ?_
        refine x_aload_n hM dL_isAct_232 rfl rfl ?_
        refine x_iload_n hM dL_isAct_233 rfl rfl ?_
        refine x_iconst hM dL_isAct_234 ?_
        refine x_iadd hM dL_isAct_235 ?_
        refine x_sipush hM dL_isAct_236 rfl ?_
        refine x_callS hM ws_L_131 (m_L_cell (by omega) (by omega)) ⟨Nat.le_of_ble_eq_true rfl, Nat.le_of_ble_eq_true rfl⟩ rfl rfl (Nat.le_of_ble_eq_true rfl) ⟨Nat.le_of_ble_eq_true rfl, Nat.le_of_ble_eq_true rfl⟩ dL_isAct_239 (k_qI fun x_239 w_239 q_239 => ?_)
        obtain ⟨rfl, y4, y5⟩ := q_239
        refine x_callS hM ws_L_148 (m_L_isPaid h hiv hz ha2 (by omega)) ⟨Nat.le_of_ble_eq_true rfl, Nat.le_of_ble_eq_true rfl⟩ rfl rfl (Nat.le_of_ble_eq_true rfl) ⟨Nat.le_of_ble_eq_true rfl, Nat.le_of_ble_eq_true rfl⟩ dL_isAct_242 (k_eI fun x_242 w_242 z_242 q_242 => ?_)
        obtain ⟨rfl, e2, s1, e3, e4, e5⟩ := q_242
        refine hR.b dL_isAct_245 rfl (Nat.le_of_ble_eq_true rfl) (Nat.le_of_ble_eq_true rfl) ?_
        exact p_ac rfl e2 e3 e4 e5
      · refine x_aload_n hM dL_isAct_220 rfl rfl ?_
        refine x_iload_n hM dL_isAct_221 rfl rfl ?_
        refine x_iload hM dL_isAct_222 rfl ?_
        refine x_callS hM ws_L_145 (m_L_isInherited h hiv hz ha2 hb2) ⟨Nat.le_of_ble_eq_true rfl, Nat.le_of_ble_eq_true rfl⟩ rfl rfl (Nat.le_of_ble_eq_true rfl) ⟨Nat.le_of_ble_eq_true rfl, Nat.le_of_ble_eq_true rfl⟩ dL_isAct_224 (k_eI fun x_224 w_224 z_224 q_224 => ?_)
        obtain ⟨rfl, e2, s1, e3, e4, e5⟩ := q_224
        refine x_goto (tgt := 245) hM dL_isAct_227 (by decide) ?_
        refine hR.b dL_isAct_245 rfl (Nat.le_of_ble_eq_true rfl) (Nat.le_of_ble_eq_true rfl) ?_
        exact p_ac rfl e2 e3 e4 e5
    · refine x_tableIn (tgt := 246) hM dL_isAct_93 (by omega) (by omega) (by omega) rfl (by decide) ?_
      exact ST
    · refine x_tableIn (tgt := 246) hM dL_isAct_93 (by omega) (by omega) (by omega) rfl (by decide) ?_
      exact ST
    · refine x_tableIn (tgt := 246) hM dL_isAct_93 (by omega) (by omega) (by omega) rfl (by decide) ?_
      exact ST
    · refine x_tableIn (tgt := 368) hM dL_isAct_93 (by omega) (by omega) (by omega) rfl (by decide) ?_
      refine x_aload_n hM dL_isAct_368 rfl rfl ?_
      refine x_bipush hM dL_isAct_369 rfl ?_
      refine x_callV hM wv_L_8 (o_c6 h) ⟨Nat.le_of_ble_eq_true rfl, Nat.le_of_ble_eq_true rfl⟩ (ob_o h) rfl rfl rfl rfl (Nat.le_of_ble_eq_true rfl) ⟨Nat.le_of_ble_eq_true rfl, Nat.le_of_ble_eq_true rfl⟩ dL_isAct_371 (k_rI ?_)
      refine x_istore hM dL_isAct_374 rfl (Nat.le_of_ble_eq_true rfl) rfl ?_
      refine x_aload_n hM dL_isAct_376 rfl rfl ?_
      refine x_callV hM wv_L_155 (m_X6_drop h.1 hh (drF_b hDl)) ⟨Nat.le_of_ble_eq_true rfl, Nat.le_of_ble_eq_true rfl⟩ (ob_o h) rfl rfl rfl rfl (Nat.le_of_ble_eq_true rfl) ⟨Nat.le_of_ble_eq_true rfl, Nat.le_of_ble_eq_true rfl⟩ dL_isAct_377 (k_qI fun x_377 w_377 q_377 => ?_)
      obtain ⟨rfl, q2, q3, qG⟩ := q_377
      have o3 := mu_ob h q2 _ q3 qG
      refine x_iload hM dL_isAct_380 rfl ?_
      refine x_if_ne (tgt := 390) hM dL_isAct_382 (by decide) (by omega) (fun c_382 => ?_) (fun c_382 => ?_)
      · refine x_iload hM dL_isAct_390 rfl ?_
        refine x_iconst hM dL_isAct_392 ?_
        refine x_isub hM dL_isAct_393 ?_
        refine x_sameN (tgt := 401) hM (by unfold drF; first | rw [if_pos (by omega)] | rw [if_neg (by omega)]) dL_isAct_394 (by decide) ?_
        refine x_iconst hM dL_isAct_397 ?_
        refine x_goto (tgt := 402) hM dL_isAct_398 (by decide) ?_
        refine hR.b dL_isAct_402 rfl (Nat.le_of_ble_eq_true rfl) (Nat.le_of_ble_eq_true rfl) ?_
        exact p_ac rfl (Nat.le_refl _) o3 hdr.1 hdr.2
      · refine x_bipush hM dL_isAct_385 rfl ?_
        refine x_goto (tgt := 394) hM dL_isAct_387 (by decide) ?_
        refine x_sameN (tgt := 401) hM (by unfold drF; first | rw [if_pos (by omega)] | rw [if_neg (by omega)]) dL_isAct_394 (by decide) ?_
        refine x_iconst hM dL_isAct_397 ?_
        refine x_goto (tgt := 402) hM dL_isAct_398 (by decide) ?_
        refine hR.b dL_isAct_402 rfl (Nat.le_of_ble_eq_true rfl) (Nat.le_of_ble_eq_true rfl) ?_
        exact p_ac rfl (Nat.le_refl _) o3 hdr.1 hdr.2
    · refine x_tableIn (tgt := 403) hM dL_isAct_93 (by omega) (by omega) (by omega) rfl (by decide) ?_
      refine x_aload_n hM dL_isAct_403 rfl rfl ?_
      refine x_callS hM ws_L_158 (m_L_isClosed h hiv hz hc) ⟨Nat.le_of_ble_eq_true rfl, Nat.le_of_ble_eq_true rfl⟩ rfl rfl (Nat.le_of_ble_eq_true rfl) ⟨Nat.le_of_ble_eq_true rfl, Nat.le_of_ble_eq_true rfl⟩ dL_isAct_404 (k_eI fun x_404 w_404 z_404 q_404 => ?_)
      obtain ⟨rfl, e2, s1, e3, e4, e5⟩ := q_404
      refine hR.b dL_isAct_407 rfl (Nat.le_of_ble_eq_true rfl) (Nat.le_of_ble_eq_true rfl) ?_
      exact p_ac rfl e2 e3 e4 e5
    · refine x_tableIn (tgt := 403) hM dL_isAct_93 (by omega) (by omega) (by omega) rfl (by decide) ?_
      refine x_aload_n hM dL_isAct_403 rfl rfl ?_
      refine x_callS hM ws_L_158 (m_L_isClosed h hiv hz hc) ⟨Nat.le_of_ble_eq_true rfl, Nat.le_of_ble_eq_true rfl⟩ rfl rfl (Nat.le_of_ble_eq_true rfl) ⟨Nat.le_of_ble_eq_true rfl, Nat.le_of_ble_eq_true rfl⟩ dL_isAct_404 (k_eI fun x_404 w_404 z_404 q_404 => ?_)
      obtain ⟨rfl, e2, s1, e3, e4, e5⟩ := q_404
      refine hR.b dL_isAct_407 rfl (Nat.le_of_ble_eq_true rfl) (Nat.le_of_ble_eq_true rfl) ?_
      exact p_ac rfl e2 e3 e4 e5
  have S83 : ∀ a b f n : Int, (0 ≤ a ∧ a < s.own) → (0 ≤ b ∧ b < s.own) → (0 ≤ f ∧ f < 9900) → (0 ≤ n ∧ n < 100) → P 83 [some (.ref x), some (.ref (G.2.2.2 3)), some (.int (iI at0)), some (.int (iI a)), some (.int (iI b)), some (.int (iI f)), none, none, none, none] [.int (iI n), .int (iI 1)] w (z, 0, 0) := by
    intro a b f n ha2 hb2 hf hn
    refine x_iadd hM dL_isAct_83 ?_
    refine x_istore hM dL_isAct_84 rfl (Nat.le_of_ble_eq_true rfl) rfl ?_
    exact S86 a b f _ ha2 hb2 (by omega)
  have S54 : ∀ a b f : Int, (0 ≤ a ∧ a < s.own) → (0 ≤ b ∧ b < s.own) → (0 ≤ f ∧ f < 9900) → P 54 [some (.ref x), some (.ref (G.2.2.2 3)), some (.int (iI at0)), some (.int (iI a)), some (.int (iI b)), none, none, none, none, none] [.int (iI f)] w (z, 0, 0) := by
    intro a b f ha2 hb2 hf
    refine x_istore hM dL_isAct_54 rfl (Nat.le_of_ble_eq_true rfl) rfl ?_
    refine x_iconst hM dL_isAct_56 ?_
    refine x_aload_n hM dL_isAct_57 rfl rfl ?_
    refine x_iload_n hM dL_isAct_58 rfl rfl ?_
    refine x_iconst hM dL_isAct_59 ?_
    refine x_iadd hM dL_isAct_60 ?_
    refine x_aload_n hM dL_isAct_61 rfl rfl ?_
    refine x_iload_n hM dL_isAct_62 rfl rfl ?_
    refine x_bipush hM dL_isAct_63 rfl ?_
    refine x_iadd hM dL_isAct_65 ?_
    refine x_iconst hM dL_isAct_66 ?_
    refine x_callS hM ws_L_131 (m_L_cell (by omega) (by omega)) ⟨Nat.le_of_ble_eq_true rfl, Nat.le_of_ble_eq_true rfl⟩ rfl rfl (Nat.le_of_ble_eq_true rfl) ⟨Nat.le_of_ble_eq_true rfl, Nat.le_of_ble_eq_true rfl⟩ dL_isAct_67 (k_qI fun x_67 w_67 q_67 => ?_)
    obtain ⟨rfl, y0, y1⟩ := q_67
    refine x_if_ne (tgt := 78) hM dL_isAct_70 (by decide) (by omega) (fun c_70 => ?_) (fun c_70 => ?_)
    · refine x_bipush hM dL_isAct_78 rfl ?_
      refine x_callS hM ws_L_131 (m_L_cell (by omega) (by omega)) ⟨Nat.le_of_ble_eq_true rfl, Nat.le_of_ble_eq_true rfl⟩ rfl rfl (Nat.le_of_ble_eq_true rfl) ⟨Nat.le_of_ble_eq_true rfl, Nat.le_of_ble_eq_true rfl⟩ dL_isAct_80 (k_qI fun x_80 w_80 q_80 => ?_)
      obtain ⟨rfl, y2, y3⟩ := q_80
      exact S83 a b f _ ha2 hb2 hf (by omega)
    · refine x_bipush hM dL_isAct_73 rfl ?_
      refine x_goto (tgt := 80) hM dL_isAct_75 (by decide) ?_
      refine x_callS hM ws_L_131 (m_L_cell (by omega) (by omega)) ⟨Nat.le_of_ble_eq_true rfl, Nat.le_of_ble_eq_true rfl⟩ rfl rfl (Nat.le_of_ble_eq_true rfl) ⟨Nat.le_of_ble_eq_true rfl, Nat.le_of_ble_eq_true rfl⟩ dL_isAct_80 (k_qI fun x_80 w_80 q_80 => ?_)
      obtain ⟨rfl, y2, y3⟩ := q_80
      exact S83 a b f _ ha2 hb2 hf (by omega)
  refine x_aload_n hM dL_isAct_0 rfl rfl ?_
  refine x_iload_n hM dL_isAct_1 rfl rfl ?_
  refine x_iconst hM dL_isAct_2 ?_
  refine x_iadd hM dL_isAct_3 ?_
  refine x_aload_n hM dL_isAct_4 rfl rfl ?_
  refine x_iconst hM dL_isAct_5 ?_
  refine x_callV hM wv_L_8 (o_c1 h) ⟨Nat.le_of_ble_eq_true rfl, Nat.le_of_ble_eq_true rfl⟩ (ob_o h) rfl rfl rfl rfl (Nat.le_of_ble_eq_true rfl) ⟨Nat.le_of_ble_eq_true rfl, Nat.le_of_ble_eq_true rfl⟩ dL_isAct_6 (k_rI ?_)
  refine x_callS hM ws_L_131 (m_L_cell (by omega) (by omega)) ⟨Nat.le_of_ble_eq_true rfl, Nat.le_of_ble_eq_true rfl⟩ rfl rfl (Nat.le_of_ble_eq_true rfl) ⟨Nat.le_of_ble_eq_true rfl, Nat.le_of_ble_eq_true rfl⟩ dL_isAct_9 (k_qI fun x_9 w_9 q_9 => ?_)
  obtain ⟨rfl, y0, y1⟩ := q_9
  refine x_istore_n hM dL_isAct_12 rfl rfl (Nat.le_of_ble_eq_true rfl) rfl ?_
  refine x_aload_n hM dL_isAct_13 rfl rfl ?_
  refine x_iload_n hM dL_isAct_14 rfl rfl ?_
  refine x_iconst hM dL_isAct_15 ?_
  refine x_iadd hM dL_isAct_16 ?_
  refine x_aload_n hM dL_isAct_17 rfl rfl ?_
  refine x_iconst hM dL_isAct_18 ?_
  refine x_callV hM wv_L_8 (o_c1 h) ⟨Nat.le_of_ble_eq_true rfl, Nat.le_of_ble_eq_true rfl⟩ (ob_o h) rfl rfl rfl rfl (Nat.le_of_ble_eq_true rfl) ⟨Nat.le_of_ble_eq_true rfl, Nat.le_of_ble_eq_true rfl⟩ dL_isAct_19 (k_rI ?_)
  refine x_callS hM ws_L_131 (m_L_cell (by omega) (by omega)) ⟨Nat.le_of_ble_eq_true rfl, Nat.le_of_ble_eq_true rfl⟩ rfl rfl (Nat.le_of_ble_eq_true rfl) ⟨Nat.le_of_ble_eq_true rfl, Nat.le_of_ble_eq_true rfl⟩ dL_isAct_22 (k_qI fun x_22 w_22 q_22 => ?_)
  obtain ⟨rfl, y2, y3⟩ := q_22
  refine x_istore hM dL_isAct_25 rfl (Nat.le_of_ble_eq_true rfl) rfl ?_
  refine x_aload_n hM dL_isAct_27 rfl rfl ?_
  refine x_iload_n hM dL_isAct_28 rfl rfl ?_
  refine x_iconst hM dL_isAct_29 ?_
  refine x_iadd hM dL_isAct_30 ?_
  refine x_aload_n hM dL_isAct_31 rfl rfl ?_
  refine x_iload_n hM dL_isAct_32 rfl rfl ?_
  refine x_iconst hM dL_isAct_33 ?_
  refine x_iadd hM dL_isAct_34 ?_
  refine x_iconst hM dL_isAct_35 ?_
  refine x_callS hM ws_L_131 (m_L_cell (by omega) (by omega)) ⟨Nat.le_of_ble_eq_true rfl, Nat.le_of_ble_eq_true rfl⟩ rfl rfl (Nat.le_of_ble_eq_true rfl) ⟨Nat.le_of_ble_eq_true rfl, Nat.le_of_ble_eq_true rfl⟩ dL_isAct_36 (k_qI fun x_36 w_36 q_36 => ?_)
  obtain ⟨rfl, y4, y5⟩ := q_36
  refine x_if_ne (tgt := 48) hM dL_isAct_39 (by decide) (by omega) (fun c_39 => ?_) (fun c_39 => ?_)
  · refine x_sipush hM dL_isAct_48 rfl ?_
    refine x_callS hM ws_L_131 (m_L_cell (by omega) (by omega)) ⟨Nat.le_of_ble_eq_true rfl, Nat.le_of_ble_eq_true rfl⟩ rfl rfl (Nat.le_of_ble_eq_true rfl) ⟨Nat.le_of_ble_eq_true rfl, Nat.le_of_ble_eq_true rfl⟩ dL_isAct_51 (k_qI fun x_51 w_51 q_51 => ?_)
    obtain ⟨rfl, y6, y7⟩ := q_51
    exact S54 _ _ _ ⟨y0, y1⟩ ⟨y2, y3⟩ (by omega)
  · refine x_sipush hM dL_isAct_42 rfl ?_
    refine x_goto (tgt := 51) hM dL_isAct_45 (by decide) ?_
    refine x_callS hM ws_L_131 (m_L_cell (by omega) (by omega)) ⟨Nat.le_of_ble_eq_true rfl, Nat.le_of_ble_eq_true rfl⟩ rfl rfl (Nat.le_of_ble_eq_true rfl) ⟨Nat.le_of_ble_eq_true rfl, Nat.le_of_ble_eq_true rfl⟩ dL_isAct_51 (k_qI fun x_51 w_51 q_51 => ?_)
    obtain ⟨rfl, y6, y7⟩ := q_51
    exact S54 _ _ _ ⟨y0, y1⟩ ⟨y2, y3⟩ (by omega)
