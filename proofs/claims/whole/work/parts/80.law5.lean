/-! The law: the loop and the beginning -/
theorem and31 (x : Int32) : ∃ y : Int, 0 ≤ y ∧ y ≤ 31 ∧ x &&& iI 31 = iI y := by
  have h : (x &&& iI 31).toBitVec.toNat ≤ 31 := by
    rw [Int32.toBitVec_and, BitVec.toNat_and]
    exact Nat.and_le_right
  have e : (x &&& iI 31).toInt = ((x &&& iI 31).toBitVec.toNat : Int) := by
    show (x &&& iI 31).toBitVec.toInt = _
    exact BitVec.toInt_eq_toNat_of_lt (by omega)
  exact ⟨(x &&& iI 31).toInt, by omega, by omega, (iI_of _).symm⟩
theorem lc_step {l : Launch} {G : xG} {P : xT} {b L x c z k n : Nat} {xs : Int → Int} {w : Wd} {t : St} {hs : List St} {sl : Nat → Option St} {cs : List Int} (hM : xM RL cL_law 4 room_1 l G false P) (hS : scK P b L xs) (hL : L ≤ 3072) (hc6 : c ≤ 513) (hk : k ≤ 300 + 22 * c) (hn : n ≤ 8000 + 248 * c) (h : lwI G w z x t hs sl cs c) (hN : c ≤ 511 → lwJ P G b x c) : P 18 [some (.ref b), some (.ref x), some (.ref (x + 215)), some (.int (iI (6 * (c : Int))))] [] w (z, k, n) := by
  refine x_iload_n hM dL_law_18 rfl rfl ?_
  refine x_aload_n hM dL_law_19 rfl rfl ?_
  refine hS.2.1 _ _ _ _ _ dL_law_20 ?_
  refine x_bipush hM dL_law_21 rfl ?_
  refine x_isub hM dL_law_23 ?_
  refine x_icmp_gt (tgt := 1059) hM dL_law_24 (by decide) (by omega) (by omega) (fun c_24 => ?_) (fun c_24 => ?_)
  · refine x_iconst hM dL_law_1059 ?_
    exact hS.2.2.1 _ _ _ _ _ _ dL_law_1060 (by omega) (by omega)
  · refine x_aload_n hM dL_law_27 rfl rfl ?_
    refine x_iload_n hM dL_law_28 rfl rfl ?_
    refine hS.1 _ _ _ _ _ _ (by omega) (by omega) dL_law_29 ?_
    refine x_bipush hM dL_law_30 rfl ?_
    refine x_iand hM dL_law_32 ?_
    obtain ⟨y, hy0, hy31, ey⟩ := and31 (iI (xs (6 * (c : Int))))
    rw [ey]
    by_cases sO_33 : y < 0 ∨ 31 < y
    · refine x_tableOut (tgt := 1053) hM dL_law_33 (by omega) sO_33 (by decide) ?_
      exact absurd sO_33 (by omega)
    rcases (by omega : y = 0 ∨ y = 1 ∨ y = 2 ∨ y = 3 ∨ y = 4 ∨ y = 5 ∨ y = 6 ∨ y = 7 ∨ y = 8 ∨ y = 9 ∨ y = 10 ∨ y = 11 ∨ y = 12 ∨ y = 13 ∨ y = 14 ∨ y = 15 ∨ y = 16 ∨ y = 17 ∨ y = 18 ∨ y = 19 ∨ y = 20 ∨ y = 21 ∨ y = 22 ∨ y = 23 ∨ y = 24 ∨ y = 25 ∨ y = 26 ∨ y = 27 ∨ y = 28 ∨ y = 29 ∨ y = 30 ∨ y = 31) with rfl | rfl | rfl | rfl | rfl | rfl | rfl | rfl | rfl | rfl | rfl | rfl | rfl | rfl | rfl | rfl | rfl | rfl | rfl | rfl | rfl | rfl | rfl | rfl | rfl | rfl | rfl | rfl | rfl | rfl | rfl | rfl
    · refine x_tableIn (tgt := 176) hM dL_law_33 (by omega) (by omega) (by omega) rfl (by decide) ?_
      exact lc_set hM hS (by omega) (by omega) hk hn h (hN (by omega))
    · refine x_tableIn (tgt := 209) hM dL_law_33 (by omega) (by omega) (by omega) rfl (by decide) ?_
      exact lc_owner hM hS (by omega) (by omega) hk hn h (hN (by omega))
    · refine x_tableIn (tgt := 232) hM dL_law_33 (by omega) (by omega) (by omega) rfl (by decide) ?_
      exact lc_pay hM hS (by omega) (by omega) hk hn h (hN (by omega))
    · refine x_tableIn (tgt := 265) hM dL_law_33 (by omega) (by omega) (by omega) rfl (by decide) ?_
      exact lc_give hM hS (by omega) (by omega) hk hn h (hN (by omega))
    · refine x_tableIn (tgt := 308) hM dL_law_33 (by omega) (by omega) (by omega) rfl (by decide) ?_
      exact lc_free hM hS (by omega) (by omega) hk hn h (hN (by omega))
    · refine x_tableIn (tgt := 341) hM dL_law_33 (by omega) (by omega) (by omega) rfl (by decide) ?_
      exact lc_grab hM hS (by omega) (by omega) hk hn h (hN (by omega))
    · refine x_tableIn (tgt := 374) hM dL_law_33 (by omega) (by omega) (by omega) rfl (by decide) ?_
      exact lc_inherit hM hS (by omega) (by omega) hk hn h (hN (by omega))
    · refine x_tableIn (tgt := 407) hM dL_law_33 (by omega) (by omega) (by omega) rfl (by decide) ?_
      exact lc_transfer hM hS (by omega) (by omega) hk hn h (hN (by omega))
    · refine x_tableIn (tgt := 470) hM dL_law_33 (by omega) (by omega) (by omega) rfl (by decide) ?_
      exact lc_drop hM hS (by omega) (by omega) hk hn h (hN (by omega))
    · refine x_tableIn (tgt := 483) hM dL_law_33 (by omega) (by omega) (by omega) rfl (by decide) ?_
      exact lc_close hM hS (by omega) (by omega) hk hn h (hN (by omega))
    · refine x_tableIn (tgt := 496) hM dL_law_33 (by omega) (by omega) (by omega) rfl (by decide) ?_
      exact lc_failing hM hS (by omega) (by omega) hk hn h (hN (by omega))
    · refine x_tableIn (tgt := 509) hM dL_law_33 (by omega) (by omega) (by omega) rfl (by decide) ?_
      exact lc_days hM hS (by omega) (by omega) hk hn h (hN (by omega))
    · refine x_tableIn (tgt := 532) hM dL_law_33 (by omega) (by omega) (by omega) rfl (by decide) ?_
      exact lc_ofRange hM hS (by omega) (by omega) hk hn h (hN (by omega))
    · refine x_tableIn (tgt := 565) hM dL_law_33 (by omega) (by omega) (by omega) rfl (by decide) ?_
      exact lc_ofOwner hM hS (by omega) (by omega) hk hn h (hN (by omega))
    · refine x_tableIn (tgt := 598) hM dL_law_33 (by omega) (by omega) (by omega) rfl (by decide) ?_
      exact lc_money hM hS (by omega) (by omega) hk hn h (hN (by omega))
    · refine x_tableIn (tgt := 622) hM dL_law_33 (by omega) (by omega) (by omega) rfl (by decide) ?_
      exact lc_ownerAt hM hS (by omega) (by omega) hk hn h (hN (by omega))
    · refine x_tableIn (tgt := 645) hM dL_law_33 (by omega) (by omega) (by omega) rfl (by decide) ?_
      exact lc_ofTransfer hM hS (by omega) (by omega) hk hn h (hN (by omega))
    · refine x_tableIn (tgt := 678) hM dL_law_33 (by omega) (by omega) (by omega) rfl (by decide) ?_
      exact lc_count hM hS (by omega) (by omega) hk hn h (hN (by omega))
    · refine x_tableIn (tgt := 701) hM dL_law_33 (by omega) (by omega) (by omega) rfl (by decide) ?_
      exact lc_shareBits hM hS (by omega) (by omega) hk hn h (hN (by omega))
    · refine x_tableIn (tgt := 724) hM dL_law_33 (by omega) (by omega) (by omega) rfl (by decide) ?_
      exact lc_hole hM hS (by omega) (by omega) hk hn h (hN (by omega))
    · refine x_tableIn (tgt := 757) hM dL_law_33 (by omega) (by omega) (by omega) rfl (by decide) ?_
      exact lc_wouldBe hM hS (by omega) (by omega) hk hn h (hN (by omega))
    · refine x_tableIn (tgt := 800) hM dL_law_33 (by omega) (by omega) (by omega) rfl (by decide) ?_
      exact lc_quietest hM hS (by omega) (by omega) hk hn h (hN (by omega))
    · refine x_tableIn (tgt := 833) hM dL_law_33 (by omega) (by omega) (by omega) rfl (by decide) ?_
      exact lc_gaps hM hS (by omega) (by omega) hk hn h (hN (by omega))
    · refine x_tableIn (tgt := 856) hM dL_law_33 (by omega) (by omega) (by omega) rfl (by decide) ?_
      exact lc_exchange hM hS (by omega) (by omega) hk hn h (hN (by omega))
    · refine x_tableIn (tgt := 879) hM dL_law_33 (by omega) (by omega) (by omega) rfl (by decide) ?_
      exact lc_losesIn hM hS (by omega) (by omega) hk hn h (hN (by omega))
    · refine x_tableIn (tgt := 902) hM dL_law_33 (by omega) (by omega) (by omega) rfl (by decide) ?_
      exact lc_put hM hS (by omega) (by omega) hk hn h (hN (by omega))
    · refine x_tableIn (tgt := 955) hM dL_law_33 (by omega) (by omega) (by omega) rfl (by decide) ?_
      exact lc_wipe hM hS (by omega) (by omega) hk hn h (hN (by omega))
    · refine x_tableIn (tgt := 968) hM dL_law_33 (by omega) (by omega) (by omega) rfl (by decide) ?_
      exact lc_fault hM hS (by omega) (by omega) hk hn h (hN (by omega))
    · refine x_tableIn (tgt := 981) hM dL_law_33 (by omega) (by omega) (by omega) rfl (by decide) ?_
      exact lc_carryOut hM hS (by omega) (by omega) hk hn h (hN (by omega))
    · refine x_tableIn (tgt := 994) hM dL_law_33 (by omega) (by omega) (by omega) rfl (by decide) ?_
      exact lc_undo hM hS (by omega) (by omega) hk hn h (hN (by omega))
    · refine x_tableIn (tgt := 1007) hM dL_law_33 (by omega) (by omega) (by omega) rfl (by decide) ?_
      exact lc_save hM hS (by omega) (by omega) hk hn h (hN (by omega))
    · refine x_tableIn (tgt := 1030) hM dL_law_33 (by omega) (by omega) (by omega) rfl (by decide) ?_
      exact lc_restore hM hS (by omega) (by omega) hk hn h (hN (by omega))
theorem lc_loop {l : Launch} {G : xG} {P : xT} {b L x : Nat} {xs : Int → Int} (hM : xM RL cL_law 4 room_1 l G false P) (hS : scK P b L xs) (hL : L ≤ 3072) : ∀ (j c : Nat), c + j = 513 → ∀ (w : Wd) (z k n : Nat) (t : St) (hs : List St) (sl : Nat → Option St) (cs : List Int), lwI G w z x t hs sl cs c → k ≤ 300 + 22 * c → n ≤ 8000 + 248 * c → P 18 [some (.ref b), some (.ref x), some (.ref (x + 215)), some (.int (iI (6 * (c : Int))))] [] w (z, k, n) := by
  intro j
  induction j with
  | zero => intro c hj w z k n t hs sl cs h hk hn; exact lc_step hM hS hL (by omega) hk hn h (fun q => absurd q (by omega))
  | succ j ih =>
    intro c hj w z k n t hs sl cs h hk hn
    refine lc_step hM hS hL (by omega) hk hn h (fun _ => ?_)
    intro w z k n t hs sl cs h hk hn
    refine x_iinc hM dL_law_1053 rfl rfl rfl ?_
    refine x_goto (tgt := 18) hM dL_law_1056 (by decide) ?_
    rw [show 6 * (c : Int) + 6 = 6 * ((c + 1 : Nat) : Int) by omega]
    exact ih (c + 1) (by omega) w z k n t hs sl cs h hk hn
theorem gd_St0R : gd 0 0 St0R := by
  refine ⟨⟨by decide, ⟨rfl, by decide, Or.inl rfl, rfl⟩, trivial, trivial⟩, by decide, ⟨by decide, by decide, by decide, by decide, by decide, by decide, by decide⟩, ⟨⟨Nat.zero_le _, fun v q => absurd q List.not_mem_nil⟩, fun v q => absurd q List.not_mem_nil⟩, fun o _ => ⟨rfl, rfl, rfl⟩, ⟨by decide, by decide⟩, fun o a b => ⟨Int.le_refl 0, ?_⟩⟩
  have e : mtsO St0R.L o = 0 := by
    show mtsO [(-6, 0, 10000)] o = 0
    rw [mtsO_cons]
    rw [if_neg (by omega)]
    rfl
  rw [e]
  exact Int.le_refl 0
theorem lc_start {l : Launch} {G : xG} {P : xT} {b L x : Nat} {xs : Int → Int} {w : Wd} (hM : xM RL cL_law 4 room_1 l G false P) (hS : scK P b L xs) (hL : L ≤ 3072) : P 0 [some (.ref b), none, none, none] [] w (x, 0, 0) := by
  refine x_new (ci := 6) (fs := [.null, .null, .null, .null, .null, .null]) hM rfl wl_X6 wk_L_7 wn_X6 wz_X6 tyX6 tyX6_ok (by decide +kernel) (Nat.le_of_ble_eq_true rfl) (Nat.le_of_ble_eq_true rfl) dL_law_0 ?_
  refine x_dup hM dL_law_3 rfl ?_
  refine x_callI hM wi_L_9 (id (m_X6_init wS_eq)) ⟨Nat.le_of_ble_eq_true rfl, Nat.le_of_ble_eq_true rfl⟩ rfl rfl (Nat.le_of_ble_eq_true rfl) ⟨Nat.le_of_ble_eq_true rfl, Nat.le_of_ble_eq_true rfl⟩ dL_law_4 (k_aV fun w_4 z_4 q_4 => ?_)
  obtain ⟨rfl, q1, q2, q3, q4, q5⟩ := q_4
  refine x_astore_n hM dL_law_7 rfl rfl (Nat.le_of_ble_eq_true rfl) rfl ?_
  refine x_new (ci := 7) (fs := [.null, .null, .null, .null, .null, .null, .null, .int 0, .null, .null, .null, .null, .int 0, .int 0, .null, .null, .int 0, .null, .int 0, .int 0, .int 0]) hM rfl wl_X7 wk_L_10 wn_X7 wz_X7 tyX7 tyX7_ok (by decide +kernel) (Nat.le_of_ble_eq_true rfl) (Nat.le_of_ble_eq_true rfl) dL_law_8 ?_
  refine x_dup hM dL_law_11 rfl ?_
  refine x_callI hM wi_L_12 (id (m_X7_init wS_eq)) ⟨Nat.le_of_ble_eq_true rfl, Nat.le_of_ble_eq_true rfl⟩ rfl rfl (Nat.le_of_ble_eq_true rfl) ⟨Nat.le_of_ble_eq_true rfl, Nat.le_of_ble_eq_true rfl⟩ dL_law_12 (k_aV fun w_12 z_12 q_12 => ?_)
  obtain ⟨rfl, r1, r2, r3, r4, r5, r6⟩ := q_12
  refine x_astore_n hM dL_law_15 rfl rfl (Nat.le_of_ble_eq_true rfl) rfl ?_
  refine x_iconst hM dL_law_16 ?_
  refine x_istore_n hM dL_law_17 rfl rfl (Nat.le_of_ble_eq_true rfl) rfl ?_
  refine lc_loop hM hS hL 513 0 rfl _ _ _ _ St0R [] (fun _ => none) [] ⟨?_, ⟨0, 0, 0, r1, r2, r3, r4, r5⟩, ⟨gd_St0R, fun u hu => absurd hu List.not_mem_nil, fun i u _ hu => (by cases hu)⟩, by omega⟩ (by decide) (by decide)
  have c0 : cpA G w_4 (x + 230) x (rS St0R) (([] : List St).map rS) (slM (fun _ => none)) [] := ⟨q1, q2, ⟨fun _ => none, fun _ => 0, q4, fun _ _ _ => rfl, fun _ _ _ hu => (by cases hu), fun _ _ hu => (by cases hu)⟩, q3⟩
  exact c0.kp ((Fr.wS (by omega) (by omega)).tr (r6.mo (by omega) (by omega)))
