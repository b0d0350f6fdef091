/-! a day -/
theorem losT_ne {s : St} {o q : Int} (h : 0 < cntO s.L o) (hq : q ≠ o) : (losT s o).mon q = s.mon q ∧ (losT s o).tax q = s.tax q ∧ (losT s o).los q = s.los q ∧ cntO (losT s o).L q = cntO s.L q ∧ mtsO (losT s o).L q = mtsO s.L q := by
  obtain ⟨n, e, hn, ho⟩ := srt_some h
  have e2 : (srtF s.L o).toNat = n := by omega
  have k := cntO_erase hn q
  rw [if_neg (by rw [ho]; exact Ne.symm hq), if_neg (by rw [ho]; exact Ne.symm hq)] at k
  refine ⟨fU_ne hq, fU_ne hq, fU_ne hq, ?_, ?_⟩
  · show cntO (s.L.eraseIdx (srtF s.L o).toNat) q = _
    rw [e2]; omega
  · show mtsO (s.L.eraseIdx (srtF s.L o).toNat) q = _
    rw [e2]; omega
theorem losT_cnt {s : St} {o : Int} (h : 0 < cntO s.L o) : cntO (losT s o).L o = cntO s.L o - 1 := by
  obtain ⟨n, e, hn, ho⟩ := srt_some h
  have e2 : (srtF s.L o).toNat = n := by omega
  have k := (cntO_erase hn o).1
  rw [if_pos ho] at k
  show cntO (s.L.eraseIdx (srtF s.L o).toNat) o = _
  rw [e2, k]
theorem losF_ne {o q : Int} (hq : q ≠ o) : ∀ (k : Nat) (s : St), (k : Int) ≤ cntO s.L o → (losF k s o).mon q = s.mon q ∧ (losF k s o).tax q = s.tax q ∧ (losF k s o).los q = s.los q ∧ cntO (losF k s o).L q = cntO s.L q ∧ mtsO (losF k s o).L q = mtsO s.L q := by
  intro k
  induction k with
  | zero => intro s _; exact ⟨rfl, rfl, rfl, rfl, rfl⟩
  | succ k ih =>
    intro s h
    unfold losF
    split
    · have h1 := losT_ne (s := s) (o := o) (q := q) (by omega) hq
      have h2 := ih (losT s o) (by rw [losT_cnt (by omega)]; omega)
      exact ⟨h2.1.trans h1.1, h2.2.1.trans h1.2.1, h2.2.2.1.trans h1.2.2.1, h2.2.2.2.1.trans h1.2.2.2.1, h2.2.2.2.2.trans h1.2.2.2.2⟩
    · exact ⟨rfl, rfl, rfl, rfl, rfl⟩
theorem dayO_ne {s : St} {o q : Int} (hq : q ≠ o) : (dayO s o).mon q = s.mon q ∧ (dayO s o).tax q = s.tax q ∧ (dayO s o).los q = s.los q ∧ cntO (dayO s o).L q = cntO s.L q ∧ mtsO (dayO s o).L q = mtsO s.L q := by
  have hn := cntO_nn s.L o
  have h := losF_ne (o := o) hq (cntO s.L o).toNat (chgF s o (taxV s o)) (by show ((cntO s.L o).toNat : Int) ≤ cntO s.L o; omega)
  exact ⟨h.1.trans (fU_ne hq), h.2.1.trans (fU_ne hq), h.2.2⟩
theorem dayF_ge (s : St) : ∀ (n : Nat) (q : Int), (n : Int) ≤ q → (dayF s n).mon q = s.mon q ∧ (dayF s n).tax q = s.tax q ∧ (dayF s n).los q = s.los q ∧ cntO (dayF s n).L q = cntO s.L q ∧ mtsO (dayF s n).L q = mtsO s.L q := by
  intro n
  induction n with
  | zero => intro q _; exact ⟨rfl, rfl, rfl, rfl, rfl⟩
  | succ n ih =>
    intro q hq
    have h1 := dayO_ne (s := dayF s n) (o := n) (q := q) (by omega)
    have h2 := ih q (by omega)
    exact ⟨h1.1.trans h2.1, h1.2.1.trans h2.2.1, h1.2.2.1.trans h2.2.2.1, h1.2.2.2.1.trans h2.2.2.2.1, h1.2.2.2.2.trans h2.2.2.2.2⟩
theorem cnt0_mts {o : Int} : ∀ L : List Sg, cntO L o = 0 → mtsO L o = 0 := by
  intro L
  induction L with
  | nil => intro _; rfl
  | cons s t ih =>
    intro h
    have hn := cntO_nn t o
    simp only [cntO, mtsO] at h ⊢
    by_cases c : s.1 = o
    · rw [if_pos c] at h; omega
    · rw [if_neg c] at h ⊢
      rw [ih (by omega)]
      rfl
theorem dtl_b (tax : Int) : ∀ (k i : Nat) (m : Int64), dtlF tax k i m = -6 ∨ ((i : Int) ≤ dtlF tax k i m ∧ dtlF tax k i m < i + k) := by
  intro k
  induction k with
  | zero => intro i m; exact Or.inl rfl
  | succ k ih =>
    intro i m
    unfold dtlF
    split
    · right; omega
    · have := ih (i + 1) (m - jJ tax)
      omega
/-- when an owner loses at once -/
theorem dtl_1 {tax : Int} {m : Int64} : dtlF tax 300 1 m = 1 ↔ m - jJ tax < jJ 0 := by
  have e : dtlF tax 300 1 m = (if m - jJ tax < jJ 0 then 1 else dtlF tax 299 2 (m - jJ tax)) := by
    rw [show (300 : Nat) = 299 + 1 from rfl]
    unfold dtlF
    rfl
  rw [e]
  have h := dtl_b tax 299 2 (m - jJ tax)
  by_cases c : m - jJ tax < jJ 0
  · rw [if_pos c]; exact ⟨fun _ => c, fun _ => rfl⟩
  · rw [if_neg c]
    exact ⟨fun q => by omega, fun q => absurd q c⟩
def lsV (s : St) (k : Int) : Int := if cntO s.L k ≤ 0 then -6 else dtlF (taxV s k) 300 1 (s.mon k)
theorem lsV_b (s : St) (k : Int) : -6 ≤ lsV s k ∧ lsV s k ≤ 301 := by
  have h := dtl_b (taxV s k) 300 1 (s.mon k)
  unfold lsV
  split <;> omega
theorem lsV_1 {s : St} {k m : Int} (h : s.mon k = jJ m) (hm : -2000000000 ≤ m ∧ m ≤ 2000000000) (ht : 0 ≤ taxV s k ∧ taxV s k ≤ 43000000) : lsV s k = 1 ↔ (m - taxV s k < 0 ∧ 0 < cntO s.L k) := by
  unfold lsV
  by_cases c : cntO s.L k ≤ 0
  · rw [if_pos c]
    exact ⟨fun q => by omega, fun q => by omega⟩
  · rw [if_neg c, dtl_1, h, jJ_sub, jJ_lt ⟨by omega, by omega⟩ ⟨by omega, by omega⟩]
    exact ⟨fun q => ⟨q, by omega⟩, fun q => q.1⟩
/-- the law's rows on a day -/
def dyW (G : xG) (w : Wd) (z x : Nat) (s : St) (L : List Sg) (mf pf lf : Int → Int) : Prop := obA G w x s ∧ rsA G w z (z + 1) L ∧ (∃ f : Int → Int, w (z + 2) = some (aI G 64 f)) ∧ (∃ g : Int → Int, w (z + 3) = some (aI G 64 g)) ∧ w (z + 4) = some (aI G 10 mf) ∧ w (z + 5) = some (aI G 10 pf) ∧ w (z + 6) = some (aI G 10 lf)
section DY
variable {G : xG} {w : Wd} {z x : Nat} {s : St} {L : List Sg} {mf pf lf f : Int → Int}
theorem dyW.u4 (h : dyW G w z x s L mf pf lf) (hz : x + 215 ≤ z) : dyW G (wS w (z + 4) (aI G 10 f)) z x s L f pf lf := by
  obtain ⟨o, r, ⟨a, b⟩, ⟨c, d⟩, e, g, i⟩ := h
  exact ⟨o.kp (Kp.wS (by omega)), r.kp (wS_ne (by omega)) (wS_ne (by omega)), ⟨a, (wS_ne (by omega)).trans b⟩, ⟨c, (wS_ne (by omega)).trans d⟩, wS_eq, (wS_ne (by omega)).trans g, (wS_ne (by omega)).trans i⟩
theorem dyW.u5 (h : dyW G w z x s L mf pf lf) (hz : x + 215 ≤ z) : dyW G (wS w (z + 5) (aI G 10 f)) z x s L mf f lf := by
  obtain ⟨o, r, ⟨a, b⟩, ⟨c, d⟩, e, g, i⟩ := h
  exact ⟨o.kp (Kp.wS (by omega)), r.kp (wS_ne (by omega)) (wS_ne (by omega)), ⟨a, (wS_ne (by omega)).trans b⟩, ⟨c, (wS_ne (by omega)).trans d⟩, (wS_ne (by omega)).trans e, wS_eq, (wS_ne (by omega)).trans i⟩
theorem dyW.u6 (h : dyW G w z x s L mf pf lf) (hz : x + 215 ≤ z) : dyW G (wS w (z + 6) (aI G 10 f)) z x s L mf pf f := by
  obtain ⟨o, r, ⟨a, b⟩, ⟨c, d⟩, e, g, i⟩ := h
  exact ⟨o.kp (Kp.wS (by omega)), r.kp (wS_ne (by omega)) (wS_ne (by omega)), ⟨a, (wS_ne (by omega)).trans b⟩, ⟨c, (wS_ne (by omega)).trans d⟩, (wS_ne (by omega)).trans e, (wS_ne (by omega)).trans g, wS_eq⟩
theorem dyW.ob (h : dyW G w z x s L mf pf lf) : obA G w x s := h.1
theorem dyW.rs (h : dyW G w z x s L mf pf lf) : rsA G w z (z + 1) L := h.2.1
theorem dyW.m (h : dyW G w z x s L mf pf lf) : w (z + 4) = some (aI G 10 mf) := h.2.2.2.2.1
theorem dyW.p (h : dyW G w z x s L mf pf lf) : w (z + 5) = some (aI G 10 pf) := h.2.2.2.2.2.1
theorem dyW.l (h : dyW G w z x s L mf pf lf) : w (z + 6) = some (aI G 10 lf) := h.2.2.2.2.2.2
end DY
/-- streets in order, of owners below k -/
def ordL (k : Int) (L : List Sg) : Prop := canL L ∧ L.length ≤ 40 ∧ ∀ y ∈ L, y.1 < k
theorem ordL_erase {k : Int} {L : List Sg} (h : ordL k L) (hlt : ∀ s ∈ L, s.2.1 < s.2.2) {i : Nat} (hi : i < L.length) : ordL k (L.eraseIdx i) :=
  ⟨can_erase h.1 hlt i hi, by rw [List.length_eraseIdx_of_lt hi]; have := h.2.1; omega, fun y hy => h.2.2 y (List.mem_of_mem_eraseIdx hy)⟩
/-- eight new rows -/
abbrev w8 (G : xG) (w : Wd) (z : Nat) : Wd := wS (wS (wS (w4 G w z) (z + 4) (aI G 10 (fun _ => 0))) (z + 5) (aI G 10 (fun _ => 0))) (z + 6) (aI G 10 (fun _ => 0))
theorem w8_ob {G : xG} {w : Wd} {z x : Nat} {s : St} (h : obA G w x s) (hz : x + 215 ≤ z) : obA G (w8 G w z) x s := (((w4_ob h hz).kp (Kp.wS (by omega))).kp (Kp.wS (by omega))).kp (Kp.wS (by omega))
theorem w8_lo {G : xG} {w : Wd} {z q : Nat} (hq : q < z + 4) : w8 G w z q = w4 G w z q := (wS_ne (by omega)).trans ((wS_ne (by omega)).trans (wS_ne (by omega)))
theorem w8_4 {G : xG} {w : Wd} {z : Nat} : w8 G w z (z + 4) = some (aI G 10 (fun _ => 0)) := (wS_ne (by omega)).trans ((wS_ne (by omega)).trans wS_eq)
theorem w8_5 {G : xG} {w : Wd} {z : Nat} : w8 G w z (z + 5) = some (aI G 10 (fun _ => 0)) := (wS_ne (by omega)).trans wS_eq
theorem w8_6 {G : xG} {w : Wd} {z : Nat} : w8 G w z (z + 6) = some (aI G 10 (fun _ => 0)) := wS_eq
theorem m_L_isDay {l : Launch} {G : xG} {w : Wd} {z x c : Nat} {s : St} (h : obA G w x s) (hiv : ivS c s) (hz : x + 215 ≤ z) (hc : c ≤ 100) : xMet l G yL_isDay cL_isDay 16 (some .boolean) ({ frames := 6, cells := 7, slots := 286, locals := 141 } : Room) [.ref x] w z (acQ G x c z s) := by
  obtain ⟨g1, g2, g3, g4, hown, g6, g7, g8, g9⟩ := id hiv
  have hW := (ob_W h).2.1
  have hrW := (ob_W h).1
  have hl := hW.1
  have hda : daF s 1 = (s.day + 1, dayP s) := by
    have e : (dayP s).day = s.day + 1 := by
      show (dayF s s.own.toNat).day + 1 = _
      rw [(dayF_own s s.own.toNat).2.2.2.1]
    have e2 : daF s 1 = ((dayP s).day, dayP s) := rfl
    rw [e2, e]
  have hdb : iR (daF s 1).1 := by
    rw [hda]
    show -2147483648 ≤ s.day + 1 ∧ s.day + 1 ≤ 2147483647
    omega
  refine xMet_of RL rfl (by decide +kernel) false (by decide +kernel) (Nat.le_of_ble_eq_true rfl) rfl ?_
  intro P hM hR
  /- the day is over -/
  have Z : ∀ (w1 : Wd) (mf pf lf : Int → Int) (u10 u11 u12 u13 u14 u15 : Option Value), dyW G w1 z x s (dayF s s.own.toNat).L mf pf lf → ordL s.own (dayF s s.own.toNat).L → (∀ q : Int, 0 ≤ q → q < s.own → (dayF s s.own.toNat).mon q = jJ (mf q) ∧ (dayF s s.own.toNat).tax q = pf q ∧ (dayF s s.own.toNat).los q = lf q ∧ -(10000000 * ((c : Int) + 1)) ≤ mf q ∧ mf q ≤ 10000000 * ((c : Int) + 1)) → P 346 [some (.ref x), some (.ref z), some (.ref (z + 1)), some (.ref (z + 2)), some (.ref (z + 3)), some (.ref (z + 4)), some (.ref (z + 5)), some (.ref (z + 6)), some (.int (iI s.day)), some (.int (iI s.own.toNat)), u10, u11, u12, u13, u14, u15] [] w1 (z + 7, 7, 286) := by
    intro w1 mf pf lf u10 u11 u12 u13 u14 u15 hw hor hq
    obtain ⟨h1, h2, h3, h4, h5, h6⟩ := dayF_own s s.own.toNat
    have hiv2 : ivS (c + 1) (dayP s) := by
      refine ⟨hor.1, hor.2.1, by show ∀ y ∈ (dayF s s.own.toNat).L, y.1 < (dayF s s.own.toNat).own; rw [h1]; exact hor.2.2, by show ∀ t ∈ (dayF s s.own.toNat).D, t.1 < (dayF s s.own.toNat).own ∧ t.2.1 < (dayF s s.own.toNat).own; rw [h1, h3]; exact g4, by show 2 ≤ (dayF s s.own.toNat).own ∧ (dayF s s.own.toNat).own ≤ 5; rw [h1]; exact hown, by show 0 ≤ (dayF s s.own.toNat).day + 1 ∧ (dayF s s.own.toNat).day + 1 ≤ ((c + 1 : Nat) : Int); rw [h4]; omega, fun o a b => ?_, fun o a b => ?_, by show (0 ≤ (dayF s s.own.toNat).set 0 ∧ (dayF s s.own.toNat).set 0 ≤ 30) ∧ (0 ≤ (dayF s s.own.toNat).set 1 ∧ (dayF s s.own.toNat).set 1 ≤ 60) ∧ 0 ≤ (dayF s s.own.toNat).set 2 ∧ (dayF s s.own.toNat).set 2 ≤ 20; rw [h2]; exact g9⟩
      · have a : (dayF s s.own.toNat).own ≤ o := a
        rw [h1] at a
        show (dayF s s.own.toNat).tax o = 0
        rw [(dayF_ge s s.own.toNat o (by omega)).2.1]
        exact g7 o a b
      · have b : o < (dayF s s.own.toNat).own := b
        rw [h1] at b
        obtain ⟨e1, -, -, e2, e3⟩ := hq o a b
        exact ⟨mf o, e1, by omega, by omega⟩
    have hown2 : (dayP s).own = s.own := h1
    have Z2 : ∀ (w3 : Wd), obA G w3 x (dayP s) → w3 (z + 4) = some (aI G 10 mf) → w3 (z + 5) = some (aI G 10 pf) → w3 (z + 6) = some (aI G 10 lf) → ∀ j k : Nat, (k : Int) + j = s.own → P 372 [some (.ref x), some (.ref z), some (.ref (z + 1)), some (.ref (z + 2)), some (.ref (z + 3)), some (.ref (z + 4)), some (.ref (z + 5)), some (.ref (z + 6)), some (.int (iI s.day)), some (.int (iI k)), u10, u11, u12, u13, u14, u15] [] w3 (z + 7, 7, 286) := by
      intro w3 o3 m3 p3 l3 j
      induction j with
      | zero =>
        intro k hk
        refine x_iload hM dL_isDay_372 rfl ?_
        refine x_aload_n hM dL_isDay_374 rfl rfl ?_
        refine x_iconst hM dL_isDay_375 ?_
        refine x_callV hM wv_L_8 ((o_cnt (k := 1) (v := s.own)) o3 (by omega) (fun _ => hown2)) ⟨Nat.le_of_ble_eq_true rfl, Nat.le_of_ble_eq_true rfl⟩ (ob_o o3) rfl rfl rfl rfl (Nat.le_of_ble_eq_true rfl) ⟨Nat.le_of_ble_eq_true rfl, Nat.le_of_ble_eq_true rfl⟩ dL_isDay_376 (k_rI ?_)
        refine x_icmp_ge (tgt := 436) hM dL_isDay_379 (by decide) (by omega) (by omega) (fun c_379 => ?_) (fun c_379 => ?_)
        · refine x_iconst hM dL_isDay_436 ?_
          refine hR.b dL_isDay_437 rfl (Nat.le_refl _) (Nat.le_refl _) ?_
          exact p_ac rfl (by omega) o3 hiv2 hown2
        · exfalso; omega
      | succ j ih =>
        intro k hk
        have hkk : 0 ≤ (k : Int) ∧ (k : Int) < (dayP s).own := by rw [hown2]; omega
        obtain ⟨e1, e2, e3, e4, e5⟩ := hq k hkk.1 (by omega)
        refine x_iload hM dL_isDay_372 rfl ?_
        refine x_aload_n hM dL_isDay_374 rfl rfl ?_
        refine x_iconst hM dL_isDay_375 ?_
        refine x_callV hM wv_L_8 ((o_cnt (k := 1) (v := s.own)) o3 (by omega) (fun _ => hown2)) ⟨Nat.le_of_ble_eq_true rfl, Nat.le_of_ble_eq_true rfl⟩ (ob_o o3) rfl rfl rfl rfl (Nat.le_of_ble_eq_true rfl) ⟨Nat.le_of_ble_eq_true rfl, Nat.le_of_ble_eq_true rfl⟩ dL_isDay_376 (k_rI ?_)
        refine x_icmp_ge (tgt := 436) hM dL_isDay_379 (by decide) (by omega) (by omega) (fun c_379 => ?_) (fun c_379 => ?_)
        · exfalso; omega
        · refine x_aload_n hM dL_isDay_382 rfl rfl ?_
          refine x_iload hM dL_isDay_383 rfl ?_
          refine x_callV hM wv_L_107 (o_mon o3 hkk) ⟨Nat.le_of_ble_eq_true rfl, Nat.le_of_ble_eq_true rfl⟩ (ob_o o3) rfl rfl rfl rfl (Nat.le_of_ble_eq_true rfl) ⟨Nat.le_of_ble_eq_true rfl, Nat.le_of_ble_eq_true rfl⟩ dL_isDay_385 (k_rL ?_)
          refine x_aload hM dL_isDay_388 rfl ?_
          refine x_iload hM dL_isDay_390 rfl ?_
          refine x_iald hM m3 (by omega) dL_isDay_392 ?_
          refine x_i2l hM dL_isDay_393 ?_
          rw [iI_long ⟨by omega, by omega⟩]
          refine x_lcmp hM dL_isDay_394 (fun z_394 z_394r z_394l z_394e => ?_)
          have hz := z_394e.mpr e1
          refine x_if_ne (tgt := 428) hM dL_isDay_395 (by decide) (by omega) (fun c_395 => ?_) (fun c_395 => ?_)
          · exfalso; omega
          · refine x_aload_n hM dL_isDay_398 rfl rfl ?_
            refine x_iload hM dL_isDay_399 rfl ?_
            refine x_iconst hM dL_isDay_401 ?_
            refine x_callV hM wv_L_42 (o_o4 o3 hkk) ⟨Nat.le_of_ble_eq_true rfl, Nat.le_of_ble_eq_true rfl⟩ (ob_o o3) rfl rfl rfl rfl (Nat.le_of_ble_eq_true rfl) ⟨Nat.le_of_ble_eq_true rfl, Nat.le_of_ble_eq_true rfl⟩ dL_isDay_402 (k_rI ?_)
            refine x_aload hM dL_isDay_405 rfl ?_
            refine x_iload hM dL_isDay_407 rfl ?_
            refine x_iald hM p3 (by omega) dL_isDay_409 ?_
            refine x_sameN (tgt := 428) hM e2 dL_isDay_410 (by decide) ?_
            refine x_aload_n hM dL_isDay_413 rfl rfl ?_
            refine x_iload hM dL_isDay_414 rfl ?_
            refine x_iconst hM dL_isDay_416 ?_
            refine x_callV hM wv_L_42 (o_o5 o3 hkk) ⟨Nat.le_of_ble_eq_true rfl, Nat.le_of_ble_eq_true rfl⟩ (ob_o o3) rfl rfl rfl rfl (Nat.le_of_ble_eq_true rfl) ⟨Nat.le_of_ble_eq_true rfl, Nat.le_of_ble_eq_true rfl⟩ dL_isDay_417 (k_rI ?_)
            refine x_aload hM dL_isDay_420 rfl ?_
            refine x_iload hM dL_isDay_422 rfl ?_
            refine x_iald hM l3 (by omega) dL_isDay_424 ?_
            refine x_same (tgt := 430) hM e3 dL_isDay_425 (by decide) ?_
            refine x_iinc hM dL_isDay_430 rfl rfl rfl ?_
            refine x_goto (tgt := 372) hM dL_isDay_433 (by decide) ?_
            exact ih (k + 1) (by omega)
    obtain ⟨o1, r1, -, -, m1, p1, l1⟩ := hw
    obtain ⟨-, ⟨hs, hh⟩, -⟩ := id o1
    refine x_aload_n hM dL_isDay_346 rfl rfl ?_
    refine x_iconst hM dL_isDay_347 ?_
    refine x_callV hM wv_L_125 (m_X6_days o1.1 hh (by omega) hdb) ⟨Nat.le_of_ble_eq_true rfl, Nat.le_of_ble_eq_true rfl⟩ (ob_o o1) rfl rfl rfl rfl (Nat.le_of_ble_eq_true rfl) ⟨Nat.le_of_ble_eq_true rfl, Nat.le_of_ble_eq_true rfl⟩ dL_isDay_348 (k_qI fun x_348 w_348 q_348 => ?_)
    obtain ⟨rfl, q2, q3, qG⟩ := q_348
    have o3 : obA G w_348 x (dayP s) := by
      have q := mu_ob o1 q2 _ q3 qG
      rw [hda] at q
      exact q
    have r3 := r1.kp (qG _ (by omega)) (qG _ (by omega))
    rw [hda]
    refine x_iload hM dL_isDay_351 rfl ?_
    refine x_iconst hM dL_isDay_353 ?_
    refine x_iadd hM dL_isDay_354 ?_
    refine x_sameN (tgt := 367) hM rfl dL_isDay_355 (by decide) ?_
    refine x_aload_n hM dL_isDay_358 rfl rfl ?_
    refine x_aload_n hM dL_isDay_359 rfl rfl ?_
    refine x_aload_n hM dL_isDay_360 rfl rfl ?_
    refine x_callS hM ws_L_81 (m_L_isRow o3 r3) ⟨Nat.le_of_ble_eq_true rfl, Nat.le_of_ble_eq_true rfl⟩ rfl rfl (Nat.le_of_ble_eq_true rfl) ⟨Nat.le_of_ble_eq_true rfl, Nat.le_of_ble_eq_true rfl⟩ dL_isDay_361 (k_rI ?_)
    refine x_if_ne (tgt := 369) hM dL_isDay_364 (by decide) (by omega) (fun c_364 => ?_) (fun c_364 => ?_)
    · refine x_iconst hM dL_isDay_369 ?_
      refine x_istore hM dL_isDay_370 rfl (Nat.le_of_ble_eq_true rfl) rfl ?_
      exact Z2 _ o3 ((qG _ (by omega)).trans m1) ((qG _ (by omega)).trans p1) ((qG _ (by omega)).trans l1) s.own.toNat 0 (by omega)
    · exfalso; omega
  /- the owners -/
  have K : ∀ (j k : Nat) (w1 : Wd) (mf pf lf : Int → Int) (u10 u11 u12 u13 u14 u15 : Option Value), (k : Int) + j = s.own → dyW G w1 z x s (dayF s k).L mf pf lf → ordL s.own (dayF s k).L → (∀ q : Int, 0 ≤ q → q < k → (dayF s k).mon q = jJ (mf q) ∧ (dayF s k).tax q = pf q ∧ (dayF s k).los q = lf q ∧ -(10000000 * ((c : Int) + 1)) ≤ mf q ∧ mf q ≤ 10000000 * ((c : Int) + 1)) → P 55 [some (.ref x), some (.ref z), some (.ref (z + 1)), some (.ref (z + 2)), some (.ref (z + 3)), some (.ref (z + 4)), some (.ref (z + 5)), some (.ref (z + 6)), some (.int (iI s.day)), some (.int (iI k)), u10, u11, u12, u13, u14, u15] [] w1 (z + 7, 7, 286) := by
    intro j
    induction j with
    | zero =>
      intro k w1 mf pf lf u10 u11 u12 u13 u14 u15 hk hw hor hq
      have e : k = s.own.toNat := by omega
      subst e
      refine x_iload hM dL_isDay_55 rfl ?_
      refine x_aload_n hM dL_isDay_57 rfl rfl ?_
      refine x_iconst hM dL_isDay_58 ?_
      refine x_callV hM wv_L_8 (o_c1 hw.ob) ⟨Nat.le_of_ble_eq_true rfl, Nat.le_of_ble_eq_true rfl⟩ (ob_o hw.ob) rfl rfl rfl rfl (Nat.le_of_ble_eq_true rfl) ⟨Nat.le_of_ble_eq_true rfl, Nat.le_of_ble_eq_true rfl⟩ dL_isDay_59 (k_rI ?_)
      refine x_icmp_ge (tgt := 346) hM dL_isDay_62 (by decide) (by omega) (by omega) (fun c_62 => ?_) (fun c_62 => ?_)
      · exact Z w1 mf pf lf _ _ _ _ _ _ hw hor (fun q a b => hq q a (by omega))
      · exfalso; omega
    | succ j ih =>
      intro k w1 mf pf lf u10 u11 u12 u13 u14 u15 hk hw hor hq
      have hkk : 0 ≤ (k : Int) ∧ (k : Int) < s.own := by omega
      obtain ⟨on, em, em1, em2⟩ := g8 k hkk.1 hkk.2
      obtain ⟨f1, f2, f3, f4, f5⟩ := dayF_ge s k k (Int.le_refl _)
      have hset := (dayF_own s k).2.1
      generalize hT : dayF s k = t at *
      have htx : txL t.L s.set k = taxV s k := by
        unfold txL
        rw [f4, f5]
        rfl
      have htb := tax_b (s := s) k hrW hW
      have htV : taxV t k = taxV s k := by
        rw [taxV_tx, hset]
        exact htx
      have hls := lsV_1 (s := s) (k := k) em ⟨by omega, by omega⟩ htb
      have hlb := lsV_b s k
      have hcn := cntO_nn s.L k
      have hTn : dayF s (k + 1) = dayO t k := by
        show dayO (dayF s k) k = _
        rw [hT]
      have hDO : dayO t k = losF (cntO t.L k).toNat (chgF t k (taxV t k)) k := rfl
      /- behind the loop -/
      have EX : ∀ (w3 : Wd) (u : St) (mf3 pf3 lf3 : Int → Int) (lo : Int) (u14 u15 : Option Value), dayO t k = u → dyW G w3 z x s u.L mf3 pf3 lf3 → ordL s.own u.L → (mf3 k = on - txL u.L s.set k) → u.mon k = jJ (mf3 k) → u.tax k = s.tax k + txL u.L s.set k → u.los k = lf3 k → pf3 k = s.tax k → (∀ q : Int, q ≠ k → mf3 q = mf q ∧ pf3 q = pf q ∧ lf3 q = lf q) → (-(10000000 * ((c : Int) + 1)) ≤ mf3 k ∧ mf3 k ≤ 10000000 * ((c : Int) + 1)) → (lo = 0 ∧ lsV s k ≠ 1 ∨ lo = 1 ∧ lsV s k = 1) → P 306 [some (.ref x), some (.ref z), some (.ref (z + 1)), some (.ref (z + 2)), some (.ref (z + 3)), some (.ref (z + 4)), some (.ref (z + 5)), some (.ref (z + 6)), some (.int (iI s.day)), some (.int (iI k)), some (.int (iI (lsV s k))), some (.int (iI (taxV s k))), some (.int (iI on)), some (.int (iI lo)), u14, u15] [] w3 (z + 7, 7, 286) := by
        intro w3 u mf3 pf3 lf3 lo u14 u15 hu hw3 hor3 hm3 hum hut hul hpf hoth hb3 hlo
        have hfin : ∀ q : Int, 0 ≤ q → q < ((k + 1 : Nat) : Int) → (dayF s (k + 1)).mon q = jJ (mf3 q) ∧ (dayF s (k + 1)).tax q = fU pf3 k (pf3 k + (on - mf3 k)) q ∧ (dayF s (k + 1)).los q = lf3 q ∧ -(10000000 * ((c : Int) + 1)) ≤ mf3 q ∧ mf3 q ≤ 10000000 * ((c : Int) + 1) := by
          intro q a b
          rw [hTn]
          by_cases e : q = k
          · subst e
            rw [hu, fU_eq]
            exact ⟨hum, by rw [hut]; omega, hul, hb3⟩
          · obtain ⟨n1, n2, n3, -⟩ := dayO_ne (s := t) (o := k) e
            obtain ⟨e1, e2, e3⟩ := hoth q e
            obtain ⟨v1, v2, v3, v4, v5⟩ := hq q a (by omega)
            rw [n1, n2, n3, fU_ne e, e1, e2, e3]
            exact ⟨v1, v2, v3, v4, v5⟩
        have hw4 := hw3.u5 (f := fU pf3 k (pf3 k + (on - mf3 k))) hz
        have hTL : (dayF s (k + 1)).L = u.L := by rw [hTn, hu]
        refine x_aload hM dL_isDay_306 rfl ?_
        refine x_iload hM dL_isDay_308 rfl ?_
        refine x_dup2 hM dL_isDay_310 rfl rfl ?_
        refine x_iald hM hw3.p (by omega) dL_isDay_311 ?_
        refine x_iload hM dL_isDay_312 rfl ?_
        refine x_aload hM dL_isDay_314 rfl ?_
        refine x_iload hM dL_isDay_316 rfl ?_
        refine x_iald hM hw3.m (by omega) dL_isDay_318 ?_
        refine x_isub hM dL_isDay_319 ?_
        refine x_iadd hM dL_isDay_320 ?_
        refine x_iast hM hw3.p (by omega) dL_isDay_321 ?_
        refine x_iload hM dL_isDay_322 rfl ?_
        refine x_iload hM dL_isDay_324 rfl ?_
        refine x_iconst hM dL_isDay_326 ?_
        refine x_icmp_ne (tgt := 334) hM dL_isDay_327 (by decide) (by omega) (by omega) (fun c_327 => ?_) (fun c_327 => ?_)
        · refine x_iconst hM dL_isDay_334 ?_
          refine x_icmp_eq (tgt := 340) hM dL_isDay_335 (by decide) (by omega) (by omega) (fun c_335 => ?_) (fun c_335 => ?_)
          · refine x_iinc hM dL_isDay_340 rfl rfl rfl ?_
            refine x_goto (tgt := 55) hM dL_isDay_343 (by decide) ?_
            exact ih (k + 1) _ mf3 _ lf3 _ _ _ _ _ _ (by omega) (by rw [hTL]; exact hw4) (by rw [hTL]; exact hor3) hfin
          · exfalso; omega
        · refine x_iconst hM dL_isDay_330 ?_
          refine x_goto (tgt := 335) hM dL_isDay_331 (by decide) ?_
          refine x_icmp_eq (tgt := 340) hM dL_isDay_335 (by decide) (by omega) (by omega) (fun c_335 => ?_) (fun c_335 => ?_)
          · refine x_iinc hM dL_isDay_340 rfl rfl rfl ?_
            refine x_goto (tgt := 55) hM dL_isDay_343 (by decide) ?_
            exact ih (k + 1) _ mf3 _ lf3 _ _ _ _ _ _ (by omega) (by rw [hTL]; exact hw4) (by rw [hTL]; exact hor3) hfin
          · exfalso; omega
      /- as long as the money is below 0 -/
      have WH : ∀ (n : Nat) (w3 : Wd) (u : St) (mf3 pf3 lf3 : Int → Int) (lo : Int) (u14 u15 : Option Value), cntO u.L k = n → losF n u k = dayO t k → dyW G w3 z x s u.L mf3 pf3 lf3 → ordL s.own u.L → u.set = s.set → (mf3 k = on - txL u.L s.set k) → u.mon k = jJ (mf3 k) → u.tax k = s.tax k + txL u.L s.set k → u.los k = lf3 k → pf3 k = s.tax k → (∀ q : Int, q ≠ k → mf3 q = mf q ∧ pf3 q = pf q ∧ lf3 q = lf q) → (lo = 0 ∧ (n : Int) = cntO s.L k ∧ mf3 k = on - taxV s k ∨ lo = 1 ∧ on - taxV s k < 0 ∧ 0 < cntO s.L k) → P 139 [some (.ref x), some (.ref z), some (.ref (z + 1)), some (.ref (z + 2)), some (.ref (z + 3)), some (.ref (z + 4)), some (.ref (z + 5)), some (.ref (z + 6)), some (.int (iI s.day)), some (.int (iI k)), some (.int (iI (lsV s k))), some (.int (iI (taxV s k))), some (.int (iI on)), some (.int (iI lo)), u14, u15] [] w3 (z + 7, 7, 286) := by
        intro n
        induction n with
        | zero =>
          intro w3 u mf3 pf3 lf3 lo u14 u15 hn hlF hw3 hor3 hus hm3 hum hut hul hpf hoth hlo
          have hu : dayO t k = u := hlF.symm
          have hn : cntO u.L k = 0 := hn
          have h0 : txL u.L s.set k = 0 := by
            unfold txL
            rw [hn, cnt0_mts u.L hn, show ((0 : Int) + 9) / 10 = 0 by decide, Int.zero_mul, Int.zero_mul]
            rfl
          have hex := EX w3 u mf3 pf3 lf3 lo u14 u15 hu hw3 hor3 hm3 hum hut hul hpf hoth (by omega) (by omega)
          refine x_aload hM dL_isDay_139 rfl ?_
          refine x_iload hM dL_isDay_141 rfl ?_
          refine x_iald hM hw3.m (by omega) dL_isDay_143 ?_
          refine x_if_ge (tgt := 306) hM dL_isDay_144 (by decide) (by omega) (fun c_144 => ?_) (fun c_144 => ?_)
          · exact hex
          · refine x_aload_n hM dL_isDay_147 rfl rfl ?_
            refine x_iload hM dL_isDay_148 rfl ?_
            refine x_callS hM ws_L_35 (m_L_many hw3.rs (by omega)) ⟨Nat.le_of_ble_eq_true rfl, Nat.le_of_ble_eq_true rfl⟩ rfl rfl (Nat.le_of_ble_eq_true rfl) ⟨Nat.le_of_ble_eq_true rfl, Nat.le_of_ble_eq_true rfl⟩ dL_isDay_150 (k_rI ?_)
            rw [hn]
            refine x_if_le (tgt := 306) hM dL_isDay_153 (by decide) (by omega) (fun c_153 => ?_) (fun c_153 => ?_)
            · exact hex
            · exfalso; omega
        | succ n ihn =>
          intro w3 u mf3 pf3 lf3 lo u14 u15 hn hlF hw3 hor3 hus hm3 hum hut hul hpf hoth hlo
          have huW := hw3.rs.1
          have hult := okS_lt huW
          have hul2 := huW.1
          have hcu := cntO_nn u.L k
          have hxb : 0 ≤ txL u.L s.set k ∧ txL u.L s.set k ≤ 43000000 := by
            have := tax_b (s := mkS u.L s.set s.mon s.tax s.los s.D s.own s.day s.clo s.fee) k hrW huW
            exact this
          by_cases c0 : mf3 k < 0
          · /- a range is lost -/
            have hneg : u.mon k < jJ 0 := by
              rw [hum, jJ_lt ⟨by omega, by omega⟩ ⟨by omega, by omega⟩]
              exact c0
            have hlF : losF n (losT u k) k = dayO t k := by
              have e : losF (n + 1) u k = losF n (losT u k) k := if_pos hneg
              rw [← e]; exact hlF
            have hcp : 0 < cntO u.L k := by omega
            obtain ⟨b, eb, hb, hbo⟩ := srt_some hcp
            have eb2 : (srtF u.L k).toNat = b := by omega
            have hbok := strW_at huW hb
            have hLe : (losT u k).L = u.L.eraseIdx b := by
              show u.L.eraseIdx (srtF u.L k).toNat = _
              rw [eb2]
            have hbe := bec_erase hor3.1 (fun s hs => ⟨(huW.2 s hs).1, (huW.2 s hs).2.2.2.1⟩) hor3.2.1 b hb
            have hxV : taxV u k = txL u.L s.set k := by rw [taxV_tx, hus]
            have hxV2 : taxV (losT1 u k) k = txL (u.L.eraseIdx b) s.set k := by
              rw [taxV_tx]
              show txL (u.L.eraseIdx (srtF u.L k).toNat) u.set k = _
              rw [eb2, hus]
            have hcn2 := losT_cnt hcp
            have hlos : (losT u k).los k = u.los k + (u.L[b].2.2 - u.L[b].2.1) := by
              show fU u.los k (u.los k + (gB_ u.L (srtF u.L k).toNat - gA_ u.L (srtF u.L k).toNat)) k = _
              rw [fU_eq, eb2, (gO_at hb).2.1, (gO_at hb).2.2]
            have htaxn : (losT u k).tax k = s.tax k + txL (u.L.eraseIdx b) s.set k := by
              show fU u.tax k (u.tax k + (taxV (losT1 u k) k - taxV u k)) k = _
              rw [fU_eq, hxV, hxV2, hut]
              omega
            have hmonn : (losT u k).mon k = jJ (on - txL (u.L.eraseIdx b) s.set k) := by
              show fU u.mon k (u.mon k + jJ (-(taxV (losT1 u k) k - taxV u k))) k = _
              rw [fU_eq, hxV, hxV2, hum, hm3, jJ_add]
              congr 1
              omega
            /- behind the choice -/
            have S2 : P 230 [some (.ref x), some (.ref z), some (.ref (z + 1)), some (.ref (z + 2)), some (.ref (z + 3)), some (.ref (z + 4)), some (.ref (z + 5)), some (.ref (z + 6)), some (.int (iI s.day)), some (.int (iI k)), some (.int (iI (lsV s k))), some (.int (iI (taxV s k))), some (.int (iI on)), some (.int (iI lo)), some (.int (iI b)), some (.int (iI u.L.length))] [] w3 (z + 7, 7, 286) := by
              /- the row is laid anew -/
              have S3 : ∀ w5 : Wd, dyW G w5 z x s u.L mf3 pf3 (fU lf3 k (lf3 k + (u.L[b].2.2 - u.L[b].2.1))) → P 251 [some (.ref x), some (.ref z), some (.ref (z + 1)), some (.ref (z + 2)), some (.ref (z + 3)), some (.ref (z + 4)), some (.ref (z + 5)), some (.ref (z + 6)), some (.int (iI s.day)), some (.int (iI k)), some (.int (iI (lsV s k))), some (.int (iI (taxV s k))), some (.int (iI on)), some (.int (iI lo)), some (.int (iI b)), some (.int (iI u.L.length))] [] w5 (z + 7, 7, 286) := by
                intro w5 hw5
                have S4 : ∀ w7 : Wd, dyW G w7 z x s (u.L.eraseIdx b) mf3 pf3 (fU lf3 k (lf3 k + (u.L[b].2.2 - u.L[b].2.1))) → P 284 [some (.ref x), some (.ref z), some (.ref (z + 1)), some (.ref (z + 2)), some (.ref (z + 3)), some (.ref (z + 4)), some (.ref (z + 5)), some (.ref (z + 6)), some (.int (iI s.day)), some (.int (iI k)), some (.int (iI (lsV s k))), some (.int (iI (taxV s k))), some (.int (iI on)), some (.int (iI lo)), some (.int (iI b)), some (.int (iI u.L.length))] [] w7 (z + 7, 7, 286) := by
                  intro w7 hw7
                  refine x_aload hM dL_isDay_284 rfl ?_
                  refine x_iload hM dL_isDay_286 rfl ?_
                  refine x_iload hM dL_isDay_288 rfl ?_
                  refine x_aload_n hM dL_isDay_290 rfl rfl ?_
                  refine x_aload_n hM dL_isDay_291 rfl rfl ?_
                  refine x_aload_n hM dL_isDay_292 rfl rfl ?_
                  refine x_iload hM dL_isDay_293 rfl ?_
                  refine x_callS hM ws_L_55 (m_L_tax hw7.ob hw7.rs (by omega)) ⟨Nat.le_of_ble_eq_true rfl, Nat.le_of_ble_eq_true rfl⟩ rfl rfl (Nat.le_of_ble_eq_true rfl) ⟨Nat.le_of_ble_eq_true rfl, Nat.le_of_ble_eq_true rfl⟩ dL_isDay_295 (k_rI ?_)
                  refine x_isub hM dL_isDay_298 ?_
                  refine x_iast hM hw7.m (by omega) dL_isDay_299 ?_
                  refine x_iconst hM dL_isDay_300 ?_
                  refine x_istore hM dL_isDay_301 rfl (Nat.le_of_ble_eq_true rfl) rfl ?_
                  refine x_goto (tgt := 139) hM dL_isDay_303 (by decide) ?_
                  refine ihn _ (losT u k) (fU mf3 k (on - txL (u.L.eraseIdx b) s.set k)) pf3 (fU lf3 k (lf3 k + (u.L[b].2.2 - u.L[b].2.1))) 1 _ _ (by omega) hlF (by rw [hLe]; exact hw7.u4 hz) (by rw [hLe]; exact ordL_erase hor3 hult hb) hus (by rw [fU_eq, hLe]) (by rw [fU_eq]; exact hmonn) (by rw [hLe]; exact htaxn) (by rw [fU_eq, hlos, hul]) hpf (fun q e => ⟨by rw [fU_ne e]; exact (hoth q e).1, (hoth q e).2.1, by rw [fU_ne e]; exact (hoth q e).2.2⟩) (Or.inr ⟨rfl, by omega, by omega⟩)
                obtain ⟨o5, r5, ⟨f5, c5⟩, ⟨g5, d5⟩, m5, p5, l5⟩ := id hw5
                obtain ⟨-, ff, gg, ⟨v1, v2, v3⟩, v4⟩ := id r5
                have evb := (v3 b hb).2
                refine x_aload_n hM dL_isDay_251 rfl rfl ?_
                refine x_aload_n hM dL_isDay_252 rfl rfl ?_
                refine x_aload_n hM dL_isDay_253 rfl rfl ?_
                refine x_iload hM dL_isDay_254 rfl ?_
                refine x_callS hM ws_L_18 (m_L_firstOf r5 hb) ⟨Nat.le_of_ble_eq_true rfl, Nat.le_of_ble_eq_true rfl⟩ rfl rfl (Nat.le_of_ble_eq_true rfl) ⟨Nat.le_of_ble_eq_true rfl, Nat.le_of_ble_eq_true rfl⟩ dL_isDay_256 (k_rI ?_)
                refine x_aload_n hM dL_isDay_259 rfl rfl ?_
                refine x_iconst hM dL_isDay_260 ?_
                refine x_iload hM dL_isDay_261 rfl ?_
                refine x_iadd hM dL_isDay_263 ?_
                refine x_iald hM v2 (by omega) dL_isDay_264 ?_
                rw [evb]
                refine x_bipush hM dL_isDay_265 rfl ?_
                refine x_aload_n hM dL_isDay_267 rfl rfl ?_
                refine x_aload hM dL_isDay_268 rfl ?_
                refine x_callS hM ws_L_66 (m_L_lay r5 hor3.1 c5 d5 (by omega) hor3.2.1 (by omega) (by omega)) ⟨Nat.le_of_ble_eq_true rfl, Nat.le_of_ble_eq_true rfl⟩ rfl rfl (Nat.le_of_ble_eq_true rfl) ⟨Nat.le_of_ble_eq_true rfl, Nat.le_of_ble_eq_true rfl⟩ dL_isDay_270 (k_qV fun w_270 q_270 => ?_)
                obtain ⟨t6, f6⟩ := q_270
                rw [hbe] at t6
                obtain ⟨heW, f7, g7, ⟨y1, y2, y3⟩, y4⟩ := id t6
                refine x_aload_n hM dL_isDay_273 rfl rfl ?_
                refine x_aload_n hM dL_isDay_274 rfl rfl ?_
                refine x_callS hM ws_L_103 (m_L_copy y1 ((f6 _ (by omega) (by omega)).trans v1) (by omega)) ⟨Nat.le_of_ble_eq_true rfl, Nat.le_of_ble_eq_true rfl⟩ rfl rfl (Nat.le_of_ble_eq_true rfl) ⟨Nat.le_of_ble_eq_true rfl, Nat.le_of_ble_eq_true rfl⟩ dL_isDay_275 (k_qV fun w_275 q_275 => ?_)
                obtain ⟨ga, x1, x2, x3⟩ := q_275
                refine x_aload hM dL_isDay_278 rfl ?_
                refine x_aload_n hM dL_isDay_280 rfl rfl ?_
                refine x_callS hM ws_L_103 (m_L_copy ((x3 _ (by omega)).trans y2) ((x3 _ (by omega)).trans ((f6 _ (by omega) (by omega)).trans v2)) (by omega)) ⟨Nat.le_of_ble_eq_true rfl, Nat.le_of_ble_eq_true rfl⟩ rfl rfl (Nat.le_of_ble_eq_true rfl) ⟨Nat.le_of_ble_eq_true rfl, Nat.le_of_ble_eq_true rfl⟩ dL_isDay_281 (k_qV fun w_281 q_281 => ?_)
                obtain ⟨gb, i1, i2, i3⟩ := q_281
                have nq : ∀ q : Nat, (q < z ∨ z + 4 ≤ q) → w_281 q = w5 q := fun q hq => (i3 q (by omega)).trans ((x3 q (by omega)).trans (f6 q (by omega) (by omega)))
                exact S4 _ ⟨o5.kp fun q a b => nq q (by omega), rwA_cp heW y3 y4 ((i3 _ (by omega)).trans x1) i1 x2 i2, ⟨_, (i3 _ (by omega)).trans ((x3 _ (by omega)).trans y1)⟩, ⟨_, (i3 _ (by omega)).trans ((x3 _ (by omega)).trans y2)⟩, (nq _ (by omega)).trans m5, (nq _ (by omega)).trans p5, (nq _ (by omega)).trans l5⟩
              obtain ⟨-, ff, gg, ⟨v1, v2, v3⟩, v4⟩ := id hw3.rs
              have evb := (v3 b hb).2
              refine x_aload hM dL_isDay_230 rfl ?_
              refine x_iload hM dL_isDay_232 rfl ?_
              refine x_dup2 hM dL_isDay_234 rfl rfl ?_
              refine x_iald hM hw3.l (by omega) dL_isDay_235 ?_
              refine x_aload_n hM dL_isDay_236 rfl rfl ?_
              refine x_iconst hM dL_isDay_237 ?_
              refine x_iload hM dL_isDay_238 rfl ?_
              refine x_iadd hM dL_isDay_240 ?_
              refine x_iald hM v2 (by omega) dL_isDay_241 ?_
              rw [evb]
              refine x_aload_n hM dL_isDay_242 rfl rfl ?_
              refine x_iload hM dL_isDay_243 rfl ?_
              refine x_callS hM ws_L_18 (m_L_firstOf hw3.rs hb) ⟨Nat.le_of_ble_eq_true rfl, Nat.le_of_ble_eq_true rfl⟩ rfl rfl (Nat.le_of_ble_eq_true rfl) ⟨Nat.le_of_ble_eq_true rfl, Nat.le_of_ble_eq_true rfl⟩ dL_isDay_245 (k_rI ?_)
              refine x_isub hM dL_isDay_248 ?_
              refine x_iadd hM dL_isDay_249 ?_
              refine x_iast hM hw3.l (by omega) dL_isDay_250 ?_
              exact S3 _ (hw3.u6 hz)
            obtain ⟨-, ff, gg, ⟨v1, v2, v3⟩, v4⟩ := id hw3.rs
            /- the shortest one -/
            have SB : ∀ (q i : Nat) (bb c1 bl : Int), i + q = u.L.length → ((u.L.drop i).foldl (srtS k) ((i : Int), c1, bl)).2.1 = srtF u.L k → (c1 = -6 ∧ bb = -1 ∨ ∃ nb : Nat, c1 = nb ∧ bb = nb ∧ ∃ hnb : nb < u.L.length, bl = u.L[nb].2.2 - u.L[nb].2.1) → P 162 [some (.ref x), some (.ref z), some (.ref (z + 1)), some (.ref (z + 2)), some (.ref (z + 3)), some (.ref (z + 4)), some (.ref (z + 5)), some (.ref (z + 6)), some (.int (iI s.day)), some (.int (iI k)), some (.int (iI (lsV s k))), some (.int (iI (taxV s k))), some (.int (iI on)), some (.int (iI lo)), some (.int (iI bb)), some (.int (iI i))] [] w3 (z + 7, 7, 286) := by
              intro q
              induction q with
              | zero =>
                intro i bb c1 bl hiq h1 h2
                rw [drop_foldE _ _ (by omega)] at h1
                have h1 : c1 = srtF u.L k := h1
                have ebb : bb = b := by
                  rcases h2 with ⟨q1, q2⟩ | ⟨nb, q1, q2, -⟩ <;> omega
                have ei : i = u.L.length := by omega
                subst ebb
                subst ei
                refine x_iload hM dL_isDay_162 rfl ?_
                refine x_aload_n hM dL_isDay_164 rfl rfl ?_
                refine x_iconst hM dL_isDay_165 ?_
                refine x_iald hM v1 (by omega) dL_isDay_166 ?_
                refine x_icmp_ge (tgt := 230) hM dL_isDay_167 (by decide) (by omega) (by omega) (fun c_167 => ?_) (fun c_167 => ?_)
                · exact S2
                · exfalso; omega
              | succ q ihq =>
                intro i bb c1 bl hiq h1 h2
                have hi : i < u.L.length := by omega
                have hok := strW_at huW hi
                have evi := (v3 i hi).2
                rw [drop_fold _ _ hi] at h1
                by_cases d1 : u.L[i].1 = k
                · rcases h2 with ⟨q1, q2⟩ | ⟨nb, q1, q2, hnb, q3⟩
                  · rw [show srtS k ((i : Int), c1, bl) u.L[i] = ((i : Int) + 1, (i : Int), u.L[i].2.2 - u.L[i].2.1) from if_pos ⟨d1, Or.inl q1⟩] at h1
                    refine x_iload hM dL_isDay_162 rfl ?_
                    refine x_aload_n hM dL_isDay_164 rfl rfl ?_
                    refine x_iconst hM dL_isDay_165 ?_
                    refine x_iald hM v1 (by omega) dL_isDay_166 ?_
                    refine x_icmp_ge (tgt := 230) hM dL_isDay_167 (by decide) (by omega) (by omega) (fun c_167 => ?_) (fun c_167 => ?_)
                    · exfalso; omega
                    · refine x_aload_n hM dL_isDay_170 rfl rfl ?_
                      refine x_iload hM dL_isDay_171 rfl ?_
                      refine x_callS hM ws_L_28 (m_L_ownerOf hw3.rs hi) ⟨Nat.le_of_ble_eq_true rfl, Nat.le_of_ble_eq_true rfl⟩ rfl rfl (Nat.le_of_ble_eq_true rfl) ⟨Nat.le_of_ble_eq_true rfl, Nat.le_of_ble_eq_true rfl⟩ dL_isDay_173 (k_rI ?_)
                      refine x_iload hM dL_isDay_176 rfl ?_
                      refine x_icmp_ne (tgt := 220) hM dL_isDay_178 (by decide) (by omega) (by omega) (fun c_178 => ?_) (fun c_178 => ?_)
                      · exfalso; omega
                      · refine x_iload hM dL_isDay_181 rfl ?_
                        refine x_if_lt (tgt := 215) hM dL_isDay_183 (by decide) (by omega) (fun c_183 => ?_) (fun c_183 => ?_)
                        · refine x_iload hM dL_isDay_215 rfl ?_
                          refine x_goto (tgt := 222) hM dL_isDay_217 (by decide) ?_
                          refine x_istore hM dL_isDay_222 rfl (Nat.le_of_ble_eq_true rfl) rfl ?_
                          refine x_iinc hM dL_isDay_224 rfl rfl rfl ?_
                          refine x_goto (tgt := 162) hM dL_isDay_227 (by decide) ?_
                          exact ihq (i + 1) _ (i : Int) _ (by omega) h1 (Or.inr ⟨i, rfl, rfl, hi, rfl⟩)
                        · exfalso; omega
                  · have hokn := strW_at huW hnb
                    have evn := (v3 nb hnb).2
                    subst q2
                    by_cases d2 : u.L[i].2.2 - u.L[i].2.1 ≤ bl
                    · rw [show srtS k ((i : Int), c1, bl) u.L[i] = ((i : Int) + 1, (i : Int), u.L[i].2.2 - u.L[i].2.1) from if_pos ⟨d1, Or.inr d2⟩] at h1
                      refine x_iload hM dL_isDay_162 rfl ?_
                      refine x_aload_n hM dL_isDay_164 rfl rfl ?_
                      refine x_iconst hM dL_isDay_165 ?_
                      refine x_iald hM v1 (by omega) dL_isDay_166 ?_
                      refine x_icmp_ge (tgt := 230) hM dL_isDay_167 (by decide) (by omega) (by omega) (fun c_167 => ?_) (fun c_167 => ?_)
                      · exfalso; omega
                      · refine x_aload_n hM dL_isDay_170 rfl rfl ?_
                        refine x_iload hM dL_isDay_171 rfl ?_
                        refine x_callS hM ws_L_28 (m_L_ownerOf hw3.rs hi) ⟨Nat.le_of_ble_eq_true rfl, Nat.le_of_ble_eq_true rfl⟩ rfl rfl (Nat.le_of_ble_eq_true rfl) ⟨Nat.le_of_ble_eq_true rfl, Nat.le_of_ble_eq_true rfl⟩ dL_isDay_173 (k_rI ?_)
                        refine x_iload hM dL_isDay_176 rfl ?_
                        refine x_icmp_ne (tgt := 220) hM dL_isDay_178 (by decide) (by omega) (by omega) (fun c_178 => ?_) (fun c_178 => ?_)
                        · exfalso; omega
                        · refine x_iload hM dL_isDay_181 rfl ?_
                          refine x_if_lt (tgt := 215) hM dL_isDay_183 (by decide) (by omega) (fun c_183 => ?_) (fun c_183 => ?_)
                          · exfalso; omega
                          · refine x_aload_n hM dL_isDay_186 rfl rfl ?_
                            refine x_iconst hM dL_isDay_187 ?_
                            refine x_iload hM dL_isDay_188 rfl ?_
                            refine x_iadd hM dL_isDay_190 ?_
                            refine x_iald hM v2 (by omega) dL_isDay_191 ?_
                            refine x_aload_n hM dL_isDay_192 rfl rfl ?_
                            refine x_iload hM dL_isDay_193 rfl ?_
                            refine x_callS hM ws_L_18 (m_L_firstOf hw3.rs hi) ⟨Nat.le_of_ble_eq_true rfl, Nat.le_of_ble_eq_true rfl⟩ rfl rfl (Nat.le_of_ble_eq_true rfl) ⟨Nat.le_of_ble_eq_true rfl, Nat.le_of_ble_eq_true rfl⟩ dL_isDay_195 (k_rI ?_)
                            refine x_isub hM dL_isDay_198 ?_
                            refine x_aload_n hM dL_isDay_199 rfl rfl ?_
                            refine x_iconst hM dL_isDay_200 ?_
                            refine x_iload hM dL_isDay_201 rfl ?_
                            refine x_iadd hM dL_isDay_203 ?_
                            refine x_iald hM v2 (by omega) dL_isDay_204 ?_
                            refine x_aload_n hM dL_isDay_205 rfl rfl ?_
                            refine x_iload hM dL_isDay_206 rfl ?_
                            refine x_callS hM ws_L_18 (m_L_firstOf hw3.rs hnb) ⟨Nat.le_of_ble_eq_true rfl, Nat.le_of_ble_eq_true rfl⟩ rfl rfl (Nat.le_of_ble_eq_true rfl) ⟨Nat.le_of_ble_eq_true rfl, Nat.le_of_ble_eq_true rfl⟩ dL_isDay_208 (k_rI ?_)
                            refine x_isub hM dL_isDay_211 ?_
                            refine x_icmp_gt (tgt := 220) hM dL_isDay_212 (by decide) (by omega) (by omega) (fun c_212 => ?_) (fun c_212 => ?_)
                            · exfalso; omega
                            · refine x_iload hM dL_isDay_215 rfl ?_
                              refine x_goto (tgt := 222) hM dL_isDay_217 (by decide) ?_
                              refine x_istore hM dL_isDay_222 rfl (Nat.le_of_ble_eq_true rfl) rfl ?_
                              refine x_iinc hM dL_isDay_224 rfl rfl rfl ?_
                              refine x_goto (tgt := 162) hM dL_isDay_227 (by decide) ?_
                              exact ihq (i + 1) _ (i : Int) _ (by omega) h1 (Or.inr ⟨i, rfl, rfl, hi, rfl⟩)
                    · rw [show srtS k ((i : Int), c1, bl) u.L[i] = ((i : Int) + 1, c1, bl) from if_neg (by show ¬ (u.L[i].1 = k ∧ (c1 = -6 ∨ u.L[i].2.2 - u.L[i].2.1 ≤ bl)); omega)] at h1
                      refine x_iload hM dL_isDay_162 rfl ?_
                      refine x_aload_n hM dL_isDay_164 rfl rfl ?_
                      refine x_iconst hM dL_isDay_165 ?_
                      refine x_iald hM v1 (by omega) dL_isDay_166 ?_
                      refine x_icmp_ge (tgt := 230) hM dL_isDay_167 (by decide) (by omega) (by omega) (fun c_167 => ?_) (fun c_167 => ?_)
                      · exfalso; omega
                      · refine x_aload_n hM dL_isDay_170 rfl rfl ?_
                        refine x_iload hM dL_isDay_171 rfl ?_
                        refine x_callS hM ws_L_28 (m_L_ownerOf hw3.rs hi) ⟨Nat.le_of_ble_eq_true rfl, Nat.le_of_ble_eq_true rfl⟩ rfl rfl (Nat.le_of_ble_eq_true rfl) ⟨Nat.le_of_ble_eq_true rfl, Nat.le_of_ble_eq_true rfl⟩ dL_isDay_173 (k_rI ?_)
                        refine x_iload hM dL_isDay_176 rfl ?_
                        refine x_icmp_ne (tgt := 220) hM dL_isDay_178 (by decide) (by omega) (by omega) (fun c_178 => ?_) (fun c_178 => ?_)
                        · exfalso; omega
                        · refine x_iload hM dL_isDay_181 rfl ?_
                          refine x_if_lt (tgt := 215) hM dL_isDay_183 (by decide) (by omega) (fun c_183 => ?_) (fun c_183 => ?_)
                          · exfalso; omega
                          · refine x_aload_n hM dL_isDay_186 rfl rfl ?_
                            refine x_iconst hM dL_isDay_187 ?_
                            refine x_iload hM dL_isDay_188 rfl ?_
                            refine x_iadd hM dL_isDay_190 ?_
                            refine x_iald hM v2 (by omega) dL_isDay_191 ?_
                            refine x_aload_n hM dL_isDay_192 rfl rfl ?_
                            refine x_iload hM dL_isDay_193 rfl ?_
                            refine x_callS hM ws_L_18 (m_L_firstOf hw3.rs hi) ⟨Nat.le_of_ble_eq_true rfl, Nat.le_of_ble_eq_true rfl⟩ rfl rfl (Nat.le_of_ble_eq_true rfl) ⟨Nat.le_of_ble_eq_true rfl, Nat.le_of_ble_eq_true rfl⟩ dL_isDay_195 (k_rI ?_)
                            refine x_isub hM dL_isDay_198 ?_
                            refine x_aload_n hM dL_isDay_199 rfl rfl ?_
                            refine x_iconst hM dL_isDay_200 ?_
                            refine x_iload hM dL_isDay_201 rfl ?_
                            refine x_iadd hM dL_isDay_203 ?_
                            refine x_iald hM v2 (by omega) dL_isDay_204 ?_
                            refine x_aload_n hM dL_isDay_205 rfl rfl ?_
                            refine x_iload hM dL_isDay_206 rfl ?_
                            refine x_callS hM ws_L_18 (m_L_firstOf hw3.rs hnb) ⟨Nat.le_of_ble_eq_true rfl, Nat.le_of_ble_eq_true rfl⟩ rfl rfl (Nat.le_of_ble_eq_true rfl) ⟨Nat.le_of_ble_eq_true rfl, Nat.le_of_ble_eq_true rfl⟩ dL_isDay_208 (k_rI ?_)
                            refine x_isub hM dL_isDay_211 ?_
                            refine x_icmp_gt (tgt := 220) hM dL_isDay_212 (by decide) (by omega) (by omega) (fun c_212 => ?_) (fun c_212 => ?_)
                            · refine x_iload hM dL_isDay_220 rfl ?_
                              refine x_istore hM dL_isDay_222 rfl (Nat.le_of_ble_eq_true rfl) rfl ?_
                              refine x_iinc hM dL_isDay_224 rfl rfl rfl ?_
                              refine x_goto (tgt := 162) hM dL_isDay_227 (by decide) ?_
                              exact ihq (i + 1) _ c1 bl (by omega) h1 (Or.inr ⟨nb, q1, rfl, hnb, q3⟩)
                            · exfalso; omega
                · rw [show srtS k ((i : Int), c1, bl) u.L[i] = ((i : Int) + 1, c1, bl) from if_neg (fun q => d1 q.1)] at h1
                  refine x_iload hM dL_isDay_162 rfl ?_
                  refine x_aload_n hM dL_isDay_164 rfl rfl ?_
                  refine x_iconst hM dL_isDay_165 ?_
                  refine x_iald hM v1 (by omega) dL_isDay_166 ?_
                  refine x_icmp_ge (tgt := 230) hM dL_isDay_167 (by decide) (by omega) (by omega) (fun c_167 => ?_) (fun c_167 => ?_)
                  · exfalso; omega
                  · refine x_aload_n hM dL_isDay_170 rfl rfl ?_
                    refine x_iload hM dL_isDay_171 rfl ?_
                    refine x_callS hM ws_L_28 (m_L_ownerOf hw3.rs hi) ⟨Nat.le_of_ble_eq_true rfl, Nat.le_of_ble_eq_true rfl⟩ rfl rfl (Nat.le_of_ble_eq_true rfl) ⟨Nat.le_of_ble_eq_true rfl, Nat.le_of_ble_eq_true rfl⟩ dL_isDay_173 (k_rI ?_)
                    refine x_iload hM dL_isDay_176 rfl ?_
                    refine x_icmp_ne (tgt := 220) hM dL_isDay_178 (by decide) (by omega) (by omega) (fun c_178 => ?_) (fun c_178 => ?_)
                    · refine x_iload hM dL_isDay_220 rfl ?_
                      refine x_istore hM dL_isDay_222 rfl (Nat.le_of_ble_eq_true rfl) rfl ?_
                      refine x_iinc hM dL_isDay_224 rfl rfl rfl ?_
                      refine x_goto (tgt := 162) hM dL_isDay_227 (by decide) ?_
                      exact ihq (i + 1) bb c1 bl (by omega) h1 h2
                    · exfalso; omega
            refine x_aload hM dL_isDay_139 rfl ?_
            refine x_iload hM dL_isDay_141 rfl ?_
            refine x_iald hM hw3.m (by omega) dL_isDay_143 ?_
            refine x_if_ge (tgt := 306) hM dL_isDay_144 (by decide) (by omega) (fun c_144 => ?_) (fun c_144 => ?_)
            · exfalso; omega
            · refine x_aload_n hM dL_isDay_147 rfl rfl ?_
              refine x_iload hM dL_isDay_148 rfl ?_
              refine x_callS hM ws_L_35 (m_L_many hw3.rs (by omega)) ⟨Nat.le_of_ble_eq_true rfl, Nat.le_of_ble_eq_true rfl⟩ rfl rfl (Nat.le_of_ble_eq_true rfl) ⟨Nat.le_of_ble_eq_true rfl, Nat.le_of_ble_eq_true rfl⟩ dL_isDay_150 (k_rI ?_)
              refine x_if_le (tgt := 306) hM dL_isDay_153 (by decide) (by omega) (fun c_153 => ?_) (fun c_153 => ?_)
              · exfalso; omega
              · refine x_iconst hM dL_isDay_156 ?_
                refine x_istore hM dL_isDay_157 rfl (Nat.le_of_ble_eq_true rfl) rfl ?_
                refine x_iconst hM dL_isDay_159 ?_
                refine x_istore hM dL_isDay_160 rfl (Nat.le_of_ble_eq_true rfl) rfl ?_
                exact SB u.L.length 0 (-1) (-6) 0 (by omega) rfl (Or.inl ⟨rfl, rfl⟩)
          · have hpos : ¬ u.mon k < jJ 0 := by
              rw [hum, jJ_lt ⟨by omega, by omega⟩ ⟨by omega, by omega⟩]
              exact c0
            have hu : dayO t k = u := by
              have e : losF (n + 1) u k = u := if_neg hpos
              rw [← e]; exact hlF.symm
            have hex := EX w3 u mf3 pf3 lf3 lo u14 u15 hu hw3 hor3 hm3 hum hut hul hpf hoth (by omega) (by omega)
            refine x_aload hM dL_isDay_139 rfl ?_
            refine x_iload hM dL_isDay_141 rfl ?_
            refine x_iald hM hw3.m (by omega) dL_isDay_143 ?_
            refine x_if_ge (tgt := 306) hM dL_isDay_144 (by decide) (by omega) (fun c_144 => ?_) (fun c_144 => ?_)
            · exact hex
            · exfalso; omega
      have S1 : ∀ (w3 : Wd) (u11 u12 u13 u14 u15 : Option Value), dyW G w3 z x s t.L (fU mf k on) (fU pf k (s.tax k)) (fU lf k (s.los k)) → P 109 [some (.ref x), some (.ref z), some (.ref (z + 1)), some (.ref (z + 2)), some (.ref (z + 3)), some (.ref (z + 4)), some (.ref (z + 5)), some (.ref (z + 6)), some (.int (iI s.day)), some (.int (iI k)), some (.int (iI (lsV s k))), u11, u12, u13, u14, u15] [] w3 (z + 7, 7, 286) := by
        intro w3 u11 u12 u13 u14 u15 hw3
        have hk10 : iR on := by omega
        refine x_aload_n hM dL_isDay_109 rfl rfl ?_
        refine x_aload_n hM dL_isDay_110 rfl rfl ?_
        refine x_aload_n hM dL_isDay_111 rfl rfl ?_
        refine x_iload hM dL_isDay_112 rfl ?_
        refine x_callS hM ws_L_55 (m_L_tax hw3.ob hw3.rs (by omega)) ⟨Nat.le_of_ble_eq_true rfl, Nat.le_of_ble_eq_true rfl⟩ rfl rfl (Nat.le_of_ble_eq_true rfl) ⟨Nat.le_of_ble_eq_true rfl, Nat.le_of_ble_eq_true rfl⟩ dL_isDay_114 (k_rI ?_)
        rw [htx]
        refine x_istore hM dL_isDay_117 rfl (Nat.le_of_ble_eq_true rfl) rfl ?_
        refine x_aload hM dL_isDay_119 rfl ?_
        refine x_iload hM dL_isDay_121 rfl ?_
        refine x_iald hM hw3.m (by omega) dL_isDay_123 ?_
        rw [fU_eq]
        refine x_istore hM dL_isDay_124 rfl (Nat.le_of_ble_eq_true rfl) rfl ?_
        refine x_aload hM dL_isDay_126 rfl ?_
        refine x_iload hM dL_isDay_128 rfl ?_
        refine x_dup2 hM dL_isDay_130 rfl rfl ?_
        refine x_iald hM hw3.m (by omega) dL_isDay_131 ?_
        rw [fU_eq]
        refine x_iload hM dL_isDay_132 rfl ?_
        refine x_isub hM dL_isDay_134 ?_
        refine x_iast hM hw3.m (by omega) dL_isDay_135 ?_
        refine x_iconst hM dL_isDay_136 ?_
        refine x_istore hM dL_isDay_137 rfl (Nat.le_of_ble_eq_true rfl) rfl ?_
        refine WH (cntO t.L k).toNat _ (chgF t k (taxV t k)) (fU (fU mf k on) k (on - taxV s k)) (fU pf k (s.tax k)) (fU lf k (s.los k)) 0 _ _ (by show cntO t.L k = _; have := cntO_nn t.L k; omega) hDO.symm (hw3.u4 hz) hor hset (by rw [fU_eq]; show _ = on - txL t.L s.set k; rw [htx]) ?_ ?_ ?_ fU_eq (fun q e => ⟨by rw [fU_ne e, fU_ne e], fU_ne e, fU_ne e⟩) (Or.inl ⟨rfl, by rw [f4]; omega, fU_eq⟩)
        · show fU t.mon k (t.mon k + jJ (-(taxV t k))) k = _
          rw [fU_eq, fU_eq, f1, em, htV, jJ_add]
          rfl
        · show fU t.tax k (t.tax k + taxV t k) k = s.tax k + txL t.L s.set k
          rw [fU_eq, f2, htV, htx]
        · show t.los k = fU lf k (s.los k) k
          rw [fU_eq, f3]
      have hw1 := hw.u4 (f := fU mf k on) hz
      have hw2 := hw1.u5 (f := fU pf k (s.tax k)) hz
      have hw3 := hw2.u6 (f := fU lf k (s.los k)) hz
      refine x_iload hM dL_isDay_55 rfl ?_
      refine x_aload_n hM dL_isDay_57 rfl rfl ?_
      refine x_iconst hM dL_isDay_58 ?_
      refine x_callV hM wv_L_8 (o_c1 hw.ob) ⟨Nat.le_of_ble_eq_true rfl, Nat.le_of_ble_eq_true rfl⟩ (ob_o hw.ob) rfl rfl rfl rfl (Nat.le_of_ble_eq_true rfl) ⟨Nat.le_of_ble_eq_true rfl, Nat.le_of_ble_eq_true rfl⟩ dL_isDay_59 (k_rI ?_)
      refine x_icmp_ge (tgt := 346) hM dL_isDay_62 (by decide) (by omega) (by omega) (fun c_62 => ?_) (fun c_62 => ?_)
      · exfalso; omega
      · refine x_aload hM dL_isDay_65 rfl ?_
        refine x_iload hM dL_isDay_67 rfl ?_
        refine x_aload_n hM dL_isDay_69 rfl rfl ?_
        refine x_iload hM dL_isDay_70 rfl ?_
        refine x_callV hM wv_L_107 (o_mon hw.ob hkk) ⟨Nat.le_of_ble_eq_true rfl, Nat.le_of_ble_eq_true rfl⟩ (ob_o hw.ob) rfl rfl rfl rfl (Nat.le_of_ble_eq_true rfl) ⟨Nat.le_of_ble_eq_true rfl, Nat.le_of_ble_eq_true rfl⟩ dL_isDay_72 (k_rL ?_)
        refine x_l2i hM dL_isDay_75 ?_
        rw [em, jJ_i32]
        refine x_iast hM hw.m (by omega) dL_isDay_76 ?_
        refine x_aload hM dL_isDay_77 rfl ?_
        refine x_iload hM dL_isDay_79 rfl ?_
        refine x_aload_n hM dL_isDay_81 rfl rfl ?_
        refine x_iload hM dL_isDay_82 rfl ?_
        refine x_iconst hM dL_isDay_84 ?_
        refine x_callV hM wv_L_42 (o_o4 hw1.ob hkk) ⟨Nat.le_of_ble_eq_true rfl, Nat.le_of_ble_eq_true rfl⟩ (ob_o hw1.ob) rfl rfl rfl rfl (Nat.le_of_ble_eq_true rfl) ⟨Nat.le_of_ble_eq_true rfl, Nat.le_of_ble_eq_true rfl⟩ dL_isDay_85 (k_rI ?_)
        refine x_iast hM hw1.p (by omega) dL_isDay_88 ?_
        refine x_aload hM dL_isDay_89 rfl ?_
        refine x_iload hM dL_isDay_91 rfl ?_
        refine x_aload_n hM dL_isDay_93 rfl rfl ?_
        refine x_iload hM dL_isDay_94 rfl ?_
        refine x_iconst hM dL_isDay_96 ?_
        refine x_callV hM wv_L_42 (o_o5 hw2.ob hkk) ⟨Nat.le_of_ble_eq_true rfl, Nat.le_of_ble_eq_true rfl⟩ (ob_o hw2.ob) rfl rfl rfl rfl (Nat.le_of_ble_eq_true rfl) ⟨Nat.le_of_ble_eq_true rfl, Nat.le_of_ble_eq_true rfl⟩ dL_isDay_97 (k_rI ?_)
        refine x_iast hM hw2.l (by omega) dL_isDay_100 ?_
        refine x_aload_n hM dL_isDay_101 rfl rfl ?_
        refine x_iload hM dL_isDay_102 rfl ?_
        refine x_callV hM wv_L_122 (o_los hw3.ob hkk) ⟨Nat.le_of_ble_eq_true rfl, Nat.le_of_ble_eq_true rfl⟩ (ob_o hw3.ob) rfl rfl rfl rfl (Nat.le_of_ble_eq_true rfl) ⟨Nat.le_of_ble_eq_true rfl, Nat.le_of_ble_eq_true rfl⟩ dL_isDay_104 (k_rI ?_)
        refine x_istore hM dL_isDay_107 rfl (Nat.le_of_ble_eq_true rfl) rfl ?_
        exact S1 _ _ _ _ _ _ hw3
  /- the beginning -/
  have B : ∀ w7 : Wd, obA G w7 x s → w7 z = some (aI G 64 (fun _ => 0)) → w7 (z + 1) = some (aI G 64 (fun _ => 0)) → w7 (z + 2) = some (aI G 64 (fun _ => 0)) → w7 (z + 3) = some (aI G 64 (fun _ => 0)) → w7 (z + 4) = some (aI G 10 (fun _ => 0)) → w7 (z + 5) = some (aI G 10 (fun _ => 0)) → w7 (z + 6) = some (aI G 10 (fun _ => 0)) → P 39 [some (.ref x), some (.ref z), some (.ref (z + 1)), some (.ref (z + 2)), some (.ref (z + 3)), some (.ref (z + 4)), some (.ref (z + 5)), some (.ref (z + 6)), none, none, none, none, none, none, none, none] [] w7 (z + 7, 7, 286) := by
    intro w7 o0 c0 c1 c2 c3 c4 c5 c6
    refine x_aload_n hM dL_isDay_39 rfl rfl ?_
    refine x_aload_n hM dL_isDay_40 rfl rfl ?_
    refine x_aload_n hM dL_isDay_41 rfl rfl ?_
    refine x_callS hM ws_L_45 (m_L_read o0 c0 c1 (by omega) (by omega)) ⟨Nat.le_of_ble_eq_true rfl, Nat.le_of_ble_eq_true rfl⟩ rfl rfl (Nat.le_of_ble_eq_true rfl) ⟨Nat.le_of_ble_eq_true rfl, Nat.le_of_ble_eq_true rfl⟩ dL_isDay_42 (k_qV fun w_42 q_42 => ?_)
    obtain ⟨r1, f1⟩ := q_42
    have o1 := o0.kp (f1.kp (by omega) (by omega))
    refine x_aload_n hM dL_isDay_45 rfl rfl ?_
    refine x_iconst hM dL_isDay_46 ?_
    refine x_callV hM wv_L_8 (o_c0 o1) ⟨Nat.le_of_ble_eq_true rfl, Nat.le_of_ble_eq_true rfl⟩ (ob_o o1) rfl rfl rfl rfl (Nat.le_of_ble_eq_true rfl) ⟨Nat.le_of_ble_eq_true rfl, Nat.le_of_ble_eq_true rfl⟩ dL_isDay_47 (k_rI ?_)
    refine x_istore hM dL_isDay_50 rfl (Nat.le_of_ble_eq_true rfl) rfl ?_
    refine x_iconst hM dL_isDay_52 ?_
    refine x_istore hM dL_isDay_53 rfl (Nat.le_of_ble_eq_true rfl) rfl ?_
    exact K s.own.toNat 0 _ _ _ _ _ _ _ _ _ _ (by omega) ⟨o1, r1, ⟨_, (f1 _ (by omega) (by omega)).trans c2⟩, ⟨_, (f1 _ (by omega) (by omega)).trans c3⟩, (f1 _ (by omega) (by omega)).trans c4, (f1 _ (by omega) (by omega)).trans c5, (f1 _ (by omega) (by omega)).trans c6⟩ ⟨g1, g2, g3⟩ (fun q a b => by omega)
  refine x_bipush hM dL_isDay_0 rfl ?_
  refine x_newI  hM wy_int (by omega) rfl (by omega) (Nat.le_of_ble_eq_true rfl) (Nat.le_of_ble_eq_true rfl) dL_isDay_2 ?_
  refine x_astore_n hM dL_isDay_4 rfl rfl (Nat.le_of_ble_eq_true rfl) rfl ?_
  refine x_bipush hM dL_isDay_5 rfl ?_
  refine x_newI  hM wy_int (by omega) rfl (by omega) (Nat.le_of_ble_eq_true rfl) (Nat.le_of_ble_eq_true rfl) dL_isDay_7 ?_
  refine x_astore_n hM dL_isDay_9 rfl rfl (Nat.le_of_ble_eq_true rfl) rfl ?_
  refine x_bipush hM dL_isDay_10 rfl ?_
  refine x_newI  hM wy_int (by omega) rfl (by omega) (Nat.le_of_ble_eq_true rfl) (Nat.le_of_ble_eq_true rfl) dL_isDay_12 ?_
  refine x_astore_n hM dL_isDay_14 rfl rfl (Nat.le_of_ble_eq_true rfl) rfl ?_
  refine x_bipush hM dL_isDay_15 rfl ?_
  refine x_newI  hM wy_int (by omega) rfl (by omega) (Nat.le_of_ble_eq_true rfl) (Nat.le_of_ble_eq_true rfl) dL_isDay_17 ?_
  refine x_astore hM dL_isDay_19 rfl (Nat.le_of_ble_eq_true rfl) rfl ?_
  refine x_bipush hM dL_isDay_21 rfl ?_
  refine x_newI  hM wy_int (by omega) rfl (by omega) (Nat.le_of_ble_eq_true rfl) (Nat.le_of_ble_eq_true rfl) dL_isDay_23 ?_
  refine x_astore hM dL_isDay_25 rfl (Nat.le_of_ble_eq_true rfl) rfl ?_
  refine x_bipush hM dL_isDay_27 rfl ?_
  refine x_newI  hM wy_int (by omega) rfl (by omega) (Nat.le_of_ble_eq_true rfl) (Nat.le_of_ble_eq_true rfl) dL_isDay_29 ?_
  refine x_astore hM dL_isDay_31 rfl (Nat.le_of_ble_eq_true rfl) rfl ?_
  refine x_bipush hM dL_isDay_33 rfl ?_
  refine x_newI  hM wy_int (by omega) rfl (by omega) (Nat.le_of_ble_eq_true rfl) (Nat.le_of_ble_eq_true rfl) dL_isDay_35 ?_
  refine x_astore hM dL_isDay_37 rfl (Nat.le_of_ble_eq_true rfl) rfl ?_
  exact B _ (w8_ob h (by omega)) ((w8_lo (by omega)).trans w4_0) ((w8_lo (by omega)).trans w4_1) ((w8_lo (by omega)).trans w4_2) ((w8_lo (by omega)).trans w4_3) w8_4 w8_5 w8_6
