/-! a deal is gone through -/
theorem rwA_cp {G : xG} {w1 : Wd} {t u : Nat} {L : List Sg} {f g f1 g1 : Int → Int} (hW : strW L) (h3 : ∀ (i : Nat) (h : i < L.length), f (1 + i) = 16 * L[i].2.1 + L[i].1 ∧ g (1 + i) = L[i].2.2) (h4 : f 0 = L.length) (k1 : w1 t = some (aI G 64 f1)) (k2 : w1 u = some (aI G 64 g1)) (e1 : ∀ j : Int, 0 ≤ j → j < 64 → f1 j = f j) (e2 : ∀ j : Int, 0 ≤ j → j < 64 → g1 j = g j) : rsA G w1 t u L := by
  have hl := hW.1
  refine ⟨hW, f1, g1, ⟨k1, k2, fun i hi => ?_⟩, (e1 0 (by omega) (by omega)).trans h4⟩
  rw [e1 _ (by omega) (by omega), e2 _ (by omega) (by omega)]
  exact h3 i hi
/-- the law's picture of a deal that is tried: t the state behind i transfers, mf the money -/
def simI (c : Nat) (s t : St) (i : Nat) (mf : Int → Int) : Prop := (canL t.L ∧ t.L.length ≤ 40 ∧ ∀ y ∈ t.L, y.1 < s.own) ∧ (t.set = s.set ∧ t.D = s.D ∧ t.own = s.own ∧ t.day = s.day ∧ t.clo = s.clo ∧ t.tax = s.tax ∧ t.fee = s.fee + (i : Int) * s.set 2) ∧ ∀ q : Int, 0 ≤ q → q < s.own → t.mon q = jJ (mf q) ∧ -(10000000 * ((c : Int) + 1) + 1100000 * (i : Int)) ≤ mf q ∧ mf q ≤ 10000000 * ((c : Int) + 1) + 1100000 * (i : Int)
theorem sim_step {c i : Nat} {s t : St} {mf : Int → Int} {q : Tr} (h : simI c s t i mf) (hW : strW t.L) (hq : okT q) (hown : q.1 < s.own ∧ q.2.1 < s.own) (hfee : 0 ≤ s.set 2 ∧ s.set 2 ≤ 1000) (h2 : (trfB t q).length ≤ 40) : simI c s (trfD t q) (i + 1) (fU (fU mf q.2.1 (mf q.2.1 - (q.2.2.2.2 + s.set 2))) q.1 (fU mf q.2.1 (mf q.2.1 - (q.2.2.2.2 + s.set 2)) q.1 + q.2.2.2.2)) := by
  obtain ⟨⟨g1, g2, g3⟩, ⟨g4, g5, g6, g7, g8, g9, g10⟩, g11⟩ := h
  obtain ⟨a, b, f, n, p⟩ := q
  obtain ⟨k1, k2, k3, k4, k5, k6, k7, k8, k9, k10⟩ : 0 ≤ a ∧ a < 10 ∧ 0 ≤ b ∧ b < 10 ∧ a ≠ b ∧ 0 ≤ f ∧ 1 ≤ n ∧ f + n ≤ 10000 ∧ 0 ≤ p ∧ p ≤ 1000000 := hq
  have hown : a < s.own ∧ b < s.own := hown
  have hlt := okS_lt hW
  refine ⟨⟨bec_can (o := b) (a := f) (n := n) g1 hlt g2 (by omega), h2, bec_own (o := b) (a := f) (n := n) (can_srt g1 hlt) hlt g2 (by omega) g3 hown.2⟩, ⟨g4, g5, g6, g7, g8, g9, ?_⟩, fun o h0 h1 => ?_⟩
  · show t.fee + t.set 2 = s.fee + ((i + 1 : Nat) : Int) * s.set 2
    rw [g10, g4]
    rw [show ((i + 1 : Nat) : Int) = (i : Int) + 1 by omega, Int.add_mul]
    omega
  · show fU (fU t.mon b (t.mon b + jJ (-p - t.set 2))) a (fU t.mon b (t.mon b + jJ (-p - t.set 2)) a + jJ p) o = jJ (fU (fU mf b (mf b - (p + s.set 2))) a (fU mf b (mf b - (p + s.set 2)) a + p) o) ∧ _ ≤ fU (fU mf b (mf b - (p + s.set 2))) a (fU mf b (mf b - (p + s.set 2)) a + p) o ∧ fU (fU mf b (mf b - (p + s.set 2))) a (fU mf b (mf b - (p + s.set 2)) a + p) o ≤ _
    rw [g4]
    obtain ⟨e1, e2, e3⟩ := g11 o h0 h1
    by_cases c1 : o = a
    · subst c1
      rw [fU_eq, fU_eq, fU_ne k5, fU_ne k5, e1, jJ_add]
      exact ⟨rfl, by omega, by omega⟩
    · rw [fU_ne c1, fU_ne c1]
      by_cases c2 : o = b
      · subst c2
        rw [fU_eq, fU_eq, e1, jJ_add]
        exact ⟨by congr 1; omega, by omega, by omega⟩
      · rw [fU_ne c2, fU_ne c2]
        exact ⟨e1, by omega, by omega⟩
theorem rhF_in {t : St} {k i : Nat} (h : i + (k + 1) = t.D.length) : rhF (k + 1) t = @ite (Int × St) (trfC1 t t.D[i] ∧ trfC2 t t.D[i]) (Classical.propDecidable _) (rhF k (trfD t t.D[i])) ((i : Int), t) := by
  have e : t.D.length - (k + 1) = i := by omega
  rw [rhF, e, List.getElem?_eq_getElem (show i < t.D.length by omega)]
def clW (G : xG) (w : Wd) (z x : Nat) (s t : St) (mf : Int → Int) : Prop := obA G w x s ∧ rsA G w z (z + 1) s.L ∧ rsA G w (z + 2) (z + 3) t.L ∧ (∃ f : Int → Int, w (z + 4) = some (aI G 64 f)) ∧ (∃ g : Int → Int, w (z + 5) = some (aI G 64 g)) ∧ w (z + 6) = some (aI G 10 mf)
/-- seven new rows -/
abbrev w7 (G : xG) (w : Wd) (z : Nat) : Wd := wS (wS (wS (w4 G w z) (z + 4) (aI G 64 (fun _ => 0))) (z + 5) (aI G 64 (fun _ => 0))) (z + 6) (aI G 10 (fun _ => 0))
theorem w7_ob {G : xG} {w : Wd} {z x : Nat} {s : St} (h : obA G w x s) (hz : x + 215 ≤ z) : obA G (w7 G w z) x s := (((w4_ob h hz).kp (Kp.wS (by omega))).kp (Kp.wS (by omega))).kp (Kp.wS (by omega))
theorem w7_lo {G : xG} {w : Wd} {z q : Nat} (hq : q < z + 4) : w7 G w z q = w4 G w z q := (wS_ne (by omega)).trans ((wS_ne (by omega)).trans (wS_ne (by omega)))
theorem w7_4 {G : xG} {w : Wd} {z : Nat} : w7 G w z (z + 4) = some (aI G 64 (fun _ => 0)) := (wS_ne (by omega)).trans ((wS_ne (by omega)).trans wS_eq)
theorem w7_5 {G : xG} {w : Wd} {z : Nat} : w7 G w z (z + 5) = some (aI G 64 (fun _ => 0)) := (wS_ne (by omega)).trans wS_eq
theorem w7_6 {G : xG} {w : Wd} {z : Nat} : w7 G w z (z + 6) = some (aI G 10 (fun _ => 0)) := wS_eq
theorem m_L_isClosed {l : Launch} {G : xG} {w : Wd} {z x c : Nat} {s : St} (h : obA G w x s) (hiv : ivS c s) (hz : x + 215 ≤ z) (hc : c ≤ 100) : xMet l G yL_isClosed cL_isClosed 20 (some .boolean) ({ frames := 7, cells := 7, slots := 394, locals := 167 } : Room) [.ref x] w z (acQ G x c z s) := by
  obtain ⟨g1, g2, g3, g4, hown, g6, g7, g8, g9⟩ := id hiv
  have hW := (ob_W h).2.1
  have hD := (ob_W h).2.2
  have hDl := hD.1
  have hs2 := (ob_W h).1.2.2.2.2.1
  have hs3 := (ob_W h).1.2.2.2.2.2.1
  have hs4 := (ob_W h).1.2.2.2.2.2.2
  have hrb : -6 ≤ (reF s).1 ∧ (reF s).1 ≤ 8 := rhF_b s.D.length s hDl
  have hcb : iR (clF s).1 := by
    unfold clF
    split
    · show -2147483648 ≤ (-5 : Int) ∧ (-5 : Int) ≤ 2147483647; omega
    · show -2147483648 ≤ (s.D.length : Int) ∧ (s.D.length : Int) ≤ 2147483647; omega
  have hl := hW.1
  refine xMet_of RL rfl (by decide +kernel) false (by decide +kernel) (Nat.le_of_ble_eq_true rfl) rfl ?_
  intro P hM hR
  /- behind the loop: it fails -/
  have XF : ∀ (i : Nat) (w1 : Wd) (t : St) (mf : Int → Int) (u13 u14 u15 u16 u17 u18 u19 : Option Value) (fl : Int), clW G w1 z x s t mf → (reF s).1 = fl → (s.D.length = 0 ∨ 0 ≤ fl) → (s.D.length = 0 → fl = -6) → P 372 [some (.ref x), some (.ref z), some (.ref (z + 1)), some (.ref (z + 2)), some (.ref (z + 3)), some (.ref (z + 4)), some (.ref (z + 5)), some (.ref (z + 6)), some (.int (iI s.D.length)), some (.int (iI (s.set 2))), some (.int (iI s.fee)), some (.int (iI s.clo)), some (.int (iI fl)), u13, u14, u15, u16, u17, u18, u19] [] w1 (z + 7, 7, 394) := by
    intro i w1 t mf u13 u14 u15 u16 u17 u18 u19 fl hw hre hfl hfl2
    obtain ⟨o1, r1, -⟩ := hw
    have hcl : clF s = (-5, s) := by
      unfold clF
      rw [if_pos]
      rcases hfl with q | q
      · left; omega
      · right; omega
    refine x_aload_n hM dL_isClosed_372 rfl rfl ?_
    refine x_callV hM wv_L_115 (m_X6_failing o1.1) ⟨Nat.le_of_ble_eq_true rfl, Nat.le_of_ble_eq_true rfl⟩ (ob_o o1) rfl rfl rfl rfl (Nat.le_of_ble_eq_true rfl) ⟨Nat.le_of_ble_eq_true rfl, Nat.le_of_ble_eq_true rfl⟩ dL_isClosed_373 (k_qI fun x_373 w_373 q_373 => ?_)
    obtain ⟨rfl, q1, qF⟩ := q_373
    have o2 : obA G w_373 x s := ⟨q1, ⟨o1.2.1.choose, o1.2.1.choose_spec.kp qF (by omega)⟩, o1.2.2.kp qF (by omega)⟩
    have r2 := r1.kp (qF _ (by omega)) (qF _ (by omega))
    obtain ⟨-, ⟨hs, hh⟩, -⟩ := id o2
    refine x_iload hM dL_isClosed_376 rfl ?_
    refine x_same (tgt := 383) hM hre dL_isClosed_378 (by decide) ?_
    refine x_aload_n hM dL_isClosed_383 rfl rfl ?_
    refine x_callV hM wv_L_119 (m_X6_close o2.1 hh hcb) ⟨Nat.le_of_ble_eq_true rfl, Nat.le_of_ble_eq_true rfl⟩ (ob_o o2) rfl rfl rfl rfl (Nat.le_of_ble_eq_true rfl) ⟨Nat.le_of_ble_eq_true rfl, Nat.le_of_ble_eq_true rfl⟩ dL_isClosed_384 (k_qI fun x_384 w_384 q_384 => ?_)
    obtain ⟨rfl, q2, q3, qG⟩ := q_384
    have o3 : obA G w_384 x s := by
      have q := mu_ob o2 q2 _ q3 qG
      rw [hcl] at q
      exact q
    have r3 := r2.kp (qG _ (by omega)) (qG _ (by omega))
    rw [hcl]
    refine x_istore hM dL_isClosed_387 rfl (Nat.le_of_ble_eq_true rfl) rfl ?_
    refine x_iload hM dL_isClosed_389 rfl ?_
    refine x_if_eq (tgt := 399) hM dL_isClosed_391 (by decide) (by omega) (fun c_391 => ?_) (fun c_391 => ?_)
    · refine x_iload hM dL_isClosed_399 rfl ?_
      refine x_bipush hM dL_isClosed_401 rfl ?_
      refine x_sameN (tgt := 441) hM rfl dL_isClosed_403 (by decide) ?_
      refine x_aload_n hM dL_isClosed_406 rfl rfl ?_
      refine x_bipush hM dL_isClosed_407 rfl ?_
      refine x_callV hM wv_L_8 (o_c6 o3) ⟨Nat.le_of_ble_eq_true rfl, Nat.le_of_ble_eq_true rfl⟩ (ob_o o3) rfl rfl rfl rfl (Nat.le_of_ble_eq_true rfl) ⟨Nat.le_of_ble_eq_true rfl, Nat.le_of_ble_eq_true rfl⟩ dL_isClosed_409 (k_rI ?_)
      refine x_iload hM dL_isClosed_412 rfl ?_
      refine x_sameN (tgt := 441) hM rfl dL_isClosed_414 (by decide) ?_
      refine x_aload_n hM dL_isClosed_417 rfl rfl ?_
      refine x_bipush hM dL_isClosed_418 rfl ?_
      refine x_callV hM wv_L_8 (o_c8 o3) ⟨Nat.le_of_ble_eq_true rfl, Nat.le_of_ble_eq_true rfl⟩ (ob_o o3) rfl rfl rfl rfl (Nat.le_of_ble_eq_true rfl) ⟨Nat.le_of_ble_eq_true rfl, Nat.le_of_ble_eq_true rfl⟩ dL_isClosed_420 (k_rI ?_)
      refine x_iload hM dL_isClosed_423 rfl ?_
      refine x_sameN (tgt := 441) hM rfl dL_isClosed_425 (by decide) ?_
      refine x_aload_n hM dL_isClosed_428 rfl rfl ?_
      refine x_aload_n hM dL_isClosed_429 rfl rfl ?_
      refine x_aload_n hM dL_isClosed_430 rfl rfl ?_
      refine x_callS hM ws_L_81 (m_L_isRow o3 r3) ⟨Nat.le_of_ble_eq_true rfl, Nat.le_of_ble_eq_true rfl⟩ rfl rfl (Nat.le_of_ble_eq_true rfl) ⟨Nat.le_of_ble_eq_true rfl, Nat.le_of_ble_eq_true rfl⟩ dL_isClosed_431 (k_rI ?_)
      refine x_if_eq (tgt := 441) hM dL_isClosed_434 (by decide) (by omega) (fun c_434 => ?_) (fun c_434 => ?_)
      · exfalso; omega
      · refine x_iconst hM dL_isClosed_437 ?_
        refine x_goto (tgt := 442) hM dL_isClosed_438 (by decide) ?_
        refine hR.b dL_isClosed_442 rfl (Nat.le_refl _) (Nat.le_refl _) ?_
        exact p_ac rfl (by omega) o3 (ivS_up hiv) rfl
    · refine x_iload hM dL_isClosed_394 rfl ?_
      refine x_if_lt (tgt := 443) hM dL_isClosed_396 (by decide) (by omega) (fun c_396 => ?_) (fun c_396 => ?_)
      · exfalso; omega
      · refine x_iload hM dL_isClosed_399 rfl ?_
        refine x_bipush hM dL_isClosed_401 rfl ?_
        refine x_sameN (tgt := 441) hM rfl dL_isClosed_403 (by decide) ?_
        refine x_aload_n hM dL_isClosed_406 rfl rfl ?_
        refine x_bipush hM dL_isClosed_407 rfl ?_
        refine x_callV hM wv_L_8 (o_c6 o3) ⟨Nat.le_of_ble_eq_true rfl, Nat.le_of_ble_eq_true rfl⟩ (ob_o o3) rfl rfl rfl rfl (Nat.le_of_ble_eq_true rfl) ⟨Nat.le_of_ble_eq_true rfl, Nat.le_of_ble_eq_true rfl⟩ dL_isClosed_409 (k_rI ?_)
        refine x_iload hM dL_isClosed_412 rfl ?_
        refine x_sameN (tgt := 441) hM rfl dL_isClosed_414 (by decide) ?_
        refine x_aload_n hM dL_isClosed_417 rfl rfl ?_
        refine x_bipush hM dL_isClosed_418 rfl ?_
        refine x_callV hM wv_L_8 (o_c8 o3) ⟨Nat.le_of_ble_eq_true rfl, Nat.le_of_ble_eq_true rfl⟩ (ob_o o3) rfl rfl rfl rfl (Nat.le_of_ble_eq_true rfl) ⟨Nat.le_of_ble_eq_true rfl, Nat.le_of_ble_eq_true rfl⟩ dL_isClosed_420 (k_rI ?_)
        refine x_iload hM dL_isClosed_423 rfl ?_
        refine x_sameN (tgt := 441) hM rfl dL_isClosed_425 (by decide) ?_
        refine x_aload_n hM dL_isClosed_428 rfl rfl ?_
        refine x_aload_n hM dL_isClosed_429 rfl rfl ?_
        refine x_aload_n hM dL_isClosed_430 rfl rfl ?_
        refine x_callS hM ws_L_81 (m_L_isRow o3 r3) ⟨Nat.le_of_ble_eq_true rfl, Nat.le_of_ble_eq_true rfl⟩ rfl rfl (Nat.le_of_ble_eq_true rfl) ⟨Nat.le_of_ble_eq_true rfl, Nat.le_of_ble_eq_true rfl⟩ dL_isClosed_431 (k_rI ?_)
        refine x_if_eq (tgt := 441) hM dL_isClosed_434 (by decide) (by omega) (fun c_434 => ?_) (fun c_434 => ?_)
        · exfalso; omega
        · refine x_iconst hM dL_isClosed_437 ?_
          refine x_goto (tgt := 442) hM dL_isClosed_438 (by decide) ?_
          refine hR.b dL_isClosed_442 rfl (Nat.le_refl _) (Nat.le_refl _) ?_
          exact p_ac rfl (by omega) o3 (ivS_up hiv) rfl
  /- it doesn't -/
  have XS : ∀ (w1 : Wd) (t : St) (mf : Int → Int) (u13 u14 u15 u16 u17 u18 u19 : Option Value), clW G w1 z x s t mf → reF s = (-6, t) → s.D.length ≠ 0 → simI c s t s.D.length mf → P 372 [some (.ref x), some (.ref z), some (.ref (z + 1)), some (.ref (z + 2)), some (.ref (z + 3)), some (.ref (z + 4)), some (.ref (z + 5)), some (.ref (z + 6)), some (.int (iI s.D.length)), some (.int (iI (s.set 2))), some (.int (iI s.fee)), some (.int (iI s.clo)), some (.int (iI (-6))), u13, u14, u15, u16, u17, u18, u19] [] w1 (z + 7, 7, 394) := by
    intro w1 t mf u13 u14 u15 u16 u17 u18 u19 hw hre hne hsim
    obtain ⟨o1, -, r1, -, -, m1⟩ := hw
    obtain ⟨⟨k1, k2, k3⟩, ⟨k4, k5, k6, k7, k8, k9, k10⟩, k11⟩ := hsim
    have hcl : clF s = ((s.D.length : Int), mkS t.L t.set t.mon t.tax t.los [] t.own t.day (t.clo + 1) t.fee) := by
      unfold clF
      rw [hre, if_neg (show ¬ ((s.D.length : Int) = 0 ∨ (-6 : Int) ≠ -6) by omega)]
    have hiv2 : ivS (c + 1) (mkS t.L t.set t.mon t.tax t.los [] t.own t.day (t.clo + 1) t.fee) := by
      refine ⟨k1, k2, by show ∀ y ∈ t.L, y.1 < t.own; rw [k6]; exact k3, fun q hq => absurd hq List.not_mem_nil, by show 2 ≤ t.own ∧ t.own ≤ 5; rw [k6]; exact hown, by show 0 ≤ t.day ∧ t.day ≤ ((c + 1 : Nat) : Int); rw [k7]; omega, by show ∀ o : Int, t.own ≤ o → o < 10 → t.tax o = 0; rw [k6, k9]; exact g7, fun o a b => ?_, by show (0 ≤ t.set 0 ∧ t.set 0 ≤ 30) ∧ (0 ≤ t.set 1 ∧ t.set 1 ≤ 60) ∧ 0 ≤ t.set 2 ∧ t.set 2 ≤ 20; rw [k4]; exact g9⟩
      have b : o < t.own := b
      obtain ⟨e1, e2, e3⟩ := k11 o a (by omega)
      exact ⟨mf o, e1, by omega, by omega⟩
    have XS2 : ∀ (w3 : Wd) (u14 : Option Value), obA G w3 x (mkS t.L t.set t.mon t.tax t.los [] t.own t.day (t.clo + 1) t.fee) → rsA G w3 (z + 2) (z + 3) t.L → w3 (z + 6) = some (aI G 10 mf) → P 443 [some (.ref x), some (.ref z), some (.ref (z + 1)), some (.ref (z + 2)), some (.ref (z + 3)), some (.ref (z + 4)), some (.ref (z + 5)), some (.ref (z + 6)), some (.int (iI s.D.length)), some (.int (iI (s.set 2))), some (.int (iI s.fee)), some (.int (iI s.clo)), some (.int (iI (-6))), some (.int (iI s.D.length)), u14, u15, u16, u17, u18, u19] [] w3 (z + 7, 7, 394) := by
      intro w3 u14 o3 r3 m3
      have K : ∀ j k : Nat, (k : Int) + j = t.own → P 446 [some (.ref x), some (.ref z), some (.ref (z + 1)), some (.ref (z + 2)), some (.ref (z + 3)), some (.ref (z + 4)), some (.ref (z + 5)), some (.ref (z + 6)), some (.int (iI s.D.length)), some (.int (iI (s.set 2))), some (.int (iI s.fee)), some (.int (iI s.clo)), some (.int (iI (-6))), some (.int (iI s.D.length)), some (.int (iI k)), u15, u16, u17, u18, u19] [] w3 (z + 7, 7, 394) := by
        intro j
        induction j with
        | zero =>
          intro k hk
          refine x_iload hM dL_isClosed_446 rfl ?_
          refine x_aload_n hM dL_isClosed_448 rfl rfl ?_
          refine x_iconst hM dL_isClosed_449 ?_
          refine x_callV hM wv_L_8 ((o_cnt (v := t.own)) o3 (by omega) (fun _ => rfl)) ⟨Nat.le_of_ble_eq_true rfl, Nat.le_of_ble_eq_true rfl⟩ (ob_o o3) rfl rfl rfl rfl (Nat.le_of_ble_eq_true rfl) ⟨Nat.le_of_ble_eq_true rfl, Nat.le_of_ble_eq_true rfl⟩ dL_isClosed_450 (k_rI ?_)
          refine x_icmp_ge (tgt := 480) hM dL_isClosed_453 (by decide) (by omega) (by omega) (fun c_453 => ?_) (fun c_453 => ?_)
          · refine x_iload hM dL_isClosed_480 rfl ?_
            refine x_iload hM dL_isClosed_482 rfl ?_
            refine x_sameN (tgt := 540) hM rfl dL_isClosed_484 (by decide) ?_
            refine x_aload_n hM dL_isClosed_487 rfl rfl ?_
            refine x_bipush hM dL_isClosed_488 rfl ?_
            refine x_callV hM wv_L_8 ((o_cnt (v := 0)) o3 (by omega) (fun _ => rfl)) ⟨Nat.le_of_ble_eq_true rfl, Nat.le_of_ble_eq_true rfl⟩ (ob_o o3) rfl rfl rfl rfl (Nat.le_of_ble_eq_true rfl) ⟨Nat.le_of_ble_eq_true rfl, Nat.le_of_ble_eq_true rfl⟩ dL_isClosed_490 (k_rI ?_)
            refine x_if_ne (tgt := 540) hM dL_isClosed_493 (by decide) (by omega) (fun c_493 => ?_) (fun c_493 => ?_)
            · exfalso; omega
            · refine x_aload_n hM dL_isClosed_496 rfl rfl ?_
              refine x_bipush hM dL_isClosed_497 rfl ?_
              refine x_callV hM wv_L_8 ((o_cnt (v := t.clo + 1)) o3 (by omega) (fun _ => rfl)) ⟨Nat.le_of_ble_eq_true rfl, Nat.le_of_ble_eq_true rfl⟩ (ob_o o3) rfl rfl rfl rfl (Nat.le_of_ble_eq_true rfl) ⟨Nat.le_of_ble_eq_true rfl, Nat.le_of_ble_eq_true rfl⟩ dL_isClosed_499 (k_rI ?_)
              refine x_iload hM dL_isClosed_502 rfl ?_
              refine x_iconst hM dL_isClosed_504 ?_
              refine x_iadd hM dL_isClosed_505 ?_
              refine x_sameN (tgt := 540) hM (by rw [k8]) dL_isClosed_506 (by decide) ?_
              refine x_aload_n hM dL_isClosed_509 rfl rfl ?_
              refine x_bipush hM dL_isClosed_510 rfl ?_
              refine x_callV hM wv_L_8 ((o_cnt (v := t.fee)) o3 (by omega) (fun _ => rfl)) ⟨Nat.le_of_ble_eq_true rfl, Nat.le_of_ble_eq_true rfl⟩ (ob_o o3) rfl rfl rfl rfl (Nat.le_of_ble_eq_true rfl) ⟨Nat.le_of_ble_eq_true rfl, Nat.le_of_ble_eq_true rfl⟩ dL_isClosed_512 (k_rI ?_)
              refine x_iload hM dL_isClosed_515 rfl ?_
              refine x_iload hM dL_isClosed_517 rfl ?_
              refine x_iload hM dL_isClosed_519 rfl ?_
              refine x_imul hM dL_isClosed_521 ?_
              refine x_iadd hM dL_isClosed_522 ?_
              refine x_sameN (tgt := 540) hM k10 dL_isClosed_523 (by decide) ?_
              refine x_aload_n hM dL_isClosed_526 rfl rfl ?_
              refine x_aload_n hM dL_isClosed_527 rfl rfl ?_
              refine x_aload hM dL_isClosed_528 rfl ?_
              refine x_callS hM ws_L_81 (m_L_isRow o3 r3) ⟨Nat.le_of_ble_eq_true rfl, Nat.le_of_ble_eq_true rfl⟩ rfl rfl (Nat.le_of_ble_eq_true rfl) ⟨Nat.le_of_ble_eq_true rfl, Nat.le_of_ble_eq_true rfl⟩ dL_isClosed_530 (k_rI ?_)
              refine x_if_eq (tgt := 540) hM dL_isClosed_533 (by decide) (by omega) (fun c_533 => ?_) (fun c_533 => ?_)
              · exfalso; omega
              · refine x_iconst hM dL_isClosed_536 ?_
                refine x_goto (tgt := 541) hM dL_isClosed_537 (by decide) ?_
                refine hR.b dL_isClosed_541 rfl (Nat.le_refl _) (Nat.le_refl _) ?_
                exact p_ac rfl (by omega) o3 hiv2 k6
          · exfalso; omega
        | succ j ih =>
          intro k hk
          have hkk : 0 ≤ (k : Int) ∧ (k : Int) < t.own := by omega
          obtain ⟨e1, e2, e3⟩ := k11 k hkk.1 (by omega)
          refine x_iload hM dL_isClosed_446 rfl ?_
          refine x_aload_n hM dL_isClosed_448 rfl rfl ?_
          refine x_iconst hM dL_isClosed_449 ?_
          refine x_callV hM wv_L_8 ((o_cnt (v := t.own)) o3 (by omega) (fun _ => rfl)) ⟨Nat.le_of_ble_eq_true rfl, Nat.le_of_ble_eq_true rfl⟩ (ob_o o3) rfl rfl rfl rfl (Nat.le_of_ble_eq_true rfl) ⟨Nat.le_of_ble_eq_true rfl, Nat.le_of_ble_eq_true rfl⟩ dL_isClosed_450 (k_rI ?_)
          refine x_icmp_ge (tgt := 480) hM dL_isClosed_453 (by decide) (by omega) (by omega) (fun c_453 => ?_) (fun c_453 => ?_)
          · exfalso; omega
          · refine x_aload_n hM dL_isClosed_456 rfl rfl ?_
            refine x_iload hM dL_isClosed_457 rfl ?_
            refine x_callV hM wv_L_107 (o_mon o3 hkk) ⟨Nat.le_of_ble_eq_true rfl, Nat.le_of_ble_eq_true rfl⟩ (ob_o o3) rfl rfl rfl rfl (Nat.le_of_ble_eq_true rfl) ⟨Nat.le_of_ble_eq_true rfl, Nat.le_of_ble_eq_true rfl⟩ dL_isClosed_459 (k_rL ?_)
            refine x_aload hM dL_isClosed_462 rfl ?_
            refine x_iload hM dL_isClosed_464 rfl ?_
            refine x_iald hM m3 (by omega) dL_isClosed_466 ?_
            refine x_i2l hM dL_isClosed_467 ?_
            rw [iI_long ⟨by omega, by omega⟩]
            refine x_lcmp hM dL_isClosed_468 (fun z_468 z_468r z_468l z_468e => ?_)
            have hz := z_468e.mpr e1
            refine x_if_eq (tgt := 474) hM dL_isClosed_469 (by decide) (by omega) (fun c_469 => ?_) (fun c_469 => ?_)
            · refine x_iinc hM dL_isClosed_474 rfl rfl rfl ?_
              refine x_goto (tgt := 446) hM dL_isClosed_477 (by decide) ?_
              exact ih (k + 1) (by omega)
            · exfalso; omega
      refine x_iconst hM dL_isClosed_443 ?_
      refine x_istore hM dL_isClosed_444 rfl (Nat.le_of_ble_eq_true rfl) rfl ?_
      exact K t.own.toNat 0 (by omega)
    refine x_aload_n hM dL_isClosed_372 rfl rfl ?_
    refine x_callV hM wv_L_115 (m_X6_failing o1.1) ⟨Nat.le_of_ble_eq_true rfl, Nat.le_of_ble_eq_true rfl⟩ (ob_o o1) rfl rfl rfl rfl (Nat.le_of_ble_eq_true rfl) ⟨Nat.le_of_ble_eq_true rfl, Nat.le_of_ble_eq_true rfl⟩ dL_isClosed_373 (k_qI fun x_373 w_373 q_373 => ?_)
    obtain ⟨rfl, q1, qF⟩ := q_373
    have o2 : obA G w_373 x s := ⟨q1, ⟨o1.2.1.choose, o1.2.1.choose_spec.kp qF (by omega)⟩, o1.2.2.kp qF (by omega)⟩
    have r2 := r1.kp (qF _ (by omega)) (qF _ (by omega))
    obtain ⟨-, ⟨hs, hh⟩, -⟩ := id o2
    refine x_iload hM dL_isClosed_376 rfl ?_
    refine x_same (tgt := 383) hM (by rw [hre]) dL_isClosed_378 (by decide) ?_
    refine x_aload_n hM dL_isClosed_383 rfl rfl ?_
    refine x_callV hM wv_L_119 (m_X6_close o2.1 hh hcb) ⟨Nat.le_of_ble_eq_true rfl, Nat.le_of_ble_eq_true rfl⟩ (ob_o o2) rfl rfl rfl rfl (Nat.le_of_ble_eq_true rfl) ⟨Nat.le_of_ble_eq_true rfl, Nat.le_of_ble_eq_true rfl⟩ dL_isClosed_384 (k_qI fun x_384 w_384 q_384 => ?_)
    obtain ⟨rfl, q2, q3, qG⟩ := q_384
    have o3 : obA G w_384 x (mkS t.L t.set t.mon t.tax t.los [] t.own t.day (t.clo + 1) t.fee) := by
      have q := mu_ob o2 q2 _ q3 qG
      rw [hcl] at q
      exact q
    have r3 := r2.kp (qG _ (by omega)) (qG _ (by omega))
    have m3 := (qG _ (by omega)).trans ((qF _ (by omega)).trans m1)
    rw [hcl]
    refine x_istore hM dL_isClosed_387 rfl (Nat.le_of_ble_eq_true rfl) rfl ?_
    refine x_iload hM dL_isClosed_389 rfl ?_
    refine x_if_eq (tgt := 399) hM dL_isClosed_391 (by decide) (by omega) (fun c_391 => ?_) (fun c_391 => ?_)
    · exfalso; omega
    · refine x_iload hM dL_isClosed_394 rfl ?_
      refine x_if_lt (tgt := 443) hM dL_isClosed_396 (by decide) (by omega) (fun c_396 => ?_) (fun c_396 => ?_)
      · exact XS2 _ _ o3 r3 m3
      · exfalso; omega
  /- the loop over the transfers -/
  have K : ∀ (j i : Nat) (w1 : Wd) (t : St) (mf : Int → Int) (u14 u15 u16 u17 u18 u19 : Option Value), i + j = s.D.length → clW G w1 z x s t mf → rhF j t = reF s → simI c s t i mf → P 126 [some (.ref x), some (.ref z), some (.ref (z + 1)), some (.ref (z + 2)), some (.ref (z + 3)), some (.ref (z + 4)), some (.ref (z + 5)), some (.ref (z + 6)), some (.int (iI s.D.length)), some (.int (iI (s.set 2))), some (.int (iI s.fee)), some (.int (iI s.clo)), some (.int (iI (-6))), some (.int (iI i)), u14, u15, u16, u17, u18, u19] [] w1 (z + 7, 7, 394) := by
    intro j
    induction j with
    | zero =>
      intro i w1 t mf u14 u15 u16 u17 u18 u19 hij hw hre hsim
      have hre : reF s = (-6, t) := hre.symm
      have hi : i = s.D.length := by omega
      by_cases h0 : s.D.length = 0
      · skip
        refine x_iload hM dL_isClosed_126 rfl ?_
        refine x_iload hM dL_isClosed_128 rfl ?_
        refine x_icmp_ge (tgt := 372) hM dL_isClosed_130 (by decide) (by omega) (by omega) (fun c_130 => ?_) (fun c_130 => ?_)
        · exact XF 0 w1 t mf _ _ _ _ _ _ _ (-6) hw (by rw [hre]) (Or.inl h0) (fun _ => rfl)
        · exfalso; omega
      · rw [hi] at hsim
        refine x_iload hM dL_isClosed_126 rfl ?_
        refine x_iload hM dL_isClosed_128 rfl ?_
        refine x_icmp_ge (tgt := 372) hM dL_isClosed_130 (by decide) (by omega) (by omega) (fun c_130 => ?_) (fun c_130 => ?_)
        · exact XS w1 t mf _ _ _ _ _ _ _ hw hre h0 hsim
        · exfalso; omega
    | succ j ih =>
      intro i w1 t mf u14 u15 u16 u17 u18 u19 hij hw hre hsim
      have hi : i < s.D.length := by omega
      obtain ⟨o1, r1, t1, ⟨f4, c4⟩, ⟨f5, c5⟩, m1⟩ := id hw
      obtain ⟨⟨k1, k2, k3⟩, ⟨k4, k5, k6, k7, k8, k9, k10⟩, k11⟩ := id hsim
      have hok := dealW_at hD hi
      have hoq := g4 s.D[i] (List.getElem_mem _)
      have htW := t1.1
      have htm := fun o : Int => mtsO_nn t.L o htW.2
      have htl := htW.1
      rw [rhF_in (i := i) (by rw [k5]; omega)] at hre
      have htD : t.D[i]'(by rw [k5]; exact hi) = s.D[i] := by simp only [k5]
      rw [htD] at hre
      generalize hte : s.D[i] = q at hok hoq hre
      obtain ⟨a, b, f, n, p⟩ := q
      obtain ⟨a1, a2, a3, a4, a5, a6, a7, a8, a9, a10⟩ : 0 ≤ a ∧ a < 10 ∧ 0 ≤ b ∧ b < 10 ∧ a ≠ b ∧ 0 ≤ f ∧ 1 ≤ n ∧ f + n ≤ 10000 ∧ 0 ≤ p ∧ p ≤ 1000000 := hok
      obtain ⟨b1, b2⟩ : a < s.own ∧ b < s.own := hoq
      have hfn : f + n - f = n := by omega
      have hmb := mtw_b a f n htW (by omega)
      have hmt := htm b
      have hbl := (bec_ad (o := b) (a := f) (n := n) (can_srt k1 (okS_lt htW)) (okS_lt htW) k2 (by omega)).2
      obtain ⟨eb, eb1, eb2⟩ := k11 b a3 b2
      obtain ⟨ea, ea1, ea2⟩ := k11 a a1 b1
      have tr0 : trAt s.D[i] 0 = a := by rw [hte]; rfl
      have tr1 : trAt s.D[i] 1 = b := by rw [hte]; rfl
      have tr2 : trAt s.D[i] 2 = f := by rw [hte]; rfl
      have tr3 : trAt s.D[i] 3 = n := by rw [hte]; rfl
      have tr4 : trAt s.D[i] 4 = p := by rw [hte]; rfl
      have hC1 : trfC1 t (a, b, f, n, p) ↔ (mtwF t.L a f n = n ∧ p + s.set 2 ≤ mf b ∧ mtsO t.L b + n ≤ s.set 4) := by
        show (mtwF t.L a f n = n ∧ ¬ t.mon b < jJ (p + t.set 2) ∧ (n = 0 ∨ mtsO t.L b + n ≤ t.set 4)) ↔ _
        rw [eb, k4, jJ_lt ⟨by omega, by omega⟩ ⟨by omega, by omega⟩]
        constructor
        · rintro ⟨q1, q2, q3⟩
          exact ⟨q1, by omega, by omega⟩
        · rintro ⟨q1, q2, q3⟩
          exact ⟨q1, by omega, Or.inr q3⟩
      /- it can't: the loop ends -/
      have N : ∀ (w3 : Wd) (t3 : St) (mf3 : Int → Int), clW G w3 z x s t3 mf3 → ¬ (trfC1 t (a, b, f, n, p) ∧ trfC2 t (a, b, f, n, p)) → P 352 [some (.ref x), some (.ref z), some (.ref (z + 1)), some (.ref (z + 2)), some (.ref (z + 3)), some (.ref (z + 4)), some (.ref (z + 5)), some (.ref (z + 6)), some (.int (iI s.D.length)), some (.int (iI (s.set 2))), some (.int (iI s.fee)), some (.int (iI s.clo)), some (.int (iI (-6))), some (.int (iI i)), some (.int (iI a)), some (.int (iI b)), some (.int (iI f)), some (.int (iI n)), some (.int (iI p)), some (.int (iI 0))] [] w3 (z + 7, 7, 394) := by
        intro w3 t3 mf3 hw3 hno
        rw [if_neg hno] at hre
        refine x_iload hM dL_isClosed_352 rfl ?_
        refine x_if_eq (tgt := 362) hM dL_isClosed_354 (by decide) (by omega) (fun c_354 => ?_) (fun c_354 => ?_)
        · refine x_iload hM dL_isClosed_362 rfl ?_
          refine x_istore hM dL_isClosed_364 rfl (Nat.le_of_ble_eq_true rfl) rfl ?_
          refine x_iinc hM dL_isClosed_366 rfl rfl rfl ?_
          refine x_goto (tgt := 126) hM dL_isClosed_369 (by decide) ?_
          refine x_iload hM dL_isClosed_126 rfl ?_
          refine x_iload hM dL_isClosed_128 rfl ?_
          refine x_icmp_ge (tgt := 372) hM dL_isClosed_130 (by decide) (by omega) (by omega) (fun c_130 => ?_) (fun c_130 => ?_)
          · exact XF 0 w3 t3 mf3 _ _ _ _ _ _ _ i hw3 (by rw [← hre]) (Or.inr (by omega)) (fun q => by omega)
          · refine x_iload hM dL_isClosed_133 rfl ?_
            refine x_if_ge (tgt := 372) hM dL_isClosed_135 (by decide) (by omega) (fun c_135 => ?_) (fun c_135 => ?_)
            · exact XF 0 w3 t3 mf3 _ _ _ _ _ _ _ i hw3 (by rw [← hre]) (Or.inr (by omega)) (fun q => by omega)
            · exfalso; omega
        · exfalso; omega
      /- it can -/
      have Y : ∀ (w3 : Wd) (t3 : St) (mf3 : Int → Int), t3 = trfD t (a, b, f, n, p) → clW G w3 z x s t3 mf3 → simI c s t3 (i + 1) mf3 → (trfC1 t (a, b, f, n, p) ∧ trfC2 t (a, b, f, n, p)) → P 352 [some (.ref x), some (.ref z), some (.ref (z + 1)), some (.ref (z + 2)), some (.ref (z + 3)), some (.ref (z + 4)), some (.ref (z + 5)), some (.ref (z + 6)), some (.int (iI s.D.length)), some (.int (iI (s.set 2))), some (.int (iI s.fee)), some (.int (iI s.clo)), some (.int (iI (-6))), some (.int (iI i)), some (.int (iI a)), some (.int (iI b)), some (.int (iI f)), some (.int (iI n)), some (.int (iI p)), some (.int (iI 1))] [] w3 (z + 7, 7, 394) := by
        intro w3 t3 mf3 ht3 hw3 hs3 hyes
        rw [if_pos hyes, ← ht3] at hre
        refine x_iload hM dL_isClosed_352 rfl ?_
        refine x_if_eq (tgt := 362) hM dL_isClosed_354 (by decide) (by omega) (fun c_354 => ?_) (fun c_354 => ?_)
        · exfalso; omega
        · refine x_iload hM dL_isClosed_357 rfl ?_
          refine x_goto (tgt := 364) hM dL_isClosed_359 (by decide) ?_
          refine x_istore hM dL_isClosed_364 rfl (Nat.le_of_ble_eq_true rfl) rfl ?_
          refine x_iinc hM dL_isClosed_366 rfl rfl rfl ?_
          refine x_goto (tgt := 126) hM dL_isClosed_369 (by decide) ?_
          exact ih (i + 1) w3 t3 mf3 _ _ _ _ _ _ (by omega) hw3 hre hs3
      /- behind the first look -/
      have M : (mtwF t.L a f n = n ∧ p + s.set 2 ≤ mf b ∧ mtsO t.L b + n ≤ s.set 4) → P 248 [some (.ref x), some (.ref z), some (.ref (z + 1)), some (.ref (z + 2)), some (.ref (z + 3)), some (.ref (z + 4)), some (.ref (z + 5)), some (.ref (z + 6)), some (.int (iI s.D.length)), some (.int (iI (s.set 2))), some (.int (iI s.fee)), some (.int (iI s.clo)), some (.int (iI (-6))), some (.int (iI i)), some (.int (iI a)), some (.int (iI b)), some (.int (iI f)), some (.int (iI n)), some (.int (iI p)), some (.int (iI 1))] [] w1 (z + 7, 7, 394) := by
        intro hyes
        have hY1 := hC1.mpr hyes
        /- behind the copies -/
        have M2 : ∀ w5 : Wd, obA G w5 x s → rsA G w5 z (z + 1) s.L → rsA G w5 (z + 2) (z + 3) (becF t.L b f n) → (∃ f : Int → Int, w5 (z + 4) = some (aI G 64 f)) → (∃ f : Int → Int, w5 (z + 5) = some (aI G 64 f)) → w5 (z + 6) = some (aI G 10 mf) → P 280 [some (.ref x), some (.ref z), some (.ref (z + 1)), some (.ref (z + 2)), some (.ref (z + 3)), some (.ref (z + 4)), some (.ref (z + 5)), some (.ref (z + 6)), some (.int (iI s.D.length)), some (.int (iI (s.set 2))), some (.int (iI s.fee)), some (.int (iI s.clo)), some (.int (iI (-6))), some (.int (iI i)), some (.int (iI a)), some (.int (iI b)), some (.int (iI f)), some (.int (iI n)), some (.int (iI p)), some (.int (iI 1))] [] w5 (z + 7, 7, 394) := by
          intro w5 o5 r5 t5 ⟨f4, c4⟩ ⟨f5, c5⟩ m5
          have hm6 : fU mf b (mf b - (p + s.set 2)) a = mf a := fU_ne a5
          have hw6 : ∀ w6 : Wd, w6 = wS (wS w5 (z + 6) (aI G 10 (fU mf b (mf b - (p + s.set 2))))) (z + 6) (aI G 10 (fU (fU mf b (mf b - (p + s.set 2))) a (fU mf b (mf b - (p + s.set 2)) a + p))) → clW G w6 z x s (trfD t (a, b, f, n, p)) (fU (fU mf b (mf b - (p + s.set 2))) a (fU mf b (mf b - (p + s.set 2)) a + p)) := by
            intro w6 e6
            have nq : ∀ q : Nat, q ≠ z + 6 → w6 q = w5 q := fun q hq => by rw [e6]; exact (wS_ne hq).trans (wS_ne hq)
            exact ⟨o5.kp fun q a b => nq q (by omega), r5.kp (nq _ (by omega)) (nq _ (by omega)), t5.kp (nq _ (by omega)) (nq _ (by omega)), ⟨f4, (nq _ (by omega)).trans c4⟩, ⟨f5, (nq _ (by omega)).trans c5⟩, by rw [e6]; exact wS_eq⟩
          have hw6 := hw6 _ rfl
          obtain ⟨o6, -, t6, -⟩ := id hw6
          have t6 : rsA G _ (z + 2) (z + 3) (becF t.L b f n) := t6
          obtain ⟨-, f6, g6, ⟨u1, u2, u3⟩, u4⟩ := id t6
          have hn2 : ∀ hno : ¬ trfC2 t (a, b, f, n, p), ¬ (trfC1 t (a, b, f, n, p) ∧ trfC2 t (a, b, f, n, p)) := fun hno q => hno q.2
          have hC2 : trfC2 t (a, b, f, n, p) ↔ ((becF t.L b f n).length ≤ 40 ∧ shoB (becF t.L b f n) a (s.set 3) = false ∧ shoB (becF t.L b f n) b (s.set 3) = false) := by
            show ((becF t.L b f n).length ≤ 40 ∧ shoB (becF t.L b f n) a (t.set 3) = false ∧ shoB (becF t.L b f n) b (t.set 3) = false) ↔ _
            rw [k4]
          by_cases d1 : (becF t.L b f n).length ≤ 40
          · cases d2 : shoB (becF t.L b f n) a (s.set 3) with
            | true =>
              refine x_aload hM dL_isClosed_280 rfl ?_
              refine x_iload hM dL_isClosed_282 rfl ?_
              refine x_dup2 hM dL_isClosed_284 rfl rfl ?_
              refine x_iald hM m5 (by omega) dL_isClosed_285 ?_
              refine x_iload hM dL_isClosed_286 rfl ?_
              refine x_iload hM dL_isClosed_288 rfl ?_
              refine x_iadd hM dL_isClosed_290 ?_
              refine x_isub hM dL_isClosed_291 ?_
              refine x_iast hM m5 (by omega) dL_isClosed_292 ?_
              refine x_aload hM dL_isClosed_293 rfl ?_
              refine x_iload hM dL_isClosed_295 rfl ?_
              refine x_dup2 hM dL_isClosed_297 rfl rfl ?_
              refine x_iald hM wS_eq (by omega) dL_isClosed_298 ?_
              refine x_iload hM dL_isClosed_299 rfl ?_
              refine x_iadd hM dL_isClosed_301 ?_
              refine x_iast hM wS_eq (by omega) dL_isClosed_302 ?_
              refine x_aload_n hM dL_isClosed_303 rfl rfl ?_
              refine x_iconst hM dL_isClosed_304 ?_
              refine x_iald hM u1 (by omega) dL_isClosed_305 ?_
              refine x_bipush hM dL_isClosed_306 rfl ?_
              refine x_icmp_gt (tgt := 349) hM dL_isClosed_308 (by decide) (by omega) (by omega) (fun c_308 => ?_) (fun c_308 => ?_)
              · exfalso; omega
              · refine x_aload_n hM dL_isClosed_311 rfl rfl ?_
                refine x_aload hM dL_isClosed_312 rfl ?_
                refine x_iload hM dL_isClosed_314 rfl ?_
                refine x_aload_n hM dL_isClosed_316 rfl rfl ?_
                refine x_bipush hM dL_isClosed_317 rfl ?_
                refine x_callV hM wv_L_8 (o_c15 o6) ⟨Nat.le_of_ble_eq_true rfl, Nat.le_of_ble_eq_true rfl⟩ (ob_o o6) rfl rfl rfl rfl (Nat.le_of_ble_eq_true rfl) ⟨Nat.le_of_ble_eq_true rfl, Nat.le_of_ble_eq_true rfl⟩ dL_isClosed_319 (k_rI ?_)
                refine x_callS hM ws_L_111 (m_L_isShort t6 (by omega) (by omega)) ⟨Nat.le_of_ble_eq_true rfl, Nat.le_of_ble_eq_true rfl⟩ rfl rfl (Nat.le_of_ble_eq_true rfl) ⟨Nat.le_of_ble_eq_true rfl, Nat.le_of_ble_eq_true rfl⟩ dL_isClosed_322 (k_rI ?_)
                rw [d2, if_pos rfl]
                refine x_if_ne (tgt := 349) hM dL_isClosed_325 (by decide) (by omega) (fun c_325 => ?_) (fun c_325 => ?_)
                · refine x_iconst hM dL_isClosed_349 ?_
                  refine x_istore hM dL_isClosed_350 rfl (Nat.le_of_ble_eq_true rfl) rfl ?_
                  exact N _ _ _ hw6 (hn2 fun q => by have := (hC2.mp q).2.1; rw [d2] at this; cases this)
                · exfalso; omega
            | false =>
              cases d3 : shoB (becF t.L b f n) b (s.set 3) with
              | true =>
                refine x_aload hM dL_isClosed_280 rfl ?_
                refine x_iload hM dL_isClosed_282 rfl ?_
                refine x_dup2 hM dL_isClosed_284 rfl rfl ?_
                refine x_iald hM m5 (by omega) dL_isClosed_285 ?_
                refine x_iload hM dL_isClosed_286 rfl ?_
                refine x_iload hM dL_isClosed_288 rfl ?_
                refine x_iadd hM dL_isClosed_290 ?_
                refine x_isub hM dL_isClosed_291 ?_
                refine x_iast hM m5 (by omega) dL_isClosed_292 ?_
                refine x_aload hM dL_isClosed_293 rfl ?_
                refine x_iload hM dL_isClosed_295 rfl ?_
                refine x_dup2 hM dL_isClosed_297 rfl rfl ?_
                refine x_iald hM wS_eq (by omega) dL_isClosed_298 ?_
                refine x_iload hM dL_isClosed_299 rfl ?_
                refine x_iadd hM dL_isClosed_301 ?_
                refine x_iast hM wS_eq (by omega) dL_isClosed_302 ?_
                refine x_aload_n hM dL_isClosed_303 rfl rfl ?_
                refine x_iconst hM dL_isClosed_304 ?_
                refine x_iald hM u1 (by omega) dL_isClosed_305 ?_
                refine x_bipush hM dL_isClosed_306 rfl ?_
                refine x_icmp_gt (tgt := 349) hM dL_isClosed_308 (by decide) (by omega) (by omega) (fun c_308 => ?_) (fun c_308 => ?_)
                · exfalso; omega
                · refine x_aload_n hM dL_isClosed_311 rfl rfl ?_
                  refine x_aload hM dL_isClosed_312 rfl ?_
                  refine x_iload hM dL_isClosed_314 rfl ?_
                  refine x_aload_n hM dL_isClosed_316 rfl rfl ?_
                  refine x_bipush hM dL_isClosed_317 rfl ?_
                  refine x_callV hM wv_L_8 (o_c15 o6) ⟨Nat.le_of_ble_eq_true rfl, Nat.le_of_ble_eq_true rfl⟩ (ob_o o6) rfl rfl rfl rfl (Nat.le_of_ble_eq_true rfl) ⟨Nat.le_of_ble_eq_true rfl, Nat.le_of_ble_eq_true rfl⟩ dL_isClosed_319 (k_rI ?_)
                  refine x_callS hM ws_L_111 (m_L_isShort t6 (by omega) (by omega)) ⟨Nat.le_of_ble_eq_true rfl, Nat.le_of_ble_eq_true rfl⟩ rfl rfl (Nat.le_of_ble_eq_true rfl) ⟨Nat.le_of_ble_eq_true rfl, Nat.le_of_ble_eq_true rfl⟩ dL_isClosed_322 (k_rI ?_)
                  rw [d2, if_neg (by decide)]
                  refine x_if_ne (tgt := 349) hM dL_isClosed_325 (by decide) (by omega) (fun c_325 => ?_) (fun c_325 => ?_)
                  · exfalso; omega
                  · refine x_aload_n hM dL_isClosed_328 rfl rfl ?_
                    refine x_aload hM dL_isClosed_329 rfl ?_
                    refine x_iload hM dL_isClosed_331 rfl ?_
                    refine x_aload_n hM dL_isClosed_333 rfl rfl ?_
                    refine x_bipush hM dL_isClosed_334 rfl ?_
                    refine x_callV hM wv_L_8 (o_c15 o6) ⟨Nat.le_of_ble_eq_true rfl, Nat.le_of_ble_eq_true rfl⟩ (ob_o o6) rfl rfl rfl rfl (Nat.le_of_ble_eq_true rfl) ⟨Nat.le_of_ble_eq_true rfl, Nat.le_of_ble_eq_true rfl⟩ dL_isClosed_336 (k_rI ?_)
                    refine x_callS hM ws_L_111 (m_L_isShort t6 (by omega) (by omega)) ⟨Nat.le_of_ble_eq_true rfl, Nat.le_of_ble_eq_true rfl⟩ rfl rfl (Nat.le_of_ble_eq_true rfl) ⟨Nat.le_of_ble_eq_true rfl, Nat.le_of_ble_eq_true rfl⟩ dL_isClosed_339 (k_rI ?_)
                    rw [d3, if_pos rfl]
                    refine x_if_ne (tgt := 349) hM dL_isClosed_342 (by decide) (by omega) (fun c_342 => ?_) (fun c_342 => ?_)
                    · refine x_iconst hM dL_isClosed_349 ?_
                      refine x_istore hM dL_isClosed_350 rfl (Nat.le_of_ble_eq_true rfl) rfl ?_
                      exact N _ _ _ hw6 (hn2 fun q => by have := (hC2.mp q).2.2; rw [d3] at this; cases this)
                    · exfalso; omega
              | false =>
                have hyy : trfC1 t (a, b, f, n, p) ∧ trfC2 t (a, b, f, n, p) := ⟨hY1, hC2.mpr ⟨d1, d2, d3⟩⟩
                refine x_aload hM dL_isClosed_280 rfl ?_
                refine x_iload hM dL_isClosed_282 rfl ?_
                refine x_dup2 hM dL_isClosed_284 rfl rfl ?_
                refine x_iald hM m5 (by omega) dL_isClosed_285 ?_
                refine x_iload hM dL_isClosed_286 rfl ?_
                refine x_iload hM dL_isClosed_288 rfl ?_
                refine x_iadd hM dL_isClosed_290 ?_
                refine x_isub hM dL_isClosed_291 ?_
                refine x_iast hM m5 (by omega) dL_isClosed_292 ?_
                refine x_aload hM dL_isClosed_293 rfl ?_
                refine x_iload hM dL_isClosed_295 rfl ?_
                refine x_dup2 hM dL_isClosed_297 rfl rfl ?_
                refine x_iald hM wS_eq (by omega) dL_isClosed_298 ?_
                refine x_iload hM dL_isClosed_299 rfl ?_
                refine x_iadd hM dL_isClosed_301 ?_
                refine x_iast hM wS_eq (by omega) dL_isClosed_302 ?_
                refine x_aload_n hM dL_isClosed_303 rfl rfl ?_
                refine x_iconst hM dL_isClosed_304 ?_
                refine x_iald hM u1 (by omega) dL_isClosed_305 ?_
                refine x_bipush hM dL_isClosed_306 rfl ?_
                refine x_icmp_gt (tgt := 349) hM dL_isClosed_308 (by decide) (by omega) (by omega) (fun c_308 => ?_) (fun c_308 => ?_)
                · exfalso; omega
                · refine x_aload_n hM dL_isClosed_311 rfl rfl ?_
                  refine x_aload hM dL_isClosed_312 rfl ?_
                  refine x_iload hM dL_isClosed_314 rfl ?_
                  refine x_aload_n hM dL_isClosed_316 rfl rfl ?_
                  refine x_bipush hM dL_isClosed_317 rfl ?_
                  refine x_callV hM wv_L_8 (o_c15 o6) ⟨Nat.le_of_ble_eq_true rfl, Nat.le_of_ble_eq_true rfl⟩ (ob_o o6) rfl rfl rfl rfl (Nat.le_of_ble_eq_true rfl) ⟨Nat.le_of_ble_eq_true rfl, Nat.le_of_ble_eq_true rfl⟩ dL_isClosed_319 (k_rI ?_)
                  refine x_callS hM ws_L_111 (m_L_isShort t6 (by omega) (by omega)) ⟨Nat.le_of_ble_eq_true rfl, Nat.le_of_ble_eq_true rfl⟩ rfl rfl (Nat.le_of_ble_eq_true rfl) ⟨Nat.le_of_ble_eq_true rfl, Nat.le_of_ble_eq_true rfl⟩ dL_isClosed_322 (k_rI ?_)
                  rw [d2, if_neg (by decide)]
                  refine x_if_ne (tgt := 349) hM dL_isClosed_325 (by decide) (by omega) (fun c_325 => ?_) (fun c_325 => ?_)
                  · exfalso; omega
                  · refine x_aload_n hM dL_isClosed_328 rfl rfl ?_
                    refine x_aload hM dL_isClosed_329 rfl ?_
                    refine x_iload hM dL_isClosed_331 rfl ?_
                    refine x_aload_n hM dL_isClosed_333 rfl rfl ?_
                    refine x_bipush hM dL_isClosed_334 rfl ?_
                    refine x_callV hM wv_L_8 (o_c15 o6) ⟨Nat.le_of_ble_eq_true rfl, Nat.le_of_ble_eq_true rfl⟩ (ob_o o6) rfl rfl rfl rfl (Nat.le_of_ble_eq_true rfl) ⟨Nat.le_of_ble_eq_true rfl, Nat.le_of_ble_eq_true rfl⟩ dL_isClosed_336 (k_rI ?_)
                    refine x_callS hM ws_L_111 (m_L_isShort t6 (by omega) (by omega)) ⟨Nat.le_of_ble_eq_true rfl, Nat.le_of_ble_eq_true rfl⟩ rfl rfl (Nat.le_of_ble_eq_true rfl) ⟨Nat.le_of_ble_eq_true rfl, Nat.le_of_ble_eq_true rfl⟩ dL_isClosed_339 (k_rI ?_)
                    rw [d3, if_neg (by decide)]
                    refine x_if_ne (tgt := 349) hM dL_isClosed_342 (by decide) (by omega) (fun c_342 => ?_) (fun c_342 => ?_)
                    · exfalso; omega
                    · refine x_iconst hM dL_isClosed_345 ?_
                      refine x_goto (tgt := 350) hM dL_isClosed_346 (by decide) ?_
                      refine x_istore hM dL_isClosed_350 rfl (Nat.le_of_ble_eq_true rfl) rfl ?_
                      exact Y _ _ _ rfl hw6 (sim_step hsim htW ⟨a1, a2, a3, a4, a5, a6, a7, a8, a9, a10⟩ ⟨b1, b2⟩ hs2 d1) hyy
          · skip
            refine x_aload hM dL_isClosed_280 rfl ?_
            refine x_iload hM dL_isClosed_282 rfl ?_
            refine x_dup2 hM dL_isClosed_284 rfl rfl ?_
            refine x_iald hM m5 (by omega) dL_isClosed_285 ?_
            refine x_iload hM dL_isClosed_286 rfl ?_
            refine x_iload hM dL_isClosed_288 rfl ?_
            refine x_iadd hM dL_isClosed_290 ?_
            refine x_isub hM dL_isClosed_291 ?_
            refine x_iast hM m5 (by omega) dL_isClosed_292 ?_
            refine x_aload hM dL_isClosed_293 rfl ?_
            refine x_iload hM dL_isClosed_295 rfl ?_
            refine x_dup2 hM dL_isClosed_297 rfl rfl ?_
            refine x_iald hM wS_eq (by omega) dL_isClosed_298 ?_
            refine x_iload hM dL_isClosed_299 rfl ?_
            refine x_iadd hM dL_isClosed_301 ?_
            refine x_iast hM wS_eq (by omega) dL_isClosed_302 ?_
            refine x_aload_n hM dL_isClosed_303 rfl rfl ?_
            refine x_iconst hM dL_isClosed_304 ?_
            refine x_iald hM u1 (by omega) dL_isClosed_305 ?_
            refine x_bipush hM dL_isClosed_306 rfl ?_
            refine x_icmp_gt (tgt := 349) hM dL_isClosed_308 (by decide) (by omega) (by omega) (fun c_308 => ?_) (fun c_308 => ?_)
            · refine x_iconst hM dL_isClosed_349 ?_
              refine x_istore hM dL_isClosed_350 rfl (Nat.le_of_ble_eq_true rfl) rfl ?_
              exact N _ _ _ hw6 (hn2 fun q => d1 (hC2.mp q).1)
            · exfalso; omega
        refine x_aload_n hM dL_isClosed_248 rfl rfl ?_
        refine x_aload hM dL_isClosed_249 rfl ?_
        refine x_iload hM dL_isClosed_251 rfl ?_
        refine x_iload hM dL_isClosed_253 rfl ?_
        refine x_iload hM dL_isClosed_255 rfl ?_
        refine x_iadd hM dL_isClosed_257 ?_
        refine x_iload hM dL_isClosed_258 rfl ?_
        refine x_aload hM dL_isClosed_260 rfl ?_
        refine x_aload hM dL_isClosed_262 rfl ?_
        refine x_callS hM ws_L_66 (m_L_lay t1 k1 c4 c5 (by omega) k2 (by omega) (by omega)) ⟨Nat.le_of_ble_eq_true rfl, Nat.le_of_ble_eq_true rfl⟩ rfl rfl (Nat.le_of_ble_eq_true rfl) ⟨Nat.le_of_ble_eq_true rfl, Nat.le_of_ble_eq_true rfl⟩ dL_isClosed_264 (k_qV fun w_264 q_264 => ?_)
        obtain ⟨t2, f2⟩ := q_264
        rw [hfn] at t2
        obtain ⟨hbW, ff, gg, ⟨v1, v2, v3⟩, v4⟩ := id t2
        obtain ⟨-, f3, g3, ⟨v5, v6, -⟩, -⟩ := id t1
        refine x_aload hM dL_isClosed_267 rfl ?_
        refine x_aload_n hM dL_isClosed_269 rfl rfl ?_
        refine x_callS hM ws_L_103 (m_L_copy v1 ((f2 _ (by omega) (by omega)).trans v5) (by omega)) ⟨Nat.le_of_ble_eq_true rfl, Nat.le_of_ble_eq_true rfl⟩ rfl rfl (Nat.le_of_ble_eq_true rfl) ⟨Nat.le_of_ble_eq_true rfl, Nat.le_of_ble_eq_true rfl⟩ dL_isClosed_270 (k_qV fun w_270 q_270 => ?_)
        obtain ⟨ga, x1, x2, x3⟩ := q_270
        refine x_aload hM dL_isClosed_273 rfl ?_
        refine x_aload hM dL_isClosed_275 rfl ?_
        refine x_callS hM ws_L_103 (m_L_copy ((x3 _ (by omega)).trans v2) ((x3 _ (by omega)).trans ((f2 _ (by omega) (by omega)).trans v6)) (by omega)) ⟨Nat.le_of_ble_eq_true rfl, Nat.le_of_ble_eq_true rfl⟩ rfl rfl (Nat.le_of_ble_eq_true rfl) ⟨Nat.le_of_ble_eq_true rfl, Nat.le_of_ble_eq_true rfl⟩ dL_isClosed_277 (k_qV fun w_277 q_277 => ?_)
        obtain ⟨gb, y1, y2, y3⟩ := q_277
        have nq : ∀ q : Nat, (q < z + 2 ∨ z + 6 ≤ q) → w_277 q = w1 q := fun q hq => (y3 q (by omega)).trans ((x3 q (by omega)).trans (f2 q (by omega) (by omega)))
        exact M2 _ (o1.kp fun q a b => nq q (by omega)) (r1.kp (nq _ (by omega)) (nq _ (by omega))) (rwA_cp hbW v3 v4 ((y3 _ (by omega)).trans x1) y1 x2 y2) ⟨_, (y3 _ (by omega)).trans ((x3 _ (by omega)).trans v1)⟩ ⟨_, (y3 _ (by omega)).trans ((x3 _ (by omega)).trans v2)⟩ ((nq _ (by omega)).trans m1)
      have hwb : iR (mtwF t.L a f n) := by omega
      refine x_iload hM dL_isClosed_126 rfl ?_
      refine x_iload hM dL_isClosed_128 rfl ?_
      refine x_icmp_ge (tgt := 372) hM dL_isClosed_130 (by decide) (by omega) (by omega) (fun c_130 => ?_) (fun c_130 => ?_)
      · exfalso; omega
      · refine x_iload hM dL_isClosed_133 rfl ?_
        refine x_if_ge (tgt := 372) hM dL_isClosed_135 (by decide) (by omega) (fun c_135 => ?_) (fun c_135 => ?_)
        · exfalso; omega
        · refine x_aload_n hM dL_isClosed_138 rfl rfl ?_
          refine x_iload hM dL_isClosed_139 rfl ?_
          refine x_iconst hM dL_isClosed_141 ?_
          refine x_callV hM wv_L_100 (o_tr o1 hi (by omega)) ⟨Nat.le_of_ble_eq_true rfl, Nat.le_of_ble_eq_true rfl⟩ (ob_o o1) rfl rfl rfl rfl (Nat.le_of_ble_eq_true rfl) ⟨Nat.le_of_ble_eq_true rfl, Nat.le_of_ble_eq_true rfl⟩ dL_isClosed_142 (k_rI ?_)
          rw [tr0]
          refine x_istore hM dL_isClosed_145 rfl (Nat.le_of_ble_eq_true rfl) rfl ?_
          refine x_aload_n hM dL_isClosed_147 rfl rfl ?_
          refine x_iload hM dL_isClosed_148 rfl ?_
          refine x_iconst hM dL_isClosed_150 ?_
          refine x_callV hM wv_L_100 (o_tr o1 hi (by omega)) ⟨Nat.le_of_ble_eq_true rfl, Nat.le_of_ble_eq_true rfl⟩ (ob_o o1) rfl rfl rfl rfl (Nat.le_of_ble_eq_true rfl) ⟨Nat.le_of_ble_eq_true rfl, Nat.le_of_ble_eq_true rfl⟩ dL_isClosed_151 (k_rI ?_)
          rw [tr1]
          refine x_istore hM dL_isClosed_154 rfl (Nat.le_of_ble_eq_true rfl) rfl ?_
          refine x_aload_n hM dL_isClosed_156 rfl rfl ?_
          refine x_iload hM dL_isClosed_157 rfl ?_
          refine x_iconst hM dL_isClosed_159 ?_
          refine x_callV hM wv_L_100 (o_tr o1 hi (by omega)) ⟨Nat.le_of_ble_eq_true rfl, Nat.le_of_ble_eq_true rfl⟩ (ob_o o1) rfl rfl rfl rfl (Nat.le_of_ble_eq_true rfl) ⟨Nat.le_of_ble_eq_true rfl, Nat.le_of_ble_eq_true rfl⟩ dL_isClosed_160 (k_rI ?_)
          rw [tr2]
          refine x_istore hM dL_isClosed_163 rfl (Nat.le_of_ble_eq_true rfl) rfl ?_
          refine x_aload_n hM dL_isClosed_165 rfl rfl ?_
          refine x_iload hM dL_isClosed_166 rfl ?_
          refine x_iconst hM dL_isClosed_168 ?_
          refine x_callV hM wv_L_100 (o_tr o1 hi (by omega)) ⟨Nat.le_of_ble_eq_true rfl, Nat.le_of_ble_eq_true rfl⟩ (ob_o o1) rfl rfl rfl rfl (Nat.le_of_ble_eq_true rfl) ⟨Nat.le_of_ble_eq_true rfl, Nat.le_of_ble_eq_true rfl⟩ dL_isClosed_169 (k_rI ?_)
          rw [tr3]
          refine x_istore hM dL_isClosed_172 rfl (Nat.le_of_ble_eq_true rfl) rfl ?_
          refine x_aload_n hM dL_isClosed_174 rfl rfl ?_
          refine x_iload hM dL_isClosed_175 rfl ?_
          refine x_iconst hM dL_isClosed_177 ?_
          refine x_callV hM wv_L_100 (o_tr o1 hi (by omega)) ⟨Nat.le_of_ble_eq_true rfl, Nat.le_of_ble_eq_true rfl⟩ (ob_o o1) rfl rfl rfl rfl (Nat.le_of_ble_eq_true rfl) ⟨Nat.le_of_ble_eq_true rfl, Nat.le_of_ble_eq_true rfl⟩ dL_isClosed_178 (k_rI ?_)
          rw [tr4]
          refine x_istore hM dL_isClosed_181 rfl (Nat.le_of_ble_eq_true rfl) rfl ?_
          refine x_aload_n hM dL_isClosed_183 rfl rfl ?_
          refine x_aload hM dL_isClosed_184 rfl ?_
          refine x_iload hM dL_isClosed_186 rfl ?_
          refine x_iload hM dL_isClosed_188 rfl ?_
          refine x_iload hM dL_isClosed_190 rfl ?_
          refine x_iadd hM dL_isClosed_192 ?_
          refine x_iload hM dL_isClosed_193 rfl ?_
          refine x_callS hM ws_L_70 (m_L_within t1 (by omega) (by omega)) ⟨Nat.le_of_ble_eq_true rfl, Nat.le_of_ble_eq_true rfl⟩ rfl rfl (Nat.le_of_ble_eq_true rfl) ⟨Nat.le_of_ble_eq_true rfl, Nat.le_of_ble_eq_true rfl⟩ dL_isClosed_195 (k_rI ?_)
          rw [hfn]
          refine x_iload hM dL_isClosed_198 rfl ?_
          refine x_icmp_ne (tgt := 240) hM dL_isClosed_200 (by decide) (by omega) (by omega) (fun c_200 => ?_) (fun c_200 => ?_)
          · refine x_iconst hM dL_isClosed_240 ?_
            refine x_istore hM dL_isClosed_241 rfl (Nat.le_of_ble_eq_true rfl) rfl ?_
            refine x_iload hM dL_isClosed_243 rfl ?_
            refine x_if_eq (tgt := 352) hM dL_isClosed_245 (by decide) (by omega) (fun c_245 => ?_) (fun c_245 => ?_)
            · first | exact N w1 t mf hw (fun q => by have := hC1.mp q.1; omega) | exact absurd c_245 (by decide)
            · first | exact M ⟨by omega, by omega, by omega⟩ | exact absurd rfl c_245
          · refine x_aload hM dL_isClosed_203 rfl ?_
            refine x_iload hM dL_isClosed_205 rfl ?_
            refine x_iald hM m1 (by omega) dL_isClosed_207 ?_
            refine x_iload hM dL_isClosed_208 rfl ?_
            refine x_iload hM dL_isClosed_210 rfl ?_
            refine x_iadd hM dL_isClosed_212 ?_
            refine x_icmp_lt (tgt := 240) hM dL_isClosed_213 (by decide) (by omega) (by omega) (fun c_213 => ?_) (fun c_213 => ?_)
            · refine x_iconst hM dL_isClosed_240 ?_
              refine x_istore hM dL_isClosed_241 rfl (Nat.le_of_ble_eq_true rfl) rfl ?_
              refine x_iload hM dL_isClosed_243 rfl ?_
              refine x_if_eq (tgt := 352) hM dL_isClosed_245 (by decide) (by omega) (fun c_245 => ?_) (fun c_245 => ?_)
              · first | exact N w1 t mf hw (fun q => by have := hC1.mp q.1; omega) | exact absurd c_245 (by decide)
              · first | exact M ⟨by omega, by omega, by omega⟩ | exact absurd rfl c_245
            · refine x_aload_n hM dL_isClosed_216 rfl rfl ?_
              refine x_aload hM dL_isClosed_217 rfl ?_
              refine x_iload hM dL_isClosed_219 rfl ?_
              refine x_callS hM ws_L_31 (m_L_meters t1 (by omega)) ⟨Nat.le_of_ble_eq_true rfl, Nat.le_of_ble_eq_true rfl⟩ rfl rfl (Nat.le_of_ble_eq_true rfl) ⟨Nat.le_of_ble_eq_true rfl, Nat.le_of_ble_eq_true rfl⟩ dL_isClosed_221 (k_rI ?_)
              refine x_iload hM dL_isClosed_224 rfl ?_
              refine x_iadd hM dL_isClosed_226 ?_
              refine x_aload_n hM dL_isClosed_227 rfl rfl ?_
              refine x_bipush hM dL_isClosed_228 rfl ?_
              refine x_callV hM wv_L_8 (o_c16 o1) ⟨Nat.le_of_ble_eq_true rfl, Nat.le_of_ble_eq_true rfl⟩ (ob_o o1) rfl rfl rfl rfl (Nat.le_of_ble_eq_true rfl) ⟨Nat.le_of_ble_eq_true rfl, Nat.le_of_ble_eq_true rfl⟩ dL_isClosed_230 (k_rI ?_)
              refine x_icmp_gt (tgt := 240) hM dL_isClosed_233 (by decide) (by omega) (by omega) (fun c_233 => ?_) (fun c_233 => ?_)
              · refine x_iconst hM dL_isClosed_240 ?_
                refine x_istore hM dL_isClosed_241 rfl (Nat.le_of_ble_eq_true rfl) rfl ?_
                refine x_iload hM dL_isClosed_243 rfl ?_
                refine x_if_eq (tgt := 352) hM dL_isClosed_245 (by decide) (by omega) (fun c_245 => ?_) (fun c_245 => ?_)
                · first | exact N w1 t mf hw (fun q => by have := hC1.mp q.1; omega) | exact absurd c_245 (by decide)
                · first | exact M ⟨by omega, by omega, by omega⟩ | exact absurd rfl c_245
              · refine x_iconst hM dL_isClosed_236 ?_
                refine x_goto (tgt := 241) hM dL_isClosed_237 (by decide) ?_
                refine x_istore hM dL_isClosed_241 rfl (Nat.le_of_ble_eq_true rfl) rfl ?_
                refine x_iload hM dL_isClosed_243 rfl ?_
                refine x_if_eq (tgt := 352) hM dL_isClosed_245 (by decide) (by omega) (fun c_245 => ?_) (fun c_245 => ?_)
                · first | exact N w1 t mf hw (fun q => by have := hC1.mp q.1; omega) | exact absurd c_245 (by decide)
                · first | exact M ⟨by omega, by omega, by omega⟩ | exact absurd rfl c_245
  /- the beginning -/
  have B : ∀ w7 : Wd, obA G w7 x s → w7 z = some (aI G 64 (fun _ => 0)) → w7 (z + 1) = some (aI G 64 (fun _ => 0)) → w7 (z + 2) = some (aI G 64 (fun _ => 0)) → w7 (z + 3) = some (aI G 64 (fun _ => 0)) → w7 (z + 4) = some (aI G 64 (fun _ => 0)) → w7 (z + 5) = some (aI G 64 (fun _ => 0)) → w7 (z + 6) = some (aI G 10 (fun _ => 0)) → P 39 [some (.ref x), some (.ref z), some (.ref (z + 1)), some (.ref (z + 2)), some (.ref (z + 3)), some (.ref (z + 4)), some (.ref (z + 5)), some (.ref (z + 6)), none, none, none, none, none, none, none, none, none, none, none, none] [] w7 (z + 7, 7, 394) := by
    intro w7 o0 c0 c1 c2 c3 c4 c5 c6
    have B2 : ∀ (j k : Nat) (w1 : Wd) (mf : Int → Int), (k : Int) + j = s.own → clW G w1 z x s s mf → (∀ q : Int, 0 ≤ q → q < k → s.mon q = jJ (mf q) ∧ -(10000000 * ((c : Int) + 1)) ≤ mf q ∧ mf q ≤ 10000000 * ((c : Int) + 1)) → P 59 [some (.ref x), some (.ref z), some (.ref (z + 1)), some (.ref (z + 2)), some (.ref (z + 3)), some (.ref (z + 4)), some (.ref (z + 5)), some (.ref (z + 6)), some (.int (iI k)), none, none, none, none, none, none, none, none, none, none, none] [] w1 (z + 7, 7, 394) := by
      intro j
      induction j with
      | zero =>
        intro k w1 mf hk hw hm
        obtain ⟨o1, -⟩ := id hw
        refine x_iload hM dL_isClosed_59 rfl ?_
        refine x_aload_n hM dL_isClosed_61 rfl rfl ?_
        refine x_iconst hM dL_isClosed_62 ?_
        refine x_callV hM wv_L_8 (o_c1 o1) ⟨Nat.le_of_ble_eq_true rfl, Nat.le_of_ble_eq_true rfl⟩ (ob_o o1) rfl rfl rfl rfl (Nat.le_of_ble_eq_true rfl) ⟨Nat.le_of_ble_eq_true rfl, Nat.le_of_ble_eq_true rfl⟩ dL_isClosed_63 (k_rI ?_)
        refine x_icmp_ge (tgt := 87) hM dL_isClosed_66 (by decide) (by omega) (by omega) (fun c_66 => ?_) (fun c_66 => ?_)
        · refine x_aload_n hM dL_isClosed_87 rfl rfl ?_
          refine x_bipush hM dL_isClosed_88 rfl ?_
          refine x_callV hM wv_L_8 (o_c6 o1) ⟨Nat.le_of_ble_eq_true rfl, Nat.le_of_ble_eq_true rfl⟩ (ob_o o1) rfl rfl rfl rfl (Nat.le_of_ble_eq_true rfl) ⟨Nat.le_of_ble_eq_true rfl, Nat.le_of_ble_eq_true rfl⟩ dL_isClosed_90 (k_rI ?_)
          refine x_istore hM dL_isClosed_93 rfl (Nat.le_of_ble_eq_true rfl) rfl ?_
          refine x_aload_n hM dL_isClosed_95 rfl rfl ?_
          refine x_bipush hM dL_isClosed_96 rfl ?_
          refine x_callV hM wv_L_8 (o_c14 o1) ⟨Nat.le_of_ble_eq_true rfl, Nat.le_of_ble_eq_true rfl⟩ (ob_o o1) rfl rfl rfl rfl (Nat.le_of_ble_eq_true rfl) ⟨Nat.le_of_ble_eq_true rfl, Nat.le_of_ble_eq_true rfl⟩ dL_isClosed_98 (k_rI ?_)
          refine x_istore hM dL_isClosed_101 rfl (Nat.le_of_ble_eq_true rfl) rfl ?_
          refine x_aload_n hM dL_isClosed_103 rfl rfl ?_
          refine x_bipush hM dL_isClosed_104 rfl ?_
          refine x_callV hM wv_L_8 (o_c8 o1) ⟨Nat.le_of_ble_eq_true rfl, Nat.le_of_ble_eq_true rfl⟩ (ob_o o1) rfl rfl rfl rfl (Nat.le_of_ble_eq_true rfl) ⟨Nat.le_of_ble_eq_true rfl, Nat.le_of_ble_eq_true rfl⟩ dL_isClosed_106 (k_rI ?_)
          refine x_istore hM dL_isClosed_109 rfl (Nat.le_of_ble_eq_true rfl) rfl ?_
          refine x_aload_n hM dL_isClosed_111 rfl rfl ?_
          refine x_bipush hM dL_isClosed_112 rfl ?_
          refine x_callV hM wv_L_8 (o_c7 o1) ⟨Nat.le_of_ble_eq_true rfl, Nat.le_of_ble_eq_true rfl⟩ (ob_o o1) rfl rfl rfl rfl (Nat.le_of_ble_eq_true rfl) ⟨Nat.le_of_ble_eq_true rfl, Nat.le_of_ble_eq_true rfl⟩ dL_isClosed_114 (k_rI ?_)
          refine x_istore hM dL_isClosed_117 rfl (Nat.le_of_ble_eq_true rfl) rfl ?_
          refine x_bipush hM dL_isClosed_119 rfl ?_
          refine x_istore hM dL_isClosed_121 rfl (Nat.le_of_ble_eq_true rfl) rfl ?_
          refine x_iconst hM dL_isClosed_123 ?_
          refine x_istore hM dL_isClosed_124 rfl (Nat.le_of_ble_eq_true rfl) rfl ?_
          refine K s.D.length 0 w1 s mf _ _ _ _ _ _ (by omega) hw rfl ⟨⟨g1, g2, g3⟩, ⟨rfl, rfl, rfl, rfl, rfl, rfl, by omega⟩, fun q a b => ?_⟩
          obtain ⟨e1, e2, e3⟩ := hm q a (by omega)
          exact ⟨e1, by omega, by omega⟩
        · exfalso; omega
      | succ j ih =>
        intro k w1 mf hk hw hm
        obtain ⟨o1, r1, t1, ⟨f4, c4⟩, ⟨f5, c5⟩, m1⟩ := id hw
        have hkk : 0 ≤ (k : Int) ∧ (k : Int) < s.own := by omega
        obtain ⟨m, em, em1, em2⟩ := g8 k hkk.1 hkk.2
        refine x_iload hM dL_isClosed_59 rfl ?_
        refine x_aload_n hM dL_isClosed_61 rfl rfl ?_
        refine x_iconst hM dL_isClosed_62 ?_
        refine x_callV hM wv_L_8 (o_c1 o1) ⟨Nat.le_of_ble_eq_true rfl, Nat.le_of_ble_eq_true rfl⟩ (ob_o o1) rfl rfl rfl rfl (Nat.le_of_ble_eq_true rfl) ⟨Nat.le_of_ble_eq_true rfl, Nat.le_of_ble_eq_true rfl⟩ dL_isClosed_63 (k_rI ?_)
        refine x_icmp_ge (tgt := 87) hM dL_isClosed_66 (by decide) (by omega) (by omega) (fun c_66 => ?_) (fun c_66 => ?_)
        · exfalso; omega
        · refine x_aload hM dL_isClosed_69 rfl ?_
          refine x_iload hM dL_isClosed_71 rfl ?_
          refine x_aload_n hM dL_isClosed_73 rfl rfl ?_
          refine x_iload hM dL_isClosed_74 rfl ?_
          refine x_callV hM wv_L_107 (o_mon o1 hkk) ⟨Nat.le_of_ble_eq_true rfl, Nat.le_of_ble_eq_true rfl⟩ (ob_o o1) rfl rfl rfl rfl (Nat.le_of_ble_eq_true rfl) ⟨Nat.le_of_ble_eq_true rfl, Nat.le_of_ble_eq_true rfl⟩ dL_isClosed_76 (k_rL ?_)
          refine x_l2i hM dL_isClosed_79 ?_
          rw [em, jJ_i32]
          refine x_iast hM m1 (by omega) dL_isClosed_80 ?_
          refine x_iinc hM dL_isClosed_81 rfl rfl rfl ?_
          refine x_goto (tgt := 59) hM dL_isClosed_84 (by decide) ?_
          refine ih (k + 1) _ _ (by omega) ⟨o1.kp (Kp.wS (by omega)), r1.kp (wS_ne (by omega)) (wS_ne (by omega)), t1.kp (wS_ne (by omega)) (wS_ne (by omega)), ⟨f4, (wS_ne (by omega)).trans c4⟩, ⟨f5, (wS_ne (by omega)).trans c5⟩, wS_eq⟩ (fun q a b => ?_)
          by_cases e : q = k
          · subst e; rw [fU_eq]; exact ⟨em, em1, em2⟩
          · rw [fU_ne e]; exact hm q a (by omega)
    refine x_aload_n hM dL_isClosed_39 rfl rfl ?_
    refine x_aload_n hM dL_isClosed_40 rfl rfl ?_
    refine x_aload_n hM dL_isClosed_41 rfl rfl ?_
    refine x_callS hM ws_L_45 (m_L_read o0 c0 c1 (by omega) (by omega)) ⟨Nat.le_of_ble_eq_true rfl, Nat.le_of_ble_eq_true rfl⟩ rfl rfl (Nat.le_of_ble_eq_true rfl) ⟨Nat.le_of_ble_eq_true rfl, Nat.le_of_ble_eq_true rfl⟩ dL_isClosed_42 (k_qV fun w_42 q_42 => ?_)
    obtain ⟨r1, f1⟩ := q_42
    obtain ⟨-, ff, gg, ⟨v1, v2, v3⟩, v4⟩ := id r1
    refine x_aload_n hM dL_isClosed_45 rfl rfl ?_
    refine x_aload_n hM dL_isClosed_46 rfl rfl ?_
    refine x_callS hM ws_L_103 (m_L_copy v1 ((f1 _ (by omega) (by omega)).trans c2) (by omega)) ⟨Nat.le_of_ble_eq_true rfl, Nat.le_of_ble_eq_true rfl⟩ rfl rfl (Nat.le_of_ble_eq_true rfl) ⟨Nat.le_of_ble_eq_true rfl, Nat.le_of_ble_eq_true rfl⟩ dL_isClosed_47 (k_qV fun w_47 q_47 => ?_)
    obtain ⟨ga, x1, x2, x3⟩ := q_47
    refine x_aload_n hM dL_isClosed_50 rfl rfl ?_
    refine x_aload hM dL_isClosed_51 rfl ?_
    refine x_callS hM ws_L_103 (m_L_copy ((x3 _ (by omega)).trans v2) ((x3 _ (by omega)).trans ((f1 _ (by omega) (by omega)).trans c3)) (by omega)) ⟨Nat.le_of_ble_eq_true rfl, Nat.le_of_ble_eq_true rfl⟩ rfl rfl (Nat.le_of_ble_eq_true rfl) ⟨Nat.le_of_ble_eq_true rfl, Nat.le_of_ble_eq_true rfl⟩ dL_isClosed_53 (k_qV fun w_53 q_53 => ?_)
    obtain ⟨gb, y1, y2, y3⟩ := q_53
    have nq : ∀ q : Nat, (q < z ∨ z + 4 ≤ q) → w_53 q = w7 q := fun q hq => (y3 q (by omega)).trans ((x3 q (by omega)).trans (f1 q (by omega) (by omega)))
    refine x_iconst hM dL_isClosed_56 ?_
    refine x_istore hM dL_isClosed_57 rfl (Nat.le_of_ble_eq_true rfl) rfl ?_
    exact B2 s.own.toNat 0 _ _ (by omega) ⟨o0.kp fun q a b => nq q (by omega), r1.kp ((y3 _ (by omega)).trans (x3 _ (by omega))) ((y3 _ (by omega)).trans (x3 _ (by omega))), rwA_cp hW v3 v4 ((y3 _ (by omega)).trans x1) y1 x2 y2, ⟨_, (nq _ (by omega)).trans c4⟩, ⟨_, (nq _ (by omega)).trans c5⟩, (nq _ (by omega)).trans c6⟩ (fun q a b => by omega)
  refine x_bipush hM dL_isClosed_0 rfl ?_
  refine x_newI  hM wy_int (by omega) rfl (by omega) (Nat.le_of_ble_eq_true rfl) (Nat.le_of_ble_eq_true rfl) dL_isClosed_2 ?_
  refine x_astore_n hM dL_isClosed_4 rfl rfl (Nat.le_of_ble_eq_true rfl) rfl ?_
  refine x_bipush hM dL_isClosed_5 rfl ?_
  refine x_newI  hM wy_int (by omega) rfl (by omega) (Nat.le_of_ble_eq_true rfl) (Nat.le_of_ble_eq_true rfl) dL_isClosed_7 ?_
  refine x_astore_n hM dL_isClosed_9 rfl rfl (Nat.le_of_ble_eq_true rfl) rfl ?_
  refine x_bipush hM dL_isClosed_10 rfl ?_
  refine x_newI  hM wy_int (by omega) rfl (by omega) (Nat.le_of_ble_eq_true rfl) (Nat.le_of_ble_eq_true rfl) dL_isClosed_12 ?_
  refine x_astore_n hM dL_isClosed_14 rfl rfl (Nat.le_of_ble_eq_true rfl) rfl ?_
  refine x_bipush hM dL_isClosed_15 rfl ?_
  refine x_newI  hM wy_int (by omega) rfl (by omega) (Nat.le_of_ble_eq_true rfl) (Nat.le_of_ble_eq_true rfl) dL_isClosed_17 ?_
  refine x_astore hM dL_isClosed_19 rfl (Nat.le_of_ble_eq_true rfl) rfl ?_
  refine x_bipush hM dL_isClosed_21 rfl ?_
  refine x_newI  hM wy_int (by omega) rfl (by omega) (Nat.le_of_ble_eq_true rfl) (Nat.le_of_ble_eq_true rfl) dL_isClosed_23 ?_
  refine x_astore hM dL_isClosed_25 rfl (Nat.le_of_ble_eq_true rfl) rfl ?_
  refine x_bipush hM dL_isClosed_27 rfl ?_
  refine x_newI  hM wy_int (by omega) rfl (by omega) (Nat.le_of_ble_eq_true rfl) (Nat.le_of_ble_eq_true rfl) dL_isClosed_29 ?_
  refine x_astore hM dL_isClosed_31 rfl (Nat.le_of_ble_eq_true rfl) rfl ?_
  refine x_bipush hM dL_isClosed_33 rfl ?_
  refine x_newI  hM wy_int (by omega) rfl (by omega) (Nat.le_of_ble_eq_true rfl) (Nat.le_of_ble_eq_true rfl) dL_isClosed_35 ?_
  refine x_astore hM dL_isClosed_37 rfl (Nat.le_of_ble_eq_true rfl) rfl ?_
  exact B _ (w7_ob h (by omega)) ((w7_lo (by omega)).trans w4_0) ((w7_lo (by omega)).trans w4_1) ((w7_lo (by omega)).trans w4_2) ((w7_lo (by omega)).trans w4_3) w7_4 w7_5 w7_6
