/-! RangeDeeds: what if -/
theorem sumF_nn {f : Int → Int} (h : ∀ o, 0 ≤ f o) : ∀ n : Nat, 0 ≤ sumF f n := by
  intro n
  induction n with
  | zero => exact Int.le_refl 0
  | succ n ih => have := h n; show 0 ≤ sumF f n + f n; omega
theorem sumF_one {a d : Int} {f : Int → Int} : ∀ n : Nat, sumF (fun o => (if a = o then d else 0) + f o) n = (if 0 ≤ a ∧ a < n then d else 0) + sumF f n := by
  intro n
  induction n with
  | zero => show (0 : Int) = _ + 0; rw [if_neg (by omega)]; rfl
  | succ n ih =>
    show sumF (fun o => (if a = o then d else 0) + f o) n + ((if a = (n : Int) then d else 0) + f n) = _ + (sumF f n + f n)
    rw [ih]
    by_cases h : a = n
    · rw [if_pos h, if_neg (by omega), if_pos (by omega)]; omega
    · rw [if_neg h]
      by_cases g : 0 ≤ a ∧ a < n
      · rw [if_pos g, if_pos (by omega)]; omega
      · rw [if_neg g, if_neg (by omega)]; omega
theorem mtsO_cons (x : Sg) (M : List Sg) (o : Int) : mtsO (x :: M) o = (if x.1 = o then x.2.2 - x.2.1 else 0) + mtsO M o := by
  first | rfl | (simp only [mtsO]; split <;> simp_all) | (simp only [mtsO])
theorem allM_cons (x : Sg) (M : List Sg) (h : 0 ≤ x.1 ∧ x.1 < 10) : allM (x :: M) = x.2.2 - x.2.1 + allM M := by
  unfold allM
  rw [sumF_ext (g := fun o => (if x.1 = o then x.2.2 - x.2.1 else 0) + mtsO M o) 10 (fun j _ _ => mtsO_cons x M j), sumF_one, if_pos (by omega)]
theorem allM_b {L : List Sg} (h : strW L) : 0 ≤ allM L ∧ allM L ≤ 420000 := by
  have gen : ∀ (M : List Sg), (∀ s ∈ M, okS s) → allM M ≤ 10000 * M.length := by
    intro M
    induction M with
    | nil => intro _; decide
    | cons x M ih =>
      intro hM
      have h1 := ih fun y hy => hM y (List.mem_cons_of_mem _ hy)
      have h2 := hM x List.mem_cons_self
      rw [allM_cons x M (by omega), List.length_cons]
      omega
  have g := gen L h.2
  have := h.1
  exact ⟨sumF_nn (fun o => (mtsO_nn L o h.2).1) 10, by omega⟩
def shrV (s : St) (o : Int) : Int := if 0 ≤ o ∧ o < s.own then bqF (mtsO s.L o) (allM s.L) else -1
theorem m_X6_shareBits {l : Launch} {G : xG} {w : Wd} {z x : Nat} {s : St} {o : Int} (hc : coA G w x s) (ho : iR o) : xMet l G yX6_shareBits cX6_shareBits 2 (some .int) ({ frames := 2, cells := 0, slots := 0, locals := 42 } : Room) [.ref x, .int (iI o)] w z (rI (shrV s o) w z) := by
  obtain ⟨hd, hr, -⟩ := id hc
  obtain ⟨w1, w2, w3⟩ := id hr.1
  have hS := rgaS hr
  have hb1 := mtsO_nn s.L o hS.1.2
  have hb2 := hS.1.1
  have hb3 := allM_b hS.1
  obtain ⟨hsW, go, gs, gl, gr, gm, hs, hL⟩ := id hS
  refine xMet_of RX6 rfl (by decide +kernel) false (by decide +kernel) (Nat.le_of_ble_eq_true rfl) rfl ?_
  intro P hM hR
  refine x_aload_n hM dX6_shareBits_0 rfl rfl ?_
  refine x_get hM wf_X6_12 wl_X6 (by first | assumption | exact dd_o (by assumption)) rfl dX6_shareBits_1 ?_
  refine x_iload_n hM dX6_shareBits_4 rfl rfl ?_
  refine x_callV hM wv_X6_114 (m_X3_hasOwner (by assumption) (by omega)) ⟨Nat.le_of_ble_eq_true rfl, Nat.le_of_ble_eq_true rfl⟩ (by first | assumption | exact reg_o (by assumption) | exact reg_a (by assumption)) rfl rfl rfl rfl (Nat.le_of_ble_eq_true rfl) ⟨Nat.le_of_ble_eq_true rfl, Nat.le_of_ble_eq_true rfl⟩ dX6_shareBits_5 (k_rI ?_)
  by_cases c1 : 0 ≤ o ∧ o < s.own
  · rw [if_pos c1]
    refine x_if_ne (tgt := 13) hM dX6_shareBits_8 (by decide) (by omega) (fun _ => ?_) (fun q => absurd q (by decide))
    refine x_aload_n hM dX6_shareBits_13 rfl rfl ?_
    refine x_get hM wf_X6_12 wl_X6 (by first | assumption | exact dd_o (by assumption)) rfl dX6_shareBits_14 ?_
    refine x_get hM wf_X6_92 wl_X3 (by first | assumption | exact reg_o (by assumption) | exact reg_a (by assumption)) rfl dX6_shareBits_17 ?_
    refine x_get hM wf_X6_120 wl_X5 (by first | assumption | exact str_o (by assumption) | exact str_a (by assumption)) rfl dX6_shareBits_20 ?_
    refine x_iload_n hM dX6_shareBits_23 rfl rfl ?_
    refine x_callV hM wv_X6_103 (m_X4_at (sr5 hs) (by omega)) ⟨Nat.le_of_ble_eq_true rfl, Nat.le_of_ble_eq_true rfl⟩ (row_o (sr5 hs)) rfl rfl rfl rfl (Nat.le_of_ble_eq_true rfl) ⟨Nat.le_of_ble_eq_true rfl, Nat.le_of_ble_eq_true rfl⟩ dX6_shareBits_24 (k_rI ?_)
    rw [(hL.2 o (by omega) (by omega)).2]
    refine x_aload_n hM dX6_shareBits_27 rfl rfl ?_
    refine x_get hM wf_X6_12 wl_X6 (by first | assumption | exact dd_o (by assumption)) rfl dX6_shareBits_28 ?_
    refine x_get hM wf_X6_92 wl_X3 (by first | assumption | exact reg_o (by assumption) | exact reg_a (by assumption)) rfl dX6_shareBits_31 ?_
    refine x_callV hM wv_X6_166 (m_X5_metersOfAll hs) ⟨Nat.le_of_ble_eq_true rfl, Nat.le_of_ble_eq_true rfl⟩ (str_a hS) rfl rfl rfl rfl (Nat.le_of_ble_eq_true rfl) ⟨Nat.le_of_ble_eq_true rfl, Nat.le_of_ble_eq_true rfl⟩ dX6_shareBits_34 (k_rI ?_)
    rw [allM_eq hL]
    refine x_callS hM ws_X6_193 (m_X6_bitsOfQuotient (by omega) (by omega)) ⟨Nat.le_of_ble_eq_true rfl, Nat.le_of_ble_eq_true rfl⟩ rfl rfl (Nat.le_of_ble_eq_true rfl) ⟨Nat.le_of_ble_eq_true rfl, Nat.le_of_ble_eq_true rfl⟩ dX6_shareBits_37 (k_rI ?_)
    refine hR.i dX6_shareBits_40 (Nat.zero_le _) (Nat.zero_le _) ?_
    exact p_rI (if_pos c1).symm
  · rw [if_neg c1]
    refine x_if_ne (tgt := 13) hM dX6_shareBits_8 (by decide) (by omega) (fun q => absurd rfl q) (fun _ => ?_)
    refine x_iconst hM dX6_shareBits_11 ?_
    refine hR.i dX6_shareBits_12 (Nat.zero_le _) (Nat.zero_le _) ?_
    exact p_rI (if_neg c1).symm
def holV (s : St) (n h : Int) : Int := if (1 ≤ n ∧ n ≤ 10000) ∧ 0 ≤ h ∧ h ≤ 2 then (if gfrF s.L n h = -6 then -6 else gapP s.L (gfrF s.L n h).toNat) else -2
theorem m_X6_hole {l : Launch} {G : xG} {w : Wd} {z x : Nat} {s : St} {n h : Int} (hc : coA G w x s) (hn : iR n) (hh : iR h) : xMet l G yX6_hole cX6_hole 4 (some .int) ({ frames := 4, cells := 0, slots := 0, locals := 89 } : Room) [.ref x, .int (iI n), .int (iI h)] w z (rI (holV s n h) w z) := by
  obtain ⟨hd, hr, -⟩ := id hc
  have hS := rgaS hr
  have hgf := gfrF_b s.L n h
  have hsl := hS.1.1
  refine xMet_of RX6 rfl (by decide +kernel) false (by decide +kernel) (Nat.le_of_ble_eq_true rfl) rfl ?_
  intro P hM hR
  refine x_iload_n hM dX6_hole_0 rfl rfl ?_
  refine x_callS hM ws_X6_196 (m_X6_isLength (by omega)) ⟨Nat.le_of_ble_eq_true rfl, Nat.le_of_ble_eq_true rfl⟩ rfl rfl (Nat.le_of_ble_eq_true rfl) ⟨Nat.le_of_ble_eq_true rfl, Nat.le_of_ble_eq_true rfl⟩ dX6_hole_1 (k_rI ?_)
  by_cases c1 : 1 ≤ n ∧ n ≤ 10000
  · rw [if_pos c1]
    refine x_if_eq (tgt := 16) hM dX6_hole_4 (by decide) (by omega) (fun q => absurd q (by decide)) (fun _ => ?_)
    refine x_iload_n hM dX6_hole_7 rfl rfl ?_
    refine x_if_lt (tgt := 16) hM dX6_hole_8 (by decide) (by omega) (fun c_8 => ?_) (fun c_8 => ?_)
    · refine x_bipush hM dX6_hole_16 rfl ?_
      refine hR.i dX6_hole_18 (Nat.zero_le _) (Nat.zero_le _) ?_
      exact p_rI (if_neg (by omega)).symm
    · refine x_iload_n hM dX6_hole_11 rfl rfl ?_
      refine x_iconst hM dX6_hole_12 ?_
      refine x_icmp_le (tgt := 19) hM dX6_hole_13 (by decide) (by omega) (by omega) (fun c_13 => ?_) (fun c_13 => ?_)
      · refine x_aload_n hM dX6_hole_19 rfl rfl ?_
        refine x_get hM wf_X6_12 wl_X6 (by first | assumption | exact dd_o (by assumption)) rfl dX6_hole_20 ?_
        refine x_get hM wf_X6_92 wl_X3 (by first | assumption | exact reg_o (by assumption) | exact reg_a (by assumption)) rfl dX6_hole_23 ?_
        refine x_iload_n hM dX6_hole_26 rfl rfl ?_
        refine x_iload_n hM dX6_hole_27 rfl rfl ?_
        refine x_callV hM wv_X6_199 (m_X5_gapFor (by assumption) (by omega) (by omega)) ⟨Nat.le_of_ble_eq_true rfl, Nat.le_of_ble_eq_true rfl⟩ (str_a hS) rfl rfl rfl rfl (Nat.le_of_ble_eq_true rfl) ⟨Nat.le_of_ble_eq_true rfl, Nat.le_of_ble_eq_true rfl⟩ dX6_hole_28 (k_rI ?_)
        refine x_istore_n hM dX6_hole_31 rfl rfl (Nat.le_of_ble_eq_true rfl) rfl ?_
        refine x_iload_n hM dX6_hole_32 rfl rfl ?_
        refine x_bipush hM dX6_hole_33 rfl ?_
        refine x_icmp_ne (tgt := 43) hM dX6_hole_35 (by decide) (by omega) (by omega) (fun c_35 => ?_) (fun c_35 => ?_)
        · refine x_aload_n hM dX6_hole_43 rfl rfl ?_
          refine x_get hM wf_X6_12 wl_X6 (by first | assumption | exact dd_o (by assumption)) rfl dX6_hole_44 ?_
          refine x_get hM wf_X6_92 wl_X3 (by first | assumption | exact reg_o (by assumption) | exact reg_a (by assumption)) rfl dX6_hole_47 ?_
          refine x_iload_n hM dX6_hole_50 rfl rfl ?_
          have c3 : ¬ gfrF s.L n h = -6 := by assumption
          rw [show gfrF s.L n h = ((gfrF s.L n h).toNat : Nat) by omega]
          refine x_callV hM wv_X6_202 (m_X5_startOfGap hS (by omega)) ⟨Nat.le_of_ble_eq_true rfl, Nat.le_of_ble_eq_true rfl⟩ (str_a hS) rfl rfl rfl rfl (Nat.le_of_ble_eq_true rfl) ⟨Nat.le_of_ble_eq_true rfl, Nat.le_of_ble_eq_true rfl⟩ dX6_hole_51 (k_rI ?_)
          refine hR.i dX6_hole_54 (Nat.zero_le _) (Nat.zero_le _) ?_
          have c4 : (1 ≤ n ∧ n ≤ 10000) ∧ 0 ≤ h ∧ h ≤ 2 := by omega
          first | exact p_rI ((if_pos c4).trans (if_pos (by assumption))).symm | exact p_rI ((if_pos c4).trans (if_neg (by omega))).symm
        · refine x_bipush hM dX6_hole_38 rfl ?_
          refine x_goto (tgt := 54) hM dX6_hole_40 (by decide) ?_
          refine hR.i dX6_hole_54 (Nat.zero_le _) (Nat.zero_le _) ?_
          have c4 : (1 ≤ n ∧ n ≤ 10000) ∧ 0 ≤ h ∧ h ≤ 2 := by omega
          first | exact p_rI ((if_pos c4).trans (if_pos (by assumption))).symm | exact p_rI ((if_pos c4).trans (if_neg (by omega))).symm
      · refine x_bipush hM dX6_hole_16 rfl ?_
        refine hR.i dX6_hole_18 (Nat.zero_le _) (Nat.zero_le _) ?_
        exact p_rI (if_neg (by omega)).symm
  · rw [if_neg c1]
    refine x_if_eq (tgt := 16) hM dX6_hole_4 (by decide) (by omega) (fun _ => ?_) (fun q => absurd rfl q)
    refine x_bipush hM dX6_hole_16 rfl ?_
    refine hR.i dX6_hole_18 (Nat.zero_le _) (Nat.zero_le _) ?_
    exact p_rI (if_neg (by omega)).symm
def wbeV (s : St) (o f n : Int) : Int := if 0 ≤ o ∧ o < s.own then (if isP f n then (becF s.L o f n).length else -2) else -1
theorem m_X6_wouldBe {l : Launch} {G : xG} {w : Wd} {z x : Nat} {s : St} {o f n : Int} (hc : coA G w x s) (ho : iR o) (hf : iR f) (hn : iR n) : xMet l G yX6_wouldBe cX6_wouldBe 4 (some .int) ({ frames := 3, cells := 0, slots := 0, locals := 73 } : Room) [.ref x, .int (iI o), .int (iI f), .int (iI n)] w z (qI z fun y w1 => y = wbeV s o f n ∧ coA G w1 x s ∧ Fr (x + 1) (x + 56) w w1) := by
  obtain ⟨hd, hr, -, T0, hT⟩ := id hc
  obtain ⟨w1, w2, w3⟩ := id hr.1
  have hS := rgaS hr
  refine xMet_of RX6 rfl (by decide +kernel) false (by decide +kernel) (Nat.le_of_ble_eq_true rfl) rfl ?_
  intro P hM hR
  refine x_aload_n hM dX6_wouldBe_0 rfl rfl ?_
  refine x_get hM wf_X6_12 wl_X6 (by first | assumption | exact dd_o (by assumption)) rfl dX6_wouldBe_1 ?_
  refine x_iload_n hM dX6_wouldBe_4 rfl rfl ?_
  refine x_callV hM wv_X6_114 (m_X3_hasOwner (by assumption) (by omega)) ⟨Nat.le_of_ble_eq_true rfl, Nat.le_of_ble_eq_true rfl⟩ (by first | assumption | exact reg_o (by assumption) | exact reg_a (by assumption)) rfl rfl rfl rfl (Nat.le_of_ble_eq_true rfl) ⟨Nat.le_of_ble_eq_true rfl, Nat.le_of_ble_eq_true rfl⟩ dX6_wouldBe_5 (k_rI ?_)
  by_cases c1 : 0 ≤ o ∧ o < s.own
  · rw [if_pos c1]
    refine x_if_ne (tgt := 13) hM dX6_wouldBe_8 (by decide) (by omega) (fun _ => ?_) (fun q => absurd q (by decide))
    refine x_iload_n hM dX6_wouldBe_13 rfl rfl ?_
    refine x_iload_n hM dX6_wouldBe_14 rfl rfl ?_
    refine x_callS hM ws_X6_205 (m_X6_isPiece (by omega) (by omega)) ⟨Nat.le_of_ble_eq_true rfl, Nat.le_of_ble_eq_true rfl⟩ rfl rfl (Nat.le_of_ble_eq_true rfl) ⟨Nat.le_of_ble_eq_true rfl, Nat.le_of_ble_eq_true rfl⟩ dX6_wouldBe_15 (k_rI ?_)
    by_cases c2 : isP f n
    · rw [if_pos c2]
      refine x_if_ne (tgt := 24) hM dX6_wouldBe_18 (by decide) (by omega) (fun _ => ?_) (fun q => absurd q (by decide))
      refine x_aload_n hM dX6_wouldBe_24 rfl rfl ?_
      refine x_get hM wf_X6_22 wl_X6 (by first | assumption | exact dd_o (by assumption)) rfl dX6_wouldBe_25 ?_
      refine x_aload_n hM dX6_wouldBe_28 rfl rfl ?_
      refine x_get hM wf_X6_12 wl_X6 (by first | assumption | exact dd_o (by assumption)) rfl dX6_wouldBe_29 ?_
      refine x_get hM wf_X6_92 wl_X3 (by first | assumption | exact reg_o (by assumption) | exact reg_a (by assumption)) rfl dX6_wouldBe_32 ?_
      refine x_iload_n hM dX6_wouldBe_35 rfl rfl ?_
      refine x_iload_n hM dX6_wouldBe_36 rfl rfl ?_
      refine x_iload_n hM dX6_wouldBe_37 rfl rfl ?_
      refine x_callV hM wv_X6_209 (m_X5_become hT hS (by omega) (by omega) (by omega)) ⟨Nat.le_of_ble_eq_true rfl, Nat.le_of_ble_eq_true rfl⟩ (str_a hT) rfl rfl rfl rfl (Nat.le_of_ble_eq_true rfl) ⟨Nat.le_of_ble_eq_true rfl, Nat.le_of_ble_eq_true rfl⟩ dX6_wouldBe_38 (k_qV fun w_38 q_38 => ?_)
      obtain ⟨qa, qf⟩ := q_38
      have hc1 := hc.uT qf qa
      refine x_aload_n hM dX6_wouldBe_41 rfl rfl ?_
      refine x_get hM wf_X6_22 wl_X6 hc1.1 rfl dX6_wouldBe_42 ?_
      refine x_get hM wf_X6_163 wl_X5 (str_a qa) rfl dX6_wouldBe_45 ?_
      refine hR.i dX6_wouldBe_48 (Nat.zero_le _) (Nat.zero_le _) ?_
      exact p_qI ⟨((if_pos c1).trans (if_pos c2)).symm, hc1, qf.mo (by omega) (by omega)⟩
    · rw [if_neg c2]
      refine x_if_ne (tgt := 24) hM dX6_wouldBe_18 (by decide) (by omega) (fun q => absurd rfl q) (fun _ => ?_)
      refine x_bipush hM dX6_wouldBe_21 rfl ?_
      refine hR.i dX6_wouldBe_23 (Nat.zero_le _) (Nat.zero_le _) ?_
      exact p_qI ⟨((if_pos c1).trans (if_neg c2)).symm, hc, Fr.rf⟩
  · rw [if_neg c1]
    refine x_if_ne (tgt := 13) hM dX6_wouldBe_8 (by decide) (by omega) (fun q => absurd rfl q) (fun _ => ?_)
    refine x_iconst hM dX6_wouldBe_11 ?_
    refine hR.i dX6_wouldBe_12 (Nat.zero_le _) (Nat.zero_le _) ?_
    exact p_qI ⟨(if_neg c1).symm, hc, Fr.rf⟩
def qstV (s : St) (n k : Int) : Int := if (1 ≤ n ∧ n ≤ 10000) ∧ 0 ≤ k ∧ k ≤ 1 then (if k = 0 then qstF s.L n else pcM (mskF s.L (qstF s.L n) n)) else -2
def gpsV (s : St) (o : Int) : Int := if 0 ≤ o ∧ o < s.own then mbtF s.L o else -1
theorem m_X6_gaps {l : Launch} {G : xG} {w : Wd} {z x : Nat} {s : St} {o : Int} (hc : coA G w x s) (ho : iR o) : xMet l G yX6_gaps cX6_gaps 2 (some .int) ({ frames := 3, cells := 0, slots := 0, locals := 66 } : Room) [.ref x, .int (iI o)] w z (rI (gpsV s o) w z) := by
  obtain ⟨hd, hr, -⟩ := id hc
  obtain ⟨w1, w2, w3⟩ := id hr.1
  have hS := rgaS hr
  refine xMet_of RX6 rfl (by decide +kernel) false (by decide +kernel) (Nat.le_of_ble_eq_true rfl) rfl ?_
  intro P hM hR
  refine x_aload_n hM dX6_gaps_0 rfl rfl ?_
  refine x_get hM wf_X6_12 wl_X6 (by first | assumption | exact dd_o (by assumption)) rfl dX6_gaps_1 ?_
  refine x_iload_n hM dX6_gaps_4 rfl rfl ?_
  refine x_callV hM wv_X6_114 (m_X3_hasOwner (by assumption) (by omega)) ⟨Nat.le_of_ble_eq_true rfl, Nat.le_of_ble_eq_true rfl⟩ (by first | assumption | exact reg_o (by assumption) | exact reg_a (by assumption)) rfl rfl rfl rfl (Nat.le_of_ble_eq_true rfl) ⟨Nat.le_of_ble_eq_true rfl, Nat.le_of_ble_eq_true rfl⟩ dX6_gaps_5 (k_rI ?_)
  by_cases c1 : 0 ≤ o ∧ o < s.own
  · rw [if_pos c1]
    refine x_if_eq (tgt := 25) hM dX6_gaps_8 (by decide) (by omega) (fun q => absurd q (by decide)) (fun _ => ?_)
    refine x_aload_n hM dX6_gaps_11 rfl rfl ?_
    refine x_get hM wf_X6_12 wl_X6 (by first | assumption | exact dd_o (by assumption)) rfl dX6_gaps_12 ?_
    refine x_get hM wf_X6_92 wl_X3 (by first | assumption | exact reg_o (by assumption) | exact reg_a (by assumption)) rfl dX6_gaps_15 ?_
    refine x_iload_n hM dX6_gaps_18 rfl rfl ?_
    refine x_callV hM wv_X6_219 (m_X5_metersBetween (by assumption) (by omega)) ⟨Nat.le_of_ble_eq_true rfl, Nat.le_of_ble_eq_true rfl⟩ (str_a hS) rfl rfl rfl rfl (Nat.le_of_ble_eq_true rfl) ⟨Nat.le_of_ble_eq_true rfl, Nat.le_of_ble_eq_true rfl⟩ dX6_gaps_19 (k_rI ?_)
    refine x_goto (tgt := 26) hM dX6_gaps_22 (by decide) ?_
    refine hR.i dX6_gaps_26 (Nat.zero_le _) (Nat.zero_le _) ?_
    first | exact p_rI (if_pos c1).symm | exact p_rI (if_neg c1).symm
  · rw [if_neg c1]
    refine x_if_eq (tgt := 25) hM dX6_gaps_8 (by decide) (by omega) (fun _ => ?_) (fun q => absurd rfl q)
    refine x_iconst hM dX6_gaps_25 ?_
    refine hR.i dX6_gaps_26 (Nat.zero_le _) (Nat.zero_le _) ?_
    first | exact p_rI (if_pos c1).symm | exact p_rI (if_neg c1).symm
def exV (s : St) (k : Int) : Int := if 0 ≤ k ∧ k ≤ 2 then exW s.L k else -2
def lsnV (s : St) (o : Int) : Int := if 0 ≤ o ∧ o < s.own then (if cntO s.L o ≤ 0 then -6 else dtlF (taxV s o) 300 1 (s.mon o)) else -1
theorem m_X6_losesIn {l : Launch} {G : xG} {w : Wd} {z x : Nat} {s : St} {o : Int} (hc : coA G w x s) (ho : iR o) : xMet l G yX6_losesIn cX6_losesIn 2 (some .int) ({ frames := 3, cells := 0, slots := 0, locals := 68 } : Room) [.ref x, .int (iI o)] w z (rI (lsnV s o) w z) := by
  obtain ⟨hd, hr, -⟩ := id hc
  obtain ⟨w1, w2, w3⟩ := id hr.1
  refine xMet_of RX6 rfl (by decide +kernel) false (by decide +kernel) (Nat.le_of_ble_eq_true rfl) rfl ?_
  intro P hM hR
  refine x_aload_n hM dX6_losesIn_0 rfl rfl ?_
  refine x_get hM wf_X6_12 wl_X6 (by first | assumption | exact dd_o (by assumption)) rfl dX6_losesIn_1 ?_
  refine x_iload_n hM dX6_losesIn_4 rfl rfl ?_
  refine x_callV hM wv_X6_114 (m_X3_hasOwner (by assumption) (by omega)) ⟨Nat.le_of_ble_eq_true rfl, Nat.le_of_ble_eq_true rfl⟩ (by first | assumption | exact reg_o (by assumption) | exact reg_a (by assumption)) rfl rfl rfl rfl (Nat.le_of_ble_eq_true rfl) ⟨Nat.le_of_ble_eq_true rfl, Nat.le_of_ble_eq_true rfl⟩ dX6_losesIn_5 (k_rI ?_)
  by_cases c1 : 0 ≤ o ∧ o < s.own
  · rw [if_pos c1]
    refine x_if_eq (tgt := 22) hM dX6_losesIn_8 (by decide) (by omega) (fun q => absurd q (by decide)) (fun _ => ?_)
    refine x_aload_n hM dX6_losesIn_11 rfl rfl ?_
    refine x_get hM wf_X6_12 wl_X6 (by first | assumption | exact dd_o (by assumption)) rfl dX6_losesIn_12 ?_
    refine x_iload_n hM dX6_losesIn_15 rfl rfl ?_
    refine x_callV hM wv_X6_225 (m_X3_daysToLoss (by assumption) (by omega)) ⟨Nat.le_of_ble_eq_true rfl, Nat.le_of_ble_eq_true rfl⟩ (by first | assumption | exact reg_o (by assumption) | exact reg_a (by assumption)) rfl rfl rfl rfl (Nat.le_of_ble_eq_true rfl) ⟨Nat.le_of_ble_eq_true rfl, Nat.le_of_ble_eq_true rfl⟩ dX6_losesIn_16 (k_rI ?_)
    refine x_goto (tgt := 23) hM dX6_losesIn_19 (by decide) ?_
    refine hR.i dX6_losesIn_23 (Nat.zero_le _) (Nat.zero_le _) ?_
    first | exact p_rI (if_pos c1).symm | exact p_rI (if_neg c1).symm
  · rw [if_neg c1]
    refine x_if_eq (tgt := 22) hM dX6_losesIn_8 (by decide) (by omega) (fun _ => ?_) (fun q => absurd rfl q)
    refine x_iconst hM dX6_losesIn_22 ?_
    refine hR.i dX6_losesIn_23 (Nat.zero_le _) (Nat.zero_le _) ?_
    first | exact p_rI (if_pos c1).symm | exact p_rI (if_neg c1).symm
