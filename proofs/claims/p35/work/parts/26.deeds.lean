/-! RangeDeeds: what arguments may be, and the changes -/
theorem m_X6_isSetting {l : Launch} {G : xG} {w : Wd} {z : Nat} {i : Int} (hi : iR i) : xMet l G yX6_isSetting cX6_isSetting 1 (some .boolean) ({ frames := 0, cells := 0, slots := 0, locals := 0 } : Room) [.int (iI i)] w z (rI (if 0 ≤ i ∧ i < 5 then 1 else 0) w z) := by
  refine xMet_of RX6 rfl (by decide +kernel) false (by decide +kernel) (Nat.le_of_ble_eq_true rfl) rfl ?_
  intro P hM hR
  refine x_iload_n hM dX6_isSetting_0 rfl rfl ?_
  refine x_if_lt (tgt := 13) hM dX6_isSetting_1 (by decide) (by omega) (fun c_1 => ?_) (fun c_1 => ?_)
  · refine x_iconst hM dX6_isSetting_13 ?_
    refine hR.b dX6_isSetting_14 rfl (Nat.zero_le _) (Nat.zero_le _) ?_
    exact p_rI (by first | rw [if_pos (by omega)] | rw [if_neg (by omega)])
  · refine x_iload_n hM dX6_isSetting_4 rfl rfl ?_
    refine x_iconst hM dX6_isSetting_5 ?_
    refine x_icmp_ge (tgt := 13) hM dX6_isSetting_6 (by decide) (by omega) (by omega) (fun c_6 => ?_) (fun c_6 => ?_)
    · refine x_iconst hM dX6_isSetting_13 ?_
      refine hR.b dX6_isSetting_14 rfl (Nat.zero_le _) (Nat.zero_le _) ?_
      exact p_rI (by first | rw [if_pos (by omega)] | rw [if_neg (by omega)])
    · refine x_iconst hM dX6_isSetting_9 ?_
      refine x_goto (tgt := 14) hM dX6_isSetting_10 (by decide) ?_
      refine hR.b dX6_isSetting_14 rfl (Nat.zero_le _) (Nat.zero_le _) ?_
      exact p_rI (by first | rw [if_pos (by omega)] | rw [if_neg (by omega)])
theorem m_X6_isAmount {l : Launch} {G : xG} {w : Wd} {z : Nat} {i : Int} (hi : iR i) : xMet l G yX6_isAmount cX6_isAmount 1 (some .boolean) ({ frames := 0, cells := 0, slots := 0, locals := 0 } : Room) [.int (iI i)] w z (rI (if 0 ≤ i ∧ i ≤ 1000000 then 1 else 0) w z) := by
  refine xMet_of RX6 rfl (by decide +kernel) false (by decide +kernel) (Nat.le_of_ble_eq_true rfl) rfl ?_
  intro P hM hR
  refine x_iload_n hM dX6_isAmount_0 rfl rfl ?_
  refine x_if_lt (tgt := 15) hM dX6_isAmount_1 (by decide) (by omega) (fun c_1 => ?_) (fun c_1 => ?_)
  · refine x_iconst hM dX6_isAmount_15 ?_
    refine hR.b dX6_isAmount_16 rfl (Nat.zero_le _) (Nat.zero_le _) ?_
    exact p_rI (by first | rw [if_pos (by omega)] | rw [if_neg (by omega)])
  · refine x_iload_n hM dX6_isAmount_4 rfl rfl ?_
    refine x_ldcw hM dX6_isAmount_5 wc_X6_262 ?_
    refine x_icmp_gt (tgt := 15) hM dX6_isAmount_8 (by decide) (by omega) (by omega) (fun c_8 => ?_) (fun c_8 => ?_)
    · refine x_iconst hM dX6_isAmount_15 ?_
      refine hR.b dX6_isAmount_16 rfl (Nat.zero_le _) (Nat.zero_le _) ?_
      exact p_rI (by first | rw [if_pos (by omega)] | rw [if_neg (by omega)])
    · refine x_iconst hM dX6_isAmount_11 ?_
      refine x_goto (tgt := 16) hM dX6_isAmount_12 (by decide) ?_
      refine hR.b dX6_isAmount_16 rfl (Nat.zero_le _) (Nat.zero_le _) ?_
      exact p_rI (by first | rw [if_pos (by omega)] | rw [if_neg (by omega)])
theorem m_X6_isLength {l : Launch} {G : xG} {w : Wd} {z : Nat} {i : Int} (hi : iR i) : xMet l G yX6_isLength cX6_isLength 1 (some .boolean) ({ frames := 0, cells := 0, slots := 0, locals := 0 } : Room) [.int (iI i)] w z (rI (if 1 ≤ i ∧ i ≤ 10000 then 1 else 0) w z) := by
  refine xMet_of RX6 rfl (by decide +kernel) false (by decide +kernel) (Nat.le_of_ble_eq_true rfl) rfl ?_
  intro P hM hR
  refine x_iload_n hM dX6_isLength_0 rfl rfl ?_
  refine x_iconst hM dX6_isLength_1 ?_
  refine x_icmp_lt (tgt := 16) hM dX6_isLength_2 (by decide) (by omega) (by omega) (fun c_2 => ?_) (fun c_2 => ?_)
  · refine x_iconst hM dX6_isLength_16 ?_
    refine hR.b dX6_isLength_17 rfl (Nat.zero_le _) (Nat.zero_le _) ?_
    exact p_rI (by first | rw [if_pos (by omega)] | rw [if_neg (by omega)])
  · refine x_iload_n hM dX6_isLength_5 rfl rfl ?_
    refine x_sipush hM dX6_isLength_6 rfl ?_
    refine x_icmp_gt (tgt := 16) hM dX6_isLength_9 (by decide) (by omega) (by omega) (fun c_9 => ?_) (fun c_9 => ?_)
    · refine x_iconst hM dX6_isLength_16 ?_
      refine hR.b dX6_isLength_17 rfl (Nat.zero_le _) (Nat.zero_le _) ?_
      exact p_rI (by first | rw [if_pos (by omega)] | rw [if_neg (by omega)])
    · refine x_iconst hM dX6_isLength_12 ?_
      refine x_goto (tgt := 17) hM dX6_isLength_13 (by decide) ?_
      refine hR.b dX6_isLength_17 rfl (Nat.zero_le _) (Nat.zero_le _) ?_
      exact p_rI (by first | rw [if_pos (by omega)] | rw [if_neg (by omega)])
abbrev isP (f n : Int) : Prop := 0 ≤ f ∧ f < 10000 ∧ 1 ≤ n ∧ n ≤ 10000 ∧ f + n ≤ 10000
theorem m_X6_isPiece {l : Launch} {G : xG} {w : Wd} {z : Nat} {f n : Int} (hf : iR f) (hn : iR n) : xMet l G yX6_isPiece cX6_isPiece 2 (some .boolean) ({ frames := 1, cells := 0, slots := 0, locals := 20 } : Room) [.int (iI f), .int (iI n)] w z (rI (if isP f n then 1 else 0) w z) := by
  refine xMet_of RX6 rfl (by decide +kernel) false (by decide +kernel) (Nat.le_of_ble_eq_true rfl) rfl ?_
  intro P hM hR
  refine x_iload_n hM dX6_isPiece_0 rfl rfl ?_
  refine x_if_lt (tgt := 31) hM dX6_isPiece_1 (by decide) (by omega) (fun c_1 => ?_) (fun c_1 => ?_)
  · refine x_iconst hM dX6_isPiece_31 ?_
    refine hR.b dX6_isPiece_32 rfl (Nat.zero_le _) (Nat.zero_le _) ?_
    exact p_rI (by first | rw [if_pos (by omega)] | rw [if_neg (by omega)])
  · refine x_iload_n hM dX6_isPiece_4 rfl rfl ?_
    refine x_sipush hM dX6_isPiece_5 rfl ?_
    refine x_icmp_ge (tgt := 31) hM dX6_isPiece_8 (by decide) (by omega) (by omega) (fun c_8 => ?_) (fun c_8 => ?_)
    · refine x_iconst hM dX6_isPiece_31 ?_
      refine hR.b dX6_isPiece_32 rfl (Nat.zero_le _) (Nat.zero_le _) ?_
      exact p_rI (by first | rw [if_pos (by omega)] | rw [if_neg (by omega)])
    · refine x_iload_n hM dX6_isPiece_11 rfl rfl ?_
      refine x_callS hM ws_X6_196 (m_X6_isLength (by omega)) ⟨Nat.le_of_ble_eq_true rfl, Nat.le_of_ble_eq_true rfl⟩ rfl rfl (Nat.le_of_ble_eq_true rfl) ⟨Nat.le_of_ble_eq_true rfl, Nat.le_of_ble_eq_true rfl⟩ dX6_isPiece_12 (k_rI ?_)
      by_cases b1 : 1 ≤ n ∧ n ≤ 10000
      · rw [if_pos b1]
        refine x_if_eq (tgt := 31) hM dX6_isPiece_15 (by decide) (by omega) (fun q => absurd q (by decide)) (fun _ => ?_)
        refine x_iload_n hM dX6_isPiece_18 rfl rfl ?_
        refine x_iload_n hM dX6_isPiece_19 rfl rfl ?_
        refine x_iadd hM dX6_isPiece_20 ?_
        refine x_sipush hM dX6_isPiece_21 rfl ?_
        refine x_icmp_gt (tgt := 31) hM dX6_isPiece_24 (by decide) (by omega) (by omega) (fun c_24 => ?_) (fun c_24 => ?_)
        · refine x_iconst hM dX6_isPiece_31 ?_
          refine hR.b dX6_isPiece_32 rfl (Nat.zero_le _) (Nat.zero_le _) ?_
          exact p_rI (by first | rw [if_pos (by omega)] | rw [if_neg (by omega)])
        · refine x_iconst hM dX6_isPiece_27 ?_
          refine x_goto (tgt := 32) hM dX6_isPiece_28 (by decide) ?_
          refine hR.b dX6_isPiece_32 rfl (Nat.zero_le _) (Nat.zero_le _) ?_
          exact p_rI (by first | rw [if_pos (by omega)] | rw [if_neg (by omega)])
      · rw [if_neg b1]
        refine x_if_eq (tgt := 31) hM dX6_isPiece_15 (by decide) (by omega) (fun _ => ?_) (fun q => absurd rfl q)
        refine x_iconst hM dX6_isPiece_31 ?_
        refine hR.b dX6_isPiece_32 rfl (Nat.zero_le _) (Nat.zero_le _) ?_
        exact p_rI (by first | rw [if_pos (by omega)] | rw [if_neg (by omega)])
def coA (G : xG) (w : Wd) (x : Nat) (s : St) : Prop := w x = some (.inr (6, [.ref (x + 1), .ref (x + 23), .ref (x + 45), .ref (x + 56), .ref (x + 212), .ref (x + 213)])) ∧ regA G w (x + 1) s ∧ (∃ s1, regA G w (x + 23) s1) ∧ ∃ T, strA G w (x + 45) T
theorem dd_o {G : xG} {w : Wd} {x : Nat} {s : St} (h : coA G w x s) : w x = some (.inr (6, [.ref (x + 1), .ref (x + 23), .ref (x + 45), .ref (x + 56), .ref (x + 212), .ref (x + 213)])) := h.1
theorem coA.kp {G : xG} {w w1 : Wd} {x lo hi : Nat} {s : St} (h : coA G w x s) (k : Fr lo hi w w1) (a : x + 56 ≤ lo ∨ hi ≤ x) : coA G w1 x s := by
  obtain ⟨h1, h2, ⟨s1, h3⟩, T, h4⟩ := h
  exact ⟨(k _ (by omega)).trans h1, h2.kp k (by omega), ⟨s1, h3.kp k (by omega)⟩, T, h4.kp k (by omega)⟩
/-- the register anew -/
theorem coA.uR {G : xG} {w w1 : Wd} {x : Nat} {s s2 : St} (h : coA G w x s) (k : Fr (x + 1) (x + 1 + 22) w w1) (r : regA G w1 (x + 1) s2) : coA G w1 x s2 := by
  obtain ⟨h1, h2, ⟨s1, h3⟩, T, h4⟩ := h
  exact ⟨(k _ (by omega)).trans h1, r, ⟨s1, h3.kp k (by omega)⟩, T, h4.kp k (by omega)⟩
theorem coA.uT {G : xG} {w w1 : Wd} {x : Nat} {s : St} {T : List Sg} (h : coA G w x s) (k : Fr (x + 45) (x + 45 + 11) w w1) (r : strA G w1 (x + 45) T) : coA G w1 x s := by
  obtain ⟨h1, h2, ⟨s1, h3⟩, T0, h4⟩ := h
  exact ⟨(k _ (by omega)).trans h1, h2.kp k (by omega), ⟨s1, h3.kp k (by omega)⟩, T, r⟩
theorem coA.uH {G : xG} {w w1 : Wd} {x : Nat} {s s2 : St} (h : coA G w x s) (k : Fr (x + 23) (x + 23 + 22) w w1) (r : regA G w1 (x + 23) s2) : coA G w1 x s := by
  obtain ⟨h1, h2, ⟨s1, h3⟩, T, h4⟩ := h
  exact ⟨(k _ (by omega)).trans h1, h2.kp k (by omega), ⟨s2, r⟩, T, h4.kp k (by omega)⟩
/-- the street of the register anew -/
theorem regA.uS {G : xG} {w w1 : Wd} {r : Nat} {s : St} {L : List Sg} (h : regA G w r s) (k : Fr (r + 1) (r + 1 + 11) w w1) (q : strA G w1 (r + 1) L) : regA G w1 r (mkS L s.set s.mon s.tax s.los s.D s.own s.day s.clo s.fee) := by
  obtain ⟨hW, fs, fp, ft, fx, hr, e⟩ := h
  exact ⟨hW, fs, fp, ft, fx, hr.uS k q, e⟩
theorem mtw_b {L : List Sg} (o a n : Int) (hL : strW L) (ha : 0 ≤ a ∧ 0 ≤ n) : 0 ≤ mtwF L o a n ∧ mtwF L o a n ≤ 420000 := by
  have gen : ∀ (M : List Sg) (c : Int), (∀ x ∈ M, okS x) → 0 ≤ c → 0 ≤ M.foldl (mtwS o a n) c ∧ M.foldl (mtwS o a n) c ≤ c + 10000 * M.length := by
    intro M
    induction M with
    | nil => intro c _ hc; simp only [List.foldl_nil, List.length_nil]; omega
    | cons x M ih =>
      intro c hx hc
      have hx1 := ovF_b (a := a) (n := n) (hx x List.mem_cons_self) ha
      have h5 : 0 ≤ mtwS o a n c x ∧ mtwS o a n c x ≤ c + 10000 := by unfold mtwS; split <;> omega
      have := ih (mtwS o a n c x) (fun y hy => hx y (List.mem_cons_of_mem _ hy)) h5.1
      simp only [List.foldl_cons, List.length_cons]
      omega
  have := gen L 0 hL.2 (by omega)
  have := hL.1
  unfold mtwF
  omega
abbrev opP (G : xG) (w : Wd) (z x : Nat) (r : Int × St) : xPo := qI z fun y w1 => y = r.1 ∧ coA G w1 x r.2 ∧ Fr (x + 1) (x + 56) w w1
theorem p_op {G : xG} {w w1 : Wd} {z x : Nat} {r : Int × St} {y : Int} {s : St} (e : r = (y, s)) (h : coA G w1 x s) (f : Fr (x + 1) (x + 56) w w1) : opP G w z x r (some (.int (iI y))) w1 z := by
  subst e
  exact p_qI ⟨rfl, h, f⟩
def setF (s : St) (i v : Int) : Int × St := if 0 ≤ i ∧ i < 5 then (if v < sv_f 1 i then (-2, s) else if sv_f 2 i < v then (-2, s) else (s.set i, mkS s.L (fU s.set i v) s.mon s.tax s.los s.D s.own s.day s.clo s.fee)) else (-2, s)
theorem setF_W {s : St} {i v : Int} (h : regW s) (hi : 0 ≤ i ∧ i < 5) (h1 : sv_f 1 i ≤ v) (h2 : v ≤ sv_f 2 i) : regW (mkS s.L (fU s.set i v) s.mon s.tax s.los s.D s.own s.day s.clo s.fee) := by
  obtain ⟨a1, a2, a3, a4, a5, a6, a7⟩ := h
  unfold sv_f at h1 h2
  have k : ∀ j : Int, fU s.set i v j = if j = i then v else s.set j := fun j => rfl
  refine ⟨a1, a2, ?_, ?_, ?_, ?_, ?_⟩ <;> (simp only [mkS, St.set, k]; simp only at h1 h2; split <;> split at h1 <;> omega)
theorem m_X6_changeSetting {l : Launch} {G : xG} {w : Wd} {z x : Nat} {s : St} {i v : Int} (hc : coA G w x s) (hi : iR i) (hv : iR v) : xMet l G yX6_changeSetting cX6_changeSetting 4 (some .int) ({ frames := 1, cells := 0, slots := 0, locals := 22 } : Room) [.ref x, .int (iI i), .int (iI v)] w z (opP G w z x (setF s i v)) := by
  obtain ⟨hd, hr, -⟩ := id hc
  obtain ⟨hW, fs, fp, ft, fx, hg, e1, e2, e3, e4⟩ := id hr
  have b1 : -10 ≤ sv_f 1 i ∧ sv_f 1 i ≤ 10000 := by unfold sv_f; simp only; split <;> omega
  have b2 : -10 ≤ sv_f 2 i ∧ sv_f 2 i ≤ 10000 := by unfold sv_f; simp only; split <;> (try split) <;> omega
  refine xMet_of RX6 rfl (by decide +kernel) false (by decide +kernel) (Nat.le_of_ble_eq_true rfl) rfl ?_
  intro P hM hR
  refine x_iload_n hM dX6_changeSetting_0 rfl rfl ?_
  refine x_callS hM ws_X6_187 (m_X6_isSetting (by omega)) ⟨Nat.le_of_ble_eq_true rfl, Nat.le_of_ble_eq_true rfl⟩ rfl rfl (Nat.le_of_ble_eq_true rfl) ⟨Nat.le_of_ble_eq_true rfl, Nat.le_of_ble_eq_true rfl⟩ dX6_changeSetting_1 (k_rI ?_)
  by_cases c1 : 0 ≤ i ∧ i < 5
  · rw [if_pos c1]
    refine x_if_eq (tgt := 25) hM dX6_changeSetting_4 (by decide) (by omega) (fun q => absurd q (by decide)) (fun _ => ?_)
    refine x_iload_n hM dX6_changeSetting_7 rfl rfl ?_
    refine x_gets hM 1 (by decide) wt_X6_263 dX6_changeSetting_8 ?_
    refine x_iload_n hM dX6_changeSetting_11 rfl rfl ?_
    refine x_tald hM (by decide) (by omega) dX6_changeSetting_12 ?_
    refine x_icmp_lt (tgt := 25) hM dX6_changeSetting_13 (by decide) (by omega) (by omega) (fun c_13 => ?_) (fun c_13 => ?_)
    · refine x_bipush hM dX6_changeSetting_25 rfl ?_
      refine hR.i dX6_changeSetting_27 (Nat.zero_le _) (Nat.zero_le _) ?_
      first | exact p_op (if_neg c1) hc Fr.rf | exact p_op ((if_pos c1).trans (if_pos (by assumption))) hc Fr.rf | exact p_op ((if_pos c1).trans ((if_neg (by omega)).trans (if_pos (by assumption)))) hc Fr.rf
    · refine x_iload_n hM dX6_changeSetting_16 rfl rfl ?_
      refine x_gets hM 2 (by decide) wt_X6_267 dX6_changeSetting_17 ?_
      refine x_iload_n hM dX6_changeSetting_20 rfl rfl ?_
      refine x_tald hM (by decide) (by omega) dX6_changeSetting_21 ?_
      refine x_icmp_le (tgt := 28) hM dX6_changeSetting_22 (by decide) (by omega) (by omega) (fun c_22 => ?_) (fun c_22 => ?_)
      · refine x_aload_n hM dX6_changeSetting_28 rfl rfl ?_
        refine x_get hM wf_X6_12 wl_X6 (by first | assumption | exact dd_o (by assumption)) rfl dX6_changeSetting_29 ?_
        refine x_get hM wf_X6_190 wl_X3 (by first | assumption | exact reg_o (by assumption) | exact reg_a (by assumption)) rfl dX6_changeSetting_32 ?_
        refine x_iload_n hM dX6_changeSetting_35 rfl rfl ?_
        refine x_callV hM wv_X6_103 (m_X4_at (rg1 hg) (by omega)) ⟨Nat.le_of_ble_eq_true rfl, Nat.le_of_ble_eq_true rfl⟩ (row_o (rg1 hg)) rfl rfl rfl rfl (Nat.le_of_ble_eq_true rfl) ⟨Nat.le_of_ble_eq_true rfl, Nat.le_of_ble_eq_true rfl⟩ dX6_changeSetting_36 (k_rI ?_)
        rw [e1 i (by omega) (by omega)]
        refine x_istore_n hM dX6_changeSetting_39 rfl rfl (Nat.le_of_ble_eq_true rfl) rfl ?_
        refine x_aload_n hM dX6_changeSetting_40 rfl rfl ?_
        refine x_get hM wf_X6_12 wl_X6 (by first | assumption | exact dd_o (by assumption)) rfl dX6_changeSetting_41 ?_
        refine x_get hM wf_X6_190 wl_X3 (by first | assumption | exact reg_o (by assumption) | exact reg_a (by assumption)) rfl dX6_changeSetting_44 ?_
        refine x_iload_n hM dX6_changeSetting_47 rfl rfl ?_
        refine x_iload_n hM dX6_changeSetting_48 rfl rfl ?_
        refine x_callV hM wv_X6_270 (m_X4_store (rg1 hg) (by omega)) ⟨Nat.le_of_ble_eq_true rfl, Nat.le_of_ble_eq_true rfl⟩ (row_o (rg1 hg)) rfl rfl rfl rfl (Nat.le_of_ble_eq_true rfl) ⟨Nat.le_of_ble_eq_true rfl, Nat.le_of_ble_eq_true rfl⟩ dX6_changeSetting_49 (k_qV fun w_49 q_49 => ?_)
        refine x_iload_n hM dX6_changeSetting_52 rfl rfl ?_
        refine hR.i dX6_changeSetting_53 (Nat.zero_le _) (Nat.zero_le _) ?_
        subst q_49
        exact p_op ((if_pos c1).trans ((if_neg (by omega)).trans (if_neg (by omega)))) (hc.uR (Fr.wS (by omega) (by omega)) ⟨setF_W hW c1 (by omega) (by omega), _, _, _, _, hg.u1, eqR_up e1 _ _, e2, e3, e4⟩) (Fr.wS (by omega) (by omega))
      · refine x_bipush hM dX6_changeSetting_25 rfl ?_
        refine hR.i dX6_changeSetting_27 (Nat.zero_le _) (Nat.zero_le _) ?_
        first | exact p_op (if_neg c1) hc Fr.rf | exact p_op ((if_pos c1).trans (if_pos (by assumption))) hc Fr.rf | exact p_op ((if_pos c1).trans ((if_neg (by omega)).trans (if_pos (by assumption)))) hc Fr.rf
  · rw [if_neg c1]
    refine x_if_eq (tgt := 25) hM dX6_changeSetting_4 (by decide) (by omega) (fun _ => ?_) (fun q => absurd rfl q)
    refine x_bipush hM dX6_changeSetting_25 rfl ?_
    refine hR.i dX6_changeSetting_27 (Nat.zero_le _) (Nat.zero_le _) ?_
    first | exact p_op (if_neg c1) hc Fr.rf | exact p_op ((if_pos c1).trans (if_pos (by assumption))) hc Fr.rf | exact p_op ((if_pos c1).trans ((if_neg (by omega)).trans (if_pos (by assumption)))) hc Fr.rf
def ownF (s : St) (m : Int) : Int × St := if 0 ≤ m ∧ m ≤ 1000000 then (if 10 ≤ s.own then (-4, s) else (s.own, mkS s.L s.set (fU s.mon s.own (s.mon s.own + jJ m)) s.tax s.los s.D (s.own + 1) s.day s.clo s.fee)) else (-2, s)
theorem m_X6_addOwner {l : Launch} {G : xG} {w : Wd} {z x : Nat} {s : St} {m : Int} (hc : coA G w x s) (hm : iR m) : xMet l G yX6_addOwner cX6_addOwner 3 (some .int) ({ frames := 1, cells := 0, slots := 0, locals := 23 } : Room) [.ref x, .int (iI m)] w z (opP G w z x (ownF s m)) := by
  obtain ⟨hd, hr, -⟩ := id hc
  obtain ⟨hW, fs, fp, ft, fx, hg, e1, e2, e3, e4⟩ := id hr
  obtain ⟨w1, w2, w3⟩ := id hW
  refine xMet_of RX6 rfl (by decide +kernel) false (by decide +kernel) (Nat.le_of_ble_eq_true rfl) rfl ?_
  intro P hM hR
  refine x_iload_n hM dX6_addOwner_0 rfl rfl ?_
  refine x_callS hM ws_X6_274 (m_X6_isAmount (by omega)) ⟨Nat.le_of_ble_eq_true rfl, Nat.le_of_ble_eq_true rfl⟩ rfl rfl (Nat.le_of_ble_eq_true rfl) ⟨Nat.le_of_ble_eq_true rfl, Nat.le_of_ble_eq_true rfl⟩ dX6_addOwner_1 (k_rI ?_)
  by_cases c1 : 0 ≤ m ∧ m ≤ 1000000
  · rw [if_pos c1]
    refine x_if_ne (tgt := 10) hM dX6_addOwner_4 (by decide) (by omega) (fun _ => ?_) (fun q => absurd q (by decide))
    refine x_aload_n hM dX6_addOwner_10 rfl rfl ?_
    refine x_get hM wf_X6_12 wl_X6 (by first | assumption | exact dd_o (by assumption)) rfl dX6_addOwner_11 ?_
    refine x_get hM wf_X6_160 wl_X3 (by first | assumption | exact reg_o (by assumption) | exact reg_a (by assumption)) rfl dX6_addOwner_14 ?_
    refine x_bipush hM dX6_addOwner_17 rfl ?_
    refine x_icmp_lt (tgt := 25) hM dX6_addOwner_19 (by decide) (by omega) (by omega) (fun c_19 => ?_) (fun c_19 => ?_)
    · refine x_aload_n hM dX6_addOwner_25 rfl rfl ?_
      refine x_get hM wf_X6_12 wl_X6 (by first | assumption | exact dd_o (by assumption)) rfl dX6_addOwner_26 ?_
      refine x_get hM wf_X6_160 wl_X3 (by first | assumption | exact reg_o (by assumption) | exact reg_a (by assumption)) rfl dX6_addOwner_29 ?_
      refine x_istore_n hM dX6_addOwner_32 rfl rfl (Nat.le_of_ble_eq_true rfl) rfl ?_
      refine x_aload_n hM dX6_addOwner_33 rfl rfl ?_
      refine x_get hM wf_X6_12 wl_X6 (by first | assumption | exact dd_o (by assumption)) rfl dX6_addOwner_34 ?_
      refine x_iload_n hM dX6_addOwner_37 rfl rfl ?_
      refine x_iconst hM dX6_addOwner_38 ?_
      refine x_iadd hM dX6_addOwner_39 ?_
      refine x_put hM wf_X6_160 wl_X3 (by first | assumption | exact reg_o (by assumption) | exact reg_a (by assumption)) wq_X6_160 rfl rfl (Nat.le_of_ble_eq_true rfl) rfl dX6_addOwner_40 ?_
      have hA : regA G (wS w (x + 1) (.inr (3, [.ref (x + 1 + 1), .ref (x + 1 + 12), .ref (x + 1 + 15), .ref (x + 1 + 17), .ref (x + 1 + 18), .ref (x + 1 + 20), .int (iI (s.own + 1)), .int (iI s.day), .int (iI s.clo), .int (iI s.fee)]))) (x + 1) (mkS s.L s.set s.mon s.tax s.los s.D (s.own + 1) s.day s.clo s.fee) := ⟨⟨by show 0 ≤ s.own + 1; omega, by show s.own + 1 ≤ 10; omega, w3⟩, _, _, _, _, hg.u0, e1, e2, e3, e4⟩
      have hd2 := hc.uR (Fr.wS (by omega) (by omega)) hA
      refine x_aload_n hM dX6_addOwner_43 rfl rfl ?_
      refine x_get hM wf_X6_12 wl_X6 (by first | assumption | exact dd_o (by assumption)) rfl dX6_addOwner_44 ?_
      refine x_iload_n hM dX6_addOwner_47 rfl rfl ?_
      refine x_iload_n hM dX6_addOwner_48 rfl rfl ?_
      refine x_i2l hM dX6_addOwner_49 ?_
      rw [iI_long (by omega)]
      refine x_callV hM wv_X6_277 (m_X3_earn hA (by omega)) ⟨Nat.le_of_ble_eq_true rfl, Nat.le_of_ble_eq_true rfl⟩ (reg_a hA) rfl rfl rfl rfl (Nat.le_of_ble_eq_true rfl) ⟨Nat.le_of_ble_eq_true rfl, Nat.le_of_ble_eq_true rfl⟩ dX6_addOwner_50 (k_qV fun w_50 q_50 => ?_)
      obtain ⟨qa, qf⟩ := q_50
      refine x_iload_n hM dX6_addOwner_53 rfl rfl ?_
      refine hR.i dX6_addOwner_54 (Nat.zero_le _) (Nat.zero_le _) ?_
      exact p_op ((if_pos c1).trans (if_neg (by omega))) (hd2.uR qf qa) ((Fr.wS (by omega) (by omega)).tr (qf.mo (by omega) (by omega)))
    · refine x_bipush hM dX6_addOwner_22 rfl ?_
      refine hR.i dX6_addOwner_24 (Nat.zero_le _) (Nat.zero_le _) ?_
      exact p_op ((if_pos c1).trans (if_pos (by assumption))) hc Fr.rf
  · rw [if_neg c1]
    refine x_if_ne (tgt := 10) hM dX6_addOwner_4 (by decide) (by omega) (fun q => absurd rfl q) (fun _ => ?_)
    refine x_bipush hM dX6_addOwner_7 rfl ?_
    refine hR.i dX6_addOwner_9 (Nat.zero_le _) (Nat.zero_le _) ?_
    exact p_op (if_neg c1) hc Fr.rf
def payF (s : St) (o c : Int) : Int × St := if 0 ≤ o ∧ o < s.own then (if 0 ≤ c ∧ c ≤ 1000000 then ((if s.mon o + jJ c < jJ 0 then 0 else 1), earnF s o (jJ c)) else (-2, s)) else (-1, s)
theorem m_X6_payIn {l : Launch} {G : xG} {w : Wd} {z x : Nat} {s : St} {o c : Int} (hc : coA G w x s) (ho : iR o) (hm : iR c) : xMet l G yX6_payIn cX6_payIn 3 (some .int) ({ frames := 1, cells := 0, slots := 0, locals := 23 } : Room) [.ref x, .int (iI o), .int (iI c)] w z (opP G w z x (payF s o c)) := by
  obtain ⟨hd, hr, -⟩ := id hc
  obtain ⟨w1, w2, w3⟩ := id hr.1
  refine xMet_of RX6 rfl (by decide +kernel) false (by decide +kernel) (Nat.le_of_ble_eq_true rfl) rfl ?_
  intro P hM hR
  refine x_aload_n hM dX6_payIn_0 rfl rfl ?_
  refine x_get hM wf_X6_12 wl_X6 (by first | assumption | exact dd_o (by assumption)) rfl dX6_payIn_1 ?_
  refine x_iload_n hM dX6_payIn_4 rfl rfl ?_
  refine x_callV hM wv_X6_114 (m_X3_hasOwner (by assumption) (by omega)) ⟨Nat.le_of_ble_eq_true rfl, Nat.le_of_ble_eq_true rfl⟩ (by first | assumption | exact reg_o (by assumption) | exact reg_a (by assumption)) rfl rfl rfl rfl (Nat.le_of_ble_eq_true rfl) ⟨Nat.le_of_ble_eq_true rfl, Nat.le_of_ble_eq_true rfl⟩ dX6_payIn_5 (k_rI ?_)
  by_cases c1 : 0 ≤ o ∧ o < s.own
  · rw [if_pos c1]
    refine x_if_ne (tgt := 13) hM dX6_payIn_8 (by decide) (by omega) (fun _ => ?_) (fun q => absurd q (by decide))
    refine x_iload_n hM dX6_payIn_13 rfl rfl ?_
    refine x_callS hM ws_X6_274 (m_X6_isAmount (by omega)) ⟨Nat.le_of_ble_eq_true rfl, Nat.le_of_ble_eq_true rfl⟩ rfl rfl (Nat.le_of_ble_eq_true rfl) ⟨Nat.le_of_ble_eq_true rfl, Nat.le_of_ble_eq_true rfl⟩ dX6_payIn_14 (k_rI ?_)
    by_cases c2 : 0 ≤ c ∧ c ≤ 1000000
    · rw [if_pos c2]
      refine x_if_ne (tgt := 23) hM dX6_payIn_17 (by decide) (by omega) (fun _ => ?_) (fun q => absurd q (by decide))
      refine x_aload_n hM dX6_payIn_23 rfl rfl ?_
      refine x_get hM wf_X6_12 wl_X6 (by first | assumption | exact dd_o (by assumption)) rfl dX6_payIn_24 ?_
      refine x_iload_n hM dX6_payIn_27 rfl rfl ?_
      refine x_iload_n hM dX6_payIn_28 rfl rfl ?_
      refine x_i2l hM dX6_payIn_29 ?_
      rw [iI_long (by omega)]
      refine x_callV hM wv_X6_277 (m_X3_earn (by assumption) (by omega)) ⟨Nat.le_of_ble_eq_true rfl, Nat.le_of_ble_eq_true rfl⟩ (by first | assumption | exact reg_o (by assumption) | exact reg_a (by assumption)) rfl rfl rfl rfl (Nat.le_of_ble_eq_true rfl) ⟨Nat.le_of_ble_eq_true rfl, Nat.le_of_ble_eq_true rfl⟩ dX6_payIn_30 (k_qV fun w_30 q_30 => ?_)
      obtain ⟨qa, qf⟩ := q_30
      have hd2 := hc.uR qf qa
      refine x_aload_n hM dX6_payIn_33 rfl rfl ?_
      refine x_get hM wf_X6_12 wl_X6 (by first | assumption | exact dd_o (by assumption)) rfl dX6_payIn_34 ?_
      refine x_iload_n hM dX6_payIn_37 rfl rfl ?_
      refine x_callV hM wv_X6_135 (m_X3_purseOf qa (by omega)) ⟨Nat.le_of_ble_eq_true rfl, Nat.le_of_ble_eq_true rfl⟩ (reg_a qa) rfl rfl rfl rfl (Nat.le_of_ble_eq_true rfl) ⟨Nat.le_of_ble_eq_true rfl, Nat.le_of_ble_eq_true rfl⟩ dX6_payIn_38 (k_rL ?_)
      rw [show (earnF s o (jJ c)).mon o = s.mon o + jJ c from fU_eq]
      refine x_lconst (z := 0) hM dX6_payIn_41 rfl ?_
      refine x_lcmp hM dX6_payIn_42 (fun z_42 z_42r z_42l z_42e => ?_)
      refine x_if_lt (tgt := 50) hM dX6_payIn_43 (by decide) (by omega) (fun c_43 => ?_) (fun c_43 => ?_)
      · refine x_iconst hM dX6_payIn_50 ?_
        refine hR.i dX6_payIn_51 (Nat.zero_le _) (Nat.zero_le _) ?_
        first | exact p_op ((if_pos c1).trans ((if_pos c2).trans (by rw [if_neg (fun q => absurd (z_42l.mpr q) (by omega))]))) hd2 (qf.mo (by omega) (by omega)) | exact p_op ((if_pos c1).trans ((if_pos c2).trans (by rw [if_pos (z_42l.mp (by assumption))]))) hd2 (qf.mo (by omega) (by omega))
      · refine x_iconst hM dX6_payIn_46 ?_
        refine x_goto (tgt := 51) hM dX6_payIn_47 (by decide) ?_
        refine hR.i dX6_payIn_51 (Nat.zero_le _) (Nat.zero_le _) ?_
        first | exact p_op ((if_pos c1).trans ((if_pos c2).trans (by rw [if_neg (fun q => absurd (z_42l.mpr q) (by omega))]))) hd2 (qf.mo (by omega) (by omega)) | exact p_op ((if_pos c1).trans ((if_pos c2).trans (by rw [if_pos (z_42l.mp (by assumption))]))) hd2 (qf.mo (by omega) (by omega))
    · rw [if_neg c2]
      refine x_if_ne (tgt := 23) hM dX6_payIn_17 (by decide) (by omega) (fun q => absurd rfl q) (fun _ => ?_)
      refine x_bipush hM dX6_payIn_20 rfl ?_
      refine hR.i dX6_payIn_22 (Nat.zero_le _) (Nat.zero_le _) ?_
      exact p_op ((if_pos c1).trans (if_neg c2)) hc Fr.rf
  · rw [if_neg c1]
    refine x_if_ne (tgt := 13) hM dX6_payIn_8 (by decide) (by omega) (fun q => absurd rfl q) (fun _ => ?_)
    refine x_iconst hM dX6_payIn_11 ?_
    refine hR.i dX6_payIn_12 (Nat.zero_le _) (Nat.zero_le _) ?_
    exact p_op (if_neg c1) hc Fr.rf
def gvF (s : St) (o f n : Int) : Int × St := if 0 ≤ o ∧ o < s.own then (if isP f n then (if (becF s.L o f n).length ≤ 40 then (if n - mtwF s.L o f n = 0 ∨ mtsO s.L o + (n - mtwF s.L o f n) ≤ s.set 4 then (((becF s.L o f n).length : Int), mkS (becF s.L o f n) s.set s.mon s.tax s.los s.D s.own s.day s.clo s.fee) else (-5, s)) else (-4, s)) else (-2, s)) else (-1, s)
theorem m_X6_givePiece {l : Launch} {G : xG} {w : Wd} {z x : Nat} {s : St} {o f n : Int} (hc : coA G w x s) (ho : iR o) (hf : iR f) (hn : iR n) : xMet l G yX6_givePiece cX6_givePiece 4 (some .int) ({ frames := 3, cells := 0, slots := 0, locals := 77 } : Room) [.ref x, .int (iI o), .int (iI f), .int (iI n)] w z (opP G w z x (gvF s o f n)) := by
  obtain ⟨hd, hr, -, T0, hT⟩ := id hc
  obtain ⟨w1, w2, w3⟩ := id hr.1
  have hS := rgaS hr
  refine xMet_of RX6 rfl (by decide +kernel) false (by decide +kernel) (Nat.le_of_ble_eq_true rfl) rfl ?_
  intro P hM hR
  refine x_aload_n hM dX6_givePiece_0 rfl rfl ?_
  refine x_get hM wf_X6_12 wl_X6 (by first | assumption | exact dd_o (by assumption)) rfl dX6_givePiece_1 ?_
  refine x_iload_n hM dX6_givePiece_4 rfl rfl ?_
  refine x_callV hM wv_X6_114 (m_X3_hasOwner (by assumption) (by omega)) ⟨Nat.le_of_ble_eq_true rfl, Nat.le_of_ble_eq_true rfl⟩ (by first | assumption | exact reg_o (by assumption) | exact reg_a (by assumption)) rfl rfl rfl rfl (Nat.le_of_ble_eq_true rfl) ⟨Nat.le_of_ble_eq_true rfl, Nat.le_of_ble_eq_true rfl⟩ dX6_givePiece_5 (k_rI ?_)
  by_cases c1 : 0 ≤ o ∧ o < s.own
  · rw [if_pos c1]
    refine x_if_ne (tgt := 13) hM dX6_givePiece_8 (by decide) (by omega) (fun _ => ?_) (fun q => absurd q (by decide))
    refine x_iload_n hM dX6_givePiece_13 rfl rfl ?_
    refine x_iload_n hM dX6_givePiece_14 rfl rfl ?_
    refine x_callS hM ws_X6_205 (m_X6_isPiece (by omega) (by omega)) ⟨Nat.le_of_ble_eq_true rfl, Nat.le_of_ble_eq_true rfl⟩ rfl rfl (Nat.le_of_ble_eq_true rfl) ⟨Nat.le_of_ble_eq_true rfl, Nat.le_of_ble_eq_true rfl⟩ dX6_givePiece_15 (k_rI ?_)
    by_cases c2 : isP f n
    · rw [if_pos c2]
      refine x_if_ne (tgt := 24) hM dX6_givePiece_18 (by decide) (by omega) (fun _ => ?_) (fun q => absurd q (by decide))
      refine x_aload_n hM dX6_givePiece_24 rfl rfl ?_
      refine x_get hM wf_X6_22 wl_X6 (by first | assumption | exact dd_o (by assumption)) rfl dX6_givePiece_25 ?_
      refine x_aload_n hM dX6_givePiece_28 rfl rfl ?_
      refine x_get hM wf_X6_12 wl_X6 (by first | assumption | exact dd_o (by assumption)) rfl dX6_givePiece_29 ?_
      refine x_get hM wf_X6_92 wl_X3 (by first | assumption | exact reg_o (by assumption) | exact reg_a (by assumption)) rfl dX6_givePiece_32 ?_
      refine x_iload_n hM dX6_givePiece_35 rfl rfl ?_
      refine x_iload_n hM dX6_givePiece_36 rfl rfl ?_
      refine x_iload_n hM dX6_givePiece_37 rfl rfl ?_
      refine x_callV hM wv_X6_209 (m_X5_become hT hS (by omega) (by omega) (by omega)) ⟨Nat.le_of_ble_eq_true rfl, Nat.le_of_ble_eq_true rfl⟩ (str_a hT) rfl rfl rfl rfl (Nat.le_of_ble_eq_true rfl) ⟨Nat.le_of_ble_eq_true rfl, Nat.le_of_ble_eq_true rfl⟩ dX6_givePiece_38 (k_qV fun w_38 q_38 => ?_)
      obtain ⟨qa, qf⟩ := q_38
      have hc1 := hc.uT qf qa
      have hr1 := hr.kp qf (by omega)
      have hS1 := rgaS hr1
      have hlen := qa.1.1
      have hmw := mtw_b o f n hS.1 (by omega)
      refine x_aload_n hM dX6_givePiece_41 rfl rfl ?_
      refine x_get hM wf_X6_22 wl_X6 (by first | assumption | exact dd_o (by assumption)) rfl dX6_givePiece_42 ?_
      refine x_get hM wf_X6_163 wl_X5 (str_a qa) rfl dX6_givePiece_45 ?_
      refine x_bipush hM dX6_givePiece_48 rfl ?_
      refine x_icmp_le (tgt := 56) hM dX6_givePiece_50 (by decide) (by omega) (by omega) (fun c_50 => ?_) (fun c_50 => ?_)
      · refine x_aload_n hM dX6_givePiece_56 rfl rfl ?_
        refine x_get hM wf_X6_12 wl_X6 (by first | assumption | exact dd_o (by assumption)) rfl dX6_givePiece_57 ?_
        refine x_iload_n hM dX6_givePiece_60 rfl rfl ?_
        refine x_iload_n hM dX6_givePiece_61 rfl rfl ?_
        refine x_aload_n hM dX6_givePiece_62 rfl rfl ?_
        refine x_get hM wf_X6_12 wl_X6 (by first | assumption | exact dd_o (by assumption)) rfl dX6_givePiece_63 ?_
        refine x_get hM wf_X6_92 wl_X3 (reg_a hr1) rfl dX6_givePiece_66 ?_
        refine x_iload_n hM dX6_givePiece_69 rfl rfl ?_
        refine x_iload_n hM dX6_givePiece_70 rfl rfl ?_
        refine x_iload_n hM dX6_givePiece_71 rfl rfl ?_
        refine x_callV hM wv_X6_281 (m_X5_metersWithin hS1 (by omega) (by omega)) ⟨Nat.le_of_ble_eq_true rfl, Nat.le_of_ble_eq_true rfl⟩ (str_a hS1) rfl rfl rfl rfl (Nat.le_of_ble_eq_true rfl) ⟨Nat.le_of_ble_eq_true rfl, Nat.le_of_ble_eq_true rfl⟩ dX6_givePiece_72 (k_rI ?_)
        refine x_isub hM dX6_givePiece_75 ?_
        refine x_callV hM wv_X6_284 (m_X3_mayGet hr1 (by omega) (by omega)) ⟨Nat.le_of_ble_eq_true rfl, Nat.le_of_ble_eq_true rfl⟩ (reg_a hr1) rfl rfl rfl rfl (Nat.le_of_ble_eq_true rfl) ⟨Nat.le_of_ble_eq_true rfl, Nat.le_of_ble_eq_true rfl⟩ dX6_givePiece_76 (k_rI ?_)
        by_cases c4 : n - mtwF s.L o f n = 0 ∨ mtsO s.L o + (n - mtwF s.L o f n) ≤ s.set 4
        · rw [if_pos c4]
          refine x_if_ne (tgt := 85) hM dX6_givePiece_79 (by decide) (by omega) (fun _ => ?_) (fun q => absurd q (by decide))
          refine x_aload_n hM dX6_givePiece_85 rfl rfl ?_
          refine x_get hM wf_X6_12 wl_X6 (by first | assumption | exact dd_o (by assumption)) rfl dX6_givePiece_86 ?_
          refine x_get hM wf_X6_92 wl_X3 (reg_a hr1) rfl dX6_givePiece_89 ?_
          refine x_aload_n hM dX6_givePiece_92 rfl rfl ?_
          refine x_get hM wf_X6_22 wl_X6 (by first | assumption | exact dd_o (by assumption)) rfl dX6_givePiece_93 ?_
          refine x_callV hM wv_X6_287 (m_X5_copy hS1 qa (by omega)) ⟨Nat.le_of_ble_eq_true rfl, Nat.le_of_ble_eq_true rfl⟩ (str_a hS1) rfl rfl rfl rfl (Nat.le_of_ble_eq_true rfl) ⟨Nat.le_of_ble_eq_true rfl, Nat.le_of_ble_eq_true rfl⟩ dX6_givePiece_96 (k_qV fun w_96 q_96 => ?_)
          obtain ⟨qb, qg⟩ := q_96
          have hr2 := hr1.uS qg qb
          have hc2 := hc1.uR (qg.mo (by omega) (by omega)) hr2
          have qa2 := qa.kp qg (by omega)
          refine x_aload_n hM dX6_givePiece_99 rfl rfl ?_
          refine x_get hM wf_X6_22 wl_X6 (by first | assumption | exact dd_o (by assumption)) rfl dX6_givePiece_100 ?_
          refine x_get hM wf_X6_163 wl_X5 (str_a qa2) rfl dX6_givePiece_103 ?_
          refine hR.i dX6_givePiece_106 (Nat.zero_le _) (Nat.zero_le _) ?_
          exact p_op ((if_pos c1).trans ((if_pos c2).trans ((if_pos (by omega)).trans (if_pos c4)))) hc2 ((qf.mo (by omega) (by omega)).tr (qg.mo (by omega) (by omega)))
        · rw [if_neg c4]
          refine x_if_ne (tgt := 85) hM dX6_givePiece_79 (by decide) (by omega) (fun q => absurd rfl q) (fun _ => ?_)
          refine x_bipush hM dX6_givePiece_82 rfl ?_
          refine hR.i dX6_givePiece_84 (Nat.zero_le _) (Nat.zero_le _) ?_
          exact p_op ((if_pos c1).trans ((if_pos c2).trans ((if_pos (by omega)).trans (if_neg c4)))) hc1 (qf.mo (by omega) (by omega))
      · refine x_bipush hM dX6_givePiece_53 rfl ?_
        refine hR.i dX6_givePiece_55 (Nat.zero_le _) (Nat.zero_le _) ?_
        exact p_op ((if_pos c1).trans ((if_pos c2).trans (if_neg (by omega)))) hc1 (qf.mo (by omega) (by omega))
    · rw [if_neg c2]
      refine x_if_ne (tgt := 24) hM dX6_givePiece_18 (by decide) (by omega) (fun q => absurd rfl q) (fun _ => ?_)
      refine x_bipush hM dX6_givePiece_21 rfl ?_
      refine hR.i dX6_givePiece_23 (Nat.zero_le _) (Nat.zero_le _) ?_
      exact p_op ((if_pos c1).trans (if_neg c2)) hc Fr.rf
  · rw [if_neg c1]
    refine x_if_ne (tgt := 13) hM dX6_givePiece_8 (by decide) (by omega) (fun q => absurd rfl q) (fun _ => ?_)
    refine x_iconst hM dX6_givePiece_11 ?_
    refine hR.i dX6_givePiece_12 (Nat.zero_le _) (Nat.zero_le _) ?_
    exact p_op (if_neg c1) hc Fr.rf
def frF (s : St) (f n : Int) : Int × St := if isP f n then (if (becF s.L (-6) f n).length ≤ 40 then (((becF s.L (-6) f n).length : Int), mkS (becF s.L (-6) f n) s.set s.mon s.tax s.los s.D s.own s.day s.clo s.fee) else (-4, s)) else (-2, s)
theorem m_X6_freePiece {l : Launch} {G : xG} {w : Wd} {z x : Nat} {s : St} {f n : Int} (hc : coA G w x s) (hf : iR f) (hn : iR n) : xMet l G yX6_freePiece cX6_freePiece 3 (some .int) ({ frames := 3, cells := 0, slots := 0, locals := 77 } : Room) [.ref x, .int (iI f), .int (iI n)] w z (opP G w z x (frF s f n)) := by
  obtain ⟨hd, hr, -, T0, hT⟩ := id hc
  have hS := rgaS hr
  refine xMet_of RX6 rfl (by decide +kernel) false (by decide +kernel) (Nat.le_of_ble_eq_true rfl) rfl ?_
  intro P hM hR
  refine x_iload_n hM dX6_freePiece_0 rfl rfl ?_
  refine x_iload_n hM dX6_freePiece_1 rfl rfl ?_
  refine x_callS hM ws_X6_205 (m_X6_isPiece (by omega) (by omega)) ⟨Nat.le_of_ble_eq_true rfl, Nat.le_of_ble_eq_true rfl⟩ rfl rfl (Nat.le_of_ble_eq_true rfl) ⟨Nat.le_of_ble_eq_true rfl, Nat.le_of_ble_eq_true rfl⟩ dX6_freePiece_2 (k_rI ?_)
  by_cases c2 : isP f n
  · rw [if_pos c2]
    refine x_if_ne (tgt := 11) hM dX6_freePiece_5 (by decide) (by omega) (fun _ => ?_) (fun q => absurd q (by decide))
    refine x_aload_n hM dX6_freePiece_11 rfl rfl ?_
    refine x_get hM wf_X6_22 wl_X6 (by first | assumption | exact dd_o (by assumption)) rfl dX6_freePiece_12 ?_
    refine x_aload_n hM dX6_freePiece_15 rfl rfl ?_
    refine x_get hM wf_X6_12 wl_X6 (by first | assumption | exact dd_o (by assumption)) rfl dX6_freePiece_16 ?_
    refine x_get hM wf_X6_92 wl_X3 (by first | assumption | exact reg_o (by assumption) | exact reg_a (by assumption)) rfl dX6_freePiece_19 ?_
    refine x_bipush hM dX6_freePiece_22 rfl ?_
    refine x_iload_n hM dX6_freePiece_24 rfl rfl ?_
    refine x_iload_n hM dX6_freePiece_25 rfl rfl ?_
    refine x_callV hM wv_X6_209 (m_X5_become hT hS (by omega) (by omega) (by omega)) ⟨Nat.le_of_ble_eq_true rfl, Nat.le_of_ble_eq_true rfl⟩ (str_a hT) rfl rfl rfl rfl (Nat.le_of_ble_eq_true rfl) ⟨Nat.le_of_ble_eq_true rfl, Nat.le_of_ble_eq_true rfl⟩ dX6_freePiece_26 (k_qV fun w_26 q_26 => ?_)
    obtain ⟨qa, qf⟩ := q_26
    have hc1 := hc.uT qf qa
    have hr1 := hr.kp qf (by omega)
    have hS1 := rgaS hr1
    have hlen := qa.1.1
    refine x_aload_n hM dX6_freePiece_29 rfl rfl ?_
    refine x_get hM wf_X6_22 wl_X6 (by first | assumption | exact dd_o (by assumption)) rfl dX6_freePiece_30 ?_
    refine x_get hM wf_X6_163 wl_X5 (str_a qa) rfl dX6_freePiece_33 ?_
    refine x_bipush hM dX6_freePiece_36 rfl ?_
    refine x_icmp_le (tgt := 44) hM dX6_freePiece_38 (by decide) (by omega) (by omega) (fun c_38 => ?_) (fun c_38 => ?_)
    · refine x_aload_n hM dX6_freePiece_44 rfl rfl ?_
      refine x_get hM wf_X6_12 wl_X6 (by first | assumption | exact dd_o (by assumption)) rfl dX6_freePiece_45 ?_
      refine x_get hM wf_X6_92 wl_X3 (reg_a hr1) rfl dX6_freePiece_48 ?_
      refine x_aload_n hM dX6_freePiece_51 rfl rfl ?_
      refine x_get hM wf_X6_22 wl_X6 (by first | assumption | exact dd_o (by assumption)) rfl dX6_freePiece_52 ?_
      refine x_callV hM wv_X6_287 (m_X5_copy hS1 qa (by omega)) ⟨Nat.le_of_ble_eq_true rfl, Nat.le_of_ble_eq_true rfl⟩ (str_a hS1) rfl rfl rfl rfl (Nat.le_of_ble_eq_true rfl) ⟨Nat.le_of_ble_eq_true rfl, Nat.le_of_ble_eq_true rfl⟩ dX6_freePiece_55 (k_qV fun w_55 q_55 => ?_)
      obtain ⟨qb, qg⟩ := q_55
      have hr2 := hr1.uS qg qb
      have hc2 := hc1.uR (qg.mo (by omega) (by omega)) hr2
      have qa2 := qa.kp qg (by omega)
      refine x_aload_n hM dX6_freePiece_58 rfl rfl ?_
      refine x_get hM wf_X6_22 wl_X6 (by first | assumption | exact dd_o (by assumption)) rfl dX6_freePiece_59 ?_
      refine x_get hM wf_X6_163 wl_X5 (str_a qa2) rfl dX6_freePiece_62 ?_
      refine hR.i dX6_freePiece_65 (Nat.zero_le _) (Nat.zero_le _) ?_
      exact p_op ((if_pos c2).trans (if_pos (by omega))) hc2 ((qf.mo (by omega) (by omega)).tr (qg.mo (by omega) (by omega)))
    · refine x_bipush hM dX6_freePiece_41 rfl ?_
      refine hR.i dX6_freePiece_43 (Nat.zero_le _) (Nat.zero_le _) ?_
      exact p_op ((if_pos c2).trans (if_neg (by omega))) hc1 (qf.mo (by omega) (by omega))
  · rw [if_neg c2]
    refine x_if_ne (tgt := 11) hM dX6_freePiece_5 (by decide) (by omega) (fun q => absurd rfl q) (fun _ => ?_)
    refine x_bipush hM dX6_freePiece_8 rfl ?_
    refine hR.i dX6_freePiece_10 (Nat.zero_le _) (Nat.zero_le _) ?_
    exact p_op (if_neg c2) hc Fr.rf
