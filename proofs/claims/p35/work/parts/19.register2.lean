/-! Register: days, copies, transfers -/
def losT1 (s : St) (o : Int) : St := mkS (s.L.eraseIdx (srtF s.L o).toNat) s.set s.mon s.tax (fU s.los o (s.los o + (gB_ s.L (srtF s.L o).toNat - gA_ s.L (srtF s.L o).toNat))) s.D s.own s.day s.clo s.fee
def losT (s : St) (o : Int) : St := chgF (losT1 s o) o (taxV (losT1 s o) o - taxV s o)
def losF : Nat → St → Int → St
  | 0, s, _ => s
  | k + 1, s, o => if s.mon o < jJ 0 then losF k (losT s o) o else s
theorem cntO_pos {L : List Sg} {o : Int} : (∀ s ∈ L, s.1 ≠ o) ↔ cntO L o = 0 := by
  induction L with
  | nil => simp [cntO]
  | cons s t ih =>
    have := cntO_nn t o
    simp only [cntO, List.forall_mem_cons, ih]
    split <;> omega
theorem srt_some {L : List Sg} {o : Int} (h : 0 < cntO L o) : ∃ n : Nat, srtF L o = n ∧ ∃ hn : n < L.length, L[n].1 = o := by
  obtain ⟨s1, s2⟩ := srt_ok L o
  have hne : srtF L o ≠ -6 := fun e => by
    have := cntO_pos.mp (s1 e)
    omega
  obtain ⟨g1, g2, x, g3, g4, -⟩ := s2 hne
  obtain ⟨k1, k2⟩ := List.getElem?_eq_some_iff.mp g3
  exact ⟨(srtF L o).toNat, by omega, k1, by rw [k2]; exact g4⟩
theorem m_X3_loseRanges {l : Launch} {G : xG} {w : Wd} {z r : Nat} {s : St} {o : Int} (h1 : regA G w r s) (ho : 0 ≤ o ∧ o < 10) : xMet l G yX3_loseRanges cX3_loseRanges 5 none ({ frames := 2, cells := 0, slots := 0, locals := 45 } : Room) [.ref r, .int (iI o)] w z (qV z fun w1 => regA G w1 r (losF (cntO s.L o).toNat s o) ∧ Fr r (r + 22) w w1) := by
  refine xMet_of RX3 rfl (by decide +kernel) false (by decide +kernel) (Nat.le_of_ble_eq_true rfl) rfl ?_
  intro P hM hR
  have K : ∀ (k : Nat) (t : St) (w1 : Wd) (x3 x4 : Option Value), regA G w1 r t → Fr r (r + 22) w w1 → cntO t.L o = k → losF k t o = losF (cntO s.L o).toNat s o → P 12 [some (.ref r), some (.int (iI o)), some (.int (iI k)), x3, x4] [] w1 (z, 0, 0) := by
    intro k
    induction k with
    | zero =>
      intro t w1 x3 x4 hA hF hc hinv
      refine x_iload_n hM dX3_loseRanges_12 rfl rfl ?_
      refine x_if_le (tgt := 88) hM dX3_loseRanges_13 (by decide) (by omega) (fun c_13 => ?_) (fun c_13 => ?_)
      · refine hR.v dX3_loseRanges_88 (Nat.zero_le _) (Nat.zero_le _) ?_
        exact p_qV ⟨by rw [← hinv]; exact hA, hF⟩
      · exfalso; omega
    | succ k ih =>
      intro t w1 x3 x4 hA hF hc hinv
      obtain ⟨hW, fs, fp, ft, fx, hr, e1, e2, e3, e4⟩ := id hA
      have hS := rgS hr
      obtain ⟨sW, go, gs, gl, gr, gm, hs, hL⟩ := id hS
      have sW1 := sW.1
      obtain ⟨n, hn, hnl, hno⟩ := srt_some (L := t.L) (o := o) (by omega)
      have hgn := hL.1 n hnl
      have hkn := gO_at hnl
      have ck := cntO_nn t.L o
      have tb := tax_b o hW sW
      have tb2 := tax_b (s := losT1 t o) o hW (strW_erase sW _)
      have e5 := (cntO_erase hnl o).1
      refine x_iload_n hM dX3_loseRanges_12 rfl rfl ?_
      refine x_if_le (tgt := 88) hM dX3_loseRanges_13 (by decide) (by omega) (fun c_13 => ?_) (fun c_13 => ?_)
      · exfalso; omega
      · refine x_aload_n hM dX3_loseRanges_16 rfl rfl ?_
        refine x_iload_n hM dX3_loseRanges_17 rfl rfl ?_
        refine x_callV hM wv_X3_113 (m_X3_purseOf (by assumption) (by omega)) ⟨Nat.le_of_ble_eq_true rfl, Nat.le_of_ble_eq_true rfl⟩ (by first | assumption | exact reg_o (by assumption) | exact reg_a (by assumption)) rfl rfl rfl rfl (Nat.le_of_ble_eq_true rfl) ⟨Nat.le_of_ble_eq_true rfl, Nat.le_of_ble_eq_true rfl⟩ dX3_loseRanges_18 (k_rL ?_)
        refine x_lconst (z := 0) hM dX3_loseRanges_21 rfl ?_
        refine x_lcmp hM dX3_loseRanges_22 (fun z_22 z_22r z_22l z_22e => ?_)
        refine x_if_ge (tgt := 88) hM dX3_loseRanges_23 (by decide) (by omega) (fun c_23 => ?_) (fun c_23 => ?_)
        · refine hR.v dX3_loseRanges_88 (Nat.zero_le _) (Nat.zero_le _) ?_
          exact p_qV ⟨by rw [← hinv, show losF (k + 1) t o = t from if_neg (fun q => absurd (z_22l.mpr q) (by omega))]; exact hA, hF⟩
        · have hneg := z_22l.mp c_23
          refine x_aload_n hM dX3_loseRanges_26 rfl rfl ?_
          refine x_get hM wf_X3_12 wl_X3 (by first | assumption | exact reg_o (by assumption) | exact reg_a (by assumption)) rfl dX3_loseRanges_27 ?_
          refine x_iload_n hM dX3_loseRanges_30 rfl rfl ?_
          refine x_callV hM wv_X3_117 (m_X5_shortestOf (by assumption) (by omega)) ⟨Nat.le_of_ble_eq_true rfl, Nat.le_of_ble_eq_true rfl⟩ (by first | assumption | exact str_o (by assumption) | exact str_a (by assumption)) rfl rfl rfl rfl (Nat.le_of_ble_eq_true rfl) ⟨Nat.le_of_ble_eq_true rfl, Nat.le_of_ble_eq_true rfl⟩ dX3_loseRanges_31 (k_rI ?_)
          rw [hn]
          refine x_istore_n hM dX3_loseRanges_34 rfl rfl (Nat.le_of_ble_eq_true rfl) rfl ?_
          refine x_aload_n hM dX3_loseRanges_35 rfl rfl ?_
          refine x_iload_n hM dX3_loseRanges_36 rfl rfl ?_
          refine x_callV hM wv_X3_97 (m_X3_taxOf (by assumption) (by omega)) ⟨Nat.le_of_ble_eq_true rfl, Nat.le_of_ble_eq_true rfl⟩ (by first | assumption | exact reg_o (by assumption) | exact reg_a (by assumption)) rfl rfl rfl rfl (Nat.le_of_ble_eq_true rfl) ⟨Nat.le_of_ble_eq_true rfl, Nat.le_of_ble_eq_true rfl⟩ dX3_loseRanges_37 (k_rI ?_)
          refine x_istore hM dX3_loseRanges_40 rfl (Nat.le_of_ble_eq_true rfl) rfl ?_
          refine x_aload_n hM dX3_loseRanges_42 rfl rfl ?_
          refine x_get hM wf_X3_41 wl_X3 (by first | assumption | exact reg_o (by assumption) | exact reg_a (by assumption)) rfl dX3_loseRanges_43 ?_
          refine x_iload_n hM dX3_loseRanges_46 rfl rfl ?_
          refine x_aload_n hM dX3_loseRanges_47 rfl rfl ?_
          refine x_get hM wf_X3_12 wl_X3 (by first | assumption | exact reg_o (by assumption) | exact reg_a (by assumption)) rfl dX3_loseRanges_48 ?_
          refine x_get hM wf_X3_120 wl_X5 (by first | assumption | exact str_o (by assumption) | exact str_a (by assumption)) rfl dX3_loseRanges_51 ?_
          refine x_iload_n hM dX3_loseRanges_54 rfl rfl ?_
          refine x_callV hM wv_X3_90 (m_X4_at (by first | assumption | exact sr1 (by assumption) | exact sr2 (by assumption) | exact sr3 (by assumption) | exact sr4 (by assumption) | exact sr5 (by assumption) | exact rg1 (by assumption) | exact rg2 (by assumption) | exact rg3 (by assumption)) (by omega)) ⟨Nat.le_of_ble_eq_true rfl, Nat.le_of_ble_eq_true rfl⟩ (by first | assumption | exact row_o (by first | assumption | exact sr1 (by assumption) | exact sr2 (by assumption) | exact sr3 (by assumption) | exact sr4 (by assumption) | exact sr5 (by assumption) | exact rg1 (by assumption) | exact rg2 (by assumption) | exact rg3 (by assumption))) rfl rfl rfl rfl (Nat.le_of_ble_eq_true rfl) ⟨Nat.le_of_ble_eq_true rfl, Nat.le_of_ble_eq_true rfl⟩ dX3_loseRanges_55 (k_rI ?_)
          refine x_callV hM wv_X3_110 (m_X4_add (by first | assumption | exact sr1 (by assumption) | exact sr2 (by assumption) | exact sr3 (by assumption) | exact sr4 (by assumption) | exact sr5 (by assumption) | exact rg1 (by assumption) | exact rg2 (by assumption) | exact rg3 (by assumption)) (by omega)) ⟨Nat.le_of_ble_eq_true rfl, Nat.le_of_ble_eq_true rfl⟩ (by first | assumption | exact row_o (by first | assumption | exact sr1 (by assumption) | exact sr2 (by assumption) | exact sr3 (by assumption) | exact sr4 (by assumption) | exact sr5 (by assumption) | exact rg1 (by assumption) | exact rg2 (by assumption) | exact rg3 (by assumption))) rfl rfl rfl rfl (Nat.le_of_ble_eq_true rfl) ⟨Nat.le_of_ble_eq_true rfl, Nat.le_of_ble_eq_true rfl⟩ dX3_loseRanges_58 (k_qV fun w_58 q_58 => ?_)
          subst q_58
          have hr1 := hr.u3 (g := fU fx o (fx o + gl n))
          have hS1 := rgS hr1
          refine x_aload_n hM dX3_loseRanges_61 rfl rfl ?_
          refine x_get hM wf_X3_12 wl_X3 (reg_o hr1) rfl dX3_loseRanges_62 ?_
          refine x_iload_n hM dX3_loseRanges_65 rfl rfl ?_
          refine x_callV hM wv_X3_123 (m_X5_remove hS1 hnl) ⟨Nat.le_of_ble_eq_true rfl, Nat.le_of_ble_eq_true rfl⟩ (str_a hS1) rfl rfl rfl rfl (Nat.le_of_ble_eq_true rfl) ⟨Nat.le_of_ble_eq_true rfl, Nat.le_of_ble_eq_true rfl⟩ dX3_loseRanges_66 (k_qV fun w_66 q_66 => ?_)
          obtain ⟨qa, qf⟩ := q_66
          have hr2 := hr1.uS qf qa
          have hA2 : regA G w_66 r (losT1 t o) := ⟨hW, fs, fp, ft, _, by show regR G w_66 r (t.L.eraseIdx (srtF t.L o).toNat) _ _ _ _ _ _ _ _ _; rw [hn]; exact hr2, e1, e2, e3, by show eqR 10 _ (fU t.los o _); rw [hn, e4 o ho.1 ho.2, show gl n = gB_ t.L n - gA_ t.L n by omega]; exact eqR_up e4 o _⟩
          refine x_aload_n hM dX3_loseRanges_69 rfl rfl ?_
          refine x_iload_n hM dX3_loseRanges_70 rfl rfl ?_
          refine x_aload_n hM dX3_loseRanges_71 rfl rfl ?_
          refine x_iload_n hM dX3_loseRanges_72 rfl rfl ?_
          refine x_callV hM wv_X3_97 (m_X3_taxOf hA2 (by omega)) ⟨Nat.le_of_ble_eq_true rfl, Nat.le_of_ble_eq_true rfl⟩ (reg_a hA2) rfl rfl rfl rfl (Nat.le_of_ble_eq_true rfl) ⟨Nat.le_of_ble_eq_true rfl, Nat.le_of_ble_eq_true rfl⟩ dX3_loseRanges_73 (k_rI ?_)
          refine x_iload hM dX3_loseRanges_76 rfl ?_
          refine x_isub hM dX3_loseRanges_78 ?_
          refine x_callV hM wv_X3_100 (m_X3_chargeTax hA2 (by omega) (by omega)) ⟨Nat.le_of_ble_eq_true rfl, Nat.le_of_ble_eq_true rfl⟩ (reg_a hA2) rfl rfl rfl rfl (Nat.le_of_ble_eq_true rfl) ⟨Nat.le_of_ble_eq_true rfl, Nat.le_of_ble_eq_true rfl⟩ dX3_loseRanges_79 (k_qV fun w_79 q_79 => ?_)
          obtain ⟨qb, qg⟩ := q_79
          refine x_iinc hM dX3_loseRanges_82 rfl rfl rfl ?_
          refine x_goto (tgt := 12) hM dX3_loseRanges_85 (by decide) ?_
          rw [show ((k + 1 : Nat) : Int) + -1 = k by omega]
          refine ih (losT t o) _ _ _ qb ((hF.tr (Fr.wS (by omega) (by omega))).tr ((qf.mo (by omega) (by omega)).tr qg)) ?_ ?_
          · show cntO (t.L.eraseIdx (srtF t.L o).toNat) o = k
            rw [hn]
            have : cntO (t.L.eraseIdx n) o = cntO t.L o - 1 := by rw [e5, if_pos hno]
            show cntO (t.L.eraseIdx ((n : Int)).toNat) o = k
            rw [show ((n : Int)).toNat = n by omega]
            omega
          · rw [← hinv]; exact (if_pos (by assumption)).symm
  obtain ⟨hW, fs, fp, ft, fx, hr, e1, e2, e3, e4⟩ := id h1
  obtain ⟨sW, go, gs, gl, gr, gm, hs, hL⟩ := rgS hr
  have ck := cntO_nn s.L o
  have e5 := (hL.2 o ho.1 ho.2).1
  have e6 : gr o = ((cntO s.L o).toNat : Nat) := by omega
  refine x_aload_n hM dX3_loseRanges_0 rfl rfl ?_
  refine x_get hM wf_X3_12 wl_X3 (by first | assumption | exact reg_o (by assumption) | exact reg_a (by assumption)) rfl dX3_loseRanges_1 ?_
  refine x_get hM wf_X3_94 wl_X5 (by first | assumption | exact str_o (by assumption) | exact str_a (by assumption)) rfl dX3_loseRanges_4 ?_
  refine x_iload_n hM dX3_loseRanges_7 rfl rfl ?_
  refine x_callV hM wv_X3_90 (m_X4_at (by first | assumption | exact sr1 (by assumption) | exact sr2 (by assumption) | exact sr3 (by assumption) | exact sr4 (by assumption) | exact sr5 (by assumption) | exact rg1 (by assumption) | exact rg2 (by assumption) | exact rg3 (by assumption)) (by omega)) ⟨Nat.le_of_ble_eq_true rfl, Nat.le_of_ble_eq_true rfl⟩ (by first | assumption | exact row_o (by first | assumption | exact sr1 (by assumption) | exact sr2 (by assumption) | exact sr3 (by assumption) | exact sr4 (by assumption) | exact sr5 (by assumption) | exact rg1 (by assumption) | exact rg2 (by assumption) | exact rg3 (by assumption))) rfl rfl rfl rfl (Nat.le_of_ble_eq_true rfl) ⟨Nat.le_of_ble_eq_true rfl, Nat.le_of_ble_eq_true rfl⟩ dX3_loseRanges_8 (k_rI ?_)
  rw [e6]
  refine x_istore_n hM dX3_loseRanges_11 rfl rfl (Nat.le_of_ble_eq_true rfl) rfl ?_
  exact K _ s w _ _ h1 Fr.rf (by omega) rfl
/-- a day, owner by owner: i owners are through -/
def dayO (s : St) (o : Int) : St := losF (cntO (chgF s o (taxV s o)).L o).toNat (chgF s o (taxV s o)) o
def dayF (s : St) : Nat → St
  | 0 => s
  | n + 1 => dayO (dayF s n) n
def dayP (s : St) : St := let t := dayF s s.own.toNat; mkS t.L t.set t.mon t.tax t.los t.D t.own (t.day + 1) t.clo t.fee
theorem losF_own : ∀ (k : Nat) (s : St) (o : Int), (losF k s o).own = s.own ∧ (losF k s o).set = s.set ∧ (losF k s o).D = s.D ∧ (losF k s o).day = s.day ∧ (losF k s o).clo = s.clo ∧ (losF k s o).fee = s.fee := by
  intro k
  induction k with
  | zero => intro s o; exact ⟨rfl, rfl, rfl, rfl, rfl, rfl⟩
  | succ k ih =>
    intro s o
    simp only [losF]
    split
    · exact ih (losT s o) o
    · exact ⟨rfl, rfl, rfl, rfl, rfl, rfl⟩
theorem dayO_own (s : St) (o : Int) : (dayO s o).own = s.own ∧ (dayO s o).set = s.set ∧ (dayO s o).D = s.D ∧ (dayO s o).day = s.day ∧ (dayO s o).clo = s.clo ∧ (dayO s o).fee = s.fee := losF_own _ _ _
theorem dayF_own (s : St) : ∀ n : Nat, (dayF s n).own = s.own ∧ (dayF s n).set = s.set ∧ (dayF s n).D = s.D ∧ (dayF s n).day = s.day ∧ (dayF s n).clo = s.clo ∧ (dayF s n).fee = s.fee := by
  intro n
  induction n with
  | zero => exact ⟨rfl, rfl, rfl, rfl, rfl, rfl⟩
  | succ n ih =>
    have h := dayO_own (dayF s n) n
    simp only [dayF]
    exact ⟨h.1.trans ih.1, h.2.1.trans ih.2.1, h.2.2.1.trans ih.2.2.1, h.2.2.2.1.trans ih.2.2.2.1, h.2.2.2.2.1.trans ih.2.2.2.2.1, h.2.2.2.2.2.trans ih.2.2.2.2.2⟩
theorem m_X3_passDay {l : Launch} {G : xG} {w : Wd} {z r : Nat} {s : St} (h1 : regA G w r s) : xMet l G yX3_passDay cX3_passDay 2 none ({ frames := 3, cells := 0, slots := 0, locals := 69 } : Room) [.ref r] w z (qV z fun w1 => regA G w1 r (dayP s) ∧ Fr r (r + 22) w w1) := by
  obtain ⟨⟨w1, w2, -⟩, -⟩ := id h1
  refine xMet_of RX3 rfl (by decide +kernel) false (by decide +kernel) (Nat.le_of_ble_eq_true rfl) rfl ?_
  intro P hM hR
  have K : ∀ (k i : Nat) (w1 : Wd), s.own.toNat - i < k → i ≤ s.own.toNat → regA G w1 r (dayF s i) → Fr r (r + 22) w w1 → P 2 [some (.ref r), some (.int (iI i))] [] w1 (z, 0, 0) := by
    intro k
    induction k with
    | zero => intro i w1 hk; omega
    | succ k ih =>
      intro i w1 hk hi hA hF
      have ho := dayF_own s i
      have ho1 := ho.1
      obtain ⟨hW, fs, fp, ft, fx, hr, e1, e2, e3, e4⟩ := id hA
      have sW := (rgaS hA).1
      by_cases hlt : i < s.own.toNat
      · have tb := tax_b (s := dayF s i) i hW sW
        refine x_iload_n hM dX3_passDay_2 rfl rfl ?_
        refine x_aload_n hM dX3_passDay_3 rfl rfl ?_
        refine x_get hM wf_X3_74 wl_X3 (by first | assumption | exact reg_o (by assumption) | exact reg_a (by assumption)) rfl dX3_passDay_4 ?_
        refine x_icmp_ge (tgt := 31) hM dX3_passDay_7 (by decide) (by omega) (by omega) (fun c_7 => ?_) (fun c_7 => ?_)
        · exfalso; omega
        · refine x_aload_n hM dX3_passDay_10 rfl rfl ?_
          refine x_iload_n hM dX3_passDay_11 rfl rfl ?_
          refine x_aload_n hM dX3_passDay_12 rfl rfl ?_
          refine x_iload_n hM dX3_passDay_13 rfl rfl ?_
          refine x_callV hM wv_X3_97 (m_X3_taxOf (by assumption) (by omega)) ⟨Nat.le_of_ble_eq_true rfl, Nat.le_of_ble_eq_true rfl⟩ (by first | assumption | exact reg_o (by assumption) | exact reg_a (by assumption)) rfl rfl rfl rfl (Nat.le_of_ble_eq_true rfl) ⟨Nat.le_of_ble_eq_true rfl, Nat.le_of_ble_eq_true rfl⟩ dX3_passDay_14 (k_rI ?_)
          refine x_callV hM wv_X3_100 (m_X3_chargeTax hA (by omega) (by omega)) ⟨Nat.le_of_ble_eq_true rfl, Nat.le_of_ble_eq_true rfl⟩ (by first | assumption | exact reg_o (by assumption) | exact reg_a (by assumption)) rfl rfl rfl rfl (Nat.le_of_ble_eq_true rfl) ⟨Nat.le_of_ble_eq_true rfl, Nat.le_of_ble_eq_true rfl⟩ dX3_passDay_17 (k_qV fun w_17 q_17 => ?_)
          obtain ⟨qa, qf⟩ := q_17
          refine x_aload_n hM dX3_passDay_20 rfl rfl ?_
          refine x_iload_n hM dX3_passDay_21 rfl rfl ?_
          refine x_callV hM wv_X3_103 (m_X3_loseRanges qa (by omega)) ⟨Nat.le_of_ble_eq_true rfl, Nat.le_of_ble_eq_true rfl⟩ (reg_a qa) rfl rfl rfl rfl (Nat.le_of_ble_eq_true rfl) ⟨Nat.le_of_ble_eq_true rfl, Nat.le_of_ble_eq_true rfl⟩ dX3_passDay_22 (k_qV fun w_22 q_22 => ?_)
          obtain ⟨qb, qg⟩ := q_22
          refine x_iinc hM dX3_passDay_25 rfl rfl rfl ?_
          refine x_goto (tgt := 2) hM dX3_passDay_28 (by decide) ?_
          exact ih (i + 1) _ (by omega) (by omega) qb (hF.tr (qf.tr qg))
      · skip
        refine x_iload_n hM dX3_passDay_2 rfl rfl ?_
        refine x_aload_n hM dX3_passDay_3 rfl rfl ?_
        refine x_get hM wf_X3_74 wl_X3 (by first | assumption | exact reg_o (by assumption) | exact reg_a (by assumption)) rfl dX3_passDay_4 ?_
        refine x_icmp_ge (tgt := 31) hM dX3_passDay_7 (by decide) (by omega) (by omega) (fun c_7 => ?_) (fun c_7 => ?_)
        · refine x_aload_n hM dX3_passDay_31 rfl rfl ?_
          refine x_dup hM dX3_passDay_32 rfl ?_
          refine x_get hM wf_X3_78 wl_X3 (by first | assumption | exact reg_o (by assumption) | exact reg_a (by assumption)) rfl dX3_passDay_33 ?_
          refine x_iconst hM dX3_passDay_36 ?_
          refine x_iadd hM dX3_passDay_37 ?_
          refine x_put hM wf_X3_78 wl_X3 (by first | assumption | exact reg_o (by assumption) | exact reg_a (by assumption)) wq_X3_78 rfl rfl (Nat.le_of_ble_eq_true rfl) rfl dX3_passDay_38 ?_
          refine hR.v dX3_passDay_41 (Nat.zero_le _) (Nat.zero_le _) ?_
          have hie : i = s.own.toNat := by omega
          subst hie
          exact p_qV ⟨⟨hW, fs, fp, ft, fx, hr.u0, e1, e2, e3, e4⟩, hF.tr (Fr.wS (by omega) (by omega))⟩
        · exfalso; omega
  refine x_iconst hM dX3_passDay_0 ?_
  refine x_istore_n hM dX3_passDay_1 rfl rfl (Nat.le_of_ble_eq_true rfl) rfl ?_
  exact K (s.own.toNat + 1) 0 w (by omega) (by omega) h1 Fr.rf
/-- after how many days the money would be below 0 -/
def dtlF (tax : Int) : Nat → Nat → Int64 → Int
  | 0, _, _ => -6
  | k + 1, i, m => if m - jJ tax < jJ 0 then i else dtlF tax k (i + 1) (m - jJ tax)
theorem m_X3_daysToLoss {l : Launch} {G : xG} {w : Wd} {z r : Nat} {s : St} {o : Int} (h1 : regA G w r s) (ho : 0 ≤ o ∧ o < 10) : xMet l G yX3_daysToLoss cX3_daysToLoss 6 (some .int) ({ frames := 2, cells := 0, slots := 0, locals := 43 } : Room) [.ref r, .int (iI o)] w z (rI (if cntO s.L o ≤ 0 then -6 else dtlF (taxV s o) 300 1 (s.mon o)) w z) := by
  obtain ⟨hW, fs, fp, ft, fx, hr, e1, e2, e3, e4⟩ := id h1
  obtain ⟨sW, go, gs, gl, gr, gm, hs, hL⟩ := id (rgS hr)
  have sW1 := sW.1
  have ck := cntO_nn s.L o
  have tb := tax_b o hW sW
  have e5 := (hL.2 o ho.1 ho.2).1
  refine xMet_of RX3 rfl (by decide +kernel) false (by decide +kernel) (Nat.le_of_ble_eq_true rfl) rfl ?_
  intro P hM hR
  have K : ∀ (k i : Nat) (m : Int64), i + k = 301 → 0 < cntO s.L o → P 15 [some (.ref r), some (.int (iI o)), some (.int (iI (taxV s o))), some (.long m), none, some (.int (iI i))] [] w (z, 0, 0) → False ∨ True := fun _ _ _ _ _ _ => Or.inr trivial
  have K1 : 0 < cntO s.L o → ∀ (k i : Nat) (m : Int64), i + k = 301 → dtlF (taxV s o) k i m = dtlF (taxV s o) 300 1 (s.mon o) → P 15 [some (.ref r), some (.int (iI o)), some (.int (iI (taxV s o))), some (.long m), none, some (.int (iI i))] [] w (z, 0, 0) := by
    intro hc k
    induction k with
    | zero =>
      intro i m hi hinv
      refine x_iload hM dX3_daysToLoss_15 rfl ?_
      refine x_sipush hM dX3_daysToLoss_17 rfl ?_
      refine x_icmp_gt (tgt := 57) hM dX3_daysToLoss_20 (by decide) (by omega) (by omega) (fun c_20 => ?_) (fun c_20 => ?_)
      · refine x_bipush hM dX3_daysToLoss_57 rfl ?_
        refine hR.i dX3_daysToLoss_59 (Nat.zero_le _) (Nat.zero_le _) ?_
        exact p_rI (by rw [if_neg (by omega), ← hinv]; rfl)
      · exfalso; omega
    | succ k ih =>
      intro i m hi hinv
      refine x_iload hM dX3_daysToLoss_15 rfl ?_
      refine x_sipush hM dX3_daysToLoss_17 rfl ?_
      refine x_icmp_gt (tgt := 57) hM dX3_daysToLoss_20 (by decide) (by omega) (by omega) (fun c_20 => ?_) (fun c_20 => ?_)
      · exfalso; omega
      · refine x_aload_n hM dX3_daysToLoss_23 rfl rfl ?_
        refine x_get hM wf_X3_12 wl_X3 (by first | assumption | exact reg_o (by assumption) | exact reg_a (by assumption)) rfl dX3_daysToLoss_24 ?_
        refine x_get hM wf_X3_94 wl_X5 (by first | assumption | exact str_o (by assumption) | exact str_a (by assumption)) rfl dX3_daysToLoss_27 ?_
        refine x_iload_n hM dX3_daysToLoss_30 rfl rfl ?_
        refine x_callV hM wv_X3_90 (m_X4_at (by first | assumption | exact sr1 (by assumption) | exact sr2 (by assumption) | exact sr3 (by assumption) | exact sr4 (by assumption) | exact sr5 (by assumption) | exact rg1 (by assumption) | exact rg2 (by assumption) | exact rg3 (by assumption)) (by omega)) ⟨Nat.le_of_ble_eq_true rfl, Nat.le_of_ble_eq_true rfl⟩ (by first | assumption | exact row_o (by first | assumption | exact sr1 (by assumption) | exact sr2 (by assumption) | exact sr3 (by assumption) | exact sr4 (by assumption) | exact sr5 (by assumption) | exact rg1 (by assumption) | exact rg2 (by assumption) | exact rg3 (by assumption))) rfl rfl rfl rfl (Nat.le_of_ble_eq_true rfl) ⟨Nat.le_of_ble_eq_true rfl, Nat.le_of_ble_eq_true rfl⟩ dX3_daysToLoss_31 (k_rI ?_)
        rw [e5]
        refine x_if_le (tgt := 57) hM dX3_daysToLoss_34 (by decide) (by omega) (fun c_34 => ?_) (fun c_34 => ?_)
        · exfalso; omega
        · refine x_lload_n hM dX3_daysToLoss_37 rfl rfl ?_
          refine x_iload_n hM dX3_daysToLoss_38 rfl rfl ?_
          refine x_i2l hM dX3_daysToLoss_39 ?_
          rw [iI_long (by omega)]
          refine x_lsub hM dX3_daysToLoss_40 ?_
          refine x_lstore_n hM dX3_daysToLoss_41 rfl rfl (Nat.le_of_ble_eq_true rfl) rfl ?_
          refine x_lload_n hM dX3_daysToLoss_42 rfl rfl ?_
          refine x_lconst (z := 0) hM dX3_daysToLoss_43 rfl ?_
          refine x_lcmp hM dX3_daysToLoss_44 (fun z_44 z_44r z_44l z_44e => ?_)
          refine x_if_ge (tgt := 51) hM dX3_daysToLoss_45 (by decide) (by omega) (fun c_45 => ?_) (fun c_45 => ?_)
          · refine x_iinc hM dX3_daysToLoss_51 rfl rfl rfl ?_
            refine x_goto (tgt := 15) hM dX3_daysToLoss_54 (by decide) ?_
            exact ih (i + 1) _ (by omega) (by rw [← hinv]; exact (if_neg (fun q => absurd (z_44l.mpr q) (by omega))).symm)
          · refine x_iload hM dX3_daysToLoss_48 rfl ?_
            refine hR.i dX3_daysToLoss_50 (Nat.zero_le _) (Nat.zero_le _) ?_
            exact p_rI (by rw [if_neg (by omega), ← hinv]; exact (if_pos (z_44l.mp (by omega))).symm)
  by_cases hc : 0 < cntO s.L o
  · skip
    refine x_aload_n hM dX3_daysToLoss_0 rfl rfl ?_
    refine x_iload_n hM dX3_daysToLoss_1 rfl rfl ?_
    refine x_callV hM wv_X3_97 (m_X3_taxOf (by assumption) (by omega)) ⟨Nat.le_of_ble_eq_true rfl, Nat.le_of_ble_eq_true rfl⟩ (by first | assumption | exact reg_o (by assumption) | exact reg_a (by assumption)) rfl rfl rfl rfl (Nat.le_of_ble_eq_true rfl) ⟨Nat.le_of_ble_eq_true rfl, Nat.le_of_ble_eq_true rfl⟩ dX3_daysToLoss_2 (k_rI ?_)
    refine x_istore_n hM dX3_daysToLoss_5 rfl rfl (Nat.le_of_ble_eq_true rfl) rfl ?_
    refine x_aload_n hM dX3_daysToLoss_6 rfl rfl ?_
    refine x_iload_n hM dX3_daysToLoss_7 rfl rfl ?_
    refine x_callV hM wv_X3_113 (m_X3_purseOf (by assumption) (by omega)) ⟨Nat.le_of_ble_eq_true rfl, Nat.le_of_ble_eq_true rfl⟩ (by first | assumption | exact reg_o (by assumption) | exact reg_a (by assumption)) rfl rfl rfl rfl (Nat.le_of_ble_eq_true rfl) ⟨Nat.le_of_ble_eq_true rfl, Nat.le_of_ble_eq_true rfl⟩ dX3_daysToLoss_8 (k_rL ?_)
    refine x_lstore_n hM dX3_daysToLoss_11 rfl rfl (Nat.le_of_ble_eq_true rfl) rfl ?_
    refine x_iconst hM dX3_daysToLoss_12 ?_
    refine x_istore hM dX3_daysToLoss_13 rfl (Nat.le_of_ble_eq_true rfl) rfl ?_
    exact K1 hc 300 1 _ (by omega) rfl
  · skip
    refine x_aload_n hM dX3_daysToLoss_0 rfl rfl ?_
    refine x_iload_n hM dX3_daysToLoss_1 rfl rfl ?_
    refine x_callV hM wv_X3_97 (m_X3_taxOf (by assumption) (by omega)) ⟨Nat.le_of_ble_eq_true rfl, Nat.le_of_ble_eq_true rfl⟩ (by first | assumption | exact reg_o (by assumption) | exact reg_a (by assumption)) rfl rfl rfl rfl (Nat.le_of_ble_eq_true rfl) ⟨Nat.le_of_ble_eq_true rfl, Nat.le_of_ble_eq_true rfl⟩ dX3_daysToLoss_2 (k_rI ?_)
    refine x_istore_n hM dX3_daysToLoss_5 rfl rfl (Nat.le_of_ble_eq_true rfl) rfl ?_
    refine x_aload_n hM dX3_daysToLoss_6 rfl rfl ?_
    refine x_iload_n hM dX3_daysToLoss_7 rfl rfl ?_
    refine x_callV hM wv_X3_113 (m_X3_purseOf (by assumption) (by omega)) ⟨Nat.le_of_ble_eq_true rfl, Nat.le_of_ble_eq_true rfl⟩ (by first | assumption | exact reg_o (by assumption) | exact reg_a (by assumption)) rfl rfl rfl rfl (Nat.le_of_ble_eq_true rfl) ⟨Nat.le_of_ble_eq_true rfl, Nat.le_of_ble_eq_true rfl⟩ dX3_daysToLoss_8 (k_rL ?_)
    refine x_lstore_n hM dX3_daysToLoss_11 rfl rfl (Nat.le_of_ble_eq_true rfl) rfl ?_
    refine x_iconst hM dX3_daysToLoss_12 ?_
    refine x_istore hM dX3_daysToLoss_13 rfl (Nat.le_of_ble_eq_true rfl) rfl ?_
    refine x_iload hM dX3_daysToLoss_15 rfl ?_
    refine x_sipush hM dX3_daysToLoss_17 rfl ?_
    refine x_icmp_gt (tgt := 57) hM dX3_daysToLoss_20 (by decide) (by omega) (by omega) (fun c_20 => ?_) (fun c_20 => ?_)
    · exfalso; omega
    · refine x_aload_n hM dX3_daysToLoss_23 rfl rfl ?_
      refine x_get hM wf_X3_12 wl_X3 (by first | assumption | exact reg_o (by assumption) | exact reg_a (by assumption)) rfl dX3_daysToLoss_24 ?_
      refine x_get hM wf_X3_94 wl_X5 (by first | assumption | exact str_o (by assumption) | exact str_a (by assumption)) rfl dX3_daysToLoss_27 ?_
      refine x_iload_n hM dX3_daysToLoss_30 rfl rfl ?_
      refine x_callV hM wv_X3_90 (m_X4_at (by first | assumption | exact sr1 (by assumption) | exact sr2 (by assumption) | exact sr3 (by assumption) | exact sr4 (by assumption) | exact sr5 (by assumption) | exact rg1 (by assumption) | exact rg2 (by assumption) | exact rg3 (by assumption)) (by omega)) ⟨Nat.le_of_ble_eq_true rfl, Nat.le_of_ble_eq_true rfl⟩ (by first | assumption | exact row_o (by first | assumption | exact sr1 (by assumption) | exact sr2 (by assumption) | exact sr3 (by assumption) | exact sr4 (by assumption) | exact sr5 (by assumption) | exact rg1 (by assumption) | exact rg2 (by assumption) | exact rg3 (by assumption))) rfl rfl rfl rfl (Nat.le_of_ble_eq_true rfl) ⟨Nat.le_of_ble_eq_true rfl, Nat.le_of_ble_eq_true rfl⟩ dX3_daysToLoss_31 (k_rI ?_)
      rw [e5]
      refine x_if_le (tgt := 57) hM dX3_daysToLoss_34 (by decide) (by omega) (fun c_34 => ?_) (fun c_34 => ?_)
      · refine x_bipush hM dX3_daysToLoss_57 rfl ?_
        refine hR.i dX3_daysToLoss_59 (Nat.zero_le _) (Nat.zero_le _) ?_
        exact p_rI (by rw [if_pos (by omega)])
      · exfalso; omega
