/-! RangeDeeds: what there is -/
theorem m_X6_failing {l : Launch} {G : xG} {w : Wd} {z x : Nat} {s : St} (hc : coA G w x s) : xMet l G yX6_failing cX6_failing 1 (some .int) ({ frames := 5, cells := 0, slots := 0, locals := 126 } : Room) [.ref x] w z (qI z fun y w1 => y = (reF s).1 ∧ coA G w1 x s ∧ Fr (x + 1) (x + 56) w w1) := by
  refine xMet_of RX6 rfl (by decide +kernel) false (by decide +kernel) (Nat.le_of_ble_eq_true rfl) rfl ?_
  intro P hM hR
  refine x_aload_n hM dX6_failing_0 rfl rfl ?_
  refine x_callV hM wv_X6_86 (m_X6_rehearse (by assumption)) ⟨Nat.le_of_ble_eq_true rfl, Nat.le_of_ble_eq_true rfl⟩ (by first | assumption | exact dd_o (by assumption)) rfl rfl rfl rfl (Nat.le_of_ble_eq_true rfl) ⟨Nat.le_of_ble_eq_true rfl, Nat.le_of_ble_eq_true rfl⟩ dX6_failing_1 (k_qI fun x_1 w_1 q_1 => ?_)
  obtain ⟨e9, qc, -, qf⟩ := q_1
  refine hR.i dX6_failing_4 (Nat.zero_le _) (Nat.zero_le _) ?_
  exact p_qI ⟨e9, qc, qf.mo (by omega) (by omega)⟩
def ofR (s : St) (r k : Int) : Int := if 0 ≤ r ∧ r < s.L.length then (if k = 0 then gO s.L r.toNat else if k = 1 then gA_ s.L r.toNat else if k = 2 then gB_ s.L r.toNat - gA_ s.L r.toNat else -2) else -1
theorem m_X6_ofRange {l : Launch} {G : xG} {w : Wd} {z x : Nat} {s : St} {r k : Int} (hc : coA G w x s) (hr0 : iR r) (hk : iR k) : xMet l G yX6_ofRange cX6_ofRange 3 (some .int) ({ frames := 1, cells := 0, slots := 0, locals := 21 } : Room) [.ref x, .int (iI r), .int (iI k)] w z (rI (ofR s r k) w z) := by
  obtain ⟨hd, hr, -⟩ := id hc
  have hS := rgaS hr
  have hsl := hS.1.1
  obtain ⟨hsW, go, gs, gl, gr, gm, hs, hL⟩ := id hS
  refine xMet_of RX6 rfl (by decide +kernel) false (by decide +kernel) (Nat.le_of_ble_eq_true rfl) rfl ?_
  intro P hM hR
  by_cases c1 : 0 ≤ r ∧ r < s.L.length
  · obtain ⟨n, rfl⟩ : ∃ n : Nat, r = n := ⟨r.toNat, by omega⟩
    have hn : n < s.L.length := by omega
    have e1 := gO_at hn
    have e2 := hL.1 n hn
    refine x_aload_n hM dX6_ofRange_0 rfl rfl ?_
    refine x_get hM wf_X6_12 wl_X6 (by first | assumption | exact dd_o (by assumption)) rfl dX6_ofRange_1 ?_
    refine x_get hM wf_X6_92 wl_X3 (by first | assumption | exact reg_o (by assumption) | exact reg_a (by assumption)) rfl dX6_ofRange_4 ?_
    refine x_iload_n hM dX6_ofRange_7 rfl rfl ?_
    refine x_callV hM wv_X6_95 (m_X5_hasRange hs (by omega) (by omega)) ⟨Nat.le_of_ble_eq_true rfl, Nat.le_of_ble_eq_true rfl⟩ (str_a hS) rfl rfl rfl rfl (Nat.le_of_ble_eq_true rfl) ⟨Nat.le_of_ble_eq_true rfl, Nat.le_of_ble_eq_true rfl⟩ dX6_ofRange_8 (k_rI ?_)
    rw [if_pos c1]
    refine x_if_ne (tgt := 16) hM dX6_ofRange_11 (by decide) (by omega) (fun c_11 => ?_) (fun c_11 => ?_)
    · refine x_iload_n hM dX6_ofRange_16 rfl rfl ?_
      by_cases sO_17 : k < 0 ∨ 2 < k
      · refine x_tableOut (tgt := 89) hM dX6_ofRange_17 (by omega) sO_17 (by decide) ?_
        refine x_bipush hM dX6_ofRange_89 rfl ?_
        refine hR.i dX6_ofRange_91 (Nat.zero_le _) (Nat.zero_le _) ?_
        exact p_rI (by unfold ofR; rw [if_pos c1, if_neg (by omega), if_neg (by omega), if_neg (by omega)])
      rcases (by omega : k = 0 ∨ k = 1 ∨ k = 2) with rfl | rfl | rfl
      · refine x_tableIn (tgt := 44) hM dX6_ofRange_17 (by omega) (by omega) (by omega) rfl (by decide) ?_
        refine x_aload_n hM dX6_ofRange_44 rfl rfl ?_
        refine x_get hM wf_X6_12 wl_X6 (by first | assumption | exact dd_o (by assumption)) rfl dX6_ofRange_45 ?_
        refine x_get hM wf_X6_92 wl_X3 (by first | assumption | exact reg_o (by assumption) | exact reg_a (by assumption)) rfl dX6_ofRange_48 ?_
        refine x_get hM wf_X6_99 wl_X5 (by first | assumption | exact str_o (by assumption) | exact str_a (by assumption)) rfl dX6_ofRange_51 ?_
        refine x_iload_n hM dX6_ofRange_54 rfl rfl ?_
        refine x_callV hM wv_X6_103 (m_X4_at (sr1 hs) (by omega)) ⟨Nat.le_of_ble_eq_true rfl, Nat.le_of_ble_eq_true rfl⟩ (row_o (sr1 hs)) rfl rfl rfl rfl (Nat.le_of_ble_eq_true rfl) ⟨Nat.le_of_ble_eq_true rfl, Nat.le_of_ble_eq_true rfl⟩ dX6_ofRange_55 (k_rI ?_)
        refine hR.i dX6_ofRange_58 (Nat.zero_le _) (Nat.zero_le _) ?_
        exact p_rI (by unfold ofR; rw [if_pos c1, if_pos rfl, Int.toNat_natCast, e1.1, e2.1])
      · refine x_tableIn (tgt := 59) hM dX6_ofRange_17 (by omega) (by omega) (by omega) rfl (by decide) ?_
        refine x_aload_n hM dX6_ofRange_59 rfl rfl ?_
        refine x_get hM wf_X6_12 wl_X6 (by first | assumption | exact dd_o (by assumption)) rfl dX6_ofRange_60 ?_
        refine x_get hM wf_X6_92 wl_X3 (by first | assumption | exact reg_o (by assumption) | exact reg_a (by assumption)) rfl dX6_ofRange_63 ?_
        refine x_get hM wf_X6_108 wl_X5 (by first | assumption | exact str_o (by assumption) | exact str_a (by assumption)) rfl dX6_ofRange_66 ?_
        refine x_iload_n hM dX6_ofRange_69 rfl rfl ?_
        refine x_callV hM wv_X6_103 (m_X4_at (sr2 hs) (by omega)) ⟨Nat.le_of_ble_eq_true rfl, Nat.le_of_ble_eq_true rfl⟩ (row_o (sr2 hs)) rfl rfl rfl rfl (Nat.le_of_ble_eq_true rfl) ⟨Nat.le_of_ble_eq_true rfl, Nat.le_of_ble_eq_true rfl⟩ dX6_ofRange_70 (k_rI ?_)
        refine hR.i dX6_ofRange_73 (Nat.zero_le _) (Nat.zero_le _) ?_
        exact p_rI (by unfold ofR; rw [if_pos c1, if_neg (by decide), if_pos rfl, Int.toNat_natCast, e1.2.1, e2.2.1])
      · refine x_tableIn (tgt := 74) hM dX6_ofRange_17 (by omega) (by omega) (by omega) rfl (by decide) ?_
        refine x_aload_n hM dX6_ofRange_74 rfl rfl ?_
        refine x_get hM wf_X6_12 wl_X6 (by first | assumption | exact dd_o (by assumption)) rfl dX6_ofRange_75 ?_
        refine x_get hM wf_X6_92 wl_X3 (by first | assumption | exact reg_o (by assumption) | exact reg_a (by assumption)) rfl dX6_ofRange_78 ?_
        refine x_get hM wf_X6_111 wl_X5 (by first | assumption | exact str_o (by assumption) | exact str_a (by assumption)) rfl dX6_ofRange_81 ?_
        refine x_iload_n hM dX6_ofRange_84 rfl rfl ?_
        refine x_callV hM wv_X6_103 (m_X4_at (sr3 hs) (by omega)) ⟨Nat.le_of_ble_eq_true rfl, Nat.le_of_ble_eq_true rfl⟩ (row_o (sr3 hs)) rfl rfl rfl rfl (Nat.le_of_ble_eq_true rfl) ⟨Nat.le_of_ble_eq_true rfl, Nat.le_of_ble_eq_true rfl⟩ dX6_ofRange_85 (k_rI ?_)
        refine hR.i dX6_ofRange_88 (Nat.zero_le _) (Nat.zero_le _) ?_
        exact p_rI (by unfold ofR; rw [if_pos c1, if_neg (by decide), if_neg (by decide), if_pos rfl, Int.toNat_natCast, e1.2.1, e1.2.2, e2.2.2])
    · exfalso; omega
  · skip
    refine x_aload_n hM dX6_ofRange_0 rfl rfl ?_
    refine x_get hM wf_X6_12 wl_X6 (by first | assumption | exact dd_o (by assumption)) rfl dX6_ofRange_1 ?_
    refine x_get hM wf_X6_92 wl_X3 (by first | assumption | exact reg_o (by assumption) | exact reg_a (by assumption)) rfl dX6_ofRange_4 ?_
    refine x_iload_n hM dX6_ofRange_7 rfl rfl ?_
    refine x_callV hM wv_X6_95 (m_X5_hasRange hs (by omega) (by omega)) ⟨Nat.le_of_ble_eq_true rfl, Nat.le_of_ble_eq_true rfl⟩ (str_a hS) rfl rfl rfl rfl (Nat.le_of_ble_eq_true rfl) ⟨Nat.le_of_ble_eq_true rfl, Nat.le_of_ble_eq_true rfl⟩ dX6_ofRange_8 (k_rI ?_)
    rw [if_neg c1]
    refine x_if_ne (tgt := 16) hM dX6_ofRange_11 (by decide) (by omega) (fun c_11 => ?_) (fun c_11 => ?_)
    · exfalso; omega
    · refine x_iconst hM dX6_ofRange_14 ?_
      refine hR.i dX6_ofRange_15 (Nat.zero_le _) (Nat.zero_le _) ?_
      exact p_rI (if_neg c1).symm
def ofO (s : St) (o k : Int) : Int := if 0 ≤ o ∧ o < s.own then (if k = 0 then cntO s.L o else if k = 1 then mtsO s.L o else if k = 2 then lonF s.L o else if k = 3 then taxV s o else if k = 4 then s.tax o else if k = 5 then s.los o else -2) else -1
theorem m_X6_ofOwner {l : Launch} {G : xG} {w : Wd} {z x : Nat} {s : St} {o k : Int} (hc : coA G w x s) (ho : iR o) (hk : iR k) : xMet l G yX6_ofOwner cX6_ofOwner 3 (some .int) ({ frames := 2, cells := 0, slots := 0, locals := 44 } : Room) [.ref x, .int (iI o), .int (iI k)] w z (rI (ofO s o k) w z) := by
  obtain ⟨hd, hr, -⟩ := id hc
  obtain ⟨w1, w2, w3⟩ := id hr.1
  obtain ⟨hW, fs, fp, ft, fx, hg, g1, g2, g3, g4⟩ := id hr
  have hS := rgaS hr
  obtain ⟨hsW, go, gs, gl, gr, gm, hs, hL⟩ := id hS
  refine xMet_of RX6 rfl (by decide +kernel) false (by decide +kernel) (Nat.le_of_ble_eq_true rfl) rfl ?_
  intro P hM hR
  by_cases c1 : 0 ≤ o ∧ o < s.own
  · have e2 := hL.2 o (by omega) (by omega)
    refine x_aload_n hM dX6_ofOwner_0 rfl rfl ?_
    refine x_get hM wf_X6_12 wl_X6 (by first | assumption | exact dd_o (by assumption)) rfl dX6_ofOwner_1 ?_
    refine x_iload_n hM dX6_ofOwner_4 rfl rfl ?_
    refine x_callV hM wv_X6_114 (m_X3_hasOwner (by assumption) (by omega)) ⟨Nat.le_of_ble_eq_true rfl, Nat.le_of_ble_eq_true rfl⟩ (by first | assumption | exact reg_o (by assumption) | exact reg_a (by assumption)) rfl rfl rfl rfl (Nat.le_of_ble_eq_true rfl) ⟨Nat.le_of_ble_eq_true rfl, Nat.le_of_ble_eq_true rfl⟩ dX6_ofOwner_5 (k_rI ?_)
    rw [if_pos c1]
    refine x_if_ne (tgt := 13) hM dX6_ofOwner_8 (by decide) (by omega) (fun c_8 => ?_) (fun c_8 => ?_)
    · refine x_iload_n hM dX6_ofOwner_13 rfl rfl ?_
      by_cases sO_14 : k < 0 ∨ 5 < k
      · refine x_tableOut (tgt := 127) hM dX6_ofOwner_14 (by omega) sO_14 (by decide) ?_
        refine x_bipush hM dX6_ofOwner_127 rfl ?_
        refine hR.i dX6_ofOwner_129 (Nat.zero_le _) (Nat.zero_le _) ?_
        exact p_rI (by unfold ofO; rw [if_pos c1, if_neg (by omega), if_neg (by omega), if_neg (by omega), if_neg (by omega), if_neg (by omega), if_neg (by omega)])
      rcases (by omega : k = 0 ∨ k = 1 ∨ k = 2 ∨ k = 3 ∨ k = 4 ∨ k = 5) with rfl | rfl | rfl | rfl | rfl | rfl
      · refine x_tableIn (tgt := 52) hM dX6_ofOwner_14 (by omega) (by omega) (by omega) rfl (by decide) ?_
        refine x_aload_n hM dX6_ofOwner_52 rfl rfl ?_
        refine x_get hM wf_X6_12 wl_X6 (by first | assumption | exact dd_o (by assumption)) rfl dX6_ofOwner_53 ?_
        refine x_get hM wf_X6_92 wl_X3 (by first | assumption | exact reg_o (by assumption) | exact reg_a (by assumption)) rfl dX6_ofOwner_56 ?_
        refine x_get hM wf_X6_117 wl_X5 (by first | assumption | exact str_o (by assumption) | exact str_a (by assumption)) rfl dX6_ofOwner_59 ?_
        refine x_iload_n hM dX6_ofOwner_62 rfl rfl ?_
        refine x_callV hM wv_X6_103 (m_X4_at (sr4 hs) (by omega)) ⟨Nat.le_of_ble_eq_true rfl, Nat.le_of_ble_eq_true rfl⟩ (row_o (sr4 hs)) rfl rfl rfl rfl (Nat.le_of_ble_eq_true rfl) ⟨Nat.le_of_ble_eq_true rfl, Nat.le_of_ble_eq_true rfl⟩ dX6_ofOwner_63 (k_rI ?_)
        refine hR.i dX6_ofOwner_66 (Nat.zero_le _) (Nat.zero_le _) ?_
        exact p_rI (by unfold ofO; rw [if_pos c1, if_pos rfl, e2.1])
      · refine x_tableIn (tgt := 67) hM dX6_ofOwner_14 (by omega) (by omega) (by omega) rfl (by decide) ?_
        refine x_aload_n hM dX6_ofOwner_67 rfl rfl ?_
        refine x_get hM wf_X6_12 wl_X6 (by first | assumption | exact dd_o (by assumption)) rfl dX6_ofOwner_68 ?_
        refine x_get hM wf_X6_92 wl_X3 (by first | assumption | exact reg_o (by assumption) | exact reg_a (by assumption)) rfl dX6_ofOwner_71 ?_
        refine x_get hM wf_X6_120 wl_X5 (by first | assumption | exact str_o (by assumption) | exact str_a (by assumption)) rfl dX6_ofOwner_74 ?_
        refine x_iload_n hM dX6_ofOwner_77 rfl rfl ?_
        refine x_callV hM wv_X6_103 (m_X4_at (sr5 hs) (by omega)) ⟨Nat.le_of_ble_eq_true rfl, Nat.le_of_ble_eq_true rfl⟩ (row_o (sr5 hs)) rfl rfl rfl rfl (Nat.le_of_ble_eq_true rfl) ⟨Nat.le_of_ble_eq_true rfl, Nat.le_of_ble_eq_true rfl⟩ dX6_ofOwner_78 (k_rI ?_)
        refine hR.i dX6_ofOwner_81 (Nat.zero_le _) (Nat.zero_le _) ?_
        exact p_rI (by unfold ofO; rw [if_pos c1, if_neg (by decide), if_pos rfl, e2.2])
      · refine x_tableIn (tgt := 82) hM dX6_ofOwner_14 (by omega) (by omega) (by omega) rfl (by decide) ?_
        refine x_aload_n hM dX6_ofOwner_82 rfl rfl ?_
        refine x_get hM wf_X6_12 wl_X6 (by first | assumption | exact dd_o (by assumption)) rfl dX6_ofOwner_83 ?_
        refine x_get hM wf_X6_92 wl_X3 (by first | assumption | exact reg_o (by assumption) | exact reg_a (by assumption)) rfl dX6_ofOwner_86 ?_
        refine x_iload_n hM dX6_ofOwner_89 rfl rfl ?_
        refine x_callV hM wv_X6_123 (m_X5_longestOf (by assumption) (by omega)) ⟨Nat.le_of_ble_eq_true rfl, Nat.le_of_ble_eq_true rfl⟩ (by first | assumption | exact str_o (by assumption) | exact str_a (by assumption)) rfl rfl rfl rfl (Nat.le_of_ble_eq_true rfl) ⟨Nat.le_of_ble_eq_true rfl, Nat.le_of_ble_eq_true rfl⟩ dX6_ofOwner_90 (k_rI ?_)
        refine hR.i dX6_ofOwner_93 (Nat.zero_le _) (Nat.zero_le _) ?_
        exact p_rI (by unfold ofO; rw [if_pos c1, if_neg (by decide), if_neg (by decide), if_pos rfl])
      · refine x_tableIn (tgt := 94) hM dX6_ofOwner_14 (by omega) (by omega) (by omega) rfl (by decide) ?_
        refine x_aload_n hM dX6_ofOwner_94 rfl rfl ?_
        refine x_get hM wf_X6_12 wl_X6 (by first | assumption | exact dd_o (by assumption)) rfl dX6_ofOwner_95 ?_
        refine x_iload_n hM dX6_ofOwner_98 rfl rfl ?_
        refine x_callV hM wv_X6_126 (m_X3_taxOf (by assumption) (by omega)) ⟨Nat.le_of_ble_eq_true rfl, Nat.le_of_ble_eq_true rfl⟩ (by first | assumption | exact reg_o (by assumption) | exact reg_a (by assumption)) rfl rfl rfl rfl (Nat.le_of_ble_eq_true rfl) ⟨Nat.le_of_ble_eq_true rfl, Nat.le_of_ble_eq_true rfl⟩ dX6_ofOwner_99 (k_rI ?_)
        refine hR.i dX6_ofOwner_102 (Nat.zero_le _) (Nat.zero_le _) ?_
        exact p_rI (by unfold ofO; rw [if_pos c1, if_neg (by decide), if_neg (by decide), if_neg (by decide), if_pos rfl])
      · refine x_tableIn (tgt := 103) hM dX6_ofOwner_14 (by omega) (by omega) (by omega) rfl (by decide) ?_
        refine x_aload_n hM dX6_ofOwner_103 rfl rfl ?_
        refine x_get hM wf_X6_12 wl_X6 (by first | assumption | exact dd_o (by assumption)) rfl dX6_ofOwner_104 ?_
        refine x_get hM wf_X6_129 wl_X3 (by first | assumption | exact reg_o (by assumption) | exact reg_a (by assumption)) rfl dX6_ofOwner_107 ?_
        refine x_iload_n hM dX6_ofOwner_110 rfl rfl ?_
        refine x_callV hM wv_X6_103 (m_X4_at (rg2 hg) (by omega)) ⟨Nat.le_of_ble_eq_true rfl, Nat.le_of_ble_eq_true rfl⟩ (row_o (rg2 hg)) rfl rfl rfl rfl (Nat.le_of_ble_eq_true rfl) ⟨Nat.le_of_ble_eq_true rfl, Nat.le_of_ble_eq_true rfl⟩ dX6_ofOwner_111 (k_rI ?_)
        refine hR.i dX6_ofOwner_114 (Nat.zero_le _) (Nat.zero_le _) ?_
        exact p_rI (by unfold ofO; rw [if_pos c1, if_neg (by decide), if_neg (by decide), if_neg (by decide), if_neg (by decide), if_pos rfl, g3 o (by omega) (by omega)])
      · refine x_tableIn (tgt := 115) hM dX6_ofOwner_14 (by omega) (by omega) (by omega) rfl (by decide) ?_
        refine x_aload_n hM dX6_ofOwner_115 rfl rfl ?_
        refine x_get hM wf_X6_12 wl_X6 (by first | assumption | exact dd_o (by assumption)) rfl dX6_ofOwner_116 ?_
        refine x_get hM wf_X6_132 wl_X3 (by first | assumption | exact reg_o (by assumption) | exact reg_a (by assumption)) rfl dX6_ofOwner_119 ?_
        refine x_iload_n hM dX6_ofOwner_122 rfl rfl ?_
        refine x_callV hM wv_X6_103 (m_X4_at (rg3 hg) (by omega)) ⟨Nat.le_of_ble_eq_true rfl, Nat.le_of_ble_eq_true rfl⟩ (row_o (rg3 hg)) rfl rfl rfl rfl (Nat.le_of_ble_eq_true rfl) ⟨Nat.le_of_ble_eq_true rfl, Nat.le_of_ble_eq_true rfl⟩ dX6_ofOwner_123 (k_rI ?_)
        refine hR.i dX6_ofOwner_126 (Nat.zero_le _) (Nat.zero_le _) ?_
        exact p_rI (by unfold ofO; rw [if_pos c1, if_neg (by decide), if_neg (by decide), if_neg (by decide), if_neg (by decide), if_neg (by decide), if_pos rfl, g4 o (by omega) (by omega)])
    · exfalso; omega
  · skip
    refine x_aload_n hM dX6_ofOwner_0 rfl rfl ?_
    refine x_get hM wf_X6_12 wl_X6 (by first | assumption | exact dd_o (by assumption)) rfl dX6_ofOwner_1 ?_
    refine x_iload_n hM dX6_ofOwner_4 rfl rfl ?_
    refine x_callV hM wv_X6_114 (m_X3_hasOwner (by assumption) (by omega)) ⟨Nat.le_of_ble_eq_true rfl, Nat.le_of_ble_eq_true rfl⟩ (by first | assumption | exact reg_o (by assumption) | exact reg_a (by assumption)) rfl rfl rfl rfl (Nat.le_of_ble_eq_true rfl) ⟨Nat.le_of_ble_eq_true rfl, Nat.le_of_ble_eq_true rfl⟩ dX6_ofOwner_5 (k_rI ?_)
    rw [if_neg c1]
    refine x_if_ne (tgt := 13) hM dX6_ofOwner_8 (by decide) (by omega) (fun c_8 => ?_) (fun c_8 => ?_)
    · exfalso; omega
    · refine x_iconst hM dX6_ofOwner_11 ?_
      refine hR.i dX6_ofOwner_12 (Nat.zero_le _) (Nat.zero_le _) ?_
      exact p_rI (if_neg c1).symm
def monV (s : St) (o : Int) : Int64 := if 0 ≤ o ∧ o < s.own then s.mon o else jJ (-1)
theorem m_X6_money {l : Launch} {G : xG} {w : Wd} {z x : Nat} {s : St} {o : Int} (hc : coA G w x s) (ho : iR o) : xMet l G yX6_money cX6_money 2 (some .long) ({ frames := 1, cells := 0, slots := 0, locals := 21 } : Room) [.ref x, .int (iI o)] w z (rL (monV s o) w z) := by
  obtain ⟨hd, hr, -⟩ := id hc
  obtain ⟨w1, w2, w3⟩ := id hr.1
  refine xMet_of RX6 rfl (by decide +kernel) false (by decide +kernel) (Nat.le_of_ble_eq_true rfl) rfl ?_
  intro P hM hR
  refine x_aload_n hM dX6_money_0 rfl rfl ?_
  refine x_get hM wf_X6_12 wl_X6 (by first | assumption | exact dd_o (by assumption)) rfl dX6_money_1 ?_
  refine x_iload_n hM dX6_money_4 rfl rfl ?_
  refine x_callV hM wv_X6_114 (m_X3_hasOwner (by assumption) (by omega)) ⟨Nat.le_of_ble_eq_true rfl, Nat.le_of_ble_eq_true rfl⟩ (by first | assumption | exact reg_o (by assumption) | exact reg_a (by assumption)) rfl rfl rfl rfl (Nat.le_of_ble_eq_true rfl) ⟨Nat.le_of_ble_eq_true rfl, Nat.le_of_ble_eq_true rfl⟩ dX6_money_5 (k_rI ?_)
  by_cases c1 : 0 ≤ o ∧ o < s.own
  · rw [if_pos c1]
    refine x_if_eq (tgt := 22) hM dX6_money_8 (by decide) (by omega) (fun q => absurd q (by decide)) (fun _ => ?_)
    refine x_aload_n hM dX6_money_11 rfl rfl ?_
    refine x_get hM wf_X6_12 wl_X6 (by first | assumption | exact dd_o (by assumption)) rfl dX6_money_12 ?_
    refine x_iload_n hM dX6_money_15 rfl rfl ?_
    refine x_callV hM wv_X6_135 (m_X3_purseOf (by assumption) (by omega)) ⟨Nat.le_of_ble_eq_true rfl, Nat.le_of_ble_eq_true rfl⟩ (by first | assumption | exact reg_o (by assumption) | exact reg_a (by assumption)) rfl rfl rfl rfl (Nat.le_of_ble_eq_true rfl) ⟨Nat.le_of_ble_eq_true rfl, Nat.le_of_ble_eq_true rfl⟩ dX6_money_16 (k_rL ?_)
    refine x_goto (tgt := 25) hM dX6_money_19 (by decide) ?_
    refine hR.j dX6_money_25 (Nat.zero_le _) (Nat.zero_le _) ?_
    first | exact p_rL (if_pos c1).symm | exact p_rL (if_neg c1).symm
  · rw [if_neg c1]
    refine x_if_eq (tgt := 22) hM dX6_money_8 (by decide) (by omega) (fun _ => ?_) (fun q => absurd rfl q)
    refine x_ldc2 hM dX6_money_22 wc_X6_139 ?_
    refine hR.j dX6_money_25 (Nat.zero_le _) (Nat.zero_le _) ?_
    first | exact p_rL (if_pos c1).symm | exact p_rL (if_neg c1).symm
def ownV (s : St) (m : Int) : Int := if m < 0 then -2 else if m < 10000 then hldF s.L m else -2
theorem m_X6_ownerAt {l : Launch} {G : xG} {w : Wd} {z x : Nat} {s : St} {m : Int} (hc : coA G w x s) (hm : iR m) : xMet l G yX6_ownerAt cX6_ownerAt 2 (some .int) ({ frames := 3, cells := 0, slots := 0, locals := 64 } : Room) [.ref x, .int (iI m)] w z (rI (ownV s m) w z) := by
  obtain ⟨hd, hr, -⟩ := id hc
  have hS := rgaS hr
  refine xMet_of RX6 rfl (by decide +kernel) false (by decide +kernel) (Nat.le_of_ble_eq_true rfl) rfl ?_
  intro P hM hR
  refine x_iload_n hM dX6_ownerAt_0 rfl rfl ?_
  refine x_if_lt (tgt := 11) hM dX6_ownerAt_1 (by decide) (by omega) (fun c_1 => ?_) (fun c_1 => ?_)
  · refine x_bipush hM dX6_ownerAt_11 rfl ?_
    refine x_goto (tgt := 27) hM dX6_ownerAt_13 (by decide) ?_
    refine hR.i dX6_ownerAt_27 (Nat.zero_le _) (Nat.zero_le _) ?_
    unfold ownV
    first | exact p_rI (if_pos (by assumption)).symm | exact p_rI ((if_neg (by omega)).trans (if_pos (by omega))).symm | exact p_rI ((if_neg (by omega)).trans (if_neg (by omega))).symm
  · refine x_iload_n hM dX6_ownerAt_4 rfl rfl ?_
    refine x_sipush hM dX6_ownerAt_5 rfl ?_
    refine x_icmp_lt (tgt := 16) hM dX6_ownerAt_8 (by decide) (by omega) (by omega) (fun c_8 => ?_) (fun c_8 => ?_)
    · refine x_aload_n hM dX6_ownerAt_16 rfl rfl ?_
      refine x_get hM wf_X6_12 wl_X6 (by first | assumption | exact dd_o (by assumption)) rfl dX6_ownerAt_17 ?_
      refine x_get hM wf_X6_92 wl_X3 (by first | assumption | exact reg_o (by assumption) | exact reg_a (by assumption)) rfl dX6_ownerAt_20 ?_
      refine x_iload_n hM dX6_ownerAt_23 rfl rfl ?_
      refine x_callV hM wv_X6_141 (m_X5_holderAt (by assumption) (by omega)) ⟨Nat.le_of_ble_eq_true rfl, Nat.le_of_ble_eq_true rfl⟩ (by first | assumption | exact str_o (by assumption) | exact str_a (by assumption)) rfl rfl rfl rfl (Nat.le_of_ble_eq_true rfl) ⟨Nat.le_of_ble_eq_true rfl, Nat.le_of_ble_eq_true rfl⟩ dX6_ownerAt_24 (k_rI ?_)
      refine hR.i dX6_ownerAt_27 (Nat.zero_le _) (Nat.zero_le _) ?_
      unfold ownV
      first | exact p_rI (if_pos (by assumption)).symm | exact p_rI ((if_neg (by omega)).trans (if_pos (by omega))).symm | exact p_rI ((if_neg (by omega)).trans (if_neg (by omega))).symm
    · refine x_bipush hM dX6_ownerAt_11 rfl ?_
      refine x_goto (tgt := 27) hM dX6_ownerAt_13 (by decide) ?_
      refine hR.i dX6_ownerAt_27 (Nat.zero_le _) (Nat.zero_le _) ?_
      unfold ownV
      first | exact p_rI (if_pos (by assumption)).symm | exact p_rI ((if_neg (by omega)).trans (if_pos (by omega))).symm | exact p_rI ((if_neg (by omega)).trans (if_neg (by omega))).symm
def ofT (s : St) (i k : Int) : Int := if 0 ≤ i ∧ i < s.D.length then (if k < 0 ∨ 5 ≤ k then -2 else (s.D[i.toNat]?.map fun t => trAt t k).getD 0) else -1
theorem m_X6_ofTransfer {l : Launch} {G : xG} {w : Wd} {z x : Nat} {s : St} {i k : Int} (hc : coA G w x s) (hi : iR i) (hk : iR k) : xMet l G yX6_ofTransfer cX6_ofTransfer 3 (some .int) ({ frames := 2, cells := 0, slots := 0, locals := 43 } : Room) [.ref x, .int (iI i), .int (iI k)] w z (rI (ofT s i k) w z) := by
  obtain ⟨hd, hr, -⟩ := id hc
  have hD := rgaD hr
  have hDl := hD.1.1
  refine xMet_of RX6 rfl (by decide +kernel) false (by decide +kernel) (Nat.le_of_ble_eq_true rfl) rfl ?_
  intro P hM hR
  by_cases c1 : 0 ≤ i ∧ i < s.D.length
  · obtain ⟨n, rfl⟩ : ∃ n : Nat, i = n := ⟨i.toNat, by omega⟩
    have hn : n < s.D.length := by omega
    refine x_aload_n hM dX6_ofTransfer_0 rfl rfl ?_
    refine x_get hM wf_X6_12 wl_X6 (by first | assumption | exact dd_o (by assumption)) rfl dX6_ofTransfer_1 ?_
    refine x_get hM wf_X6_144 wl_X3 (by first | assumption | exact reg_o (by assumption) | exact reg_a (by assumption)) rfl dX6_ofTransfer_4 ?_
    refine x_iload_n hM dX6_ofTransfer_7 rfl rfl ?_
    refine x_callV hM wv_X6_148 (m_X0_hasTransfer (by assumption) (by omega)) ⟨Nat.le_of_ble_eq_true rfl, Nat.le_of_ble_eq_true rfl⟩ (deal_o hD) rfl rfl rfl rfl (Nat.le_of_ble_eq_true rfl) ⟨Nat.le_of_ble_eq_true rfl, Nat.le_of_ble_eq_true rfl⟩ dX6_ofTransfer_8 (k_rI ?_)
    rw [if_pos c1]
    refine x_if_ne (tgt := 16) hM dX6_ofTransfer_11 (by decide) (by omega) (fun c_11 => ?_) (fun c_11 => ?_)
    · refine x_iload_n hM dX6_ofTransfer_16 rfl rfl ?_
      refine x_if_lt (tgt := 25) hM dX6_ofTransfer_17 (by decide) (by omega) (fun c_17 => ?_) (fun c_17 => ?_)
      · refine x_bipush hM dX6_ofTransfer_25 rfl ?_
        refine x_goto (tgt := 42) hM dX6_ofTransfer_27 (by decide) ?_
        refine hR.i dX6_ofTransfer_42 (Nat.zero_le _) (Nat.zero_le _) ?_
        unfold ofT
        first | exact p_rI ((if_pos c1).trans ((if_neg (by omega)).trans (by rw [Int.toNat_natCast, List.getElem?_eq_getElem hn]; rfl))).symm | exact p_rI ((if_pos c1).trans (if_pos (by omega))).symm
      · refine x_iload_n hM dX6_ofTransfer_20 rfl rfl ?_
        refine x_iconst hM dX6_ofTransfer_21 ?_
        refine x_icmp_lt (tgt := 30) hM dX6_ofTransfer_22 (by decide) (by omega) (by omega) (fun c_22 => ?_) (fun c_22 => ?_)
        · refine x_aload_n hM dX6_ofTransfer_30 rfl rfl ?_
          refine x_get hM wf_X6_12 wl_X6 (by first | assumption | exact dd_o (by assumption)) rfl dX6_ofTransfer_31 ?_
          refine x_get hM wf_X6_144 wl_X3 (by first | assumption | exact reg_o (by assumption) | exact reg_a (by assumption)) rfl dX6_ofTransfer_34 ?_
          refine x_iload_n hM dX6_ofTransfer_37 rfl rfl ?_
          refine x_iload_n hM dX6_ofTransfer_38 rfl rfl ?_
          refine x_callV hM wv_X6_153 (m_X0_about (i := n) hD hn (by omega)) ⟨Nat.le_of_ble_eq_true rfl, Nat.le_of_ble_eq_true rfl⟩ (deal_o hD) rfl rfl rfl rfl (Nat.le_of_ble_eq_true rfl) ⟨Nat.le_of_ble_eq_true rfl, Nat.le_of_ble_eq_true rfl⟩ dX6_ofTransfer_39 (k_rI ?_)
          refine hR.i dX6_ofTransfer_42 (Nat.zero_le _) (Nat.zero_le _) ?_
          unfold ofT
          first | exact p_rI ((if_pos c1).trans ((if_neg (by omega)).trans (by rw [Int.toNat_natCast, List.getElem?_eq_getElem hn]; rfl))).symm | exact p_rI ((if_pos c1).trans (if_pos (by omega))).symm
        · refine x_bipush hM dX6_ofTransfer_25 rfl ?_
          refine x_goto (tgt := 42) hM dX6_ofTransfer_27 (by decide) ?_
          refine hR.i dX6_ofTransfer_42 (Nat.zero_le _) (Nat.zero_le _) ?_
          unfold ofT
          first | exact p_rI ((if_pos c1).trans ((if_neg (by omega)).trans (by rw [Int.toNat_natCast, List.getElem?_eq_getElem hn]; rfl))).symm | exact p_rI ((if_pos c1).trans (if_pos (by omega))).symm
    · exfalso; omega
  · skip
    refine x_aload_n hM dX6_ofTransfer_0 rfl rfl ?_
    refine x_get hM wf_X6_12 wl_X6 (by first | assumption | exact dd_o (by assumption)) rfl dX6_ofTransfer_1 ?_
    refine x_get hM wf_X6_144 wl_X3 (by first | assumption | exact reg_o (by assumption) | exact reg_a (by assumption)) rfl dX6_ofTransfer_4 ?_
    refine x_iload_n hM dX6_ofTransfer_7 rfl rfl ?_
    refine x_callV hM wv_X6_148 (m_X0_hasTransfer (by assumption) (by omega)) ⟨Nat.le_of_ble_eq_true rfl, Nat.le_of_ble_eq_true rfl⟩ (deal_o hD) rfl rfl rfl rfl (Nat.le_of_ble_eq_true rfl) ⟨Nat.le_of_ble_eq_true rfl, Nat.le_of_ble_eq_true rfl⟩ dX6_ofTransfer_8 (k_rI ?_)
    rw [if_neg c1]
    refine x_if_ne (tgt := 16) hM dX6_ofTransfer_11 (by decide) (by omega) (fun c_11 => ?_) (fun c_11 => ?_)
    · exfalso; omega
    · refine x_iconst hM dX6_ofTransfer_14 ?_
      refine hR.i dX6_ofTransfer_15 (Nat.zero_le _) (Nat.zero_le _) ?_
      exact p_rI (if_neg c1).symm
theorem sumF_ext {f g : Int → Int} : ∀ n : Nat, eqR n f g → sumF f n = sumF g n := by
  intro n
  induction n with
  | zero => intro _; rfl
  | succ n ih =>
    intro h
    show sumF f n + f n = sumF g n + g n
    rw [ih (fun j a b => h j a (by omega)), h n (by omega) (by omega)]
def allM (L : List Sg) : Int := sumF (mtsO L) 10
theorem allM_eq {L : List Sg} {fo fs fl fr fm : Int → Int} (h : strL L fo fs fl fr fm) : sumF fm 10 = allM L := sumF_ext 10 fun j a b => (h.2 j a b).2
def cntV (s : St) (np nh : Int) (k : Int) : Int :=
  if k = 0 then s.day else if k = 1 then s.own else if k = 2 then s.L.length else if k = 3 then allM s.L else if k = 4 then holF s.L else if k = 5 then lghF s.L else if k = 6 then s.D.length else if k = 7 then s.clo else if k = 8 then s.fee else if k = 9 then sumF s.tax 10 else if k = 10 then np else if k = 11 then nh else if 12 ≤ k ∧ k < 17 then s.set (k - 12) else -2
theorem m_X6_count {l : Launch} {G : xG} {w : Wd} {z x : Nat} {s : St} {hs : List St} {cs : List Int} {pl kd le nu se k : Int} (hc : coA G w x s) (hh : hisA G w (x + 56) hs) (hp : padA G w (x + 213) cs pl kd le nu se) (hk : iR k) : xMet l G yX6_count cX6_count 2 (some .int) ({ frames := 4, cells := 0, slots := 0, locals := 85 } : Room) [.ref x, .int (iI k)] w z (rI (cntV s cs.length hs.length k) w z) := by
  obtain ⟨hd, hr, -⟩ := id hc
  obtain ⟨hW, fs, fp, ft, fx, hg, g1, g2, g3, g4⟩ := id hr
  have hS := rgaS hr
  have hD := rgaD hr
  obtain ⟨hsW, go, gs, gl, gr, gm, hs0, hL⟩ := id hS
  refine xMet_of RX6 rfl (by decide +kernel) false (by decide +kernel) (Nat.le_of_ble_eq_true rfl) rfl ?_
  intro P hM hR
  refine x_iload_n hM dX6_count_0 rfl rfl ?_
  by_cases sO_1 : k < 0 ∨ 11 < k
  · refine x_tableOut (tgt := 178) hM dX6_count_1 (by omega) sO_1 (by decide) ?_
    refine x_iload_n hM dX6_count_178 rfl rfl ?_
    refine x_bipush hM dX6_count_179 rfl ?_
    refine x_isub hM dX6_count_181 ?_
    obtain ⟨k2, e2, hk2, hk3, hk4⟩ : ∃ k2 : Int, iI (k - 12) = iI k2 ∧ iR k2 ∧ (0 ≤ k2 ∧ k2 < 5 ↔ 12 ≤ k ∧ k < 17) ∧ (0 ≤ k2 ∧ k2 < 5 → k2 = k - 12) := by
      by_cases q : iR (k - 12)
      · exact ⟨k - 12, rfl, q, by omega, fun _ => rfl⟩
      · refine ⟨k - 12 + 4294967296, ?_, by omega, by omega, by omega⟩
        rw [← iI_add, show iI 4294967296 = iI 0 from rfl, iI_add, Int.add_zero]
    rw [e2]
    refine x_callS hM ws_X6_187 (m_X6_isSetting (i := k2) (by omega)) ⟨Nat.le_of_ble_eq_true rfl, Nat.le_of_ble_eq_true rfl⟩ rfl rfl (Nat.le_of_ble_eq_true rfl) ⟨Nat.le_of_ble_eq_true rfl, Nat.le_of_ble_eq_true rfl⟩ dX6_count_182 (k_rI ?_)
    by_cases c5 : 0 ≤ k2 ∧ k2 < 5
    · rw [if_pos c5]
      refine x_if_eq (tgt := 205) hM dX6_count_185 (by decide) (by omega) (fun q => absurd q (by decide)) (fun _ => ?_)
      refine x_aload_n hM dX6_count_188 rfl rfl ?_
      refine x_get hM wf_X6_12 wl_X6 (by first | assumption | exact dd_o (by assumption)) rfl dX6_count_189 ?_
      refine x_get hM wf_X6_190 wl_X3 (by first | assumption | exact reg_o (by assumption) | exact reg_a (by assumption)) rfl dX6_count_192 ?_
      refine x_iload_n hM dX6_count_195 rfl rfl ?_
      refine x_bipush hM dX6_count_196 rfl ?_
      refine x_isub hM dX6_count_198 ?_
      refine x_callV hM wv_X6_103 (m_X4_at (rg1 hg) (by omega)) ⟨Nat.le_of_ble_eq_true rfl, Nat.le_of_ble_eq_true rfl⟩ (row_o (rg1 hg)) rfl rfl rfl rfl (Nat.le_of_ble_eq_true rfl) ⟨Nat.le_of_ble_eq_true rfl, Nat.le_of_ble_eq_true rfl⟩ dX6_count_199 (k_rI ?_)
      refine x_goto (tgt := 207) hM dX6_count_202 (by decide) ?_
      refine hR.i dX6_count_207 (Nat.zero_le _) (Nat.zero_le _) ?_
      unfold cntV
      repeat rw [if_neg (by omega)]
      first | exact p_rI rfl | exact p_rI (by rw [if_pos (hk3.mp c5), g1 (k - 12) (by omega) (by omega)])
    · rw [if_neg c5]
      refine x_if_eq (tgt := 205) hM dX6_count_185 (by decide) (by omega) (fun _ => ?_) (fun q => absurd rfl q)
      refine x_bipush hM dX6_count_205 rfl ?_
      refine hR.i dX6_count_207 (Nat.zero_le _) (Nat.zero_le _) ?_
      unfold cntV
      repeat rw [if_neg (by omega)]
      first | exact p_rI rfl | exact p_rI (by rw [if_pos (hk3.mp c5), g1 (k - 12) (by omega) (by omega)])
  rcases (by omega : k = 0 ∨ k = 1 ∨ k = 2 ∨ k = 3 ∨ k = 4 ∨ k = 5 ∨ k = 6 ∨ k = 7 ∨ k = 8 ∨ k = 9 ∨ k = 10 ∨ k = 11) with rfl | rfl | rfl | rfl | rfl | rfl | rfl | rfl | rfl | rfl | rfl | rfl
  · refine x_tableIn (tgt := 64) hM dX6_count_1 (by omega) (by omega) (by omega) rfl (by decide) ?_
    refine x_aload_n hM dX6_count_64 rfl rfl ?_
    refine x_get hM wf_X6_12 wl_X6 (by first | assumption | exact dd_o (by assumption)) rfl dX6_count_65 ?_
    refine x_get hM wf_X6_156 wl_X3 (by first | assumption | exact reg_o (by assumption) | exact reg_a (by assumption)) rfl dX6_count_68 ?_
    refine hR.i dX6_count_71 (Nat.zero_le _) (Nat.zero_le _) ?_
    exact p_rI rfl
  · refine x_tableIn (tgt := 72) hM dX6_count_1 (by omega) (by omega) (by omega) rfl (by decide) ?_
    refine x_aload_n hM dX6_count_72 rfl rfl ?_
    refine x_get hM wf_X6_12 wl_X6 (by first | assumption | exact dd_o (by assumption)) rfl dX6_count_73 ?_
    refine x_get hM wf_X6_160 wl_X3 (by first | assumption | exact reg_o (by assumption) | exact reg_a (by assumption)) rfl dX6_count_76 ?_
    refine hR.i dX6_count_79 (Nat.zero_le _) (Nat.zero_le _) ?_
    exact p_rI rfl
  · refine x_tableIn (tgt := 80) hM dX6_count_1 (by omega) (by omega) (by omega) rfl (by decide) ?_
    refine x_aload_n hM dX6_count_80 rfl rfl ?_
    refine x_get hM wf_X6_12 wl_X6 (by first | assumption | exact dd_o (by assumption)) rfl dX6_count_81 ?_
    refine x_get hM wf_X6_92 wl_X3 (by first | assumption | exact reg_o (by assumption) | exact reg_a (by assumption)) rfl dX6_count_84 ?_
    refine x_get hM wf_X6_163 wl_X5 (by first | assumption | exact str_o (by assumption) | exact str_a (by assumption)) rfl dX6_count_87 ?_
    refine hR.i dX6_count_90 (Nat.zero_le _) (Nat.zero_le _) ?_
    exact p_rI rfl
  · refine x_tableIn (tgt := 91) hM dX6_count_1 (by omega) (by omega) (by omega) rfl (by decide) ?_
    refine x_aload_n hM dX6_count_91 rfl rfl ?_
    refine x_get hM wf_X6_12 wl_X6 (by first | assumption | exact dd_o (by assumption)) rfl dX6_count_92 ?_
    refine x_get hM wf_X6_92 wl_X3 (by first | assumption | exact reg_o (by assumption) | exact reg_a (by assumption)) rfl dX6_count_95 ?_
    refine x_callV hM wv_X6_166 (m_X5_metersOfAll hs0) ⟨Nat.le_of_ble_eq_true rfl, Nat.le_of_ble_eq_true rfl⟩ (str_a hS) rfl rfl rfl rfl (Nat.le_of_ble_eq_true rfl) ⟨Nat.le_of_ble_eq_true rfl, Nat.le_of_ble_eq_true rfl⟩ dX6_count_98 (k_rI ?_)
    refine hR.i dX6_count_101 (Nat.zero_le _) (Nat.zero_le _) ?_
    rw [allM_eq hL]
    exact p_rI rfl
  · refine x_tableIn (tgt := 102) hM dX6_count_1 (by omega) (by omega) (by omega) rfl (by decide) ?_
    refine x_aload_n hM dX6_count_102 rfl rfl ?_
    refine x_get hM wf_X6_12 wl_X6 (by first | assumption | exact dd_o (by assumption)) rfl dX6_count_103 ?_
    refine x_get hM wf_X6_92 wl_X3 (by first | assumption | exact reg_o (by assumption) | exact reg_a (by assumption)) rfl dX6_count_106 ?_
    refine x_callV hM wv_X6_169 (m_X5_holes (by assumption)) ⟨Nat.le_of_ble_eq_true rfl, Nat.le_of_ble_eq_true rfl⟩ (by first | assumption | exact str_o (by assumption) | exact str_a (by assumption)) rfl rfl rfl rfl (Nat.le_of_ble_eq_true rfl) ⟨Nat.le_of_ble_eq_true rfl, Nat.le_of_ble_eq_true rfl⟩ dX6_count_109 (k_rI ?_)
    refine hR.i dX6_count_112 (Nat.zero_le _) (Nat.zero_le _) ?_
    exact p_rI rfl
  · refine x_tableIn (tgt := 113) hM dX6_count_1 (by omega) (by omega) (by omega) rfl (by decide) ?_
    refine x_aload_n hM dX6_count_113 rfl rfl ?_
    refine x_get hM wf_X6_12 wl_X6 (by first | assumption | exact dd_o (by assumption)) rfl dX6_count_114 ?_
    refine x_get hM wf_X6_92 wl_X3 (by first | assumption | exact reg_o (by assumption) | exact reg_a (by assumption)) rfl dX6_count_117 ?_
    refine x_callV hM wv_X6_172 (m_X5_longestHole (by assumption)) ⟨Nat.le_of_ble_eq_true rfl, Nat.le_of_ble_eq_true rfl⟩ (by first | assumption | exact str_o (by assumption) | exact str_a (by assumption)) rfl rfl rfl rfl (Nat.le_of_ble_eq_true rfl) ⟨Nat.le_of_ble_eq_true rfl, Nat.le_of_ble_eq_true rfl⟩ dX6_count_120 (k_rI ?_)
    refine hR.i dX6_count_123 (Nat.zero_le _) (Nat.zero_le _) ?_
    exact p_rI rfl
  · refine x_tableIn (tgt := 124) hM dX6_count_1 (by omega) (by omega) (by omega) rfl (by decide) ?_
    refine x_aload_n hM dX6_count_124 rfl rfl ?_
    refine x_get hM wf_X6_12 wl_X6 (by first | assumption | exact dd_o (by assumption)) rfl dX6_count_125 ?_
    refine x_get hM wf_X6_144 wl_X3 (by first | assumption | exact reg_o (by assumption) | exact reg_a (by assumption)) rfl dX6_count_128 ?_
    refine x_get hM wf_X6_175 wl_X0 (by first | assumption | exact deal_o (by assumption)) rfl dX6_count_131 ?_
    refine hR.i dX6_count_134 (Nat.zero_le _) (Nat.zero_le _) ?_
    exact p_rI rfl
  · refine x_tableIn (tgt := 135) hM dX6_count_1 (by omega) (by omega) (by omega) rfl (by decide) ?_
    refine x_aload_n hM dX6_count_135 rfl rfl ?_
    refine x_get hM wf_X6_12 wl_X6 (by first | assumption | exact dd_o (by assumption)) rfl dX6_count_136 ?_
    refine x_get hM wf_X6_176 wl_X3 (by first | assumption | exact reg_o (by assumption) | exact reg_a (by assumption)) rfl dX6_count_139 ?_
    refine hR.i dX6_count_142 (Nat.zero_le _) (Nat.zero_le _) ?_
    exact p_rI rfl
  · refine x_tableIn (tgt := 143) hM dX6_count_1 (by omega) (by omega) (by omega) rfl (by decide) ?_
    refine x_aload_n hM dX6_count_143 rfl rfl ?_
    refine x_get hM wf_X6_12 wl_X6 (by first | assumption | exact dd_o (by assumption)) rfl dX6_count_144 ?_
    refine x_get hM wf_X6_179 wl_X3 (by first | assumption | exact reg_o (by assumption) | exact reg_a (by assumption)) rfl dX6_count_147 ?_
    refine hR.i dX6_count_150 (Nat.zero_le _) (Nat.zero_le _) ?_
    exact p_rI rfl
  · refine x_tableIn (tgt := 151) hM dX6_count_1 (by omega) (by omega) (by omega) rfl (by decide) ?_
    refine x_aload_n hM dX6_count_151 rfl rfl ?_
    refine x_get hM wf_X6_12 wl_X6 (by first | assumption | exact dd_o (by assumption)) rfl dX6_count_152 ?_
    refine x_get hM wf_X6_129 wl_X3 (by first | assumption | exact reg_o (by assumption) | exact reg_a (by assumption)) rfl dX6_count_155 ?_
    refine x_callV hM wv_X6_182 (m_X4_sum (rg2 hg) (by omega)) ⟨Nat.le_of_ble_eq_true rfl, Nat.le_of_ble_eq_true rfl⟩ (row_o (rg2 hg)) rfl rfl rfl rfl (Nat.le_of_ble_eq_true rfl) ⟨Nat.le_of_ble_eq_true rfl, Nat.le_of_ble_eq_true rfl⟩ dX6_count_158 (k_rI ?_)
    refine hR.i dX6_count_161 (Nat.zero_le _) (Nat.zero_le _) ?_
    rw [sumF_ext 10 g3]
    exact p_rI rfl
  · refine x_tableIn (tgt := 162) hM dX6_count_1 (by omega) (by omega) (by omega) rfl (by decide) ?_
    refine x_aload_n hM dX6_count_162 rfl rfl ?_
    refine x_get hM wf_X6_40 wl_X6 (by first | assumption | exact dd_o (by assumption)) rfl dX6_count_163 ?_
    refine x_get hM wf_X6_185 wl_X2 (by first | assumption | exact pad_o (by assumption)) rfl dX6_count_166 ?_
    refine hR.i dX6_count_169 (Nat.zero_le _) (Nat.zero_le _) ?_
    exact p_rI rfl
  · refine x_tableIn (tgt := 170) hM dX6_count_1 (by omega) (by omega) (by omega) rfl (by decide) ?_
    refine x_aload_n hM dX6_count_170 rfl rfl ?_
    refine x_get hM wf_X6_29 wl_X6 (by first | assumption | exact dd_o (by assumption)) rfl dX6_count_171 ?_
    refine x_get hM wf_X6_186 wl_X1 (his_a hh) rfl dX6_count_174 ?_
    refine hR.i dX6_count_177 (Nat.zero_le _) (Nat.zero_le _) ?_
    exact ⟨rfl, rfl, rfl⟩
