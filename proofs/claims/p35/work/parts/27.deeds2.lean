/-! RangeDeeds: further changes -/
theorem gvF_neg {s : St} {o f n : Int} (h : (gvF s o f n).1 < 0) : (gvF s o f n).2 = s := by
  unfold gvF at h ⊢
  split
  · split
    · split
      · split
        · next a b c d => rw [if_pos a, if_pos b, if_pos c, if_pos d] at h; simp only at h; omega
        · rfl
      · rfl
    · rfl
  · rfl
def grF (s : St) (o n : Int) : Int × St := if 0 ≤ o ∧ o < s.own then (if 1 ≤ n ∧ n ≤ 10000 then (if gfrF s.L n 0 = -6 then (-5, s) else (if (gvF s o (gapP s.L (gfrF s.L n 0).toNat) n).1 < 0 then (gvF s o (gapP s.L (gfrF s.L n 0).toNat) n).1 else gapP s.L (gfrF s.L n 0).toNat, (gvF s o (gapP s.L (gfrF s.L n 0).toNat) n).2)) else (-2, s)) else (-1, s)
theorem gvF_b {s : St} {o f n : Int} : iR (gvF s o f n).1 → iR (gvF s o f n).1 := id
theorem gvF_r {s : St} {o f n : Int} : -10 ≤ (gvF s o f n).1 ∧ (gvF s o f n).1 ≤ 40 := by
  unfold gvF
  split
  · split
    · split
      · split
        · simp only; omega
        · simp
      · simp
    · simp
  · simp
theorem m_X6_grabPiece {l : Launch} {G : xG} {w : Wd} {z x : Nat} {s : St} {o n : Int} (hc : coA G w x s) (ho : iR o) (hn : iR n) : xMet l G yX6_grabPiece cX6_grabPiece 6 (some .int) ({ frames := 4, cells := 0, slots := 0, locals := 100 } : Room) [.ref x, .int (iI o), .int (iI n)] w z (opP G w z x (grF s o n)) := by
  obtain ⟨hd, hr, -, T0, hT⟩ := id hc
  have hS := rgaS hr
  have hgf := gfrF_b s.L n 0
  have hgp := gapP_b hS.1 (gfrF s.L n 0).toNat
  have hsl := hS.1.1
  refine xMet_of RX6 rfl (by decide +kernel) false (by decide +kernel) (Nat.le_of_ble_eq_true rfl) rfl ?_
  intro P hM hR
  refine x_aload_n hM dX6_grabPiece_0 rfl rfl ?_
  refine x_get hM wf_X6_12 wl_X6 (by first | assumption | exact dd_o (by assumption)) rfl dX6_grabPiece_1 ?_
  refine x_iload_n hM dX6_grabPiece_4 rfl rfl ?_
  refine x_callV hM wv_X6_114 (m_X3_hasOwner (by assumption) (by omega)) ⟨Nat.le_of_ble_eq_true rfl, Nat.le_of_ble_eq_true rfl⟩ (by first | assumption | exact reg_o (by assumption) | exact reg_a (by assumption)) rfl rfl rfl rfl (Nat.le_of_ble_eq_true rfl) ⟨Nat.le_of_ble_eq_true rfl, Nat.le_of_ble_eq_true rfl⟩ dX6_grabPiece_5 (k_rI ?_)
  by_cases c1 : 0 ≤ o ∧ o < s.own
  · rw [if_pos c1]
    refine x_if_ne (tgt := 13) hM dX6_grabPiece_8 (by decide) (by omega) (fun _ => ?_) (fun q => absurd q (by decide))
    refine x_iload_n hM dX6_grabPiece_13 rfl rfl ?_
    refine x_callS hM ws_X6_196 (m_X6_isLength (by omega)) ⟨Nat.le_of_ble_eq_true rfl, Nat.le_of_ble_eq_true rfl⟩ rfl rfl (Nat.le_of_ble_eq_true rfl) ⟨Nat.le_of_ble_eq_true rfl, Nat.le_of_ble_eq_true rfl⟩ dX6_grabPiece_14 (k_rI ?_)
    by_cases c2 : 1 ≤ n ∧ n ≤ 10000
    · rw [if_pos c2]
      refine x_if_ne (tgt := 23) hM dX6_grabPiece_17 (by decide) (by omega) (fun _ => ?_) (fun q => absurd q (by decide))
      refine x_aload_n hM dX6_grabPiece_23 rfl rfl ?_
      refine x_get hM wf_X6_12 wl_X6 (by first | assumption | exact dd_o (by assumption)) rfl dX6_grabPiece_24 ?_
      refine x_get hM wf_X6_92 wl_X3 (by first | assumption | exact reg_o (by assumption) | exact reg_a (by assumption)) rfl dX6_grabPiece_27 ?_
      refine x_iload_n hM dX6_grabPiece_30 rfl rfl ?_
      refine x_iconst hM dX6_grabPiece_31 ?_
      refine x_callV hM wv_X6_199 (m_X5_gapFor hS (by omega) (by omega)) ⟨Nat.le_of_ble_eq_true rfl, Nat.le_of_ble_eq_true rfl⟩ (str_a hS) rfl rfl rfl rfl (Nat.le_of_ble_eq_true rfl) ⟨Nat.le_of_ble_eq_true rfl, Nat.le_of_ble_eq_true rfl⟩ dX6_grabPiece_32 (k_rI ?_)
      refine x_istore_n hM dX6_grabPiece_35 rfl rfl (Nat.le_of_ble_eq_true rfl) rfl ?_
      refine x_iload_n hM dX6_grabPiece_36 rfl rfl ?_
      refine x_bipush hM dX6_grabPiece_37 rfl ?_
      refine x_icmp_ne (tgt := 45) hM dX6_grabPiece_39 (by decide) (by omega) (by omega) (fun c_39 => ?_) (fun c_39 => ?_)
      · have c3 : ¬ gfrF s.L n 0 = -6 := by assumption
        refine x_aload_n hM dX6_grabPiece_45 rfl rfl ?_
        refine x_get hM wf_X6_12 wl_X6 (by first | assumption | exact dd_o (by assumption)) rfl dX6_grabPiece_46 ?_
        refine x_get hM wf_X6_92 wl_X3 (by first | assumption | exact reg_o (by assumption) | exact reg_a (by assumption)) rfl dX6_grabPiece_49 ?_
        refine x_iload_n hM dX6_grabPiece_52 rfl rfl ?_
        rw [show gfrF s.L n 0 = ((gfrF s.L n 0).toNat : Nat) by omega]
        refine x_callV hM wv_X6_202 (m_X5_startOfGap hS (by omega)) ⟨Nat.le_of_ble_eq_true rfl, Nat.le_of_ble_eq_true rfl⟩ (str_a hS) rfl rfl rfl rfl (Nat.le_of_ble_eq_true rfl) ⟨Nat.le_of_ble_eq_true rfl, Nat.le_of_ble_eq_true rfl⟩ dX6_grabPiece_53 (k_rI ?_)
        refine x_istore hM dX6_grabPiece_56 rfl (Nat.le_of_ble_eq_true rfl) rfl ?_
        refine x_aload_n hM dX6_grabPiece_58 rfl rfl ?_
        refine x_iload_n hM dX6_grabPiece_59 rfl rfl ?_
        refine x_iload hM dX6_grabPiece_60 rfl ?_
        refine x_iload_n hM dX6_grabPiece_62 rfl rfl ?_
        refine x_callV hM wv_X6_62 (m_X6_givePiece (by assumption) (by omega) (by omega) (by omega)) ⟨Nat.le_of_ble_eq_true rfl, Nat.le_of_ble_eq_true rfl⟩ (by first | assumption | exact dd_o (by assumption)) rfl rfl rfl rfl (Nat.le_of_ble_eq_true rfl) ⟨Nat.le_of_ble_eq_true rfl, Nat.le_of_ble_eq_true rfl⟩ dX6_grabPiece_63 (k_qI fun x_63 w_63 q_63 => ?_)
        obtain ⟨rfl, qc, qf⟩ := q_63
        have hgr := gvF_r (s := s) (o := o) (f := gapP s.L (gfrF s.L n 0).toNat) (n := n)
        refine x_istore hM dX6_grabPiece_66 rfl (Nat.le_of_ble_eq_true rfl) rfl ?_
        refine x_iload hM dX6_grabPiece_68 rfl ?_
        refine x_if_ge (tgt := 78) hM dX6_grabPiece_70 (by decide) (by omega) (fun c_70 => ?_) (fun c_70 => ?_)
        · refine x_iload hM dX6_grabPiece_78 rfl ?_
          refine hR.i dX6_grabPiece_80 (Nat.zero_le _) (Nat.zero_le _) ?_
          first | exact p_op ((if_pos c1).trans ((if_pos c2).trans ((if_neg c3).trans (by rw [if_neg (by omega)])))) qc qf | exact p_op ((if_pos c1).trans ((if_pos c2).trans ((if_neg c3).trans (by rw [if_pos (by assumption)])))) qc qf
        · refine x_iload hM dX6_grabPiece_73 rfl ?_
          refine x_goto (tgt := 80) hM dX6_grabPiece_75 (by decide) ?_
          refine hR.i dX6_grabPiece_80 (Nat.zero_le _) (Nat.zero_le _) ?_
          first | exact p_op ((if_pos c1).trans ((if_pos c2).trans ((if_neg c3).trans (by rw [if_neg (by omega)])))) qc qf | exact p_op ((if_pos c1).trans ((if_pos c2).trans ((if_neg c3).trans (by rw [if_pos (by assumption)])))) qc qf
      · refine x_bipush hM dX6_grabPiece_42 rfl ?_
        refine hR.i dX6_grabPiece_44 (Nat.zero_le _) (Nat.zero_le _) ?_
        exact p_op ((if_pos c1).trans ((if_pos c2).trans (if_pos (by assumption)))) hc Fr.rf
    · rw [if_neg c2]
      refine x_if_ne (tgt := 23) hM dX6_grabPiece_17 (by decide) (by omega) (fun q => absurd rfl q) (fun _ => ?_)
      refine x_bipush hM dX6_grabPiece_20 rfl ?_
      refine hR.i dX6_grabPiece_22 (Nat.zero_le _) (Nat.zero_le _) ?_
      exact p_op ((if_pos c1).trans (if_neg c2)) hc Fr.rf
  · rw [if_neg c1]
    refine x_if_ne (tgt := 13) hM dX6_grabPiece_8 (by decide) (by omega) (fun q => absurd rfl q) (fun _ => ?_)
    refine x_iconst hM dX6_grabPiece_11 ?_
    refine hR.i dX6_grabPiece_12 (Nat.zero_le _) (Nat.zero_le _) ?_
    exact p_op (if_neg c1) hc Fr.rf
def inF (s : St) (o h : Int) : Int × St := if (0 ≤ o ∧ o < s.own) ∧ (0 ≤ h ∧ h < s.own) ∧ o ≠ h then (if mtsO s.L o = 0 ∨ mtsO s.L h + mtsO s.L o ≤ s.set 4 then (mtsO s.L o, mkS (inhF s.L o h) s.set s.mon s.tax s.los s.D s.own s.day s.clo s.fee) else (-5, s)) else (-1, s)
theorem m_X6_handOver {l : Launch} {G : xG} {w : Wd} {z x : Nat} {s : St} {o h : Int} (hc : coA G w x s) (ho : iR o) (hh : iR h) : xMet l G yX6_handOver cX6_handOver 4 (some .int) ({ frames := 3, cells := 0, slots := 0, locals := 77 } : Room) [.ref x, .int (iI o), .int (iI h)] w z (opP G w z x (inF s o h)) := by
  obtain ⟨hd, hr, -, T0, hT⟩ := id hc
  obtain ⟨w1, w2, w3⟩ := id hr.1
  have hS := rgaS hr
  have hmb := mtsO_nn s.L o hS.1.2
  have hsl := hS.1.1
  obtain ⟨hsW, go, gs, gl, gr, gm, hs, hL⟩ := id hS
  refine xMet_of RX6 rfl (by decide +kernel) false (by decide +kernel) (Nat.le_of_ble_eq_true rfl) rfl ?_
  intro P hM hR
  refine x_aload_n hM dX6_handOver_0 rfl rfl ?_
  refine x_get hM wf_X6_12 wl_X6 (by first | assumption | exact dd_o (by assumption)) rfl dX6_handOver_1 ?_
  refine x_iload_n hM dX6_handOver_4 rfl rfl ?_
  refine x_callV hM wv_X6_114 (m_X3_hasOwner (by assumption) (by omega)) ⟨Nat.le_of_ble_eq_true rfl, Nat.le_of_ble_eq_true rfl⟩ (by first | assumption | exact reg_o (by assumption) | exact reg_a (by assumption)) rfl rfl rfl rfl (Nat.le_of_ble_eq_true rfl) ⟨Nat.le_of_ble_eq_true rfl, Nat.le_of_ble_eq_true rfl⟩ dX6_handOver_5 (k_rI ?_)
  by_cases c1 : 0 ≤ o ∧ o < s.own
  · rw [if_pos c1]
    refine x_if_eq (tgt := 27) hM dX6_handOver_8 (by decide) (by omega) (fun q => absurd q (by decide)) (fun _ => ?_)
    refine x_aload_n hM dX6_handOver_11 rfl rfl ?_
    refine x_get hM wf_X6_12 wl_X6 (by first | assumption | exact dd_o (by assumption)) rfl dX6_handOver_12 ?_
    refine x_iload_n hM dX6_handOver_15 rfl rfl ?_
    refine x_callV hM wv_X6_114 (m_X3_hasOwner (by assumption) (by omega)) ⟨Nat.le_of_ble_eq_true rfl, Nat.le_of_ble_eq_true rfl⟩ (by first | assumption | exact reg_o (by assumption) | exact reg_a (by assumption)) rfl rfl rfl rfl (Nat.le_of_ble_eq_true rfl) ⟨Nat.le_of_ble_eq_true rfl, Nat.le_of_ble_eq_true rfl⟩ dX6_handOver_16 (k_rI ?_)
    by_cases c2 : 0 ≤ h ∧ h < s.own
    · rw [if_pos c2]
      refine x_if_eq (tgt := 27) hM dX6_handOver_19 (by decide) (by omega) (fun q => absurd q (by decide)) (fun _ => ?_)
      refine x_iload_n hM dX6_handOver_22 rfl rfl ?_
      refine x_iload_n hM dX6_handOver_23 rfl rfl ?_
      refine x_icmp_ne (tgt := 29) hM dX6_handOver_24 (by decide) (by omega) (by omega) (fun c_24 => ?_) (fun c_24 => ?_)
      · have c3 : (0 ≤ o ∧ o < s.own) ∧ (0 ≤ h ∧ h < s.own) ∧ o ≠ h := ⟨c1, c2, by assumption⟩
        refine x_aload_n hM dX6_handOver_29 rfl rfl ?_
        refine x_get hM wf_X6_12 wl_X6 (by first | assumption | exact dd_o (by assumption)) rfl dX6_handOver_30 ?_
        refine x_get hM wf_X6_92 wl_X3 (by first | assumption | exact reg_o (by assumption) | exact reg_a (by assumption)) rfl dX6_handOver_33 ?_
        refine x_get hM wf_X6_120 wl_X5 hs.1 rfl dX6_handOver_36 ?_
        refine x_iload_n hM dX6_handOver_39 rfl rfl ?_
        refine x_callV hM wv_X6_103 (m_X4_at (sr5 hs) (by omega)) ⟨Nat.le_of_ble_eq_true rfl, Nat.le_of_ble_eq_true rfl⟩ (row_o (sr5 hs)) rfl rfl rfl rfl (Nat.le_of_ble_eq_true rfl) ⟨Nat.le_of_ble_eq_true rfl, Nat.le_of_ble_eq_true rfl⟩ dX6_handOver_40 (k_rI ?_)
        rw [(hL.2 o (by omega) (by omega)).2]
        refine x_istore_n hM dX6_handOver_43 rfl rfl (Nat.le_of_ble_eq_true rfl) rfl ?_
        refine x_aload_n hM dX6_handOver_44 rfl rfl ?_
        refine x_get hM wf_X6_12 wl_X6 (by first | assumption | exact dd_o (by assumption)) rfl dX6_handOver_45 ?_
        refine x_iload_n hM dX6_handOver_48 rfl rfl ?_
        refine x_iload_n hM dX6_handOver_49 rfl rfl ?_
        refine x_callV hM wv_X6_284 (m_X3_mayGet hr (by omega) (by omega)) ⟨Nat.le_of_ble_eq_true rfl, Nat.le_of_ble_eq_true rfl⟩ (by first | assumption | exact reg_o (by assumption) | exact reg_a (by assumption)) rfl rfl rfl rfl (Nat.le_of_ble_eq_true rfl) ⟨Nat.le_of_ble_eq_true rfl, Nat.le_of_ble_eq_true rfl⟩ dX6_handOver_50 (k_rI ?_)
        by_cases c4 : mtsO s.L o = 0 ∨ mtsO s.L h + mtsO s.L o ≤ s.set 4
        · rw [if_pos c4]
          refine x_if_ne (tgt := 59) hM dX6_handOver_53 (by decide) (by omega) (fun _ => ?_) (fun q => absurd q (by decide))
          refine x_aload_n hM dX6_handOver_59 rfl rfl ?_
          refine x_get hM wf_X6_22 wl_X6 (by first | assumption | exact dd_o (by assumption)) rfl dX6_handOver_60 ?_
          refine x_aload_n hM dX6_handOver_63 rfl rfl ?_
          refine x_get hM wf_X6_12 wl_X6 (by first | assumption | exact dd_o (by assumption)) rfl dX6_handOver_64 ?_
          refine x_get hM wf_X6_92 wl_X3 (by first | assumption | exact reg_o (by assumption) | exact reg_a (by assumption)) rfl dX6_handOver_67 ?_
          refine x_iload_n hM dX6_handOver_70 rfl rfl ?_
          refine x_iload_n hM dX6_handOver_71 rfl rfl ?_
          refine x_callV hM wv_X6_290 (m_X5_becomeInherited hT hS (by omega) (by omega) (by omega)) ⟨Nat.le_of_ble_eq_true rfl, Nat.le_of_ble_eq_true rfl⟩ (str_a hT) rfl rfl rfl rfl (Nat.le_of_ble_eq_true rfl) ⟨Nat.le_of_ble_eq_true rfl, Nat.le_of_ble_eq_true rfl⟩ dX6_handOver_72 (k_qV fun w_72 q_72 => ?_)
          obtain ⟨qa, qf⟩ := q_72
          have hc1 := hc.uT qf qa
          have hr1 := hr.kp qf (by omega)
          have hS1 := rgaS hr1
          refine x_aload_n hM dX6_handOver_75 rfl rfl ?_
          refine x_get hM wf_X6_12 wl_X6 (by first | assumption | exact dd_o (by assumption)) rfl dX6_handOver_76 ?_
          refine x_get hM wf_X6_92 wl_X3 (reg_a hr1) rfl dX6_handOver_79 ?_
          refine x_aload_n hM dX6_handOver_82 rfl rfl ?_
          refine x_get hM wf_X6_22 wl_X6 (by first | assumption | exact dd_o (by assumption)) rfl dX6_handOver_83 ?_
          refine x_callV hM wv_X6_287 (m_X5_copy hS1 qa (by omega)) ⟨Nat.le_of_ble_eq_true rfl, Nat.le_of_ble_eq_true rfl⟩ (str_a hS1) rfl rfl rfl rfl (Nat.le_of_ble_eq_true rfl) ⟨Nat.le_of_ble_eq_true rfl, Nat.le_of_ble_eq_true rfl⟩ dX6_handOver_86 (k_qV fun w_86 q_86 => ?_)
          obtain ⟨qb, qg⟩ := q_86
          have hr2 := hr1.uS qg qb
          have hc2 := hc1.uR (qg.mo (by omega) (by omega)) hr2
          refine x_iload_n hM dX6_handOver_89 rfl rfl ?_
          refine hR.i dX6_handOver_90 (Nat.zero_le _) (Nat.zero_le _) ?_
          exact p_op ((if_pos c3).trans (if_pos c4)) hc2 ((qf.mo (by omega) (by omega)).tr (qg.mo (by omega) (by omega)))
        · rw [if_neg c4]
          refine x_if_ne (tgt := 59) hM dX6_handOver_53 (by decide) (by omega) (fun q => absurd rfl q) (fun _ => ?_)
          refine x_bipush hM dX6_handOver_56 rfl ?_
          refine hR.i dX6_handOver_58 (Nat.zero_le _) (Nat.zero_le _) ?_
          exact p_op ((if_pos c3).trans (if_neg c4)) hc Fr.rf
      · refine x_iconst hM dX6_handOver_27 ?_
        refine hR.i dX6_handOver_28 (Nat.zero_le _) (Nat.zero_le _) ?_
        exact p_op (if_neg (fun q => by first | exact c1 q.1 | exact c2 q.2.1 | exact q.2.2 (by assumption))) hc Fr.rf
    · rw [if_neg c2]
      refine x_if_eq (tgt := 27) hM dX6_handOver_19 (by decide) (by omega) (fun _ => ?_) (fun q => absurd rfl q)
      refine x_iconst hM dX6_handOver_27 ?_
      refine hR.i dX6_handOver_28 (Nat.zero_le _) (Nat.zero_le _) ?_
      exact p_op (if_neg (fun q => by first | exact c1 q.1 | exact c2 q.2.1 | exact q.2.2 (by assumption))) hc Fr.rf
  · rw [if_neg c1]
    refine x_if_eq (tgt := 27) hM dX6_handOver_8 (by decide) (by omega) (fun _ => ?_) (fun q => absurd rfl q)
    refine x_iconst hM dX6_handOver_27 ?_
    refine hR.i dX6_handOver_28 (Nat.zero_le _) (Nat.zero_le _) ?_
    exact p_op (if_neg (fun q => by first | exact c1 q.1 | exact c2 q.2.1 | exact q.2.2 (by assumption))) hc Fr.rf
theorem regA.uD {G : xG} {w w1 : Wd} {r : Nat} {s : St} {D : List Tr} (h : regA G w r s) (k : Fr (r + 12) (r + 12 + 3) w w1) (q : dealA G w1 (r + 12) D) : regA G w1 r (mkS s.L s.set s.mon s.tax s.los D s.own s.day s.clo s.fee) := by
  obtain ⟨hW, fs, fp, ft, fx, hr, e⟩ := h
  exact ⟨hW, fs, fp, ft, fx, hr.uD k q, e⟩
def trF (s : St) (a b f n p : Int) : Int × St := if (0 ≤ a ∧ a < s.own) ∧ (0 ≤ b ∧ b < s.own) ∧ a ≠ b then (if isP f n ∧ (0 ≤ p ∧ p ≤ 1000000) then (if (s.D.length : Int) < 8 then ((s.D.length : Int) + 1, mkS s.L s.set s.mon s.tax s.los (s.D ++ [(a, b, f, n, p)]) s.own s.day s.clo s.fee) else (-4, s)) else (-2, s)) else (-1, s)
theorem m_X6_addTransfer {l : Launch} {G : xG} {w : Wd} {z x : Nat} {s : St} {a b f n p : Int} (hc : coA G w x s) (ha : iR a) (hb : iR b) (hf : iR f) (hn : iR n) (hp : iR p) : xMet l G yX6_addTransfer cX6_addTransfer 6 (some .int) ({ frames := 2, cells := 0, slots := 0, locals := 48 } : Room) [.ref x, .int (iI a), .int (iI b), .int (iI f), .int (iI n), .int (iI p)] w z (opP G w z x (trF s a b f n p)) := by
  obtain ⟨hd, hr, -⟩ := id hc
  obtain ⟨w1, w2, w3⟩ := id hr.1
  have hD := rgaD hr
  have hDl := hD.1.1
  refine xMet_of RX6 rfl (by decide +kernel) false (by decide +kernel) (Nat.le_of_ble_eq_true rfl) rfl ?_
  intro P hM hR
  refine x_aload_n hM dX6_addTransfer_0 rfl rfl ?_
  refine x_get hM wf_X6_12 wl_X6 (by first | assumption | exact dd_o (by assumption)) rfl dX6_addTransfer_1 ?_
  refine x_iload_n hM dX6_addTransfer_4 rfl rfl ?_
  refine x_callV hM wv_X6_114 (m_X3_hasOwner (by assumption) (by omega)) ⟨Nat.le_of_ble_eq_true rfl, Nat.le_of_ble_eq_true rfl⟩ (by first | assumption | exact reg_o (by assumption) | exact reg_a (by assumption)) rfl rfl rfl rfl (Nat.le_of_ble_eq_true rfl) ⟨Nat.le_of_ble_eq_true rfl, Nat.le_of_ble_eq_true rfl⟩ dX6_addTransfer_5 (k_rI ?_)
  by_cases c1 : 0 ≤ a ∧ a < s.own
  · rw [if_pos c1]
    refine x_if_eq (tgt := 27) hM dX6_addTransfer_8 (by decide) (by omega) (fun q => absurd q (by decide)) (fun _ => ?_)
    refine x_aload_n hM dX6_addTransfer_11 rfl rfl ?_
    refine x_get hM wf_X6_12 wl_X6 (by first | assumption | exact dd_o (by assumption)) rfl dX6_addTransfer_12 ?_
    refine x_iload_n hM dX6_addTransfer_15 rfl rfl ?_
    refine x_callV hM wv_X6_114 (m_X3_hasOwner (by assumption) (by omega)) ⟨Nat.le_of_ble_eq_true rfl, Nat.le_of_ble_eq_true rfl⟩ (by first | assumption | exact reg_o (by assumption) | exact reg_a (by assumption)) rfl rfl rfl rfl (Nat.le_of_ble_eq_true rfl) ⟨Nat.le_of_ble_eq_true rfl, Nat.le_of_ble_eq_true rfl⟩ dX6_addTransfer_16 (k_rI ?_)
    by_cases c2 : 0 ≤ b ∧ b < s.own
    · rw [if_pos c2]
      refine x_if_eq (tgt := 27) hM dX6_addTransfer_19 (by decide) (by omega) (fun q => absurd q (by decide)) (fun _ => ?_)
      refine x_iload_n hM dX6_addTransfer_22 rfl rfl ?_
      refine x_iload_n hM dX6_addTransfer_23 rfl rfl ?_
      refine x_icmp_ne (tgt := 29) hM dX6_addTransfer_24 (by decide) (by omega) (by omega) (fun c_24 => ?_) (fun c_24 => ?_)
      · have c3 : (0 ≤ a ∧ a < s.own) ∧ (0 ≤ b ∧ b < s.own) ∧ a ≠ b := ⟨c1, c2, by assumption⟩
        refine x_iload_n hM dX6_addTransfer_29 rfl rfl ?_
        refine x_iload hM dX6_addTransfer_30 rfl ?_
        refine x_callS hM ws_X6_205 (m_X6_isPiece (by omega) (by omega)) ⟨Nat.le_of_ble_eq_true rfl, Nat.le_of_ble_eq_true rfl⟩ rfl rfl (Nat.le_of_ble_eq_true rfl) ⟨Nat.le_of_ble_eq_true rfl, Nat.le_of_ble_eq_true rfl⟩ dX6_addTransfer_32 (k_rI ?_)
        by_cases c4 : isP f n
        · rw [if_pos c4]
          refine x_if_eq (tgt := 46) hM dX6_addTransfer_35 (by decide) (by omega) (fun q => absurd q (by decide)) (fun _ => ?_)
          refine x_iload hM dX6_addTransfer_38 rfl ?_
          refine x_callS hM ws_X6_274 (m_X6_isAmount (by omega)) ⟨Nat.le_of_ble_eq_true rfl, Nat.le_of_ble_eq_true rfl⟩ rfl rfl (Nat.le_of_ble_eq_true rfl) ⟨Nat.le_of_ble_eq_true rfl, Nat.le_of_ble_eq_true rfl⟩ dX6_addTransfer_40 (k_rI ?_)
          by_cases c5 : 0 ≤ p ∧ p ≤ 1000000
          · rw [if_pos c5]
            refine x_if_ne (tgt := 49) hM dX6_addTransfer_43 (by decide) (by omega) (fun _ => ?_) (fun q => absurd q (by decide))
            refine x_aload_n hM dX6_addTransfer_49 rfl rfl ?_
            refine x_get hM wf_X6_12 wl_X6 (by first | assumption | exact dd_o (by assumption)) rfl dX6_addTransfer_50 ?_
            refine x_get hM wf_X6_144 wl_X3 (by first | assumption | exact reg_o (by assumption) | exact reg_a (by assumption)) rfl dX6_addTransfer_53 ?_
            refine x_get hM wf_X6_175 wl_X0 (deal_o hD) rfl dX6_addTransfer_56 ?_
            refine x_bipush hM dX6_addTransfer_59 rfl ?_
            refine x_icmp_lt (tgt := 67) hM dX6_addTransfer_61 (by decide) (by omega) (by omega) (fun c_61 => ?_) (fun c_61 => ?_)
            · refine x_aload_n hM dX6_addTransfer_67 rfl rfl ?_
              refine x_get hM wf_X6_12 wl_X6 (by first | assumption | exact dd_o (by assumption)) rfl dX6_addTransfer_68 ?_
              refine x_get hM wf_X6_144 wl_X3 (by first | assumption | exact reg_o (by assumption) | exact reg_a (by assumption)) rfl dX6_addTransfer_71 ?_
              refine x_iload_n hM dX6_addTransfer_74 rfl rfl ?_
              refine x_iload_n hM dX6_addTransfer_75 rfl rfl ?_
              refine x_iload_n hM dX6_addTransfer_76 rfl rfl ?_
              refine x_iload hM dX6_addTransfer_77 rfl ?_
              refine x_iload hM dX6_addTransfer_79 rfl ?_
              refine x_callV hM wv_X6_294 (m_X0_append hD (by omega) (show (0 ≤ a ∧ a < 10 ∧ 0 ≤ b ∧ b < 10 ∧ a ≠ b ∧ 0 ≤ f ∧ 1 ≤ n ∧ f + n ≤ 10000 ∧ 0 ≤ p ∧ p ≤ 1000000) from ⟨c1.1, by omega, c2.1, by omega, c3.2.2, c4.1, c4.2.2.1, c4.2.2.2.2, c5.1, c5.2⟩)) ⟨Nat.le_of_ble_eq_true rfl, Nat.le_of_ble_eq_true rfl⟩ (deal_o hD) rfl rfl rfl rfl (Nat.le_of_ble_eq_true rfl) ⟨Nat.le_of_ble_eq_true rfl, Nat.le_of_ble_eq_true rfl⟩ dX6_addTransfer_81 (k_qV fun w_81 q_81 => ?_)
              obtain ⟨qa, qf⟩ := q_81
              have hr1 := hr.uD qf qa
              have hc1 := hc.uR (qf.mo (by omega) (by omega)) hr1
              refine x_aload_n hM dX6_addTransfer_84 rfl rfl ?_
              refine x_get hM wf_X6_12 wl_X6 (by first | assumption | exact dd_o (by assumption)) rfl dX6_addTransfer_85 ?_
              refine x_get hM wf_X6_144 wl_X3 (by first | assumption | exact reg_o (by assumption) | exact reg_a (by assumption)) rfl dX6_addTransfer_88 ?_
              refine x_get hM wf_X6_175 wl_X0 (deal_o qa) rfl dX6_addTransfer_91 ?_
              refine hR.i dX6_addTransfer_94 (Nat.zero_le _) (Nat.zero_le _) ?_
              have e9 : ((s.D ++ [(a, b, f, n, p)]).length : Int) = (s.D.length : Int) + 1 := by simp
              rw [e9]
              exact p_op ((if_pos c3).trans ((if_pos ⟨c4, c5⟩).trans (if_pos (by assumption)))) hc1 (qf.mo (by omega) (by omega))
            · refine x_bipush hM dX6_addTransfer_64 rfl ?_
              refine hR.i dX6_addTransfer_66 (Nat.zero_le _) (Nat.zero_le _) ?_
              exact p_op ((if_pos c3).trans ((if_pos ⟨c4, c5⟩).trans (if_neg (by omega)))) hc Fr.rf
          · rw [if_neg c5]
            refine x_if_ne (tgt := 49) hM dX6_addTransfer_43 (by decide) (by omega) (fun q => absurd rfl q) (fun _ => ?_)
            refine x_bipush hM dX6_addTransfer_46 rfl ?_
            refine hR.i dX6_addTransfer_48 (Nat.zero_le _) (Nat.zero_le _) ?_
            exact p_op ((if_pos c3).trans (if_neg (fun q => by first | exact c4 q.1 | exact c5 q.2))) hc Fr.rf
        · rw [if_neg c4]
          refine x_if_eq (tgt := 46) hM dX6_addTransfer_35 (by decide) (by omega) (fun _ => ?_) (fun q => absurd rfl q)
          refine x_bipush hM dX6_addTransfer_46 rfl ?_
          refine hR.i dX6_addTransfer_48 (Nat.zero_le _) (Nat.zero_le _) ?_
          exact p_op ((if_pos c3).trans (if_neg (fun q => by first | exact c4 q.1 | exact c5 q.2))) hc Fr.rf
      · refine x_iconst hM dX6_addTransfer_27 ?_
        refine hR.i dX6_addTransfer_28 (Nat.zero_le _) (Nat.zero_le _) ?_
        exact p_op (if_neg (fun q => by first | exact c1 q.1 | exact c2 q.2.1 | exact q.2.2 (by assumption))) hc Fr.rf
    · rw [if_neg c2]
      refine x_if_eq (tgt := 27) hM dX6_addTransfer_19 (by decide) (by omega) (fun _ => ?_) (fun q => absurd rfl q)
      refine x_iconst hM dX6_addTransfer_27 ?_
      refine hR.i dX6_addTransfer_28 (Nat.zero_le _) (Nat.zero_le _) ?_
      exact p_op (if_neg (fun q => by first | exact c1 q.1 | exact c2 q.2.1 | exact q.2.2 (by assumption))) hc Fr.rf
  · rw [if_neg c1]
    refine x_if_eq (tgt := 27) hM dX6_addTransfer_8 (by decide) (by omega) (fun _ => ?_) (fun q => absurd rfl q)
    refine x_iconst hM dX6_addTransfer_27 ?_
    refine hR.i dX6_addTransfer_28 (Nat.zero_le _) (Nat.zero_le _) ?_
    exact p_op (if_neg (fun q => by first | exact c1 q.1 | exact c2 q.2.1 | exact q.2.2 (by assumption))) hc Fr.rf
def drF (s : St) : Int × St := if (s.D.length : Int) = 0 then (-5, s) else ((s.D.length : Int) - 1, mkS s.L s.set s.mon s.tax s.los s.D.dropLast s.own s.day s.clo s.fee)
theorem dealA.dr {G : xG} {w : Wd} {d n : Nat} {D E : List Tr} (h : dealA G w d D) (hE : E = D.take n) (hn : n ≤ D.length) : dealA G (wS w d (.inr (0, [.ref (d + 1), .int (iI n)]))) d E := by
  obtain ⟨h1, h2, f, h3, h4⟩ := h
  have hl : E.length = n := by rw [hE, List.length_take]; omega
  refine ⟨⟨by rw [hl]; have := h1.1; omega, fun t ht => h1.2 t (by rw [hE] at ht; exact List.mem_of_mem_take ht)⟩, by rw [hl]; exact wS_eq, f, h3.wS (by omega), fun i hi k k1 k2 => ?_⟩
  have := h4 i (by omega) k k1 k2
  rw [this]
  congr 1
  subst hE
  rw [List.getElem_take]
theorem m_X6_dropTransfer {l : Launch} {G : xG} {w : Wd} {z x : Nat} {s : St} (hc : coA G w x s) : xMet l G yX6_dropTransfer cX6_dropTransfer 1 (some .int) ({ frames := 0, cells := 0, slots := 0, locals := 0 } : Room) [.ref x] w z (opP G w z x (drF s)) := by
  obtain ⟨hd, hr, -⟩ := id hc
  have hD := rgaD hr
  have hDl := hD.1.1
  refine xMet_of RX6 rfl (by decide +kernel) false (by decide +kernel) (Nat.le_of_ble_eq_true rfl) rfl ?_
  intro P hM hR
  refine x_aload_n hM dX6_dropTransfer_0 rfl rfl ?_
  refine x_get hM wf_X6_12 wl_X6 (by first | assumption | exact dd_o (by assumption)) rfl dX6_dropTransfer_1 ?_
  refine x_get hM wf_X6_144 wl_X3 (by first | assumption | exact reg_o (by assumption) | exact reg_a (by assumption)) rfl dX6_dropTransfer_4 ?_
  refine x_get hM wf_X6_175 wl_X0 (deal_o hD) rfl dX6_dropTransfer_7 ?_
  refine x_if_ne (tgt := 16) hM dX6_dropTransfer_10 (by decide) (by omega) (fun c_10 => ?_) (fun c_10 => ?_)
  · refine x_aload_n hM dX6_dropTransfer_16 rfl rfl ?_
    refine x_get hM wf_X6_12 wl_X6 (by first | assumption | exact dd_o (by assumption)) rfl dX6_dropTransfer_17 ?_
    refine x_get hM wf_X6_144 wl_X3 (by first | assumption | exact reg_o (by assumption) | exact reg_a (by assumption)) rfl dX6_dropTransfer_20 ?_
    refine x_dup hM dX6_dropTransfer_23 rfl ?_
    refine x_get hM wf_X6_175 wl_X0 (deal_o hD) rfl dX6_dropTransfer_24 ?_
    refine x_iconst hM dX6_dropTransfer_27 ?_
    refine x_isub hM dX6_dropTransfer_28 ?_
    refine x_put hM wf_X6_175 wl_X0 (deal_o hD) wq_X6_175 rfl rfl (Nat.le_of_ble_eq_true rfl) rfl dX6_dropTransfer_29 ?_
    have e1 : (s.D.length : Int) - 1 = ((s.D.length - 1 : Nat) : Int) := by omega
    rw [e1]
    have qa := hD.dr (n := s.D.length - 1) (E := s.D.dropLast) List.dropLast_eq_take (by omega)
    have hr1 := hr.uD (Fr.wS (by omega) (by omega)) qa
    have hc1 := hc.uR (Fr.wS (by omega) (by omega)) hr1
    refine x_aload_n hM dX6_dropTransfer_32 rfl rfl ?_
    refine x_get hM wf_X6_12 wl_X6 hc1.1 rfl dX6_dropTransfer_33 ?_
    refine x_get hM wf_X6_144 wl_X3 (reg_a hr1) rfl dX6_dropTransfer_36 ?_
    refine x_get hM wf_X6_175 wl_X0 (deal_o qa) rfl dX6_dropTransfer_39 ?_
    refine hR.i dX6_dropTransfer_42 (Nat.zero_le _) (Nat.zero_le _) ?_
    rw [show (s.D.dropLast.length : Int) = (s.D.length : Int) - 1 by rw [List.length_dropLast]; omega]
    exact p_op (if_neg (by assumption)) hc1 (Fr.wS (by omega) (by omega))
  · refine x_bipush hM dX6_dropTransfer_13 rfl ?_
    refine hR.i dX6_dropTransfer_15 (Nat.zero_le _) (Nat.zero_le _) ?_
    exact p_op (if_pos (by assumption)) hc Fr.rf
/-- the deal's transfers from the one on that there are k behind, tried on a state: (-6, or the number of the first one that fails; the state behind it) -/
noncomputable def rhF : Nat → St → Int × St
  | 0, t => (-6, t)
  | k + 1, t => match t.D[t.D.length - (k + 1)]? with
    | none => (-6, t)
    | some q => @ite (Int × St) (trfC1 t q ∧ trfC2 t q) (Classical.propDecidable _) (rhF k (trfD t q)) (((t.D.length - (k + 1) : Nat) : Int), t)
noncomputable def reF (s : St) : Int × St := rhF s.D.length s
theorem m_X6_rehearse {l : Launch} {G : xG} {w : Wd} {z x : Nat} {s : St} (hc : coA G w x s) : xMet l G yX6_rehearse cX6_rehearse 2 (some .int) ({ frames := 4, cells := 0, slots := 0, locals := 105 } : Room) [.ref x] w z (qI z fun y w1 => y = (reF s).1 ∧ coA G w1 x s ∧ regA G w1 (x + 23) (reF s).2 ∧ Fr (x + 23) (x + 56) w w1) := by
  obtain ⟨hd, hr, ⟨s1, hH⟩, T0, hT⟩ := id hc
  have hDl := (rgaD hr).1.1
  refine xMet_of RX6 rfl (by decide +kernel) false (by decide +kernel) (Nat.le_of_ble_eq_true rfl) rfl ?_
  intro P hM hR
  have K : ∀ (k i : Nat) (t : St) (w1 : Wd), i + k = s.D.length → t.D = s.D → coA G w1 x s → regA G w1 (x + 23) t → Fr (x + 23) (x + 56) w w1 → rhF k t = reF s → P 13 [some (.ref x), some (.int (iI i))] [] w1 (z, 0, 0) := by
    intro k
    induction k with
    | zero =>
      intro i t w1 hi hD hc1 hA hF hinv
      have hdl := rgaD hA
      have e0 : (t.D.length : Int) = s.D.length := by rw [hD]
      refine x_iload_n hM dX6_rehearse_13 rfl rfl ?_
      refine x_aload_n hM dX6_rehearse_14 rfl rfl ?_
      refine x_get hM wf_X6_16 wl_X6 (by first | assumption | exact dd_o (by assumption)) rfl dX6_rehearse_15 ?_
      refine x_get hM wf_X6_144 wl_X3 (reg_a hA) rfl dX6_rehearse_18 ?_
      refine x_get hM wf_X6_175 wl_X0 (deal_o hdl) rfl dX6_rehearse_21 ?_
      refine x_icmp_ge (tgt := 50) hM dX6_rehearse_24 (by decide) (by omega) (by omega) (fun c_24 => ?_) (fun c_24 => ?_)
      · refine x_bipush hM dX6_rehearse_50 rfl ?_
        refine hR.i dX6_rehearse_52 (Nat.zero_le _) (Nat.zero_le _) ?_
        exact p_qI ⟨by rw [← hinv]; rfl, hc1, by rw [← hinv]; exact hA, hF⟩
      · exfalso; omega
    | succ k ih =>
      intro i t w1 hi hD hc1 hA hF hinv
      have hdl := rgaD hA
      have e0 : (t.D.length : Int) = s.D.length := by rw [hD]
      have hil : i < t.D.length := by omega
      obtain ⟨-, -, -, T1, hT1⟩ := id hc1
      have e1 : t.D.length - (k + 1) = i := by omega
      have e2 : rhF (k + 1) t = @ite (Int × St) (trfC1 t t.D[i] ∧ trfC2 t t.D[i]) (Classical.propDecidable _) (rhF k (trfD t t.D[i])) (((i : Nat) : Int), t) := by
        simp only [rhF]
        rw [e1, List.getElem?_eq_getElem hil]
      refine x_iload_n hM dX6_rehearse_13 rfl rfl ?_
      refine x_aload_n hM dX6_rehearse_14 rfl rfl ?_
      refine x_get hM wf_X6_16 wl_X6 (by first | assumption | exact dd_o (by assumption)) rfl dX6_rehearse_15 ?_
      refine x_get hM wf_X6_144 wl_X3 (reg_a hA) rfl dX6_rehearse_18 ?_
      refine x_get hM wf_X6_175 wl_X0 (deal_o hdl) rfl dX6_rehearse_21 ?_
      refine x_icmp_ge (tgt := 50) hM dX6_rehearse_24 (by decide) (by omega) (by omega) (fun c_24 => ?_) (fun c_24 => ?_)
      · exfalso; omega
      · refine x_aload_n hM dX6_rehearse_27 rfl rfl ?_
        refine x_get hM wf_X6_16 wl_X6 (by first | assumption | exact dd_o (by assumption)) rfl dX6_rehearse_28 ?_
        refine x_iload_n hM dX6_rehearse_31 rfl rfl ?_
        refine x_aload_n hM dX6_rehearse_32 rfl rfl ?_
        refine x_get hM wf_X6_22 wl_X6 (by first | assumption | exact dd_o (by assumption)) rfl dX6_rehearse_33 ?_
        refine x_callV hM wv_X6_297 (m_X3_carryTransfer (i := i) hA hT1 (by omega) hil) ⟨Nat.le_of_ble_eq_true rfl, Nat.le_of_ble_eq_true rfl⟩ (reg_a hA) rfl rfl rfl rfl (Nat.le_of_ble_eq_true rfl) ⟨Nat.le_of_ble_eq_true rfl, Nat.le_of_ble_eq_true rfl⟩ dX6_rehearse_36 (k_qI fun x_36 w_36 q_36 => ?_)
        obtain ⟨qa, ⟨T2, qt⟩, qf⟩ := q_36
        have qF : Fr (x + 23) (x + 56) w1 w_36 := qf.one (by omega) (by omega) (by omega) (by omega)
        have hc2 : coA G w_36 x s := by obtain ⟨g1, g2, -, -⟩ := hc1; rcases qa with ⟨-, -, qa⟩ | ⟨-, -, qa⟩ <;> exact ⟨(qF x (by omega)).trans g1, g2.kp qF (by omega), ⟨_, qa⟩, _, qt⟩
        rcases qa with ⟨rfl, qn, qa⟩ | ⟨rfl, qn, qa⟩
        · rw [if_neg qn] at e2
          refine x_if_ne (tgt := 44) hM dX6_rehearse_39 (by decide) (by omega) (fun q => absurd rfl q) (fun _ => ?_)
          refine x_iload_n hM dX6_rehearse_42 rfl rfl ?_
          refine hR.i dX6_rehearse_43 (Nat.zero_le _) (Nat.zero_le _) ?_
          exact p_qI ⟨by rw [← hinv, e2], hc2, by rw [← hinv, e2]; exact qa, hF.tr qF⟩
        rw [if_pos qn] at e2
        refine x_if_ne (tgt := 44) hM dX6_rehearse_39 (by decide) (by omega) (fun c_39 => ?_) (fun c_39 => ?_)
        · refine x_iinc hM dX6_rehearse_44 rfl rfl rfl ?_
          refine x_goto (tgt := 13) hM dX6_rehearse_47 (by decide) ?_
          exact ih (i + 1) (trfD t t.D[i]) _ (by omega) hD hc2 qa (hF.tr qF) (by rw [← hinv, e2])
        · exfalso; omega
  refine x_aload_n hM dX6_rehearse_0 rfl rfl ?_
  refine x_get hM wf_X6_16 wl_X6 (by first | assumption | exact dd_o (by assumption)) rfl dX6_rehearse_1 ?_
  refine x_aload_n hM dX6_rehearse_4 rfl rfl ?_
  refine x_get hM wf_X6_12 wl_X6 (by first | assumption | exact dd_o (by assumption)) rfl dX6_rehearse_5 ?_
  refine x_callV hM wv_X6_256 (m_X3_copy hH hr (by omega)) ⟨Nat.le_of_ble_eq_true rfl, Nat.le_of_ble_eq_true rfl⟩ (reg_a hH) rfl rfl rfl rfl (Nat.le_of_ble_eq_true rfl) ⟨Nat.le_of_ble_eq_true rfl, Nat.le_of_ble_eq_true rfl⟩ dX6_rehearse_8 (k_qV fun w_8 q_8 => ?_)
  obtain ⟨qa, qf⟩ := q_8
  refine x_iconst hM dX6_rehearse_11 ?_
  refine x_istore_n hM dX6_rehearse_12 rfl rfl (Nat.le_of_ble_eq_true rfl) rfl ?_
  exact K s.D.length 0 s _ (by omega) rfl (hc.uH qf qa) qa (qf.mo (by omega) (by omega)) rfl
noncomputable def clF (s : St) : Int × St := if (s.D.length : Int) = 0 ∨ (reF s).1 ≠ -6 then (-5, s) else ((s.D.length : Int), mkS (reF s).2.L (reF s).2.set (reF s).2.mon (reF s).2.tax (reF s).2.los [] (reF s).2.own (reF s).2.day ((reF s).2.clo + 1) (reF s).2.fee)
theorem rhF_b : ∀ (k : Nat) (t : St), t.D.length ≤ 8 → -6 ≤ (rhF k t).1 ∧ (rhF k t).1 ≤ 8 := by
  intro k
  induction k with
  | zero => intro t h; simp [rhF]
  | succ k ih =>
    intro t h
    simp only [rhF]
    split
    · simp
    · split
      · exact ih _ h
      · simp only; omega
theorem m_X6_closeDeal {l : Launch} {G : xG} {w : Wd} {z x : Nat} {s : St} (hc : coA G w x s) : xMet l G yX6_closeDeal cX6_closeDeal 2 (some .int) ({ frames := 5, cells := 0, slots := 0, locals := 126 } : Room) [.ref x] w z (opP G w z x (clF s)) := by
  obtain ⟨hd, hr, -⟩ := id hc
  have hD := rgaD hr
  have hDl := hD.1.1
  have hrb := rhF_b s.D.length s hDl
  have hrb2 : -6 ≤ (reF s).1 ∧ (reF s).1 ≤ 8 := hrb
  refine xMet_of RX6 rfl (by decide +kernel) false (by decide +kernel) (Nat.le_of_ble_eq_true rfl) rfl ?_
  intro P hM hR
  by_cases c1 : (s.D.length : Int) = 0
  · skip
    refine x_aload_n hM dX6_closeDeal_0 rfl rfl ?_
    refine x_get hM wf_X6_12 wl_X6 (by first | assumption | exact dd_o (by assumption)) rfl dX6_closeDeal_1 ?_
    refine x_get hM wf_X6_144 wl_X3 (by first | assumption | exact reg_o (by assumption) | exact reg_a (by assumption)) rfl dX6_closeDeal_4 ?_
    refine x_get hM wf_X6_175 wl_X0 (deal_o hD) rfl dX6_closeDeal_7 ?_
    refine x_istore_n hM dX6_closeDeal_10 rfl rfl (Nat.le_of_ble_eq_true rfl) rfl ?_
    refine x_iload_n hM dX6_closeDeal_11 rfl rfl ?_
    refine x_if_eq (tgt := 24) hM dX6_closeDeal_12 (by decide) (by omega) (fun c_12 => ?_) (fun c_12 => ?_)
    · refine x_bipush hM dX6_closeDeal_24 rfl ?_
      refine hR.i dX6_closeDeal_26 (Nat.zero_le _) (Nat.zero_le _) ?_
      exact p_op (if_pos (Or.inl c1)) hc Fr.rf
    · exfalso; omega
  · skip
    refine x_aload_n hM dX6_closeDeal_0 rfl rfl ?_
    refine x_get hM wf_X6_12 wl_X6 (by first | assumption | exact dd_o (by assumption)) rfl dX6_closeDeal_1 ?_
    refine x_get hM wf_X6_144 wl_X3 (by first | assumption | exact reg_o (by assumption) | exact reg_a (by assumption)) rfl dX6_closeDeal_4 ?_
    refine x_get hM wf_X6_175 wl_X0 (deal_o hD) rfl dX6_closeDeal_7 ?_
    refine x_istore_n hM dX6_closeDeal_10 rfl rfl (Nat.le_of_ble_eq_true rfl) rfl ?_
    refine x_iload_n hM dX6_closeDeal_11 rfl rfl ?_
    refine x_if_eq (tgt := 24) hM dX6_closeDeal_12 (by decide) (by omega) (fun c_12 => ?_) (fun c_12 => ?_)
    · exfalso; omega
    · refine x_aload_n hM dX6_closeDeal_15 rfl rfl ?_
      refine x_callV hM wv_X6_86 (m_X6_rehearse (by assumption)) ⟨Nat.le_of_ble_eq_true rfl, Nat.le_of_ble_eq_true rfl⟩ (by first | assumption | exact dd_o (by assumption)) rfl rfl rfl rfl (Nat.le_of_ble_eq_true rfl) ⟨Nat.le_of_ble_eq_true rfl, Nat.le_of_ble_eq_true rfl⟩ dX6_closeDeal_16 (k_qI fun x_16 w_16 q_16 => ?_)
      obtain ⟨rfl, qc, qh, qf⟩ := q_16
      obtain ⟨-, qr, -⟩ := id qc
      refine x_bipush hM dX6_closeDeal_19 rfl ?_
      refine x_icmp_eq (tgt := 27) hM dX6_closeDeal_21 (by decide) (by omega) (by omega) (fun c_21 => ?_) (fun c_21 => ?_)
      · refine x_aload_n hM dX6_closeDeal_27 rfl rfl ?_
        refine x_get hM wf_X6_12 wl_X6 (by first | assumption | exact dd_o (by assumption)) rfl dX6_closeDeal_28 ?_
        refine x_aload_n hM dX6_closeDeal_31 rfl rfl ?_
        refine x_get hM wf_X6_16 wl_X6 (by first | assumption | exact dd_o (by assumption)) rfl dX6_closeDeal_32 ?_
        refine x_callV hM wv_X6_256 (m_X3_copy qr qh (by omega)) ⟨Nat.le_of_ble_eq_true rfl, Nat.le_of_ble_eq_true rfl⟩ (reg_a qr) rfl rfl rfl rfl (Nat.le_of_ble_eq_true rfl) ⟨Nat.le_of_ble_eq_true rfl, Nat.le_of_ble_eq_true rfl⟩ dX6_closeDeal_35 (k_qV fun w_35 q_35 => ?_)
        obtain ⟨qa, qg⟩ := q_35
        have hc2 := qc.uR qg qa
        have hD2 := rgaD qa
        have qd := hD2.dr (n := 0) (E := []) rfl (by omega)
        refine x_aload_n hM dX6_closeDeal_38 rfl rfl ?_
        refine x_get hM wf_X6_12 wl_X6 (by first | assumption | exact dd_o (by assumption)) rfl dX6_closeDeal_39 ?_
        refine x_get hM wf_X6_144 wl_X3 (reg_a qa) rfl dX6_closeDeal_42 ?_
        refine x_iconst hM dX6_closeDeal_45 ?_
        refine x_put hM wf_X6_175 wl_X0 (deal_o hD2) wq_X6_175 rfl rfl (Nat.le_of_ble_eq_true rfl) rfl dX6_closeDeal_46 ?_
        have hr3 := qa.uD (Fr.wS (by omega) (by omega)) qd
        have hc3 := hc2.uR (Fr.wS (by omega) (by omega)) hr3
        obtain ⟨hW9, fs9, fp9, ft9, fx9, hr9, g1, g2, g3, g4⟩ := id hr3
        refine x_aload_n hM dX6_closeDeal_49 rfl rfl ?_
        refine x_get hM wf_X6_12 wl_X6 (by first | assumption | exact dd_o (by assumption)) rfl dX6_closeDeal_50 ?_
        refine x_dup hM dX6_closeDeal_53 rfl ?_
        refine x_get hM wf_X6_176 wl_X3 (reg_o hr9) rfl dX6_closeDeal_54 ?_
        refine x_iconst hM dX6_closeDeal_57 ?_
        refine x_iadd hM dX6_closeDeal_58 ?_
        refine x_put hM wf_X6_176 wl_X3 (reg_o hr9) wq_X6_176 rfl rfl (Nat.le_of_ble_eq_true rfl) rfl dX6_closeDeal_59 ?_
        refine x_iload_n hM dX6_closeDeal_62 rfl rfl ?_
        refine hR.i dX6_closeDeal_63 (Nat.zero_le _) (Nat.zero_le _) ?_
        exact p_op (if_neg (fun q => by rcases q with q | q; exact c1 q; exact q (by assumption))) (hc3.uR (Fr.wS (by omega) (by omega)) ⟨hW9, _, _, _, _, hr9.u0, g1, g2, g3, g4⟩) ((((qf.mo (by omega) (by omega)).tr (qg.mo (by omega) (by omega))).tr (Fr.wS (by omega) (by omega))).tr (Fr.wS (by omega) (by omega)))
      · refine x_bipush hM dX6_closeDeal_24 rfl ?_
        refine hR.i dX6_closeDeal_26 (Nat.zero_le _) (Nat.zero_le _) ?_
        exact p_op (if_pos (Or.inr (by assumption))) qc (qf.mo (by omega) (by omega))
def dayN (s : St) : Nat → St
  | 0 => s
  | n + 1 => dayP (dayN s n)
def daF (s : St) (d : Int) : Int × St := if d < 1 then (-2, s) else if 60 < d then (-2, s) else ((dayN s d.toNat).day, dayN s d.toNat)
theorem m_X6_passDays {l : Launch} {G : xG} {w : Wd} {z x : Nat} {s : St} {d : Int} (hc : coA G w x s) (hd : iR d) : xMet l G yX6_passDays cX6_passDays 3 (some .int) ({ frames := 4, cells := 0, slots := 0, locals := 90 } : Room) [.ref x, .int (iI d)] w z (opP G w z x (daF s d)) := by
  refine xMet_of RX6 rfl (by decide +kernel) false (by decide +kernel) (Nat.le_of_ble_eq_true rfl) rfl ?_
  intro P hM hR
  by_cases c1 : 1 ≤ d ∧ d ≤ 60
  · obtain ⟨n, hn⟩ : ∃ n : Nat, d = n := ⟨d.toNat, by omega⟩
    subst hn
    have e1 : daF s n = ((dayN s n).day, dayN s n) := by unfold daF; rw [if_neg (by omega), if_neg (by omega)]; rfl
    have K : ∀ (k i : Nat) (w1 : Wd), i + k = n → coA G w1 x (dayN s i) → Fr (x + 1) (x + 56) w w1 → P 16 [some (.ref x), some (.int (iI n)), some (.int (iI i))] [] w1 (z, 0, 0) := by
      intro k
      induction k with
      | zero =>
        intro i w1 hi hA hF
        have hr := hA.2.1
        refine x_iload_n hM dX6_passDays_16 rfl rfl ?_
        refine x_iload_n hM dX6_passDays_17 rfl rfl ?_
        refine x_icmp_ge (tgt := 34) hM dX6_passDays_18 (by decide) (by omega) (by omega) (fun c_18 => ?_) (fun c_18 => ?_)
        · refine x_aload_n hM dX6_passDays_34 rfl rfl ?_
          refine x_get hM wf_X6_12 wl_X6 (by first | assumption | exact dd_o (by assumption)) rfl dX6_passDays_35 ?_
          refine x_get hM wf_X6_156 wl_X3 (reg_a hr) rfl dX6_passDays_38 ?_
          refine hR.i dX6_passDays_41 (Nat.zero_le _) (Nat.zero_le _) ?_
          have hin : i = n := by omega
          subst hin
          exact p_op e1 hA hF
        · exfalso; omega
      | succ k ih =>
        intro i w1 hi hA hF
        have hr := hA.2.1
        refine x_iload_n hM dX6_passDays_16 rfl rfl ?_
        refine x_iload_n hM dX6_passDays_17 rfl rfl ?_
        refine x_icmp_ge (tgt := 34) hM dX6_passDays_18 (by decide) (by omega) (by omega) (fun c_18 => ?_) (fun c_18 => ?_)
        · exfalso; omega
        · refine x_aload_n hM dX6_passDays_21 rfl rfl ?_
          refine x_get hM wf_X6_12 wl_X6 (by first | assumption | exact dd_o (by assumption)) rfl dX6_passDays_22 ?_
          refine x_callV hM wv_X6_301 (m_X3_passDay hr) ⟨Nat.le_of_ble_eq_true rfl, Nat.le_of_ble_eq_true rfl⟩ (reg_a hr) rfl rfl rfl rfl (Nat.le_of_ble_eq_true rfl) ⟨Nat.le_of_ble_eq_true rfl, Nat.le_of_ble_eq_true rfl⟩ dX6_passDays_25 (k_qV fun w_25 q_25 => ?_)
          obtain ⟨qa, qf⟩ := q_25
          refine x_iinc hM dX6_passDays_28 rfl rfl rfl ?_
          refine x_goto (tgt := 16) hM dX6_passDays_31 (by decide) ?_
          exact ih (i + 1) _ (by omega) (hA.uR qf qa) (hF.tr (qf.mo (by omega) (by omega)))
    refine x_iload_n hM dX6_passDays_0 rfl rfl ?_
    refine x_iconst hM dX6_passDays_1 ?_
    refine x_icmp_lt (tgt := 11) hM dX6_passDays_2 (by decide) (by omega) (by omega) (fun c_2 => ?_) (fun c_2 => ?_)
    · exfalso; omega
    · refine x_iload_n hM dX6_passDays_5 rfl rfl ?_
      refine x_bipush hM dX6_passDays_6 rfl ?_
      refine x_icmp_le (tgt := 14) hM dX6_passDays_8 (by decide) (by omega) (by omega) (fun c_8 => ?_) (fun c_8 => ?_)
      · refine x_iconst hM dX6_passDays_14 ?_
        refine x_istore_n hM dX6_passDays_15 rfl rfl (Nat.le_of_ble_eq_true rfl) rfl ?_
        exact K n 0 w (by omega) hc Fr.rf
      · exfalso; omega
  · skip
    refine x_iload_n hM dX6_passDays_0 rfl rfl ?_
    refine x_iconst hM dX6_passDays_1 ?_
    refine x_icmp_lt (tgt := 11) hM dX6_passDays_2 (by decide) (by omega) (by omega) (fun c_2 => ?_) (fun c_2 => ?_)
    · refine x_bipush hM dX6_passDays_11 rfl ?_
      refine hR.i dX6_passDays_13 (Nat.zero_le _) (Nat.zero_le _) ?_
      exact p_op (by unfold daF; first | rw [if_pos (by assumption)] | rw [if_neg (by omega), if_pos (by omega)]) hc Fr.rf
    · refine x_iload_n hM dX6_passDays_5 rfl rfl ?_
      refine x_bipush hM dX6_passDays_6 rfl ?_
      refine x_icmp_le (tgt := 14) hM dX6_passDays_8 (by decide) (by omega) (by omega) (fun c_8 => ?_) (fun c_8 => ?_)
      · exfalso; omega
      · refine x_bipush hM dX6_passDays_11 rfl ?_
        refine hR.i dX6_passDays_13 (Nat.zero_le _) (Nat.zero_le _) ?_
        exact p_op (by unfold daF; first | rw [if_pos (by assumption)] | rw [if_neg (by omega), if_pos (by omega)]) hc Fr.rf
