/-! RangeDeeds: carrying a text out -/
theorem entP_v {cs : List Int} (i : Int) (h : (entP cs i).1 = 1) : ((entP cs i).2.2.1 = 43 ∨ (entP cs i).2.2.1 = 45 ∨ (entP cs i).2.2.1 = 100 ∨ (entP cs i).2.2.1 = 103 ∨ (entP cs i).2.2.1 = 112) ∧ (0 ≤ (entP cs i).2.2.2.1 ∧ (entP cs i).2.2.2.1 < 10) ∧ (0 ≤ (entP cs i).2.2.2.2.1 ∧ (entP cs i).2.2.2.2.1 ≤ 9999) ∧ (0 ≤ (entP cs i).2.2.2.2.2 ∧ (entP cs i).2.2.2.2.2 ≤ 9999) := by
  have nl : ∀ j : Int, 48 ≤ sgP cs j ∧ sgP cs j ≤ 57 → 0 ≤ (numL cs 3 (sgP cs j - 48) (j + 1)).1 ∧ (numL cs 3 (sgP cs j - 48) (j + 1)).1 ≤ 9999 := fun j hj => ⟨(numL_b 3 _ _ (by omega)).1, numL_v (by omega)⟩
  have nb : ∀ k l j : Int, (numbP cs k l j).1 = 1 → (numbP cs k l j).2.2.1 = k ∧ (numbP cs k l j).2.2.2.1 = l ∧ (0 ≤ (numbP cs k l j).2.2.2.2.1 ∧ (numbP cs k l j).2.2.2.2.1 ≤ 9999) ∧ (0 ≤ (numbP cs k l j).2.2.2.2.2 ∧ (numbP cs k l j).2.2.2.2.2 ≤ 9999) := by
    intro k l j h
    unfold numbP at h ⊢
    split at h
    · next q =>
      rw [if_pos q]
      have n1 := nl j q
      unfold tailP at h ⊢
      split at h
      · next q2 =>
        rw [if_pos q2]
        split at h
        · next q3 =>
          rw [if_pos q3]
          split at h
          · next q4 => rw [if_pos q4]; have n2 := nl _ q4; exact ⟨rfl, rfl, n1, n2⟩
          · cases h
        · cases h
      · next q2 => rw [if_neg q2]; exact ⟨rfl, rfl, n1, Int.le_refl 0, by show (0 : Int) ≤ 9999; decide⟩
    · cases h
  unfold entP at h ⊢
  split at h
  · next q1 =>
    rw [if_pos q1]
    split at h
    · next q2 =>
      rw [if_pos q2]
      split at h
      · next q3 =>
        rw [if_pos q3]
        obtain ⟨a, b, c, d⟩ := nb _ _ _ h
        exact ⟨by rw [a]; omega, by rw [b]; omega, c, d⟩
      · cases h
    · next q2 =>
      rw [if_neg q2]
      obtain ⟨a, b, c, d⟩ := nb _ _ _ h
      exact ⟨by rw [a]; omega, by rw [b]; omega, c, d⟩
  · cases h
theorem dayN_day (s : St) : ∀ n : Nat, (dayN s n).day = s.day + n := by
  intro n
  induction n with
  | zero => show s.day = s.day + ((0 : Nat) : Int); omega
  | succ n ih =>
    have h := (dayF_own (dayN s n) (dayN s n).own.toNat).2.2.2.1
    show (dayF (dayN s n) (dayN s n).own.toNat).day + 1 = _
    rw [h, ih]
    omega
theorem gvF_day {s : St} {o f n : Int} : (gvF s o f n).2.day = s.day := by
  unfold gvF
  split
  · split
    · split
      · split <;> rfl
      · rfl
    · rfl
  · rfl
theorem ceF_b {s : St} (hL : strW s.L) (hd : 0 ≤ s.day ∧ s.day ≤ 1000000000) (k l n m : Int) : iR (ceF s k l n m).1 ∧ s.day ≤ (ceF s k l n m).2.day ∧ (ceF s k l n m).2.day ≤ s.day + 60 := by
  unfold ceF
  split
  · have := gvF_r (s := s) (o := l) (f := n) (n := m)
    have := gvF_day (s := s) (o := l) (f := n) (n := m)
    omega
  · split
    · unfold frF
      split
      · split
        · dsimp only [mkS, St.day]; have := hL.1; omega
        · dsimp only; omega
      · dsimp only; omega
    · split
      · unfold daF
        split
        · dsimp only; omega
        · split
          · dsimp only; omega
          · have := dayN_day s n.toNat; dsimp only at *; omega
      · split
        · unfold grF
          have h1 := gvF_r (s := s) (o := l) (f := gapP s.L (gfrF s.L n 0).toNat) (n := n)
          have h2 := gvF_day (s := s) (o := l) (f := gapP s.L (gfrF s.L n 0).toNat) (n := n)
          have h3 := gapP_b hL (gfrF s.L n 0).toNat
          split
          · split
            · split
              · dsimp only; omega
              · dsimp only
                split <;> omega
            · dsimp only; omega
          · dsimp only; omega
        · split
          · unfold payF
            split
            · split
              · have : (earnF s l (jJ n)).day = s.day := rfl
                dsimp only
                split <;> omega
              · dsimp only; omega
            · dsimp only; omega
          · dsimp only; omega
noncomputable def coF (cs : List Int) : Nat → Int → Int → St → Int × St
  | 0, _, d, s => (d, s)
  | k + 1, i, d, s => @ite (Int × St) (i < cs.length ∧ (entP cs i).1 = 1) (Classical.propDecidable _) (if (ceF s (entP cs i).2.2.1 (entP cs i).2.2.2.1 (entP cs i).2.2.2.2.1 (entP cs i).2.2.2.2.2).1 < 0 then (d, (ceF s (entP cs i).2.2.1 (entP cs i).2.2.2.1 (entP cs i).2.2.2.2.1 (entP cs i).2.2.2.2.2).2) else coF cs k ((entP cs i).2.1 + 1) (d + 1) (ceF s (entP cs i).2.2.1 (entP cs i).2.2.2.1 (entP cs i).2.2.2.2.1 (entP cs i).2.2.2.2.2).2) (d, s)
theorem coF_t {cs : List Int} {k : Nat} {i d : Int} {s : St} (h : i < cs.length ∧ (entP cs i).1 = 1) : coF cs (k + 1) i d s = if (ceF s (entP cs i).2.2.1 (entP cs i).2.2.2.1 (entP cs i).2.2.2.2.1 (entP cs i).2.2.2.2.2).1 < 0 then (d, (ceF s (entP cs i).2.2.1 (entP cs i).2.2.2.1 (entP cs i).2.2.2.2.1 (entP cs i).2.2.2.2.2).2) else coF cs k ((entP cs i).2.1 + 1) (d + 1) (ceF s (entP cs i).2.2.1 (entP cs i).2.2.2.1 (entP cs i).2.2.2.2.1 (entP cs i).2.2.2.2.2).2 := if_pos h
theorem coF_f {cs : List Int} {k : Nat} {i d : Int} {s : St} (h : ¬ (i < cs.length ∧ (entP cs i).1 = 1)) : coF cs (k + 1) i d s = (d, s) := if_neg h
noncomputable def carF (s : St) (cs : List Int) : Int × St × List Int := if fltP cs 81 0 = -6 then ((coF cs 81 0 0 s).1, (coF cs 81 0 0 s).2, []) else (-3, s, cs)
abbrev caP (G : xG) (w : Wd) (z x : Nat) (hs : List St) (s : St) (r : Int × St × List Int) : xPo := qI z fun y w1 => y = r.1 ∧ coA G w1 x r.2.1 ∧ hisA G w1 (x + 56) (hisN hs s r.1) ∧ padE G w1 (x + 213) r.2.2 ∧ Fr2 (x + 1) (x + 212) (x + 213) (x + 215) w w1
theorem entP_lt {cs : List Int} {i : Int} (h0 : 0 ≤ i) (h : (entP cs i).1 = 1) : i < cs.length := by
  refine Int.not_le.mp fun q => ?_
  have e : sgP cs i = 0 := by
    unfold sgP
    rw [if_pos h0, List.getElem?_eq_none (by omega)]
    rfl
  unfold entP at h
  rw [if_neg (show ¬ (sgP cs i = 43 ∨ sgP cs i = 45 ∨ sgP cs i = 103 ∨ sgP cs i = 112 ∨ sgP cs i = 100) by omega)] at h
  cases h
theorem m_X6_carryOut {l : Launch} {G : xG} {w : Wd} {z x : Nat} {hs : List St} {s : St} {cs : List Int} (hc : coA G w x s) (hh : hisA G w (x + 56) hs) (hp : padE G w (x + 213) cs) (hdb : 0 ≤ s.day ∧ s.day ≤ 900000000) : xMet l G yX6_carryOut cX6_carryOut 2 (some .int) ({ frames := 6, cells := 0, slots := 0, locals := 145 } : Room) [.ref x] w z (caP G w z x hs s (carF s cs)) := by
  obtain ⟨hd, hr, -⟩ := id hc
  obtain ⟨pl0, kd0, le0, nu0, se0, hA0⟩ := id hp
  have hcl := hA0.1.1
  have hW := hA0.1
  refine xMet_of RX6 rfl (by decide +kernel) false (by decide +kernel) (Nat.le_of_ble_eq_true rfl) rfl ?_
  intro P hM hR
  have F : ∀ (d pl kd le nu se : Int) (t : St) (w1 : Wd), coF cs 81 0 0 s = (d, t) → fltP cs 81 0 = -6 → 0 ≤ d ∧ d ≤ 100 → padA G w1 (x + 213) cs pl kd le nu se → coA G w1 x t → hisP G w1 (x + 56) hs s → Fr2 (x + 1) (x + 212) (x + 213) (x + 215) w w1 → P 78 [some (.ref x), some (.int (iI d))] [] w1 (z, 0, 0) := by
    intro d pl kd le nu se t w1 hinv hf hdd hA hc1 hP hF
    have e1 : carF s cs = (d, t, []) := by unfold carF; rw [if_pos hf, hinv]
    have hA2 := hA.w0 (pl2 := pl) (kd2 := kd) (le2 := le) (nu2 := nu) (se2 := se)
    refine x_aload_n hM dX6_carryOut_78 rfl rfl ?_
    refine x_get hM wf_X6_40 wl_X6 hc1.1 rfl dX6_carryOut_79 ?_
    refine x_iconst hM dX6_carryOut_82 ?_
    refine x_put hM wf_X6_185 wl_X2 (pad_o hA) wq_X6_185 rfl rfl (Nat.le_of_ble_eq_true rfl) rfl dX6_carryOut_83 ?_
    have fP := wF (w := w1) (q := x + 213) (e := .inr (2, [.ref (x + 213 + 1), .int (iI 0), .int (iI pl), .int (iI kd), .int (iI le), .int (iI nu), .int (iI se)]))
    have hc2 := hc1.kp fP (by omega)
    have hP2 := hP.kp fP (by omega)
    refine x_aload_n hM dX6_carryOut_86 rfl rfl ?_
    refine x_get hM wf_X6_29 wl_X6 hc2.1 rfl dX6_carryOut_87 ?_
    refine x_iload_n hM dX6_carryOut_90 rfl rfl ?_
    refine x_callV hM wv_X6_52 (m_X1_finish hP2 (by omega)) ⟨Nat.le_of_ble_eq_true rfl, Nat.le_of_ble_eq_true rfl⟩ (his_a hP2.a) rfl rfl rfl rfl (Nat.le_of_ble_eq_true rfl) ⟨Nat.le_of_ble_eq_true rfl, Nat.le_of_ble_eq_true rfl⟩ dX6_carryOut_91 (k_qI fun x_91 w_91 q_91 => ?_)
    refine hR.i dX6_carryOut_94 (Nat.zero_le _) (Nat.zero_le _) ?_
    obtain ⟨rfl, qf, n1, n2⟩ := q_91
    exact p_qI (show _ ∧ _ from by rw [e1]; exact ⟨rfl, hc2.kp qf (by omega), by unfold hisN; rw [if_neg (by omega)]; exact n2 (by omega), ⟨_, _, _, _, _, hA2.kp qf (by omega)⟩, (hF.tr (fP.r2 (by omega) (by omega))).tr (qf.l2 (by omega) (by omega))⟩)
  have K : ∀ (k : Nat) (i d pl kd le nu se : Int) (t : St) (w1 : Wd), fltP cs 81 0 = -6 → 81 ≤ i + k → i ≤ 200 → 0 ≤ d ∧ d + k = 81 → s.day ≤ t.day ∧ t.day ≤ s.day + 60 * d → coF cs k i d t = coF cs 81 0 0 s → pl = i → 0 ≤ i → padA G w1 (x + 213) cs pl kd le nu se → coA G w1 x t → hisP G w1 (x + 56) hs s → Fr2 (x + 1) (x + 212) (x + 213) (x + 215) w w1 → P 36 [some (.ref x), some (.int (iI d))] [] w1 (z, 0, 0) := by
    intro k
    induction k with
    | zero =>
      intro i d pl kd le nu se t w1 hf hk hi hdd hdy hinv hpl hi0 hA hc1 hP hF
      subst hpl
      refine x_iload_n hM dX6_carryOut_36 rfl rfl ?_
      refine x_bipush hM dX6_carryOut_37 rfl ?_
      refine x_icmp_ge (tgt := 78) hM dX6_carryOut_39 (by decide) (by omega) (by omega) (fun c_39 => ?_) (fun c_39 => ?_)
      · exact F d pl kd le nu se t w1 hinv.symm hf (by omega) hA hc1 hP hF
      · exfalso; omega
    | succ k ih =>
      intro i d pl kd le nu se t w1 hf hk hi hdd hdy hinv hpl hi0 hA hc1 hP hF
      subst hpl
      have hcb := ceF_b (rgaS hc1.2.1).1 (s := t) (by omega) (entP cs pl).2.2.1 (entP cs pl).2.2.2.1 (entP cs pl).2.2.2.2.1 (entP cs pl).2.2.2.2.2
      have hpb := entP_b hW pl
      by_cases h1 : (entP cs pl).1 = 1
      · have hlt := entP_lt hi0 h1
        obtain ⟨v1, v2, v3, v4⟩ := entP_v pl h1
        rw [coF_t ⟨hlt, h1⟩] at hinv
        refine x_iload_n hM dX6_carryOut_36 rfl rfl ?_
        refine x_bipush hM dX6_carryOut_37 rfl ?_
        refine x_icmp_ge (tgt := 78) hM dX6_carryOut_39 (by decide) (by omega) (by omega) (fun c_39 => ?_) (fun c_39 => ?_)
        · exfalso; omega
        · refine x_aload_n hM dX6_carryOut_42 rfl rfl ?_
          refine x_get hM wf_X6_40 wl_X6 hc1.1 rfl dX6_carryOut_43 ?_
          refine x_callV hM wv_X6_242 (m_X2_readEntry hA (by omega)) ⟨Nat.le_of_ble_eq_true rfl, Nat.le_of_ble_eq_true rfl⟩ (pad_o hA) rfl rfl rfl rfl (Nat.le_of_ble_eq_true rfl) ⟨Nat.le_of_ble_eq_true rfl, Nat.le_of_ble_eq_true rfl⟩ dX6_carryOut_46 (k_qI fun x_46 w_46 q_46 => ?_)
          obtain ⟨qf, qa⟩ := q_46
          rcases qa with ⟨q1, -, -⟩ | ⟨-, rfl, le2, se2, qa, g1, g2⟩
          · omega
          have hc2 := hc1.kp qf (by omega)
          have hP2 := hP.kp qf (by omega)
          refine x_if_eq (tgt := 78) hM dX6_carryOut_49 (by decide) (by omega) (fun c_49 => ?_) (fun c_49 => ?_)
          · exfalso; omega
          · refine x_aload_n hM dX6_carryOut_52 rfl rfl ?_
            refine x_callV hM wv_X6_246 (m_X6_carryEntry (s := t) (lx := (entP cs pl).2.2.2.1) (sx := (entP cs pl).2.2.2.2.2) hc2 qa (by omega) (by omega) (by omega) (by omega) g1 g2) ⟨Nat.le_of_ble_eq_true rfl, Nat.le_of_ble_eq_true rfl⟩ hc2.1 rfl rfl rfl rfl (Nat.le_of_ble_eq_true rfl) ⟨Nat.le_of_ble_eq_true rfl, Nat.le_of_ble_eq_true rfl⟩ dX6_carryOut_53 (k_qI fun x_53 w_53 q_53 => ?_)
            obtain ⟨rfl, qc, qg⟩ := q_53
            have hP3 := hP2.kp qg (by omega)
            have hA3 := qa.kp qg (by omega)
            refine x_if_lt (tgt := 78) hM dX6_carryOut_56 (by decide) (by omega) (fun c_56 => ?_) (fun c_56 => ?_)
            · rw [if_pos (by omega)] at hinv
              exact F d _ _ _ _ _ _ _ hinv.symm hf (by omega) hA3 qc hP3 ((hF.tr (qf.r2 (by omega) (by omega))).tr (qg.l2 (by omega) (by omega)))
            · refine x_iinc hM dX6_carryOut_59 rfl rfl rfl ?_
              refine x_aload_n hM dX6_carryOut_62 rfl rfl ?_
              refine x_get hM wf_X6_40 wl_X6 qc.1 rfl dX6_carryOut_63 ?_
              refine x_dup hM dX6_carryOut_66 rfl ?_
              refine x_get hM wf_X6_239 wl_X2 (pad_o hA3) rfl dX6_carryOut_67 ?_
              refine x_iconst hM dX6_carryOut_70 ?_
              refine x_iadd hM dX6_carryOut_71 ?_
              refine x_put hM wf_X6_239 wl_X2 (pad_o hA3) wq_X6_239 rfl rfl (Nat.le_of_ble_eq_true rfl) rfl dX6_carryOut_72 ?_
              refine x_goto (tgt := 36) hM dX6_carryOut_75 (by decide) ?_
              rw [if_neg (by omega)] at hinv
              exact ih _ (d + 1) _ _ _ _ _ _ _ hf (by omega) (by omega) (by omega) (by omega) hinv rfl (by omega) hA3.up (qc.kp wF (by omega)) (hP3.kp wF (by omega)) (((hF.tr (qf.r2 (by omega) (by omega))).tr (qg.l2 (by omega) (by omega))).tr (wF.r2 (by omega) (by omega)))
      · rw [coF_f (fun q => h1 q.2)] at hinv
        refine x_iload_n hM dX6_carryOut_36 rfl rfl ?_
        refine x_bipush hM dX6_carryOut_37 rfl ?_
        refine x_icmp_ge (tgt := 78) hM dX6_carryOut_39 (by decide) (by omega) (by omega) (fun c_39 => ?_) (fun c_39 => ?_)
        · exact F d pl kd le nu se t w1 hinv.symm hf (by omega) hA hc1 hP hF
        · refine x_aload_n hM dX6_carryOut_42 rfl rfl ?_
          refine x_get hM wf_X6_40 wl_X6 hc1.1 rfl dX6_carryOut_43 ?_
          refine x_callV hM wv_X6_242 (m_X2_readEntry hA (by omega)) ⟨Nat.le_of_ble_eq_true rfl, Nat.le_of_ble_eq_true rfl⟩ (pad_o hA) rfl rfl rfl rfl (Nat.le_of_ble_eq_true rfl) ⟨Nat.le_of_ble_eq_true rfl, Nat.le_of_ble_eq_true rfl⟩ dX6_carryOut_46 (k_qI fun x_46 w_46 q_46 => ?_)
          obtain ⟨qf, qa⟩ := q_46
          rcases qa with ⟨-, rfl, kd2, le2, nu2, se2, qa⟩ | ⟨q1, -, -⟩
          · skip
            refine x_if_eq (tgt := 78) hM dX6_carryOut_49 (by decide) (by omega) (fun _ => ?_) (fun q => absurd rfl q)
            exact F d _ _ _ _ _ _ _ hinv.symm hf (by omega) qa (hc1.kp qf (by omega)) (hP.kp qf (by omega)) (hF.tr (qf.r2 (by omega) (by omega)))
          exact absurd q1 h1
          skip
  by_cases c1 : fltP cs 81 0 = -6
  · skip
    refine x_aload_n hM dX6_carryOut_0 rfl rfl ?_
    refine x_get hM wf_X6_40 wl_X6 hd rfl dX6_carryOut_1 ?_
    refine x_callV hM wv_X6_236 (m_X2_findFault hA0) ⟨Nat.le_of_ble_eq_true rfl, Nat.le_of_ble_eq_true rfl⟩ (pad_o hA0) rfl rfl rfl rfl (Nat.le_of_ble_eq_true rfl) ⟨Nat.le_of_ble_eq_true rfl, Nat.le_of_ble_eq_true rfl⟩ dX6_carryOut_4 (k_qI fun x_4 w_4 q_4 => ?_)
    obtain ⟨qf, rfl, qr, pl, kd, le, nu, se, qa⟩ := q_4
    have hc1 := hc.kp qf (by omega)
    have hh1 := hh.kp qf (by omega)
    have hr1 := hr.kp qf (by omega)
    refine x_bipush hM dX6_carryOut_7 rfl ?_
    refine x_icmp_eq (tgt := 15) hM dX6_carryOut_9 (by decide) (by omega) (by omega) (fun c_9 => ?_) (fun c_9 => ?_)
    · refine x_aload_n hM dX6_carryOut_15 rfl rfl ?_
      refine x_get hM wf_X6_29 wl_X6 hc1.1 rfl dX6_carryOut_16 ?_
      refine x_aload_n hM dX6_carryOut_19 rfl rfl ?_
      refine x_get hM wf_X6_12 wl_X6 hc1.1 rfl dX6_carryOut_20 ?_
      refine x_callV hM wv_X6_44 (m_X1_prepare hh1 hr1 (by omega)) ⟨Nat.le_of_ble_eq_true rfl, Nat.le_of_ble_eq_true rfl⟩ (his_a hh1) rfl rfl rfl rfl (Nat.le_of_ble_eq_true rfl) ⟨Nat.le_of_ble_eq_true rfl, Nat.le_of_ble_eq_true rfl⟩ dX6_carryOut_23 (k_qV fun w_23 q_23 => ?_)
      obtain ⟨qp, qg⟩ := q_23
      have hc2 := hc1.kp qg (by omega)
      have hA2 := qa.kp qg (by omega)
      refine x_iconst hM dX6_carryOut_26 ?_
      refine x_istore_n hM dX6_carryOut_27 rfl rfl (Nat.le_of_ble_eq_true rfl) rfl ?_
      refine x_aload_n hM dX6_carryOut_28 rfl rfl ?_
      refine x_get hM wf_X6_40 wl_X6 hc2.1 rfl dX6_carryOut_29 ?_
      refine x_iconst hM dX6_carryOut_32 ?_
      refine x_put hM wf_X6_239 wl_X2 (pad_o hA2) wq_X6_239 rfl rfl (Nat.le_of_ble_eq_true rfl) rfl dX6_carryOut_33 ?_
      exact K 81 0 0 _ _ _ _ _ s _ c1 (by omega) (by omega) (by omega) (by omega) rfl rfl (by omega) hA2.up (hc2.kp wF (by omega)) (qp.kp wF (by omega)) ((qf.r2 (by omega) (by omega)).tr ((qg.l2 (by omega) (by omega)).tr (wF.r2 (by omega) (by omega))))
    · exfalso; omega
  · skip
    refine x_aload_n hM dX6_carryOut_0 rfl rfl ?_
    refine x_get hM wf_X6_40 wl_X6 hd rfl dX6_carryOut_1 ?_
    refine x_callV hM wv_X6_236 (m_X2_findFault hA0) ⟨Nat.le_of_ble_eq_true rfl, Nat.le_of_ble_eq_true rfl⟩ (pad_o hA0) rfl rfl rfl rfl (Nat.le_of_ble_eq_true rfl) ⟨Nat.le_of_ble_eq_true rfl, Nat.le_of_ble_eq_true rfl⟩ dX6_carryOut_4 (k_qI fun x_4 w_4 q_4 => ?_)
    obtain ⟨qf, rfl, qr, qa⟩ := q_4
    have e1 : carF s cs = (-3, s, cs) := if_neg c1
    refine x_bipush hM dX6_carryOut_7 rfl ?_
    refine x_icmp_eq (tgt := 15) hM dX6_carryOut_9 (by decide) (by omega) (by omega) (fun c_9 => ?_) (fun c_9 => ?_)
    · exfalso; omega
    · refine x_bipush hM dX6_carryOut_12 rfl ?_
      refine hR.i dX6_carryOut_14 (Nat.zero_le _) (Nat.zero_le _) ?_
      exact p_qI (show _ ∧ _ from by rw [e1]; exact ⟨rfl, hc.kp qf (by omega), hh.kp qf (by omega), qa, qf.r2 (by omega) (by omega)⟩)
