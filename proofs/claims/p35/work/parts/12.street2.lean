/-! Street: clear, become, becomeInherited, copy, remove -/
theorem m_X5_clear {l : Launch} {G : xG} {w : Wd} {z a : Nat} {T : List Sg} (h1 : strA G w a T) : xMet l G yX5_clear cX5_clear 1 none ({ frames := 1, cells := 0, slots := 0, locals := 21 } : Room) [.ref a] w z (qV z fun w1 => strA G w1 a [] ∧ Fr a (a + 11) w w1) := by
  obtain ⟨hW, fo, fs, fl, fr, fm, hs, hL⟩ := h1
  refine xMet_of RX5 rfl (by decide +kernel) false (by decide +kernel) (Nat.le_of_ble_eq_true rfl) rfl ?_
  intro P hM hR
  refine x_aload_n hM dX5_clear_0 rfl rfl ?_
  refine x_get hM wf_X5_26 wl_X5 (by first | assumption | exact str_o (by assumption) | exact str_a (by assumption)) rfl dX5_clear_1 ?_
  refine x_callV hM wv_X5_40 (m_X4_clear (by first | assumption | exact sr1 (by assumption) | exact sr2 (by assumption) | exact sr3 (by assumption) | exact sr4 (by assumption) | exact sr5 (by assumption) | exact rg1 (by assumption) | exact rg2 (by assumption) | exact rg3 (by assumption)) (by omega)) ⟨Nat.le_of_ble_eq_true rfl, Nat.le_of_ble_eq_true rfl⟩ (by first | assumption | exact row_o (by first | assumption | exact sr1 (by assumption) | exact sr2 (by assumption) | exact sr3 (by assumption) | exact sr4 (by assumption) | exact sr5 (by assumption) | exact rg1 (by assumption) | exact rg2 (by assumption) | exact rg3 (by assumption))) rfl rfl rfl rfl (Nat.le_of_ble_eq_true rfl) ⟨Nat.le_of_ble_eq_true rfl, Nat.le_of_ble_eq_true rfl⟩ dX5_clear_4 (k_qV fun w_4 q_4 => ?_)
  obtain ⟨g4, g4z, rfl⟩ := q_4
  have hs1 := hs.u4 (g := g4)
  refine x_aload_n hM dX5_clear_7 rfl rfl ?_
  refine x_get hM wf_X5_29 wl_X5 (by first | assumption | exact str_o (by assumption) | exact str_a (by assumption)) rfl dX5_clear_8 ?_
  refine x_callV hM wv_X5_40 (m_X4_clear (by first | assumption | exact sr1 (by assumption) | exact sr2 (by assumption) | exact sr3 (by assumption) | exact sr4 (by assumption) | exact sr5 (by assumption) | exact rg1 (by assumption) | exact rg2 (by assumption) | exact rg3 (by assumption)) (by omega)) ⟨Nat.le_of_ble_eq_true rfl, Nat.le_of_ble_eq_true rfl⟩ (by first | assumption | exact row_o (by first | assumption | exact sr1 (by assumption) | exact sr2 (by assumption) | exact sr3 (by assumption) | exact sr4 (by assumption) | exact sr5 (by assumption) | exact rg1 (by assumption) | exact rg2 (by assumption) | exact rg3 (by assumption))) rfl rfl rfl rfl (Nat.le_of_ble_eq_true rfl) ⟨Nat.le_of_ble_eq_true rfl, Nat.le_of_ble_eq_true rfl⟩ dX5_clear_11 (k_qV fun w_11 q_11 => ?_)
  obtain ⟨g5, g5z, rfl⟩ := q_11
  have hs2 := hs1.u5 (g := g5)
  refine x_aload_n hM dX5_clear_14 rfl rfl ?_
  refine x_iconst hM dX5_clear_15 ?_
  refine x_put hM wf_X5_36 wl_X5 (by first | assumption | exact str_o (by assumption) | exact str_a (by assumption)) wq_X5_36 rfl rfl (Nat.le_of_ble_eq_true rfl) rfl dX5_clear_16 ?_
  refine hR.v dX5_clear_19 (Nat.zero_le _) (Nat.zero_le _) ?_
  refine p_qV ⟨⟨strW_nil, _, _, _, _, _, hs2.u0 (m := 0), fun i hi => absurd hi (Nat.not_lt_zero _), fun o o1 o2 => ⟨g4z o o1 o2, g5z o o1 o2⟩⟩, ((Fr.wS (by omega) (by omega)).tr (Fr.wS (by omega) (by omega))).tr (Fr.wS (by omega) (by omega))⟩
theorem drop_map {α β : Type} (f : α → β) (M : List α) {i : Nat} (h : i < M.length) : (M.drop i).map f = f M[i] :: (M.drop (i + 1)).map f := by
  rw [List.drop_eq_getElem_cons h]; rfl
theorem m_X5_become {l : Launch} {G : xG} {w : Wd} {z a b : Nat} {T0 M : List Sg} {o f n : Int} (h1 : strA G w a T0) (h2 : strA G w b M) (hd : a + 11 ≤ b ∨ b + 11 ≤ a) (ho : iR o ∧ o < 10) (hp : 0 ≤ f ∧ 0 < n ∧ f + n ≤ 10000) : xMet l G yX5_become cX5_become 8 none ({ frames := 2, cells := 0, slots := 0, locals := 46 } : Room) [.ref a, .ref b, .int (iI o), .int (iI f), .int (iI n)] w z (qV z fun w1 => strA G w1 a (becF M o f n) ∧ Fr a (a + 11) w w1) := by
  obtain ⟨hW, go, gs, gl, gr, gm, hs, hL⟩ := h2
  have hW1 := hW.1
  refine xMet_of RX5 rfl (by decide +kernel) false (by decide +kernel) (Nat.le_of_ble_eq_true rfl) rfl ?_
  intro P hM hR
  have K2 : ∀ (k i : Nat) (T : List Sg) (w1 : Wd) (x7 : Option Value), M.length - i < k → i ≤ M.length → strA G w1 a T → Fr a (a + 11) w w1 → apL T ((M.drop i).map (rigP (f + n))) = becF M o f n → P 81 [some (.ref a), some (.ref b), some (.int (iI o)), some (.int (iI f)), some (.int (iI n)), some (.int (iI (f + n))), some (.int (iI i)), x7] [] w1 (z, 0, 0) := by
    intro k
    induction k with
    | zero => intro i T w1 x7 hk; omega
    | succ k ih =>
      intro i T w1 x7 hk hi hT hF hinv
      have hs1 := hs.kp hF (by omega)
      by_cases hlt : i < M.length
      · have hok := strW_at hW hlt
        obtain ⟨e1, e2, e3⟩ := hL.1 i hlt
        have e4 : gs i + gl i = M[i].2.2 := by omega
        refine x_iload hM dX5_become_81 rfl ?_
        refine x_aload_n hM dX5_become_83 rfl rfl ?_
        refine x_get hM wf_X5_36 wl_X5 (by first | assumption | exact str_o (by assumption) | exact str_a (by assumption)) rfl dX5_become_84 ?_
        refine x_icmp_ge (tgt := 136) hM dX5_become_87 (by decide) (by omega) (by omega) (fun c_87 => ?_) (fun c_87 => ?_)
        · exfalso; omega
        · refine x_aload_n hM dX5_become_90 rfl rfl ?_
          refine x_get hM wf_X5_20 wl_X5 (by first | assumption | exact str_o (by assumption) | exact str_a (by assumption)) rfl dX5_become_91 ?_
          refine x_iload hM dX5_become_94 rfl ?_
          refine x_callV hM wv_X5_43 (m_X4_at (by first | assumption | exact sr1 (by assumption) | exact sr2 (by assumption) | exact sr3 (by assumption) | exact sr4 (by assumption) | exact sr5 (by assumption) | exact rg1 (by assumption) | exact rg2 (by assumption) | exact rg3 (by assumption)) (by omega)) ⟨Nat.le_of_ble_eq_true rfl, Nat.le_of_ble_eq_true rfl⟩ (by first | assumption | exact row_o (by first | assumption | exact sr1 (by assumption) | exact sr2 (by assumption) | exact sr3 (by assumption) | exact sr4 (by assumption) | exact sr5 (by assumption) | exact rg1 (by assumption) | exact rg2 (by assumption) | exact rg3 (by assumption))) rfl rfl rfl rfl (Nat.le_of_ble_eq_true rfl) ⟨Nat.le_of_ble_eq_true rfl, Nat.le_of_ble_eq_true rfl⟩ dX5_become_96 (k_rI ?_)
          refine x_iload hM dX5_become_99 rfl ?_
          refine x_max hM wm_X5_72 (by omega) (by omega) (Nat.le_of_ble_eq_true rfl) (Nat.le_of_ble_eq_true rfl) ⟨Nat.le_of_ble_eq_true rfl, Nat.le_of_ble_eq_true rfl⟩ dX5_become_101 ?_
          refine x_istore hM dX5_become_104 rfl (Nat.le_of_ble_eq_true rfl) rfl ?_
          refine x_aload_n hM dX5_become_106 rfl rfl ?_
          refine x_aload_n hM dX5_become_107 rfl rfl ?_
          refine x_get hM wf_X5_14 wl_X5 (by first | assumption | exact str_o (by assumption) | exact str_a (by assumption)) rfl dX5_become_108 ?_
          refine x_iload hM dX5_become_111 rfl ?_
          refine x_callV hM wv_X5_43 (m_X4_at (by first | assumption | exact sr1 (by assumption) | exact sr2 (by assumption) | exact sr3 (by assumption) | exact sr4 (by assumption) | exact sr5 (by assumption) | exact rg1 (by assumption) | exact rg2 (by assumption) | exact rg3 (by assumption)) (by omega)) ⟨Nat.le_of_ble_eq_true rfl, Nat.le_of_ble_eq_true rfl⟩ (by first | assumption | exact row_o (by first | assumption | exact sr1 (by assumption) | exact sr2 (by assumption) | exact sr3 (by assumption) | exact sr4 (by assumption) | exact sr5 (by assumption) | exact rg1 (by assumption) | exact rg2 (by assumption) | exact rg3 (by assumption))) rfl rfl rfl rfl (Nat.le_of_ble_eq_true rfl) ⟨Nat.le_of_ble_eq_true rfl, Nat.le_of_ble_eq_true rfl⟩ dX5_become_113 (k_rI ?_)
          refine x_iload hM dX5_become_116 rfl ?_
          refine x_aload_n hM dX5_become_118 rfl rfl ?_
          refine x_iload hM dX5_become_119 rfl ?_
          refine x_callV hM wv_X5_59 (m_X5_endOf (by assumption) (by omega)) ⟨Nat.le_of_ble_eq_true rfl, Nat.le_of_ble_eq_true rfl⟩ (by first | assumption | exact str_o (by assumption) | exact str_a (by assumption)) rfl rfl rfl rfl (Nat.le_of_ble_eq_true rfl) ⟨Nat.le_of_ble_eq_true rfl, Nat.le_of_ble_eq_true rfl⟩ dX5_become_121 (k_rI ?_)
          refine x_iload hM dX5_become_124 rfl ?_
          refine x_isub hM dX5_become_126 ?_
          rw [e4, e1, e2]
          refine x_callV hM wv_X5_68 (m_X5_append (by assumption) (by omega) (by omega)) ⟨Nat.le_of_ble_eq_true rfl, Nat.le_of_ble_eq_true rfl⟩ (by first | assumption | exact str_o (by assumption) | exact str_a (by assumption)) rfl rfl rfl rfl (Nat.le_of_ble_eq_true rfl) ⟨Nat.le_of_ble_eq_true rfl, Nat.le_of_ble_eq_true rfl⟩ dX5_become_127 (k_qV fun w_127 q_127 => ?_)
          obtain ⟨qa, qf⟩ := q_127
          rw [drop_map _ _ hlt] at hinv
          refine x_iinc hM dX5_become_130 rfl rfl rfl ?_
          refine x_goto (tgt := 81) hM dX5_become_133 (by decide) ?_
          exact ih (i + 1) _ _ _ (by omega) (by omega) qa (hF.tr qf) hinv
      · have hil : i = M.length := by omega
        refine x_iload hM dX5_become_81 rfl ?_
        refine x_aload_n hM dX5_become_83 rfl rfl ?_
        refine x_get hM wf_X5_36 wl_X5 (by first | assumption | exact str_o (by assumption) | exact str_a (by assumption)) rfl dX5_become_84 ?_
        refine x_icmp_ge (tgt := 136) hM dX5_become_87 (by decide) (by omega) (by omega) (fun c_87 => ?_) (fun c_87 => ?_)
        · refine hR.v dX5_become_136 (Nat.zero_le _) (Nat.zero_le _) ?_
          rw [hil, List.drop_length] at hinv
          exact p_qV ⟨by rw [← hinv]; exact hT, hF⟩
        · exfalso; omega
  have K1 : ∀ (k i : Nat) (T : List Sg) (w1 : Wd), M.length - i < k → i ≤ M.length → strA G w1 a T → Fr a (a + 11) w w1 → apL T ((M.drop i).map (lefP f)) = apL [] (M.map (lefP f)) → P 13 [some (.ref a), some (.ref b), some (.int (iI o)), some (.int (iI f)), some (.int (iI n)), some (.int (iI (f + n))), some (.int (iI i)), none] [] w1 (z, 0, 0) := by
    intro k
    induction k with
    | zero => intro i T w1 hk; omega
    | succ k ih =>
      intro i T w1 hk hi hT hF hinv
      have hs1 := hs.kp hF (by omega)
      by_cases hlt : i < M.length
      · have hok := strW_at hW hlt
        obtain ⟨e1, e2, e3⟩ := hL.1 i hlt
        have e4 : gs i + gl i = M[i].2.2 := by omega
        refine x_iload hM dX5_become_13 rfl ?_
        refine x_aload_n hM dX5_become_15 rfl rfl ?_
        refine x_get hM wf_X5_36 wl_X5 (by first | assumption | exact str_o (by assumption) | exact str_a (by assumption)) rfl dX5_become_16 ?_
        refine x_icmp_ge (tgt := 70) hM dX5_become_19 (by decide) (by omega) (by omega) (fun c_19 => ?_) (fun c_19 => ?_)
        · exfalso; omega
        · refine x_aload_n hM dX5_become_22 rfl rfl ?_
          refine x_aload_n hM dX5_become_23 rfl rfl ?_
          refine x_get hM wf_X5_14 wl_X5 (by first | assumption | exact str_o (by assumption) | exact str_a (by assumption)) rfl dX5_become_24 ?_
          refine x_iload hM dX5_become_27 rfl ?_
          refine x_callV hM wv_X5_43 (m_X4_at (by first | assumption | exact sr1 (by assumption) | exact sr2 (by assumption) | exact sr3 (by assumption) | exact sr4 (by assumption) | exact sr5 (by assumption) | exact rg1 (by assumption) | exact rg2 (by assumption) | exact rg3 (by assumption)) (by omega)) ⟨Nat.le_of_ble_eq_true rfl, Nat.le_of_ble_eq_true rfl⟩ (by first | assumption | exact row_o (by first | assumption | exact sr1 (by assumption) | exact sr2 (by assumption) | exact sr3 (by assumption) | exact sr4 (by assumption) | exact sr5 (by assumption) | exact rg1 (by assumption) | exact rg2 (by assumption) | exact rg3 (by assumption))) rfl rfl rfl rfl (Nat.le_of_ble_eq_true rfl) ⟨Nat.le_of_ble_eq_true rfl, Nat.le_of_ble_eq_true rfl⟩ dX5_become_29 (k_rI ?_)
          refine x_aload_n hM dX5_become_32 rfl rfl ?_
          refine x_get hM wf_X5_20 wl_X5 (by first | assumption | exact str_o (by assumption) | exact str_a (by assumption)) rfl dX5_become_33 ?_
          refine x_iload hM dX5_become_36 rfl ?_
          refine x_callV hM wv_X5_43 (m_X4_at (by first | assumption | exact sr1 (by assumption) | exact sr2 (by assumption) | exact sr3 (by assumption) | exact sr4 (by assumption) | exact sr5 (by assumption) | exact rg1 (by assumption) | exact rg2 (by assumption) | exact rg3 (by assumption)) (by omega)) ⟨Nat.le_of_ble_eq_true rfl, Nat.le_of_ble_eq_true rfl⟩ (by first | assumption | exact row_o (by first | assumption | exact sr1 (by assumption) | exact sr2 (by assumption) | exact sr3 (by assumption) | exact sr4 (by assumption) | exact sr5 (by assumption) | exact rg1 (by assumption) | exact rg2 (by assumption) | exact rg3 (by assumption))) rfl rfl rfl rfl (Nat.le_of_ble_eq_true rfl) ⟨Nat.le_of_ble_eq_true rfl, Nat.le_of_ble_eq_true rfl⟩ dX5_become_38 (k_rI ?_)
          refine x_aload_n hM dX5_become_41 rfl rfl ?_
          refine x_iload hM dX5_become_42 rfl ?_
          refine x_callV hM wv_X5_59 (m_X5_endOf (by assumption) (by omega)) ⟨Nat.le_of_ble_eq_true rfl, Nat.le_of_ble_eq_true rfl⟩ (by first | assumption | exact str_o (by assumption) | exact str_a (by assumption)) rfl rfl rfl rfl (Nat.le_of_ble_eq_true rfl) ⟨Nat.le_of_ble_eq_true rfl, Nat.le_of_ble_eq_true rfl⟩ dX5_become_44 (k_rI ?_)
          refine x_iload_n hM dX5_become_47 rfl rfl ?_
          refine x_min hM wm_X5_62 (by omega) (by omega) (Nat.le_of_ble_eq_true rfl) (Nat.le_of_ble_eq_true rfl) ⟨Nat.le_of_ble_eq_true rfl, Nat.le_of_ble_eq_true rfl⟩ dX5_become_48 ?_
          refine x_aload_n hM dX5_become_51 rfl rfl ?_
          refine x_get hM wf_X5_20 wl_X5 (by first | assumption | exact str_o (by assumption) | exact str_a (by assumption)) rfl dX5_become_52 ?_
          refine x_iload hM dX5_become_55 rfl ?_
          refine x_callV hM wv_X5_43 (m_X4_at (by first | assumption | exact sr1 (by assumption) | exact sr2 (by assumption) | exact sr3 (by assumption) | exact sr4 (by assumption) | exact sr5 (by assumption) | exact rg1 (by assumption) | exact rg2 (by assumption) | exact rg3 (by assumption)) (by omega)) ⟨Nat.le_of_ble_eq_true rfl, Nat.le_of_ble_eq_true rfl⟩ (by first | assumption | exact row_o (by first | assumption | exact sr1 (by assumption) | exact sr2 (by assumption) | exact sr3 (by assumption) | exact sr4 (by assumption) | exact sr5 (by assumption) | exact rg1 (by assumption) | exact rg2 (by assumption) | exact rg3 (by assumption))) rfl rfl rfl rfl (Nat.le_of_ble_eq_true rfl) ⟨Nat.le_of_ble_eq_true rfl, Nat.le_of_ble_eq_true rfl⟩ dX5_become_57 (k_rI ?_)
          refine x_isub hM dX5_become_60 ?_
          rw [e4, e1, e2]
          refine x_callV hM wv_X5_68 (m_X5_append (by assumption) (by omega) (by omega)) ⟨Nat.le_of_ble_eq_true rfl, Nat.le_of_ble_eq_true rfl⟩ (by first | assumption | exact str_o (by assumption) | exact str_a (by assumption)) rfl rfl rfl rfl (Nat.le_of_ble_eq_true rfl) ⟨Nat.le_of_ble_eq_true rfl, Nat.le_of_ble_eq_true rfl⟩ dX5_become_61 (k_qV fun w_61 q_61 => ?_)
          obtain ⟨qa, qf⟩ := q_61
          rw [drop_map _ _ hlt] at hinv
          refine x_iinc hM dX5_become_64 rfl rfl rfl ?_
          refine x_goto (tgt := 13) hM dX5_become_67 (by decide) ?_
          exact ih (i + 1) _ _ (by omega) (by omega) qa (hF.tr qf) hinv
      · have hil : i = M.length := by omega
        rw [hil, List.drop_length] at hinv
        have hinv : T = apL [] (M.map (lefP f)) := hinv
        refine x_iload hM dX5_become_13 rfl ?_
        refine x_aload_n hM dX5_become_15 rfl rfl ?_
        refine x_get hM wf_X5_36 wl_X5 (by first | assumption | exact str_o (by assumption) | exact str_a (by assumption)) rfl dX5_become_16 ?_
        refine x_icmp_ge (tgt := 70) hM dX5_become_19 (by decide) (by omega) (by omega) (fun c_19 => ?_) (fun c_19 => ?_)
        · refine x_aload_n hM dX5_become_70 rfl rfl ?_
          refine x_iload_n hM dX5_become_71 rfl rfl ?_
          refine x_iload_n hM dX5_become_72 rfl rfl ?_
          refine x_iload hM dX5_become_73 rfl ?_
          refine x_callV hM wv_X5_68 (m_X5_append (by assumption) (by omega) (by omega)) ⟨Nat.le_of_ble_eq_true rfl, Nat.le_of_ble_eq_true rfl⟩ (by first | assumption | exact str_o (by assumption) | exact str_a (by assumption)) rfl rfl rfl rfl (Nat.le_of_ble_eq_true rfl) ⟨Nat.le_of_ble_eq_true rfl, Nat.le_of_ble_eq_true rfl⟩ dX5_become_75 (k_qV fun w_75 q_75 => ?_)
          obtain ⟨qa, qf⟩ := q_75
          refine x_iconst hM dX5_become_78 ?_
          refine x_istore hM dX5_become_79 rfl (Nat.le_of_ble_eq_true rfl) rfl ?_
          exact K2 (M.length + 1) 0 _ _ _ (by omega) (by omega) qa (hF.tr qf) (by rw [List.drop_zero, hinv]; rfl)
        · exfalso; omega
  refine x_iload_n hM dX5_become_0 rfl rfl ?_
  refine x_iload hM dX5_become_1 rfl ?_
  refine x_iadd hM dX5_become_3 ?_
  refine x_istore hM dX5_become_4 rfl (Nat.le_of_ble_eq_true rfl) rfl ?_
  refine x_aload_n hM dX5_become_6 rfl rfl ?_
  refine x_callV hM wv_X5_58 (m_X5_clear (by assumption)) ⟨Nat.le_of_ble_eq_true rfl, Nat.le_of_ble_eq_true rfl⟩ (by first | assumption | exact str_o (by assumption) | exact str_a (by assumption)) rfl rfl rfl rfl (Nat.le_of_ble_eq_true rfl) ⟨Nat.le_of_ble_eq_true rfl, Nat.le_of_ble_eq_true rfl⟩ dX5_become_7 (k_qV fun w_7 q_7 => ?_)
  obtain ⟨qa, qf⟩ := q_7
  refine x_iconst hM dX5_become_10 ?_
  refine x_istore hM dX5_become_11 rfl (Nat.le_of_ble_eq_true rfl) rfl ?_
  exact K1 (M.length + 1) 0 _ _ (by omega) (by omega) qa qf (by rw [List.drop_zero])
theorem m_X5_becomeInherited {l : Launch} {G : xG} {w : Wd} {z a b : Nat} {T0 M : List Sg} {o h : Int} (h1 : strA G w a T0) (h2 : strA G w b M) (hd : a + 11 ≤ b ∨ b + 11 ≤ a) (ho : iR o) (hh : 0 ≤ h ∧ h < 10) : xMet l G yX5_becomeInherited cX5_becomeInherited 6 none ({ frames := 2, cells := 0, slots := 0, locals := 46 } : Room) [.ref a, .ref b, .int (iI o), .int (iI h)] w z (qV z fun w1 => strA G w1 a (inhF M o h) ∧ Fr a (a + 11) w w1) := by
  obtain ⟨hW, go, gs, gl, gr, gm, hs, hL⟩ := h2
  have hW1 := hW.1
  refine xMet_of RX5 rfl (by decide +kernel) false (by decide +kernel) (Nat.le_of_ble_eq_true rfl) rfl ?_
  intro P hM hR
  have K1 : ∀ (k i : Nat) (T : List Sg) (w1 : Wd) (x5 : Option Value), M.length - i < k → i ≤ M.length → strA G w1 a T → Fr a (a + 11) w w1 → apL T ((M.drop i).map (inhP o h)) = inhF M o h → P 7 [some (.ref a), some (.ref b), some (.int (iI o)), some (.int (iI h)), some (.int (iI i)), x5] [] w1 (z, 0, 0) := by
    intro k
    induction k with
    | zero => intro i T w1 x5 hk; omega
    | succ k ih =>
      intro i T w1 x5 hk hi hT hF hinv
      have hs1 := hs.kp hF (by omega)
      by_cases hlt : i < M.length
      · have hok := strW_at hW hlt
        obtain ⟨e1, e2, e3⟩ := hL.1 i hlt
        refine x_iload hM dX5_becomeInherited_7 rfl ?_
        refine x_aload_n hM dX5_becomeInherited_9 rfl rfl ?_
        refine x_get hM wf_X5_36 wl_X5 (by first | assumption | exact str_o (by assumption) | exact str_a (by assumption)) rfl dX5_becomeInherited_10 ?_
        refine x_icmp_ge (tgt := 67) hM dX5_becomeInherited_13 (by decide) (by omega) (by omega) (fun c_13 => ?_) (fun c_13 => ?_)
        · exfalso; omega
        · refine x_aload_n hM dX5_becomeInherited_16 rfl rfl ?_
          refine x_get hM wf_X5_14 wl_X5 (by first | assumption | exact str_o (by assumption) | exact str_a (by assumption)) rfl dX5_becomeInherited_17 ?_
          refine x_iload hM dX5_becomeInherited_20 rfl ?_
          refine x_callV hM wv_X5_43 (m_X4_at (by first | assumption | exact sr1 (by assumption) | exact sr2 (by assumption) | exact sr3 (by assumption) | exact sr4 (by assumption) | exact sr5 (by assumption) | exact rg1 (by assumption) | exact rg2 (by assumption) | exact rg3 (by assumption)) (by omega)) ⟨Nat.le_of_ble_eq_true rfl, Nat.le_of_ble_eq_true rfl⟩ (by first | assumption | exact row_o (by first | assumption | exact sr1 (by assumption) | exact sr2 (by assumption) | exact sr3 (by assumption) | exact sr4 (by assumption) | exact sr5 (by assumption) | exact rg1 (by assumption) | exact rg2 (by assumption) | exact rg3 (by assumption))) rfl rfl rfl rfl (Nat.le_of_ble_eq_true rfl) ⟨Nat.le_of_ble_eq_true rfl, Nat.le_of_ble_eq_true rfl⟩ dX5_becomeInherited_22 (k_rI ?_)
          refine x_istore hM dX5_becomeInherited_25 rfl (Nat.le_of_ble_eq_true rfl) rfl ?_
          refine x_aload_n hM dX5_becomeInherited_27 rfl rfl ?_
          refine x_iload hM dX5_becomeInherited_28 rfl ?_
          refine x_iload_n hM dX5_becomeInherited_30 rfl rfl ?_
          refine x_icmp_ne (tgt := 38) hM dX5_becomeInherited_31 (by decide) (by omega) (by omega) (fun c_31 => ?_) (fun c_31 => ?_)
          · refine x_iload hM dX5_becomeInherited_38 rfl ?_
            refine x_aload_n hM dX5_becomeInherited_40 rfl rfl ?_
            refine x_get hM wf_X5_20 wl_X5 (by first | assumption | exact str_o (by assumption) | exact str_a (by assumption)) rfl dX5_becomeInherited_41 ?_
            refine x_iload hM dX5_becomeInherited_44 rfl ?_
            refine x_callV hM wv_X5_43 (m_X4_at (by first | assumption | exact sr1 (by assumption) | exact sr2 (by assumption) | exact sr3 (by assumption) | exact sr4 (by assumption) | exact sr5 (by assumption) | exact rg1 (by assumption) | exact rg2 (by assumption) | exact rg3 (by assumption)) (by omega)) ⟨Nat.le_of_ble_eq_true rfl, Nat.le_of_ble_eq_true rfl⟩ (by first | assumption | exact row_o (by first | assumption | exact sr1 (by assumption) | exact sr2 (by assumption) | exact sr3 (by assumption) | exact sr4 (by assumption) | exact sr5 (by assumption) | exact rg1 (by assumption) | exact rg2 (by assumption) | exact rg3 (by assumption))) rfl rfl rfl rfl (Nat.le_of_ble_eq_true rfl) ⟨Nat.le_of_ble_eq_true rfl, Nat.le_of_ble_eq_true rfl⟩ dX5_becomeInherited_46 (k_rI ?_)
            refine x_aload_n hM dX5_becomeInherited_49 rfl rfl ?_
            refine x_get hM wf_X5_23 wl_X5 (by first | assumption | exact str_o (by assumption) | exact str_a (by assumption)) rfl dX5_becomeInherited_50 ?_
            refine x_iload hM dX5_becomeInherited_53 rfl ?_
            refine x_callV hM wv_X5_43 (m_X4_at (by first | assumption | exact sr1 (by assumption) | exact sr2 (by assumption) | exact sr3 (by assumption) | exact sr4 (by assumption) | exact sr5 (by assumption) | exact rg1 (by assumption) | exact rg2 (by assumption) | exact rg3 (by assumption)) (by omega)) ⟨Nat.le_of_ble_eq_true rfl, Nat.le_of_ble_eq_true rfl⟩ (by first | assumption | exact row_o (by first | assumption | exact sr1 (by assumption) | exact sr2 (by assumption) | exact sr3 (by assumption) | exact sr4 (by assumption) | exact sr5 (by assumption) | exact rg1 (by assumption) | exact rg2 (by assumption) | exact rg3 (by assumption))) rfl rfl rfl rfl (Nat.le_of_ble_eq_true rfl) ⟨Nat.le_of_ble_eq_true rfl, Nat.le_of_ble_eq_true rfl⟩ dX5_becomeInherited_55 (k_rI ?_)
            refine x_callV hM wv_X5_68 (m_X5_append (by assumption) (by omega) (by omega)) ⟨Nat.le_of_ble_eq_true rfl, Nat.le_of_ble_eq_true rfl⟩ (by first | assumption | exact str_o (by assumption) | exact str_a (by assumption)) rfl rfl rfl rfl (Nat.le_of_ble_eq_true rfl) ⟨Nat.le_of_ble_eq_true rfl, Nat.le_of_ble_eq_true rfl⟩ dX5_becomeInherited_58 (k_qV fun w_58 q_58 => ?_)
            obtain ⟨qa, qf⟩ := q_58
            rw [drop_map _ _ hlt] at hinv
            have e5 : inhP o h M[i] = ((if M[i].1 = o then h else M[i].1), gs i, gl i) := by unfold inhP; rw [e2, e3]
            rw [e5] at hinv
            refine x_iinc hM dX5_becomeInherited_61 rfl rfl rfl ?_
            refine x_goto (tgt := 7) hM dX5_becomeInherited_64 (by decide) ?_
            exact ih (i + 1) _ _ _ (by omega) (by omega) qa (hF.tr qf) (by rw [← hinv]; unfold apL; rw [List.foldl_cons]; first | rw [if_pos (by omega)] | (rw [if_neg (by omega), ← e1]))
          · refine x_iload_n hM dX5_becomeInherited_34 rfl rfl ?_
            refine x_goto (tgt := 40) hM dX5_becomeInherited_35 (by decide) ?_
            refine x_aload_n hM dX5_becomeInherited_40 rfl rfl ?_
            refine x_get hM wf_X5_20 wl_X5 (by first | assumption | exact str_o (by assumption) | exact str_a (by assumption)) rfl dX5_becomeInherited_41 ?_
            refine x_iload hM dX5_becomeInherited_44 rfl ?_
            refine x_callV hM wv_X5_43 (m_X4_at (by first | assumption | exact sr1 (by assumption) | exact sr2 (by assumption) | exact sr3 (by assumption) | exact sr4 (by assumption) | exact sr5 (by assumption) | exact rg1 (by assumption) | exact rg2 (by assumption) | exact rg3 (by assumption)) (by omega)) ⟨Nat.le_of_ble_eq_true rfl, Nat.le_of_ble_eq_true rfl⟩ (by first | assumption | exact row_o (by first | assumption | exact sr1 (by assumption) | exact sr2 (by assumption) | exact sr3 (by assumption) | exact sr4 (by assumption) | exact sr5 (by assumption) | exact rg1 (by assumption) | exact rg2 (by assumption) | exact rg3 (by assumption))) rfl rfl rfl rfl (Nat.le_of_ble_eq_true rfl) ⟨Nat.le_of_ble_eq_true rfl, Nat.le_of_ble_eq_true rfl⟩ dX5_becomeInherited_46 (k_rI ?_)
            refine x_aload_n hM dX5_becomeInherited_49 rfl rfl ?_
            refine x_get hM wf_X5_23 wl_X5 (by first | assumption | exact str_o (by assumption) | exact str_a (by assumption)) rfl dX5_becomeInherited_50 ?_
            refine x_iload hM dX5_becomeInherited_53 rfl ?_
            refine x_callV hM wv_X5_43 (m_X4_at (by first | assumption | exact sr1 (by assumption) | exact sr2 (by assumption) | exact sr3 (by assumption) | exact sr4 (by assumption) | exact sr5 (by assumption) | exact rg1 (by assumption) | exact rg2 (by assumption) | exact rg3 (by assumption)) (by omega)) ⟨Nat.le_of_ble_eq_true rfl, Nat.le_of_ble_eq_true rfl⟩ (by first | assumption | exact row_o (by first | assumption | exact sr1 (by assumption) | exact sr2 (by assumption) | exact sr3 (by assumption) | exact sr4 (by assumption) | exact sr5 (by assumption) | exact rg1 (by assumption) | exact rg2 (by assumption) | exact rg3 (by assumption))) rfl rfl rfl rfl (Nat.le_of_ble_eq_true rfl) ⟨Nat.le_of_ble_eq_true rfl, Nat.le_of_ble_eq_true rfl⟩ dX5_becomeInherited_55 (k_rI ?_)
            refine x_callV hM wv_X5_68 (m_X5_append (by assumption) (by omega) (by omega)) ⟨Nat.le_of_ble_eq_true rfl, Nat.le_of_ble_eq_true rfl⟩ (by first | assumption | exact str_o (by assumption) | exact str_a (by assumption)) rfl rfl rfl rfl (Nat.le_of_ble_eq_true rfl) ⟨Nat.le_of_ble_eq_true rfl, Nat.le_of_ble_eq_true rfl⟩ dX5_becomeInherited_58 (k_qV fun w_58 q_58 => ?_)
            obtain ⟨qa, qf⟩ := q_58
            rw [drop_map _ _ hlt] at hinv
            have e5 : inhP o h M[i] = ((if M[i].1 = o then h else M[i].1), gs i, gl i) := by unfold inhP; rw [e2, e3]
            rw [e5] at hinv
            refine x_iinc hM dX5_becomeInherited_61 rfl rfl rfl ?_
            refine x_goto (tgt := 7) hM dX5_becomeInherited_64 (by decide) ?_
            exact ih (i + 1) _ _ _ (by omega) (by omega) qa (hF.tr qf) (by rw [← hinv]; unfold apL; rw [List.foldl_cons]; first | rw [if_pos (by omega)] | (rw [if_neg (by omega), ← e1]))
      · have hil : i = M.length := by omega
        refine x_iload hM dX5_becomeInherited_7 rfl ?_
        refine x_aload_n hM dX5_becomeInherited_9 rfl rfl ?_
        refine x_get hM wf_X5_36 wl_X5 (by first | assumption | exact str_o (by assumption) | exact str_a (by assumption)) rfl dX5_becomeInherited_10 ?_
        refine x_icmp_ge (tgt := 67) hM dX5_becomeInherited_13 (by decide) (by omega) (by omega) (fun c_13 => ?_) (fun c_13 => ?_)
        · refine hR.v dX5_becomeInherited_67 (Nat.zero_le _) (Nat.zero_le _) ?_
          rw [hil, List.drop_length] at hinv
          exact p_qV ⟨by rw [← hinv]; exact hT, hF⟩
        · exfalso; omega
  refine x_aload_n hM dX5_becomeInherited_0 rfl rfl ?_
  refine x_callV hM wv_X5_58 (m_X5_clear (by assumption)) ⟨Nat.le_of_ble_eq_true rfl, Nat.le_of_ble_eq_true rfl⟩ (by first | assumption | exact str_o (by assumption) | exact str_a (by assumption)) rfl rfl rfl rfl (Nat.le_of_ble_eq_true rfl) ⟨Nat.le_of_ble_eq_true rfl, Nat.le_of_ble_eq_true rfl⟩ dX5_becomeInherited_1 (k_qV fun w_1 q_1 => ?_)
  obtain ⟨qa, qf⟩ := q_1
  refine x_iconst hM dX5_becomeInherited_4 ?_
  refine x_istore hM dX5_becomeInherited_5 rfl (Nat.le_of_ble_eq_true rfl) rfl ?_
  exact K1 (M.length + 1) 0 _ _ _ (by omega) (by omega) qa qf (by rw [List.drop_zero]; rfl)
theorem m_X5_copy {l : Launch} {G : xG} {w : Wd} {z a b : Nat} {T0 M : List Sg} (h1 : strA G w a T0) (h2 : strA G w b M) (hd : a + 11 ≤ b ∨ b + 11 ≤ a) : xMet l G yX5_copy cX5_copy 2 none ({ frames := 2, cells := 0, slots := 0, locals := 56 } : Room) [.ref a, .ref b] w z (qV z fun w1 => strA G w1 a M ∧ Fr a (a + 11) w w1) := by
  obtain ⟨hW, go, gs, gl, gr, gm, ht, hL⟩ := h2
  obtain ⟨-, fo, fs, fl, fr, fm, hs, -⟩ := h1
  have hW1 := hW.1
  refine xMet_of RX5 rfl (by decide +kernel) false (by decide +kernel) (Nat.le_of_ble_eq_true rfl) rfl ?_
  intro P hM hR
  refine x_aload_n hM dX5_copy_0 rfl rfl ?_
  refine x_get hM wf_X5_14 wl_X5 (by first | assumption | exact str_o (by assumption) | exact str_a (by assumption)) rfl dX5_copy_1 ?_
  refine x_aload_n hM dX5_copy_4 rfl rfl ?_
  refine x_get hM wf_X5_14 wl_X5 (by first | assumption | exact str_o (by assumption) | exact str_a (by assumption)) rfl dX5_copy_5 ?_
  refine x_callV hM wv_X5_32 (m_X4_copy (by first | assumption | exact sr1 (by assumption) | exact sr2 (by assumption) | exact sr3 (by assumption) | exact sr4 (by assumption) | exact sr5 (by assumption) | exact rg1 (by assumption) | exact rg2 (by assumption) | exact rg3 (by assumption)) (by first | assumption | exact sr1 (by assumption) | exact sr2 (by assumption) | exact sr3 (by assumption) | exact sr4 (by assumption) | exact sr5 (by assumption) | exact rg1 (by assumption) | exact rg2 (by assumption) | exact rg3 (by assumption)) (by omega)) ⟨Nat.le_of_ble_eq_true rfl, Nat.le_of_ble_eq_true rfl⟩ (by first | assumption | exact row_o (by first | assumption | exact sr1 (by assumption) | exact sr2 (by assumption) | exact sr3 (by assumption) | exact sr4 (by assumption) | exact sr5 (by assumption) | exact rg1 (by assumption) | exact rg2 (by assumption) | exact rg3 (by assumption))) rfl rfl rfl rfl (Nat.le_of_ble_eq_true rfl) ⟨Nat.le_of_ble_eq_true rfl, Nat.le_of_ble_eq_true rfl⟩ dX5_copy_8 (k_qV fun w_8 q_8 => ?_)
  subst q_8
  have ht1 := ht.kp (Fr.wS (lo := a) (hi := a + 11) (q := a + 1 + 1) (e := aI G 42 (fC go fo 42)) (by omega) (by omega)) (by omega)
  have hs1 := hs.u1 (g := fC go fo 42)
  refine x_aload_n hM dX5_copy_11 rfl rfl ?_
  refine x_get hM wf_X5_20 wl_X5 (by first | assumption | exact str_o (by assumption) | exact str_a (by assumption)) rfl dX5_copy_12 ?_
  refine x_aload_n hM dX5_copy_15 rfl rfl ?_
  refine x_get hM wf_X5_20 wl_X5 (by first | assumption | exact str_o (by assumption) | exact str_a (by assumption)) rfl dX5_copy_16 ?_
  refine x_callV hM wv_X5_32 (m_X4_copy (by first | assumption | exact sr1 (by assumption) | exact sr2 (by assumption) | exact sr3 (by assumption) | exact sr4 (by assumption) | exact sr5 (by assumption) | exact rg1 (by assumption) | exact rg2 (by assumption) | exact rg3 (by assumption)) (by first | assumption | exact sr1 (by assumption) | exact sr2 (by assumption) | exact sr3 (by assumption) | exact sr4 (by assumption) | exact sr5 (by assumption) | exact rg1 (by assumption) | exact rg2 (by assumption) | exact rg3 (by assumption)) (by omega)) ⟨Nat.le_of_ble_eq_true rfl, Nat.le_of_ble_eq_true rfl⟩ (by first | assumption | exact row_o (by first | assumption | exact sr1 (by assumption) | exact sr2 (by assumption) | exact sr3 (by assumption) | exact sr4 (by assumption) | exact sr5 (by assumption) | exact rg1 (by assumption) | exact rg2 (by assumption) | exact rg3 (by assumption))) rfl rfl rfl rfl (Nat.le_of_ble_eq_true rfl) ⟨Nat.le_of_ble_eq_true rfl, Nat.le_of_ble_eq_true rfl⟩ dX5_copy_19 (k_qV fun w_19 q_19 => ?_)
  subst q_19
  have ht2 := ht1.kp (Fr.wS (lo := a) (hi := a + 11) (q := a + 3 + 1) (e := aI G 42 (fC gs fs 42)) (by omega) (by omega)) (by omega)
  have hs2 := hs1.u2 (g := fC gs fs 42)
  refine x_aload_n hM dX5_copy_22 rfl rfl ?_
  refine x_get hM wf_X5_23 wl_X5 (by first | assumption | exact str_o (by assumption) | exact str_a (by assumption)) rfl dX5_copy_23 ?_
  refine x_aload_n hM dX5_copy_26 rfl rfl ?_
  refine x_get hM wf_X5_23 wl_X5 (by first | assumption | exact str_o (by assumption) | exact str_a (by assumption)) rfl dX5_copy_27 ?_
  refine x_callV hM wv_X5_32 (m_X4_copy (by first | assumption | exact sr1 (by assumption) | exact sr2 (by assumption) | exact sr3 (by assumption) | exact sr4 (by assumption) | exact sr5 (by assumption) | exact rg1 (by assumption) | exact rg2 (by assumption) | exact rg3 (by assumption)) (by first | assumption | exact sr1 (by assumption) | exact sr2 (by assumption) | exact sr3 (by assumption) | exact sr4 (by assumption) | exact sr5 (by assumption) | exact rg1 (by assumption) | exact rg2 (by assumption) | exact rg3 (by assumption)) (by omega)) ⟨Nat.le_of_ble_eq_true rfl, Nat.le_of_ble_eq_true rfl⟩ (by first | assumption | exact row_o (by first | assumption | exact sr1 (by assumption) | exact sr2 (by assumption) | exact sr3 (by assumption) | exact sr4 (by assumption) | exact sr5 (by assumption) | exact rg1 (by assumption) | exact rg2 (by assumption) | exact rg3 (by assumption))) rfl rfl rfl rfl (Nat.le_of_ble_eq_true rfl) ⟨Nat.le_of_ble_eq_true rfl, Nat.le_of_ble_eq_true rfl⟩ dX5_copy_30 (k_qV fun w_30 q_30 => ?_)
  subst q_30
  have ht3 := ht2.kp (Fr.wS (lo := a) (hi := a + 11) (q := a + 5 + 1) (e := aI G 42 (fC gl fl 42)) (by omega) (by omega)) (by omega)
  have hs3 := hs2.u3 (g := fC gl fl 42)
  refine x_aload_n hM dX5_copy_33 rfl rfl ?_
  refine x_get hM wf_X5_26 wl_X5 (by first | assumption | exact str_o (by assumption) | exact str_a (by assumption)) rfl dX5_copy_34 ?_
  refine x_aload_n hM dX5_copy_37 rfl rfl ?_
  refine x_get hM wf_X5_26 wl_X5 (by first | assumption | exact str_o (by assumption) | exact str_a (by assumption)) rfl dX5_copy_38 ?_
  refine x_callV hM wv_X5_32 (m_X4_copy (by first | assumption | exact sr1 (by assumption) | exact sr2 (by assumption) | exact sr3 (by assumption) | exact sr4 (by assumption) | exact sr5 (by assumption) | exact rg1 (by assumption) | exact rg2 (by assumption) | exact rg3 (by assumption)) (by first | assumption | exact sr1 (by assumption) | exact sr2 (by assumption) | exact sr3 (by assumption) | exact sr4 (by assumption) | exact sr5 (by assumption) | exact rg1 (by assumption) | exact rg2 (by assumption) | exact rg3 (by assumption)) (by omega)) ⟨Nat.le_of_ble_eq_true rfl, Nat.le_of_ble_eq_true rfl⟩ (by first | assumption | exact row_o (by first | assumption | exact sr1 (by assumption) | exact sr2 (by assumption) | exact sr3 (by assumption) | exact sr4 (by assumption) | exact sr5 (by assumption) | exact rg1 (by assumption) | exact rg2 (by assumption) | exact rg3 (by assumption))) rfl rfl rfl rfl (Nat.le_of_ble_eq_true rfl) ⟨Nat.le_of_ble_eq_true rfl, Nat.le_of_ble_eq_true rfl⟩ dX5_copy_41 (k_qV fun w_41 q_41 => ?_)
  subst q_41
  have ht4 := ht3.kp (Fr.wS (lo := a) (hi := a + 11) (q := a + 7 + 1) (e := aI G 10 (fC gr fr 10)) (by omega) (by omega)) (by omega)
  have hs4 := hs3.u4 (g := fC gr fr 10)
  refine x_aload_n hM dX5_copy_44 rfl rfl ?_
  refine x_get hM wf_X5_29 wl_X5 (by first | assumption | exact str_o (by assumption) | exact str_a (by assumption)) rfl dX5_copy_45 ?_
  refine x_aload_n hM dX5_copy_48 rfl rfl ?_
  refine x_get hM wf_X5_29 wl_X5 (by first | assumption | exact str_o (by assumption) | exact str_a (by assumption)) rfl dX5_copy_49 ?_
  refine x_callV hM wv_X5_32 (m_X4_copy (by first | assumption | exact sr1 (by assumption) | exact sr2 (by assumption) | exact sr3 (by assumption) | exact sr4 (by assumption) | exact sr5 (by assumption) | exact rg1 (by assumption) | exact rg2 (by assumption) | exact rg3 (by assumption)) (by first | assumption | exact sr1 (by assumption) | exact sr2 (by assumption) | exact sr3 (by assumption) | exact sr4 (by assumption) | exact sr5 (by assumption) | exact rg1 (by assumption) | exact rg2 (by assumption) | exact rg3 (by assumption)) (by omega)) ⟨Nat.le_of_ble_eq_true rfl, Nat.le_of_ble_eq_true rfl⟩ (by first | assumption | exact row_o (by first | assumption | exact sr1 (by assumption) | exact sr2 (by assumption) | exact sr3 (by assumption) | exact sr4 (by assumption) | exact sr5 (by assumption) | exact rg1 (by assumption) | exact rg2 (by assumption) | exact rg3 (by assumption))) rfl rfl rfl rfl (Nat.le_of_ble_eq_true rfl) ⟨Nat.le_of_ble_eq_true rfl, Nat.le_of_ble_eq_true rfl⟩ dX5_copy_52 (k_qV fun w_52 q_52 => ?_)
  subst q_52
  have ht5 := ht4.kp (Fr.wS (lo := a) (hi := a + 11) (q := a + 9 + 1) (e := aI G 10 (fC gm fm 10)) (by omega) (by omega)) (by omega)
  have hs5 := hs4.u5 (g := fC gm fm 10)
  refine x_aload_n hM dX5_copy_55 rfl rfl ?_
  refine x_aload_n hM dX5_copy_56 rfl rfl ?_
  refine x_get hM wf_X5_36 wl_X5 (by first | assumption | exact str_o (by assumption) | exact str_a (by assumption)) rfl dX5_copy_57 ?_
  refine x_put hM wf_X5_36 wl_X5 (by first | assumption | exact str_o (by assumption) | exact str_a (by assumption)) wq_X5_36 rfl rfl (Nat.le_of_ble_eq_true rfl) rfl dX5_copy_60 ?_
  refine hR.v dX5_copy_63 (Nat.zero_le _) (Nat.zero_le _) ?_
  refine p_qV ⟨⟨hW, _, _, _, _, _, hs5.u0 (m := M.length), fun i hi => ?_, fun o o1 o2 => ?_⟩, (((((Fr.wS (by omega) (by omega)).tr (Fr.wS (by omega) (by omega))).tr (Fr.wS (by omega) (by omega))).tr (Fr.wS (by omega) (by omega))).tr (Fr.wS (by omega) (by omega))).tr (Fr.wS (by omega) (by omega))⟩
  · have h3 := hL.1 i hi
    unfold fC
    rw [if_pos (by omega), if_pos (by omega), if_pos (by omega)]
    exact h3
  · have h3 := hL.2 o o1 o2
    unfold fC
    rw [if_pos (by omega), if_pos (by omega)]
    exact h3
theorem cntO_erase {L : List Sg} {r : Nat} (hr : r < L.length) (o : Int) : cntO (L.eraseIdx r) o = cntO L o - (if L[r].1 = o then 1 else 0) ∧ mtsO (L.eraseIdx r) o = mtsO L o - (if L[r].1 = o then L[r].2.2 - L[r].2.1 else 0) := by
  induction L generalizing r with
  | nil => exact absurd hr (Nat.not_lt_zero _)
  | cons s t ih =>
    cases r with
    | zero =>
      simp only [List.eraseIdx_cons_zero, cntO, mtsO, List.getElem_cons_zero]
      omega
    | succ r =>
      have h1 := ih (r := r) (by simpa using hr)
      simp only [List.eraseIdx_cons_succ, cntO, mtsO, List.getElem_cons_succ]
      omega
theorem strW_erase {L : List Sg} (h : strW L) (r : Nat) : strW (L.eraseIdx r) :=
  ⟨Nat.le_trans (List.length_eraseIdx_le _ _) h.1, fun s hs => h.2 s (List.mem_of_mem_eraseIdx hs)⟩
theorem m_X5_remove {l : Launch} {G : xG} {w : Wd} {z a r : Nat} {L : List Sg} (h1 : strA G w a L) (hr : r < L.length) : xMet l G yX5_remove cX5_remove 3 none ({ frames := 1, cells := 0, slots := 0, locals := 22 } : Room) [.ref a, .int (iI r)] w z (qV z fun w1 => strA G w1 a (L.eraseIdx r) ∧ Fr a (a + 11) w w1) := by
  have hWn := strW_erase h1.1 r
  obtain ⟨hW, fo, fs, fl, fr, fm, hs, hL⟩ := h1
  have hW1 := hW.1
  have hlen : (L.eraseIdx r).length = L.length - 1 := List.length_eraseIdx_of_lt hr
  have hok := strW_at hW hr
  obtain ⟨e1, e2, e3⟩ := hL.1 r hr
  refine xMet_of RX5 rfl (by decide +kernel) false (by decide +kernel) (Nat.le_of_ble_eq_true rfl) rfl ?_
  intro P hM hR
  have K : ∀ (k i : Nat) (go gs gl gr gm : Int → Int) (w1 : Wd), L.length - 1 - i < k → r ≤ i → i ≤ L.length - 1 → strR G w1 a (L.length - 1 : Nat) go gs gl gr gm → Fr a (a + 11) w w1 → (∀ j : Int, 0 ≤ j → j < r → go j = fo j ∧ gs j = fs j ∧ gl j = fl j) → (∀ j : Int, r ≤ j → j < i → go j = fo (j + 1) ∧ gs j = fs (j + 1) ∧ gl j = fl (j + 1)) → (∀ j : Int, i ≤ j → j < 42 → go j = fo j ∧ gs j = fs j ∧ gl j = fl j) → (∀ o : Int, 0 ≤ o → o < 10 → gr o = cntO (L.eraseIdx r) o ∧ gm o = mtsO (L.eraseIdx r) o) → P 61 [some (.ref a), some (.int (iI r)), some (.int (iI i))] [] w1 (z, 0, 0) := by
    intro k
    induction k with
    | zero => intro i go gs gl gr gm w1 hk; omega
    | succ k ih =>
      intro i go gs gl gr gm w1 hk hri hi hs1 hF i1 i2 i3 i4
      by_cases hlt : i < L.length - 1
      · skip
        refine x_iload_n hM dX5_remove_61 rfl rfl ?_
        refine x_aload_n hM dX5_remove_62 rfl rfl ?_
        refine x_get hM wf_X5_36 wl_X5 (by first | assumption | exact str_o (by assumption) | exact str_a (by assumption)) rfl dX5_remove_63 ?_
        refine x_icmp_ge (tgt := 129) hM dX5_remove_66 (by decide) (by omega) (by omega) (fun c_66 => ?_) (fun c_66 => ?_)
        · exfalso; omega
        · refine x_aload_n hM dX5_remove_69 rfl rfl ?_
          refine x_get hM wf_X5_14 wl_X5 (by first | assumption | exact str_o (by assumption) | exact str_a (by assumption)) rfl dX5_remove_70 ?_
          refine x_iload_n hM dX5_remove_73 rfl rfl ?_
          refine x_aload_n hM dX5_remove_74 rfl rfl ?_
          refine x_get hM wf_X5_14 wl_X5 (by first | assumption | exact str_o (by assumption) | exact str_a (by assumption)) rfl dX5_remove_75 ?_
          refine x_iload_n hM dX5_remove_78 rfl rfl ?_
          refine x_iconst hM dX5_remove_79 ?_
          refine x_iadd hM dX5_remove_80 ?_
          refine x_callV hM wv_X5_43 (m_X4_at (by first | assumption | exact sr1 (by assumption) | exact sr2 (by assumption) | exact sr3 (by assumption) | exact sr4 (by assumption) | exact sr5 (by assumption) | exact rg1 (by assumption) | exact rg2 (by assumption) | exact rg3 (by assumption)) (by omega)) ⟨Nat.le_of_ble_eq_true rfl, Nat.le_of_ble_eq_true rfl⟩ (by first | assumption | exact row_o (by first | assumption | exact sr1 (by assumption) | exact sr2 (by assumption) | exact sr3 (by assumption) | exact sr4 (by assumption) | exact sr5 (by assumption) | exact rg1 (by assumption) | exact rg2 (by assumption) | exact rg3 (by assumption))) rfl rfl rfl rfl (Nat.le_of_ble_eq_true rfl) ⟨Nat.le_of_ble_eq_true rfl, Nat.le_of_ble_eq_true rfl⟩ dX5_remove_81 (k_rI ?_)
          refine x_callV hM wv_X5_55 (m_X4_store (by first | assumption | exact sr1 (by assumption) | exact sr2 (by assumption) | exact sr3 (by assumption) | exact sr4 (by assumption) | exact sr5 (by assumption) | exact rg1 (by assumption) | exact rg2 (by assumption) | exact rg3 (by assumption)) (by omega)) ⟨Nat.le_of_ble_eq_true rfl, Nat.le_of_ble_eq_true rfl⟩ (by first | assumption | exact row_o (by first | assumption | exact sr1 (by assumption) | exact sr2 (by assumption) | exact sr3 (by assumption) | exact sr4 (by assumption) | exact sr5 (by assumption) | exact rg1 (by assumption) | exact rg2 (by assumption) | exact rg3 (by assumption))) rfl rfl rfl rfl (Nat.le_of_ble_eq_true rfl) ⟨Nat.le_of_ble_eq_true rfl, Nat.le_of_ble_eq_true rfl⟩ dX5_remove_84 (k_qV fun w_84 q_84 => ?_)
          subst q_84
          have hs2 := hs1.u1 (g := fU go i (go (i + 1)))
          refine x_aload_n hM dX5_remove_87 rfl rfl ?_
          refine x_get hM wf_X5_20 wl_X5 (by first | assumption | exact str_o (by assumption) | exact str_a (by assumption)) rfl dX5_remove_88 ?_
          refine x_iload_n hM dX5_remove_91 rfl rfl ?_
          refine x_aload_n hM dX5_remove_92 rfl rfl ?_
          refine x_get hM wf_X5_20 wl_X5 (by first | assumption | exact str_o (by assumption) | exact str_a (by assumption)) rfl dX5_remove_93 ?_
          refine x_iload_n hM dX5_remove_96 rfl rfl ?_
          refine x_iconst hM dX5_remove_97 ?_
          refine x_iadd hM dX5_remove_98 ?_
          refine x_callV hM wv_X5_43 (m_X4_at (by first | assumption | exact sr1 (by assumption) | exact sr2 (by assumption) | exact sr3 (by assumption) | exact sr4 (by assumption) | exact sr5 (by assumption) | exact rg1 (by assumption) | exact rg2 (by assumption) | exact rg3 (by assumption)) (by omega)) ⟨Nat.le_of_ble_eq_true rfl, Nat.le_of_ble_eq_true rfl⟩ (by first | assumption | exact row_o (by first | assumption | exact sr1 (by assumption) | exact sr2 (by assumption) | exact sr3 (by assumption) | exact sr4 (by assumption) | exact sr5 (by assumption) | exact rg1 (by assumption) | exact rg2 (by assumption) | exact rg3 (by assumption))) rfl rfl rfl rfl (Nat.le_of_ble_eq_true rfl) ⟨Nat.le_of_ble_eq_true rfl, Nat.le_of_ble_eq_true rfl⟩ dX5_remove_99 (k_rI ?_)
          refine x_callV hM wv_X5_55 (m_X4_store (by first | assumption | exact sr1 (by assumption) | exact sr2 (by assumption) | exact sr3 (by assumption) | exact sr4 (by assumption) | exact sr5 (by assumption) | exact rg1 (by assumption) | exact rg2 (by assumption) | exact rg3 (by assumption)) (by omega)) ⟨Nat.le_of_ble_eq_true rfl, Nat.le_of_ble_eq_true rfl⟩ (by first | assumption | exact row_o (by first | assumption | exact sr1 (by assumption) | exact sr2 (by assumption) | exact sr3 (by assumption) | exact sr4 (by assumption) | exact sr5 (by assumption) | exact rg1 (by assumption) | exact rg2 (by assumption) | exact rg3 (by assumption))) rfl rfl rfl rfl (Nat.le_of_ble_eq_true rfl) ⟨Nat.le_of_ble_eq_true rfl, Nat.le_of_ble_eq_true rfl⟩ dX5_remove_102 (k_qV fun w_102 q_102 => ?_)
          subst q_102
          have hs3 := hs2.u2 (g := fU gs i (gs (i + 1)))
          refine x_aload_n hM dX5_remove_105 rfl rfl ?_
          refine x_get hM wf_X5_23 wl_X5 (by first | assumption | exact str_o (by assumption) | exact str_a (by assumption)) rfl dX5_remove_106 ?_
          refine x_iload_n hM dX5_remove_109 rfl rfl ?_
          refine x_aload_n hM dX5_remove_110 rfl rfl ?_
          refine x_get hM wf_X5_23 wl_X5 (by first | assumption | exact str_o (by assumption) | exact str_a (by assumption)) rfl dX5_remove_111 ?_
          refine x_iload_n hM dX5_remove_114 rfl rfl ?_
          refine x_iconst hM dX5_remove_115 ?_
          refine x_iadd hM dX5_remove_116 ?_
          refine x_callV hM wv_X5_43 (m_X4_at (by first | assumption | exact sr1 (by assumption) | exact sr2 (by assumption) | exact sr3 (by assumption) | exact sr4 (by assumption) | exact sr5 (by assumption) | exact rg1 (by assumption) | exact rg2 (by assumption) | exact rg3 (by assumption)) (by omega)) ⟨Nat.le_of_ble_eq_true rfl, Nat.le_of_ble_eq_true rfl⟩ (by first | assumption | exact row_o (by first | assumption | exact sr1 (by assumption) | exact sr2 (by assumption) | exact sr3 (by assumption) | exact sr4 (by assumption) | exact sr5 (by assumption) | exact rg1 (by assumption) | exact rg2 (by assumption) | exact rg3 (by assumption))) rfl rfl rfl rfl (Nat.le_of_ble_eq_true rfl) ⟨Nat.le_of_ble_eq_true rfl, Nat.le_of_ble_eq_true rfl⟩ dX5_remove_117 (k_rI ?_)
          refine x_callV hM wv_X5_55 (m_X4_store (by first | assumption | exact sr1 (by assumption) | exact sr2 (by assumption) | exact sr3 (by assumption) | exact sr4 (by assumption) | exact sr5 (by assumption) | exact rg1 (by assumption) | exact rg2 (by assumption) | exact rg3 (by assumption)) (by omega)) ⟨Nat.le_of_ble_eq_true rfl, Nat.le_of_ble_eq_true rfl⟩ (by first | assumption | exact row_o (by first | assumption | exact sr1 (by assumption) | exact sr2 (by assumption) | exact sr3 (by assumption) | exact sr4 (by assumption) | exact sr5 (by assumption) | exact rg1 (by assumption) | exact rg2 (by assumption) | exact rg3 (by assumption))) rfl rfl rfl rfl (Nat.le_of_ble_eq_true rfl) ⟨Nat.le_of_ble_eq_true rfl, Nat.le_of_ble_eq_true rfl⟩ dX5_remove_120 (k_qV fun w_120 q_120 => ?_)
          subst q_120
          have hs4 := hs3.u3 (g := fU gl i (gl (i + 1)))
          refine x_iinc hM dX5_remove_123 rfl rfl rfl ?_
          refine x_goto (tgt := 61) hM dX5_remove_126 (by decide) ?_
          refine ih (i + 1) _ _ _ _ _ _ (by omega) (by omega) (by omega) hs4 (((hF.tr (Fr.wS (by omega) (by omega))).tr (Fr.wS (by omega) (by omega))).tr (Fr.wS (by omega) (by omega))) (fun j j1 j2 => ?_) (fun j j1 j2 => ?_) (fun j j1 j2 => ?_) i4
          · rw [fU_ne (by omega), fU_ne (by omega), fU_ne (by omega)]; exact i1 j j1 j2
          · by_cases e : j = i
            · subst e; rw [fU_eq, fU_eq, fU_eq]; exact i3 _ (by omega) (by omega)
            · rw [fU_ne e, fU_ne e, fU_ne e]; exact i2 j j1 (by omega)
          · rw [fU_ne (by omega), fU_ne (by omega), fU_ne (by omega)]; exact i3 j (by omega) j2
      · have hil : i = L.length - 1 := by omega
        refine x_iload_n hM dX5_remove_61 rfl rfl ?_
        refine x_aload_n hM dX5_remove_62 rfl rfl ?_
        refine x_get hM wf_X5_36 wl_X5 (by first | assumption | exact str_o (by assumption) | exact str_a (by assumption)) rfl dX5_remove_63 ?_
        refine x_icmp_ge (tgt := 129) hM dX5_remove_66 (by decide) (by omega) (by omega) (fun c_66 => ?_) (fun c_66 => ?_)
        · refine hR.v dX5_remove_129 (Nat.zero_le _) (Nat.zero_le _) ?_
          refine p_qV ⟨⟨hWn, go, gs, gl, gr, gm, by rw [hlen]; exact hs1, fun j hj => ?_, i4⟩, hF⟩
          have hj2 : j < L.length - 1 := by rw [hlen] at hj; exact hj
          rw [List.getElem_eraseIdx hj]
          split
          · next hlt2 => rw [(i1 j (by omega) (by omega)).1, (i1 j (by omega) (by omega)).2.1, (i1 j (by omega) (by omega)).2.2]; exact hL.1 j (by omega)
          · next hge => rw [(i2 j (by omega) (by omega)).1, (i2 j (by omega) (by omega)).2.1, (i2 j (by omega) (by omega)).2.2]; exact hL.1 (j + 1) (by omega)
        · exfalso; omega
  refine x_aload_n hM dX5_remove_0 rfl rfl ?_
  refine x_iload_n hM dX5_remove_1 rfl rfl ?_
  refine x_callV hM wv_X5_75 (m_X5_hasRange (n := (L.length : Nat)) (by assumption) (by omega) (by omega)) ⟨Nat.le_of_ble_eq_true rfl, Nat.le_of_ble_eq_true rfl⟩ (by first | assumption | exact str_o (by assumption) | exact str_a (by assumption)) rfl rfl rfl rfl (Nat.le_of_ble_eq_true rfl) ⟨Nat.le_of_ble_eq_true rfl, Nat.le_of_ble_eq_true rfl⟩ dX5_remove_2 (k_rI ?_)
  rw [if_pos (by omega)]
  refine x_if_ne (tgt := 9) hM dX5_remove_5 (by decide) (by omega) (fun c_5 => ?_) (fun c_5 => ?_)
  · refine x_aload_n hM dX5_remove_9 rfl rfl ?_
    refine x_get hM wf_X5_26 wl_X5 (by first | assumption | exact str_o (by assumption) | exact str_a (by assumption)) rfl dX5_remove_10 ?_
    refine x_aload_n hM dX5_remove_13 rfl rfl ?_
    refine x_get hM wf_X5_14 wl_X5 (by first | assumption | exact str_o (by assumption) | exact str_a (by assumption)) rfl dX5_remove_14 ?_
    refine x_iload_n hM dX5_remove_17 rfl rfl ?_
    refine x_callV hM wv_X5_43 (m_X4_at (by first | assumption | exact sr1 (by assumption) | exact sr2 (by assumption) | exact sr3 (by assumption) | exact sr4 (by assumption) | exact sr5 (by assumption) | exact rg1 (by assumption) | exact rg2 (by assumption) | exact rg3 (by assumption)) (by omega)) ⟨Nat.le_of_ble_eq_true rfl, Nat.le_of_ble_eq_true rfl⟩ (by first | assumption | exact row_o (by first | assumption | exact sr1 (by assumption) | exact sr2 (by assumption) | exact sr3 (by assumption) | exact sr4 (by assumption) | exact sr5 (by assumption) | exact rg1 (by assumption) | exact rg2 (by assumption) | exact rg3 (by assumption))) rfl rfl rfl rfl (Nat.le_of_ble_eq_true rfl) ⟨Nat.le_of_ble_eq_true rfl, Nat.le_of_ble_eq_true rfl⟩ dX5_remove_18 (k_rI ?_)
    refine x_iconst hM dX5_remove_21 ?_
    refine x_callV hM wv_X5_51 (m_X4_add (by first | assumption | exact sr1 (by assumption) | exact sr2 (by assumption) | exact sr3 (by assumption) | exact sr4 (by assumption) | exact sr5 (by assumption) | exact rg1 (by assumption) | exact rg2 (by assumption) | exact rg3 (by assumption)) (by omega)) ⟨Nat.le_of_ble_eq_true rfl, Nat.le_of_ble_eq_true rfl⟩ (by first | assumption | exact row_o (by first | assumption | exact sr1 (by assumption) | exact sr2 (by assumption) | exact sr3 (by assumption) | exact sr4 (by assumption) | exact sr5 (by assumption) | exact rg1 (by assumption) | exact rg2 (by assumption) | exact rg3 (by assumption))) rfl rfl rfl rfl (Nat.le_of_ble_eq_true rfl) ⟨Nat.le_of_ble_eq_true rfl, Nat.le_of_ble_eq_true rfl⟩ dX5_remove_22 (k_qV fun w_22 q_22 => ?_)
    subst q_22
    have hs1 := hs.u4 (g := fU fr (fo r) (fr (fo r) + -1))
    refine x_aload_n hM dX5_remove_25 rfl rfl ?_
    refine x_get hM wf_X5_29 wl_X5 (by first | assumption | exact str_o (by assumption) | exact str_a (by assumption)) rfl dX5_remove_26 ?_
    refine x_aload_n hM dX5_remove_29 rfl rfl ?_
    refine x_get hM wf_X5_14 wl_X5 (by first | assumption | exact str_o (by assumption) | exact str_a (by assumption)) rfl dX5_remove_30 ?_
    refine x_iload_n hM dX5_remove_33 rfl rfl ?_
    refine x_callV hM wv_X5_43 (m_X4_at (by first | assumption | exact sr1 (by assumption) | exact sr2 (by assumption) | exact sr3 (by assumption) | exact sr4 (by assumption) | exact sr5 (by assumption) | exact rg1 (by assumption) | exact rg2 (by assumption) | exact rg3 (by assumption)) (by omega)) ⟨Nat.le_of_ble_eq_true rfl, Nat.le_of_ble_eq_true rfl⟩ (by first | assumption | exact row_o (by first | assumption | exact sr1 (by assumption) | exact sr2 (by assumption) | exact sr3 (by assumption) | exact sr4 (by assumption) | exact sr5 (by assumption) | exact rg1 (by assumption) | exact rg2 (by assumption) | exact rg3 (by assumption))) rfl rfl rfl rfl (Nat.le_of_ble_eq_true rfl) ⟨Nat.le_of_ble_eq_true rfl, Nat.le_of_ble_eq_true rfl⟩ dX5_remove_34 (k_rI ?_)
    refine x_aload_n hM dX5_remove_37 rfl rfl ?_
    refine x_get hM wf_X5_23 wl_X5 (by first | assumption | exact str_o (by assumption) | exact str_a (by assumption)) rfl dX5_remove_38 ?_
    refine x_iload_n hM dX5_remove_41 rfl rfl ?_
    refine x_callV hM wv_X5_43 (m_X4_at (by first | assumption | exact sr1 (by assumption) | exact sr2 (by assumption) | exact sr3 (by assumption) | exact sr4 (by assumption) | exact sr5 (by assumption) | exact rg1 (by assumption) | exact rg2 (by assumption) | exact rg3 (by assumption)) (by omega)) ⟨Nat.le_of_ble_eq_true rfl, Nat.le_of_ble_eq_true rfl⟩ (by first | assumption | exact row_o (by first | assumption | exact sr1 (by assumption) | exact sr2 (by assumption) | exact sr3 (by assumption) | exact sr4 (by assumption) | exact sr5 (by assumption) | exact rg1 (by assumption) | exact rg2 (by assumption) | exact rg3 (by assumption))) rfl rfl rfl rfl (Nat.le_of_ble_eq_true rfl) ⟨Nat.le_of_ble_eq_true rfl, Nat.le_of_ble_eq_true rfl⟩ dX5_remove_42 (k_rI ?_)
    refine x_ineg hM dX5_remove_45 ?_
    refine x_callV hM wv_X5_51 (m_X4_add (by first | assumption | exact sr1 (by assumption) | exact sr2 (by assumption) | exact sr3 (by assumption) | exact sr4 (by assumption) | exact sr5 (by assumption) | exact rg1 (by assumption) | exact rg2 (by assumption) | exact rg3 (by assumption)) (by omega)) ⟨Nat.le_of_ble_eq_true rfl, Nat.le_of_ble_eq_true rfl⟩ (by first | assumption | exact row_o (by first | assumption | exact sr1 (by assumption) | exact sr2 (by assumption) | exact sr3 (by assumption) | exact sr4 (by assumption) | exact sr5 (by assumption) | exact rg1 (by assumption) | exact rg2 (by assumption) | exact rg3 (by assumption))) rfl rfl rfl rfl (Nat.le_of_ble_eq_true rfl) ⟨Nat.le_of_ble_eq_true rfl, Nat.le_of_ble_eq_true rfl⟩ dX5_remove_46 (k_qV fun w_46 q_46 => ?_)
    subst q_46
    have hs2 := hs1.u5 (g := fU fm (fo r) (fm (fo r) + -(fl r)))
    refine x_aload_n hM dX5_remove_49 rfl rfl ?_
    refine x_dup hM dX5_remove_50 rfl ?_
    refine x_get hM wf_X5_36 wl_X5 (by first | assumption | exact str_o (by assumption) | exact str_a (by assumption)) rfl dX5_remove_51 ?_
    refine x_iconst hM dX5_remove_54 ?_
    refine x_isub hM dX5_remove_55 ?_
    refine x_put hM wf_X5_36 wl_X5 (by first | assumption | exact str_o (by assumption) | exact str_a (by assumption)) wq_X5_36 rfl rfl (Nat.le_of_ble_eq_true rfl) rfl dX5_remove_56 ?_
    have hs3 := hs2.u0 (m := L.length - 1)
    refine x_iload_n hM dX5_remove_59 rfl rfl ?_
    refine x_istore_n hM dX5_remove_60 rfl rfl (Nat.le_of_ble_eq_true rfl) rfl ?_
    refine K (L.length) r _ _ _ _ _ _ (by omega) (by omega) (by omega) (by rw [show ((L.length - 1 : Nat) : Int) = L.length - 1 by omega]; exact hs3) (((Fr.wS (by omega) (by omega)).tr (Fr.wS (by omega) (by omega))).tr (Fr.wS (by omega) (by omega))) (fun j _ _ => ⟨rfl, rfl, rfl⟩) (fun j j1 j2 => by omega) (fun j _ _ => ⟨rfl, rfl, rfl⟩) (fun o o1 o2 => ?_)
    have h5 := hL.2 o o1 o2
    have h6 := cntO_erase hr o
    rw [h6.1, h6.2]
    by_cases e : o = fo r
    · subst e
      rw [fU_eq, fU_eq, if_pos e1.symm, if_pos e1.symm]
      omega
    · rw [fU_ne e, fU_ne e, if_neg (by omega), if_neg (by omega)]
      omega
  · exfalso; omega
