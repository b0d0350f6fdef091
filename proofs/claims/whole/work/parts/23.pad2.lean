/-! Pad: entries. An entry: (1 if it has no fault, the place behind it or of the fault, kind, letter, number, second number) -/
abbrev Ent : Type := Int × Int × Int × Int × Int × Int
def hasL (k : Int) : Prop := k = 43 ∨ k = 103 ∨ k = 112
def has2 (k : Int) : Prop := k = 43 ∨ k = 45
def tailP (cs : List Int) (k l : Int) (m : Int × Int) : Ent :=
  if k = 43 ∨ k = 45 then
    if sgP cs m.2 = 58 then
      if 48 ≤ sgP cs (m.2 + 1) ∧ sgP cs (m.2 + 1) ≤ 57 then (1, (numL cs 3 (sgP cs (m.2 + 1) - 48) (m.2 + 1 + 1)).2, k, l, m.1, (numL cs 3 (sgP cs (m.2 + 1) - 48) (m.2 + 1 + 1)).1)
      else (0, m.2 + 1, 0, 0, 0, 0)
    else (0, m.2, 0, 0, 0, 0)
  else (1, m.2, k, l, m.1, 0)
def numbP (cs : List Int) (k l j : Int) : Ent := if 48 ≤ sgP cs j ∧ sgP cs j ≤ 57 then tailP cs k l (numL cs 3 (sgP cs j - 48) (j + 1)) else (0, j, 0, 0, 0, 0)
def entP (cs : List Int) (i : Int) : Ent :=
  if sgP cs i = 43 ∨ sgP cs i = 45 ∨ sgP cs i = 103 ∨ sgP cs i = 112 ∨ sgP cs i = 100 then
    if sgP cs i = 43 ∨ sgP cs i = 103 ∨ sgP cs i = 112 then
      if 0 ≤ sgP cs (i + 1) - 65 ∧ sgP cs (i + 1) - 65 < 10 then numbP cs (sgP cs i) (sgP cs (i + 1) - 65) (i + 1 + 1)
      else (0, i + 1, 0, 0, 0, 0)
    else numbP cs (sgP cs i) 0 (i + 1)
  else (0, i, 0, 0, 0, 0)
def reP (G : xG) (w1 : Wd) (p : Nat) (cs : List Int) (e : Ent) (y : Int) : Prop :=
  (e.1 = 0 ∧ y = 0 ∧ ∃ kd le nu se : Int, padA G w1 p cs e.2.1 kd le nu se) ∨ (e.1 = 1 ∧ y = 1 ∧ ∃ le se : Int, padA G w1 p cs e.2.1 e.2.2.1 le e.2.2.2.2.1 se ∧ (hasL e.2.2.1 → le = e.2.2.2.1) ∧ (has2 e.2.2.1 → se = e.2.2.2.2.2))
theorem m_X2_readEntry {l : Launch} {G : xG} {w : Wd} {z p : Nat} {cs : List Int} {pl kd le nu se : Int} (h1 : padA G w p cs pl kd le nu se) (hp : 0 ≤ pl ∧ pl ≤ 9000) : xMet l G yX2_readEntry cX2_readEntry 3 (some .boolean) ({ frames := 3, cells := 0, slots := 0, locals := 61 } : Room) [.ref p] w z (qI z fun y w1 => Fr p (p + 2) w w1 ∧ reP G w1 p cs (entP cs pl) y) := by
  have hW := h1.1
  have hb := sgP_b hW pl
  generalize hk : sgP cs pl = k at hb
  refine xMet_of RX2 rfl (by decide +kernel) false (by decide +kernel) (Nat.le_of_ble_eq_true rfl) rfl ?_
  intro P hM hR
  have J120 : ∀ (w1 : Wd) (lx le j v se y1 : Int) (x2 : Option Value), padA G w1 p cs j k le v se → Fr p (p + 2) w w1 → (hasL k → le = lx) → 0 ≤ j ∧ j ≤ 9900 → 0 ≤ v ∧ v ≤ 9999 → entP cs pl = tailP cs k lx (v, j) → P 120 [some (.ref p), some (.int (iI y1)), x2] [] w1 (z, 0, 0) := by
    intro w1 lx le j v se y1 x2 hA hF hl hj hv he
    have bj := sgP_b hW j
    have bj2 := sgP_b hW (j + 1)
    have no : ∀ (w2 : Wd) (q kd le nu se : Int) (ls : List (Option Value)), entP cs pl = (0, q, 0, 0, 0, 0) → padA G w2 p cs q kd le nu se → Fr p (p + 2) w w2 → P 161 ls [] w2 (z, 0, 0) := by
      intro w2 q kd le nu se ls he hA hF
      refine x_iconst hM dX2_readEntry_161 ?_
      refine hR.b dX2_readEntry_162 rfl (Nat.zero_le _) (Nat.zero_le _) ?_
      exact p_qI ⟨hF, by rw [he]; exact Or.inl ⟨rfl, rfl, kd, le, nu, se, hA⟩⟩
    refine x_aload_n hM dX2_readEntry_120 rfl rfl ?_
    refine x_get hM wf_X2_40 wl_X2 (by first | assumption | exact pad_o (by assumption)) rfl dX2_readEntry_121 ?_
    refine x_bipush hM dX2_readEntry_124 rfl ?_
    refine x_icmp_eq (tgt := 140) hM dX2_readEntry_126 (by decide) (by omega) (by omega) (fun c_126 => ?_) (fun c_126 => ?_)
    · refine x_aload_n hM dX2_readEntry_140 rfl rfl ?_
      refine x_get hM wf_X2_49 wl_X2 (by first | assumption | exact pad_o (by assumption)) rfl dX2_readEntry_141 ?_
      refine x_istore_n hM dX2_readEntry_144 rfl rfl (Nat.le_of_ble_eq_true rfl) rfl ?_
      refine x_aload_n hM dX2_readEntry_145 rfl rfl ?_
      refine x_bipush hM dX2_readEntry_146 rfl ?_
      refine x_callV hM wv_X2_32 (m_X2_readSign (by assumption) (by omega) (by omega)) ⟨Nat.le_of_ble_eq_true rfl, Nat.le_of_ble_eq_true rfl⟩ (by first | assumption | exact pad_o (by assumption)) rfl rfl rfl rfl (Nat.le_of_ble_eq_true rfl) ⟨Nat.le_of_ble_eq_true rfl, Nat.le_of_ble_eq_true rfl⟩ dX2_readEntry_148 (k_qI fun x_148 w_148 q_148 => ?_)
      obtain ⟨qf, qa⟩ := q_148
      have e1 : tailP cs k lx (v, j) = _ := if_pos (by omega)
      rcases qa with ⟨q1, rfl, qa⟩ | ⟨q1, rfl, qa⟩
      · rw [if_neg q1] at e1
        refine x_if_eq (tgt := 161) hM dX2_readEntry_151 (by decide) (by omega) (fun _ => ?_) (fun q => absurd rfl q)
        exact no _ _ _ _ _ _ _ (he.trans e1) qa (hF.tr qf)
      rw [if_pos q1] at e1
      refine x_if_eq (tgt := 161) hM dX2_readEntry_151 (by decide) (by omega) (fun c_151 => ?_) (fun c_151 => ?_)
      · exfalso; omega
      · refine x_aload_n hM dX2_readEntry_154 rfl rfl ?_
        refine x_callV hM wv_X2_46 (m_X2_readNumber qa (by omega)) ⟨Nat.le_of_ble_eq_true rfl, Nat.le_of_ble_eq_true rfl⟩ (pad_o qa) rfl rfl rfl rfl (Nat.le_of_ble_eq_true rfl) ⟨Nat.le_of_ble_eq_true rfl, Nat.le_of_ble_eq_true rfl⟩ dX2_readEntry_155 (k_qI fun x_155 w_155 q_155 => ?_)
        obtain ⟨qg, qb⟩ := q_155
        have nb := numL_b (cs := cs) 3 (sgP cs (j + 1) - 48) (j + 1 + 1)
        rcases qb with ⟨q2, rfl, qb⟩ | ⟨q2, rfl, qb⟩
        · have q2 : ¬ (48 ≤ sgP cs (j + 1) ∧ sgP cs (j + 1) ≤ 57) := q2
          rw [if_neg q2] at e1
          refine x_if_ne (tgt := 163) hM dX2_readEntry_158 (by decide) (by omega) (fun q => absurd rfl q) (fun _ => ?_)
          exact no _ _ _ _ _ _ _ (he.trans e1) qb ((hF.tr qf).tr qg)
        have q2 : 48 ≤ sgP cs (j + 1) ∧ sgP cs (j + 1) ≤ 57 := q2
        rw [if_pos q2] at e1
        refine x_if_ne (tgt := 163) hM dX2_readEntry_158 (by decide) (by omega) (fun c_158 => ?_) (fun c_158 => ?_)
        · refine x_aload_n hM dX2_readEntry_163 rfl rfl ?_
          refine x_aload_n hM dX2_readEntry_164 rfl rfl ?_
          refine x_get hM wf_X2_49 wl_X2 (by first | assumption | exact pad_o (by assumption)) rfl dX2_readEntry_165 ?_
          refine x_put hM wf_X2_52 wl_X2 (by first | assumption | exact pad_o (by assumption)) wq_X2_52 rfl rfl (Nat.le_of_ble_eq_true rfl) rfl dX2_readEntry_168 ?_
          have qc := qb.up (pl2 := (numL cs 3 (sgP cs (j + 1) - 48) (j + 1 + 1)).2) (kd2 := k) (le2 := le) (nu2 := (numL cs 3 (sgP cs (j + 1) - 48) (j + 1 + 1)).1) (se2 := (numL cs 3 (sgP cs (j + 1) - 48) (j + 1 + 1)).1)
          refine x_aload_n hM dX2_readEntry_171 rfl rfl ?_
          refine x_iload_n hM dX2_readEntry_172 rfl rfl ?_
          refine x_put hM wf_X2_49 wl_X2 (by first | assumption | exact pad_o (by assumption)) wq_X2_49 rfl rfl (Nat.le_of_ble_eq_true rfl) rfl dX2_readEntry_173 ?_
          refine x_iconst hM dX2_readEntry_176 ?_
          refine hR.b dX2_readEntry_177 rfl (Nat.zero_le _) (Nat.zero_le _) ?_
          exact p_qI ⟨(((hF.tr qf).tr qg).tr (Fr.wS (by omega) (by omega))).tr (Fr.wS (by omega) (by omega)), by rw [he, e1]; exact Or.inr ⟨rfl, rfl, _, _, qc.up, hl, fun _ => rfl⟩⟩
        · exfalso; omega
    · refine x_aload_n hM dX2_readEntry_129 rfl rfl ?_
      refine x_get hM wf_X2_40 wl_X2 (by first | assumption | exact pad_o (by assumption)) rfl dX2_readEntry_130 ?_
      refine x_bipush hM dX2_readEntry_133 rfl ?_
      refine x_icmp_eq (tgt := 140) hM dX2_readEntry_135 (by decide) (by omega) (by omega) (fun c_135 => ?_) (fun c_135 => ?_)
      · refine x_aload_n hM dX2_readEntry_140 rfl rfl ?_
        refine x_get hM wf_X2_49 wl_X2 (by first | assumption | exact pad_o (by assumption)) rfl dX2_readEntry_141 ?_
        refine x_istore_n hM dX2_readEntry_144 rfl rfl (Nat.le_of_ble_eq_true rfl) rfl ?_
        refine x_aload_n hM dX2_readEntry_145 rfl rfl ?_
        refine x_bipush hM dX2_readEntry_146 rfl ?_
        refine x_callV hM wv_X2_32 (m_X2_readSign (by assumption) (by omega) (by omega)) ⟨Nat.le_of_ble_eq_true rfl, Nat.le_of_ble_eq_true rfl⟩ (by first | assumption | exact pad_o (by assumption)) rfl rfl rfl rfl (Nat.le_of_ble_eq_true rfl) ⟨Nat.le_of_ble_eq_true rfl, Nat.le_of_ble_eq_true rfl⟩ dX2_readEntry_148 (k_qI fun x_148 w_148 q_148 => ?_)
        obtain ⟨qf, qa⟩ := q_148
        have e1 : tailP cs k lx (v, j) = _ := if_pos (by omega)
        rcases qa with ⟨q1, rfl, qa⟩ | ⟨q1, rfl, qa⟩
        · rw [if_neg q1] at e1
          refine x_if_eq (tgt := 161) hM dX2_readEntry_151 (by decide) (by omega) (fun _ => ?_) (fun q => absurd rfl q)
          exact no _ _ _ _ _ _ _ (he.trans e1) qa (hF.tr qf)
        rw [if_pos q1] at e1
        refine x_if_eq (tgt := 161) hM dX2_readEntry_151 (by decide) (by omega) (fun c_151 => ?_) (fun c_151 => ?_)
        · exfalso; omega
        · refine x_aload_n hM dX2_readEntry_154 rfl rfl ?_
          refine x_callV hM wv_X2_46 (m_X2_readNumber qa (by omega)) ⟨Nat.le_of_ble_eq_true rfl, Nat.le_of_ble_eq_true rfl⟩ (pad_o qa) rfl rfl rfl rfl (Nat.le_of_ble_eq_true rfl) ⟨Nat.le_of_ble_eq_true rfl, Nat.le_of_ble_eq_true rfl⟩ dX2_readEntry_155 (k_qI fun x_155 w_155 q_155 => ?_)
          obtain ⟨qg, qb⟩ := q_155
          have nb := numL_b (cs := cs) 3 (sgP cs (j + 1) - 48) (j + 1 + 1)
          rcases qb with ⟨q2, rfl, qb⟩ | ⟨q2, rfl, qb⟩
          · have q2 : ¬ (48 ≤ sgP cs (j + 1) ∧ sgP cs (j + 1) ≤ 57) := q2
            rw [if_neg q2] at e1
            refine x_if_ne (tgt := 163) hM dX2_readEntry_158 (by decide) (by omega) (fun q => absurd rfl q) (fun _ => ?_)
            exact no _ _ _ _ _ _ _ (he.trans e1) qb ((hF.tr qf).tr qg)
          have q2 : 48 ≤ sgP cs (j + 1) ∧ sgP cs (j + 1) ≤ 57 := q2
          rw [if_pos q2] at e1
          refine x_if_ne (tgt := 163) hM dX2_readEntry_158 (by decide) (by omega) (fun c_158 => ?_) (fun c_158 => ?_)
          · refine x_aload_n hM dX2_readEntry_163 rfl rfl ?_
            refine x_aload_n hM dX2_readEntry_164 rfl rfl ?_
            refine x_get hM wf_X2_49 wl_X2 (by first | assumption | exact pad_o (by assumption)) rfl dX2_readEntry_165 ?_
            refine x_put hM wf_X2_52 wl_X2 (by first | assumption | exact pad_o (by assumption)) wq_X2_52 rfl rfl (Nat.le_of_ble_eq_true rfl) rfl dX2_readEntry_168 ?_
            have qc := qb.up (pl2 := (numL cs 3 (sgP cs (j + 1) - 48) (j + 1 + 1)).2) (kd2 := k) (le2 := le) (nu2 := (numL cs 3 (sgP cs (j + 1) - 48) (j + 1 + 1)).1) (se2 := (numL cs 3 (sgP cs (j + 1) - 48) (j + 1 + 1)).1)
            refine x_aload_n hM dX2_readEntry_171 rfl rfl ?_
            refine x_iload_n hM dX2_readEntry_172 rfl rfl ?_
            refine x_put hM wf_X2_49 wl_X2 (by first | assumption | exact pad_o (by assumption)) wq_X2_49 rfl rfl (Nat.le_of_ble_eq_true rfl) rfl dX2_readEntry_173 ?_
            refine x_iconst hM dX2_readEntry_176 ?_
            refine hR.b dX2_readEntry_177 rfl (Nat.zero_le _) (Nat.zero_le _) ?_
            exact p_qI ⟨(((hF.tr qf).tr qg).tr (Fr.wS (by omega) (by omega))).tr (Fr.wS (by omega) (by omega)), by rw [he, e1]; exact Or.inr ⟨rfl, rfl, _, _, qc.up, hl, fun _ => rfl⟩⟩
          · exfalso; omega
      · refine x_iconst hM dX2_readEntry_138 ?_
        refine hR.b dX2_readEntry_139 rfl (Nat.zero_le _) (Nat.zero_le _) ?_
        exact p_qI ⟨hF, by rw [he, show tailP cs k lx (v, j) = _ from if_neg (by omega)]; exact Or.inr ⟨rfl, rfl, le, se, hA, hl, fun (q : k = 43 ∨ k = 45) => by omega⟩⟩
  have J111 : ∀ (w1 : Wd) (lx le j nu se y1 : Int) (x2 : Option Value), padA G w1 p cs j k le nu se → Fr p (p + 2) w w1 → (hasL k → le = lx) → 0 ≤ j ∧ j ≤ 9500 → entP cs pl = numbP cs k lx j → P 111 [some (.ref p), some (.int (iI y1)), x2] [] w1 (z, 0, 0) := by
    intro w1 lx le j nu se y1 x2 hA hF hl hj he
    have bj := sgP_b hW j
    refine x_aload_n hM dX2_readEntry_111 rfl rfl ?_
    refine x_callV hM wv_X2_46 (m_X2_readNumber (by assumption) (by omega)) ⟨Nat.le_of_ble_eq_true rfl, Nat.le_of_ble_eq_true rfl⟩ (by first | assumption | exact pad_o (by assumption)) rfl rfl rfl rfl (Nat.le_of_ble_eq_true rfl) ⟨Nat.le_of_ble_eq_true rfl, Nat.le_of_ble_eq_true rfl⟩ dX2_readEntry_112 (k_qI fun x_112 w_112 q_112 => ?_)
    obtain ⟨qf, qa⟩ := q_112
    have nb := numL_b (cs := cs) 3 (sgP cs j - 48) (j + 1)
    rcases qa with ⟨q1, rfl, qa⟩ | ⟨q1, rfl, qa⟩
    · refine x_if_ne (tgt := 120) hM dX2_readEntry_115 (by decide) (by omega) (fun q => absurd rfl q) (fun _ => ?_)
      refine x_iconst hM dX2_readEntry_118 ?_
      refine hR.b dX2_readEntry_119 rfl (Nat.zero_le _) (Nat.zero_le _) ?_
      exact p_qI ⟨hF.tr qf, by rw [he, show numbP cs k lx j = _ from if_neg q1]; exact Or.inl ⟨rfl, rfl, _, _, _, _, qa⟩⟩
    refine x_if_ne (tgt := 120) hM dX2_readEntry_115 (by decide) (by omega) (fun c_115 => ?_) (fun c_115 => ?_)
    · have q1 : 48 ≤ sgP cs j ∧ sgP cs j ≤ 57 := q1
      have nb2 := nb (by omega)
      have nb3 := numL_v (cs := cs) (v := sgP cs j - 48) (i := j + 1) (by omega)
      exact J120 _ lx _ _ _ _ _ _ qa (hF.tr qf) hl (by omega) ⟨nb2.1, nb3⟩ (he.trans (if_pos q1))
    · exfalso; omega
  have J55 : ∀ (w1 : Wd), (k = 43 ∨ k = 45 ∨ k = 103 ∨ k = 112 ∨ k = 100) → padA G w1 p cs pl k le nu se → Fr p (p + 2) w w1 → P 55 [some (.ref p), none, none] [] w1 (z, 0, 0) := by
    intro w1 hkk hA hF
    have hA2 := hA.up (pl2 := pl + 1) (kd2 := k) (le2 := le) (nu2 := nu) (se2 := se)
    have hF2 : Fr p (p + 2) w (wS w1 p (.inr (2, [.ref (p + 1), .int (iI cs.length), .int (iI (pl + 1)), .int (iI k), .int (iI le), .int (iI nu), .int (iI se)]))) := hF.tr (Fr.wS (by omega) (by omega))
    have e0 : entP cs pl = _ := if_pos (by rw [hk]; exact hkk)
    rw [hk] at e0
    have bj := sgP_b hW (pl + 1)
    have JL : hasL k → P 92 [some (.ref p), none, none] [] (wS w1 p (.inr (2, [.ref (p + 1), .int (iI cs.length), .int (iI (pl + 1)), .int (iI k), .int (iI le), .int (iI nu), .int (iI se)]))) (z, 0, 0) := by
      intro hl
      have hl' : k = 43 ∨ k = 103 ∨ k = 112 := hl
      rw [if_pos hl'] at e0
      refine x_iconst hM dX2_readEntry_92 ?_
      refine x_goto (tgt := 97) hM dX2_readEntry_93 (by decide) ?_
      refine x_istore_n hM dX2_readEntry_97 rfl rfl (Nat.le_of_ble_eq_true rfl) rfl ?_
      refine x_iload_n hM dX2_readEntry_98 rfl rfl ?_
      refine x_if_eq (tgt := 111) hM dX2_readEntry_99 (by decide) (by omega) (fun c_99 => ?_) (fun c_99 => ?_)
      · exfalso; omega
      · refine x_aload_n hM dX2_readEntry_102 rfl rfl ?_
        refine x_callV hM wv_X2_43 (m_X2_readLetter hA2 (by omega)) ⟨Nat.le_of_ble_eq_true rfl, Nat.le_of_ble_eq_true rfl⟩ (pad_o hA2) rfl rfl rfl rfl (Nat.le_of_ble_eq_true rfl) ⟨Nat.le_of_ble_eq_true rfl, Nat.le_of_ble_eq_true rfl⟩ dX2_readEntry_103 (k_qI fun x_103 w_103 q_103 => ?_)
        obtain ⟨qf, qa⟩ := q_103
        rcases qa with ⟨q1, rfl, qa⟩ | ⟨q1, rfl, qa⟩
        · rw [if_neg q1] at e0
          refine x_if_ne (tgt := 111) hM dX2_readEntry_106 (by decide) (by omega) (fun q => absurd rfl q) (fun _ => ?_)
          refine x_iconst hM dX2_readEntry_109 ?_
          refine hR.b dX2_readEntry_110 rfl (Nat.zero_le _) (Nat.zero_le _) ?_
          exact p_qI ⟨hF2.tr qf, by rw [e0]; exact Or.inl ⟨rfl, rfl, _, _, _, _, qa⟩⟩
        rw [if_pos q1] at e0
        refine x_if_ne (tgt := 111) hM dX2_readEntry_106 (by decide) (by omega) (fun c_106 => ?_) (fun c_106 => ?_)
        · exact J111 _ _ _ _ _ _ _ _ qa (hF2.tr qf) (fun _ => rfl) (by omega) e0
        · exfalso; omega
    have JN : ¬ hasL k → P 96 [some (.ref p), none, none] [] (wS w1 p (.inr (2, [.ref (p + 1), .int (iI cs.length), .int (iI (pl + 1)), .int (iI k), .int (iI le), .int (iI nu), .int (iI se)]))) (z, 0, 0) := by
      intro hl
      have hl' : ¬ (k = 43 ∨ k = 103 ∨ k = 112) := hl
      rw [if_neg hl'] at e0
      refine x_iconst hM dX2_readEntry_96 ?_
      refine x_istore_n hM dX2_readEntry_97 rfl rfl (Nat.le_of_ble_eq_true rfl) rfl ?_
      refine x_iload_n hM dX2_readEntry_98 rfl rfl ?_
      refine x_if_eq (tgt := 111) hM dX2_readEntry_99 (by decide) (by omega) (fun c_99 => ?_) (fun c_99 => ?_)
      · exact J111 _ 0 _ _ _ _ _ _ hA2 hF2 (fun q => absurd q hl) (by omega) e0
      · exfalso; omega
    refine x_aload_n hM dX2_readEntry_55 rfl rfl ?_
    refine x_dup hM dX2_readEntry_56 rfl ?_
    refine x_get hM wf_X2_25 wl_X2 (by first | assumption | exact pad_o (by assumption)) rfl dX2_readEntry_57 ?_
    refine x_iconst hM dX2_readEntry_60 ?_
    refine x_iadd hM dX2_readEntry_61 ?_
    refine x_put hM wf_X2_25 wl_X2 (by first | assumption | exact pad_o (by assumption)) wq_X2_25 rfl rfl (Nat.le_of_ble_eq_true rfl) rfl dX2_readEntry_62 ?_
    refine x_aload_n hM dX2_readEntry_65 rfl rfl ?_
    refine x_get hM wf_X2_40 wl_X2 (by first | assumption | exact pad_o (by assumption)) rfl dX2_readEntry_66 ?_
    refine x_bipush hM dX2_readEntry_69 rfl ?_
    refine x_icmp_eq (tgt := 92) hM dX2_readEntry_71 (by decide) (by omega) (by omega) (fun c_71 => ?_) (fun c_71 => ?_)
    · exact JL (by unfold hasL; omega)
    · refine x_aload_n hM dX2_readEntry_74 rfl rfl ?_
      refine x_get hM wf_X2_40 wl_X2 (by first | assumption | exact pad_o (by assumption)) rfl dX2_readEntry_75 ?_
      refine x_bipush hM dX2_readEntry_78 rfl ?_
      refine x_icmp_eq (tgt := 92) hM dX2_readEntry_80 (by decide) (by omega) (by omega) (fun c_80 => ?_) (fun c_80 => ?_)
      · exact JL (by unfold hasL; omega)
      · refine x_aload_n hM dX2_readEntry_83 rfl rfl ?_
        refine x_get hM wf_X2_40 wl_X2 (by first | assumption | exact pad_o (by assumption)) rfl dX2_readEntry_84 ?_
        refine x_bipush hM dX2_readEntry_87 rfl ?_
        refine x_icmp_ne (tgt := 96) hM dX2_readEntry_89 (by decide) (by omega) (by omega) (fun c_89 => ?_) (fun c_89 => ?_)
        · exact JN (by unfold hasL; omega)
        · exact JL (by unfold hasL; omega)
  refine x_aload_n hM dX2_readEntry_0 rfl rfl ?_
  refine x_aload_n hM dX2_readEntry_1 rfl rfl ?_
  refine x_callV hM wv_X2_36 (m_X2_sign (by assumption) (by omega)) ⟨Nat.le_of_ble_eq_true rfl, Nat.le_of_ble_eq_true rfl⟩ (by first | assumption | exact pad_o (by assumption)) rfl rfl rfl rfl (Nat.le_of_ble_eq_true rfl) ⟨Nat.le_of_ble_eq_true rfl, Nat.le_of_ble_eq_true rfl⟩ dX2_readEntry_2 (k_rI ?_)
  rw [hk]
  refine x_put hM wf_X2_40 wl_X2 (by first | assumption | exact pad_o (by assumption)) wq_X2_40 rfl rfl (Nat.le_of_ble_eq_true rfl) rfl dX2_readEntry_5 ?_
  have hA := h1.up (pl2 := pl) (kd2 := k) (le2 := le) (nu2 := nu) (se2 := se)
  refine x_aload_n hM dX2_readEntry_8 rfl rfl ?_
  refine x_get hM wf_X2_40 wl_X2 (by first | assumption | exact pad_o (by assumption)) rfl dX2_readEntry_9 ?_
  refine x_bipush hM dX2_readEntry_12 rfl ?_
  refine x_icmp_eq (tgt := 55) hM dX2_readEntry_14 (by decide) (by omega) (by omega) (fun c_14 => ?_) (fun c_14 => ?_)
  · exact J55 _ (by omega) hA (Fr.wS (by omega) (by omega))
  · refine x_aload_n hM dX2_readEntry_17 rfl rfl ?_
    refine x_get hM wf_X2_40 wl_X2 (by first | assumption | exact pad_o (by assumption)) rfl dX2_readEntry_18 ?_
    refine x_bipush hM dX2_readEntry_21 rfl ?_
    refine x_icmp_eq (tgt := 55) hM dX2_readEntry_23 (by decide) (by omega) (by omega) (fun c_23 => ?_) (fun c_23 => ?_)
    · exact J55 _ (by omega) hA (Fr.wS (by omega) (by omega))
    · refine x_aload_n hM dX2_readEntry_26 rfl rfl ?_
      refine x_get hM wf_X2_40 wl_X2 (by first | assumption | exact pad_o (by assumption)) rfl dX2_readEntry_27 ?_
      refine x_bipush hM dX2_readEntry_30 rfl ?_
      refine x_icmp_eq (tgt := 55) hM dX2_readEntry_32 (by decide) (by omega) (by omega) (fun c_32 => ?_) (fun c_32 => ?_)
      · exact J55 _ (by omega) hA (Fr.wS (by omega) (by omega))
      · refine x_aload_n hM dX2_readEntry_35 rfl rfl ?_
        refine x_get hM wf_X2_40 wl_X2 (by first | assumption | exact pad_o (by assumption)) rfl dX2_readEntry_36 ?_
        refine x_bipush hM dX2_readEntry_39 rfl ?_
        refine x_icmp_eq (tgt := 55) hM dX2_readEntry_41 (by decide) (by omega) (by omega) (fun c_41 => ?_) (fun c_41 => ?_)
        · exact J55 _ (by omega) hA (Fr.wS (by omega) (by omega))
        · refine x_aload_n hM dX2_readEntry_44 rfl rfl ?_
          refine x_get hM wf_X2_40 wl_X2 (by first | assumption | exact pad_o (by assumption)) rfl dX2_readEntry_45 ?_
          refine x_bipush hM dX2_readEntry_48 rfl ?_
          refine x_icmp_eq (tgt := 55) hM dX2_readEntry_50 (by decide) (by omega) (by omega) (fun c_50 => ?_) (fun c_50 => ?_)
          · exact J55 _ (by omega) hA (Fr.wS (by omega) (by omega))
          · refine x_iconst hM dX2_readEntry_53 ?_
            refine hR.b dX2_readEntry_54 rfl (Nat.zero_le _) (Nat.zero_le _) ?_
            exact p_qI ⟨Fr.wS (by omega) (by omega), by rw [show entP cs pl = _ from if_neg (by rw [hk]; omega)]; exact Or.inl ⟨rfl, rfl, _, _, _, _, hA⟩⟩
/-- the fault of the pad from place i on, over at most k entries -/
def fltP (cs : List Int) : Nat → Int → Int
  | 0, i => i
  | k + 1, i => if (entP cs i).1 = 0 then (entP cs i).2.1 else if (entP cs i).2.1 = cs.length then -6 else if sgP cs (entP cs i).2.1 = 59 then fltP cs k ((entP cs i).2.1 + 1) else (entP cs i).2.1
theorem entP_b {cs : List Int} (h : padW cs) (i : Int) : i ≤ (entP cs i).2.1 ∧ (entP cs i).2.1 ≤ i + 20 ∧ ((entP cs i).1 = 0 ∨ ((entP cs i).1 = 1 ∧ i + 2 ≤ (entP cs i).2.1)) := by
  have nl : ∀ j : Int, 48 ≤ sgP cs j → 0 ≤ (numL cs 3 (sgP cs j - 48) (j + 1)).1 ∧ j + 1 ≤ (numL cs 3 (sgP cs j - 48) (j + 1)).2 ∧ (numL cs 3 (sgP cs j - 48) (j + 1)).2 ≤ j + 1 + 3 := fun j hj => numL_b 3 _ _ (by omega)
  have tl : ∀ (k l j : Int) (m : Int × Int), m.2 = j → j ≤ (tailP cs k l m).2.1 ∧ (tailP cs k l m).2.1 ≤ j + 6 ∧ ((tailP cs k l m).1 = 0 ∨ (tailP cs k l m).1 = 1) := by
    intro k l j m hm
    unfold tailP
    rw [hm]
    split
    · split
      · split
        · next q => have := nl (j + 1) q.1; dsimp only; exact ⟨by omega, by omega, Or.inr rfl⟩
        · dsimp only; exact ⟨by omega, by omega, Or.inl rfl⟩
      · dsimp only; exact ⟨by omega, by omega, Or.inl rfl⟩
    · rw [show ((1, j, k, l, m.1, 0) : Ent).2.1 = j from rfl]
      exact ⟨by omega, by omega, Or.inr rfl⟩
  have nb : ∀ k l j : Int, j ≤ (numbP cs k l j).2.1 ∧ (numbP cs k l j).2.1 ≤ j + 12 ∧ ((numbP cs k l j).1 = 0 ∨ ((numbP cs k l j).1 = 1 ∧ j + 1 ≤ (numbP cs k l j).2.1)) := by
    intro k l j
    unfold numbP
    split
    · next q =>
      have h1 := nl j q.1
      have h2 := tl k l _ (numL cs 3 (sgP cs j - 48) (j + 1)) rfl
      omega
    · dsimp only; exact ⟨by omega, by omega, Or.inl rfl⟩
  unfold entP
  split
  · split
    · split
      · have := nb (sgP cs i) (sgP cs (i + 1) - 65) (i + 1 + 1); omega
      · dsimp only; exact ⟨by omega, by omega, Or.inl rfl⟩
    · have := nb (sgP cs i) 0 (i + 1); omega
  · dsimp only; exact ⟨by omega, by omega, Or.inl rfl⟩
theorem m_X2_findFault {l : Launch} {G : xG} {w : Wd} {z p : Nat} {cs : List Int} {pl kd le nu se : Int} (h1 : padA G w p cs pl kd le nu se) : xMet l G yX2_findFault cX2_findFault 2 (some .int) ({ frames := 4, cells := 0, slots := 0, locals := 83 } : Room) [.ref p] w z (qI z fun y w1 => Fr p (p + 2) w w1 ∧ y = fltP cs 81 0 ∧ iR y ∧ ∃ pl kd le nu se : Int, padA G w1 p cs pl kd le nu se) := by
  have hW := h1.1
  have hl := hW.1
  refine xMet_of RX2 rfl (by decide +kernel) false (by decide +kernel) (Nat.le_of_ble_eq_true rfl) rfl ?_
  intro P hM hR
  have K : ∀ (k d : Nat) (i kd le nu se : Int) (w1 : Wd), d + k = 81 → 0 ≤ i ∧ i ≤ 100 * d → padA G w1 p cs i kd le nu se → Fr p (p + 2) w w1 → fltP cs k i = fltP cs 81 0 → P 7 [some (.ref p), some (.int (iI d))] [] w1 (z, 0, 0) := by
    intro k
    induction k with
    | zero =>
      intro d i kd le nu se w1 hd hi hA hF hinv
      refine x_iload_n hM dX2_findFault_7 rfl rfl ?_
      refine x_bipush hM dX2_findFault_8 rfl ?_
      refine x_icmp_gt (tgt := 59) hM dX2_findFault_10 (by decide) (by omega) (by omega) (fun c_10 => ?_) (fun c_10 => ?_)
      · refine x_aload_n hM dX2_findFault_59 rfl rfl ?_
        refine x_get hM wf_X2_25 wl_X2 (by first | assumption | exact pad_o (by assumption)) rfl dX2_findFault_60 ?_
        refine hR.i dX2_findFault_63 (Nat.zero_le _) (Nat.zero_le _) ?_
        exact p_qI ⟨hF, hinv, ⟨by omega, by omega⟩, _, _, _, _, _, hA⟩
      · exfalso; omega
    | succ k ih =>
      intro d i kd le nu se w1 hd hi hA hF hinv
      have hb := entP_b hW i
      have hbs := sgP_b hW (entP cs i).2.1
      refine x_iload_n hM dX2_findFault_7 rfl rfl ?_
      refine x_bipush hM dX2_findFault_8 rfl ?_
      refine x_icmp_gt (tgt := 59) hM dX2_findFault_10 (by decide) (by omega) (by omega) (fun c_10 => ?_) (fun c_10 => ?_)
      · exfalso; omega
      · refine x_aload_n hM dX2_findFault_13 rfl rfl ?_
        refine x_callV hM wv_X2_28 (m_X2_readEntry (by assumption) (by omega)) ⟨Nat.le_of_ble_eq_true rfl, Nat.le_of_ble_eq_true rfl⟩ (by first | assumption | exact pad_o (by assumption)) rfl rfl rfl rfl (Nat.le_of_ble_eq_true rfl) ⟨Nat.le_of_ble_eq_true rfl, Nat.le_of_ble_eq_true rfl⟩ dX2_findFault_14 (k_qI fun x_14 w_14 q_14 => ?_)
        obtain ⟨qf, qa⟩ := q_14
        rcases qa with ⟨q1, rfl, kd2, le2, nu2, se2, qa⟩ | ⟨q1, rfl, le2, se2, qa, -, -⟩
        · rw [show fltP cs (k + 1) i = (entP cs i).2.1 from if_pos q1] at hinv
          refine x_if_ne (tgt := 25) hM dX2_findFault_17 (by decide) (by omega) (fun q => absurd rfl q) (fun _ => ?_)
          refine x_aload_n hM dX2_findFault_20 rfl rfl ?_
          refine x_get hM wf_X2_25 wl_X2 (pad_o qa) rfl dX2_findFault_21 ?_
          refine hR.i dX2_findFault_24 (Nat.zero_le _) (Nat.zero_le _) ?_
          exact p_qI ⟨hF.tr qf, hinv, ⟨by omega, by omega⟩, _, _, _, _, _, qa⟩
        have e1 : fltP cs (k + 1) i = _ := if_neg (by omega)
        refine x_if_ne (tgt := 25) hM dX2_findFault_17 (by decide) (by omega) (fun c_17 => ?_) (fun c_17 => ?_)
        · refine x_aload_n hM dX2_findFault_25 rfl rfl ?_
          refine x_get hM wf_X2_25 wl_X2 (by first | assumption | exact pad_o (by assumption)) rfl dX2_findFault_26 ?_
          refine x_aload_n hM dX2_findFault_29 rfl rfl ?_
          refine x_get hM wf_X2_21 wl_X2 (by first | assumption | exact pad_o (by assumption)) rfl dX2_findFault_30 ?_
          refine x_icmp_ne (tgt := 39) hM dX2_findFault_33 (by decide) (by omega) (by omega) (fun c_33 => ?_) (fun c_33 => ?_)
          · refine x_aload_n hM dX2_findFault_39 rfl rfl ?_
            refine x_bipush hM dX2_findFault_40 rfl ?_
            refine x_callV hM wv_X2_32 (m_X2_readSign (by assumption) (by omega) (by omega)) ⟨Nat.le_of_ble_eq_true rfl, Nat.le_of_ble_eq_true rfl⟩ (by first | assumption | exact pad_o (by assumption)) rfl rfl rfl rfl (Nat.le_of_ble_eq_true rfl) ⟨Nat.le_of_ble_eq_true rfl, Nat.le_of_ble_eq_true rfl⟩ dX2_findFault_42 (k_qI fun x_42 w_42 q_42 => ?_)
            rw [if_neg (by assumption)] at e1
            obtain ⟨qg, qb⟩ := q_42
            rcases qb with ⟨q2, rfl, qb⟩ | ⟨q2, rfl, qb⟩
            · rw [if_neg q2] at e1
              refine x_if_ne (tgt := 53) hM dX2_findFault_45 (by decide) (by omega) (fun q => absurd rfl q) (fun _ => ?_)
              refine x_aload_n hM dX2_findFault_48 rfl rfl ?_
              refine x_get hM wf_X2_25 wl_X2 (pad_o qb) rfl dX2_findFault_49 ?_
              refine hR.i dX2_findFault_52 (Nat.zero_le _) (Nat.zero_le _) ?_
              exact p_qI ⟨(hF.tr qf).tr qg, by rw [← hinv, e1], ⟨by omega, by omega⟩, _, _, _, _, _, qb⟩
            rw [if_pos q2] at e1
            refine x_if_ne (tgt := 53) hM dX2_findFault_45 (by decide) (by omega) (fun c_45 => ?_) (fun c_45 => ?_)
            · refine x_iinc hM dX2_findFault_53 rfl rfl rfl ?_
              refine x_goto (tgt := 7) hM dX2_findFault_56 (by decide) ?_
              exact ih (d + 1) _ _ _ _ _ _ (by omega) (by omega) qb ((hF.tr qf).tr qg) (by rw [← hinv, e1])
            · exfalso; omega
          · refine x_bipush hM dX2_findFault_36 rfl ?_
            refine hR.i dX2_findFault_38 (Nat.zero_le _) (Nat.zero_le _) ?_
            exact p_qI ⟨hF.tr qf, by rw [← hinv, e1]; exact (if_pos (by assumption)).symm, by omega, _, _, _, _, _, qa⟩
        · exfalso; omega
  refine x_aload_n hM dX2_findFault_0 rfl rfl ?_
  refine x_iconst hM dX2_findFault_1 ?_
  refine x_put hM wf_X2_25 wl_X2 (by first | assumption | exact pad_o (by assumption)) wq_X2_25 rfl rfl (Nat.le_of_ble_eq_true rfl) rfl dX2_findFault_2 ?_
  have hA2 := h1.up (pl2 := 0) (kd2 := kd) (le2 := le) (nu2 := nu) (se2 := se)
  refine x_iconst hM dX2_findFault_5 ?_
  refine x_istore_n hM dX2_findFault_6 rfl rfl (Nat.le_of_ble_eq_true rfl) rfl ?_
  exact K 81 0 0 _ _ _ _ _ (by omega) (by omega) hA2 (Fr.wS (by omega) (by omega)) rfl
