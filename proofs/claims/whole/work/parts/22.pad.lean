/-! Pad: reading -/
def padW (cs : List Int) : Prop := cs.length ≤ 80 ∧ ∀ c ∈ cs, 33 ≤ c ∧ c ≤ 126
def padA (G : xG) (w : Wd) (p : Nat) (cs : List Int) (pl kd le nu se : Int) : Prop :=
  padW cs ∧ w p = some (.inr (2, [.ref (p + 1), .int (iI cs.length), .int (iI pl), .int (iI kd), .int (iI le), .int (iI nu), .int (iI se)])) ∧ ∃ f : Int → Int, w (p + 1) = some (aC G 80 f) ∧ ∀ (i : Nat) (h : i < cs.length), f i = cs[i]
theorem pad_o {G : xG} {w : Wd} {p : Nat} {cs : List Int} {pl kd le nu se : Int} (h : padA G w p cs pl kd le nu se) : w p = some (.inr (2, [.ref (p + 1), .int (iI cs.length), .int (iI pl), .int (iI kd), .int (iI le), .int (iI nu), .int (iI se)])) := h.2.1
theorem padA.kp {G : xG} {w w1 : Wd} {p lo hi : Nat} {cs : List Int} {pl kd le nu se : Int} (h : padA G w p cs pl kd le nu se) (k : Fr lo hi w w1) (a : p + 2 ≤ lo ∨ hi ≤ p) : padA G w1 p cs pl kd le nu se := by
  obtain ⟨h1, h2, f, h3, h4⟩ := h
  exact ⟨h1, (k _ (by omega)).trans h2, f, (k _ (by omega)).trans h3, h4⟩
theorem padA.up {G : xG} {w : Wd} {p : Nat} {cs : List Int} {pl kd le nu se pl2 kd2 le2 nu2 se2 : Int} (h : padA G w p cs pl kd le nu se) : padA G (wS w p (.inr (2, [.ref (p + 1), .int (iI cs.length), .int (iI pl2), .int (iI kd2), .int (iI le2), .int (iI nu2), .int (iI se2)]))) p cs pl2 kd2 le2 nu2 se2 := by
  obtain ⟨h1, h2, f, h3, h4⟩ := h
  exact ⟨h1, wS_eq, f, (wS_ne (by omega)).trans h3, h4⟩
def sgP (cs : List Int) (i : Int) : Int := if 0 ≤ i then cs[i.toNat]?.getD 0 else 0
theorem sgP_b {cs : List Int} (h : padW cs) (i : Int) : 0 ≤ sgP cs i ∧ sgP cs i ≤ 126 := by
  unfold sgP
  split
  · cases h1 : cs[i.toNat]? with
    | none => simp
    | some c =>
      have := h.2 c (List.mem_of_getElem? h1)
      simp only [Option.getD_some]
      omega
  · omega
theorem sgP_in {cs : List Int} {i : Int} (h0 : 0 ≤ i) (h : i < cs.length) : ∃ hi : i.toNat < cs.length, sgP cs i = cs[i.toNat] := by
  refine ⟨by omega, ?_⟩
  unfold sgP
  rw [if_pos h0, List.getElem?_eq_getElem (by omega)]
  rfl
theorem sgP_out {cs : List Int} {i : Int} (h : i < 0 ∨ cs.length ≤ i) : sgP cs i = 0 := by
  unfold sgP
  split
  · rw [List.getElem?_eq_none (by omega)]; rfl
  · rfl
theorem nar_c {x : Int} (h : 0 ≤ x ∧ x < 65536) : narrow .char (.int (iI x)) = .int (iI x) := by
  have h1 := (pk_charN (q := x.toNat) (by omega)).1
  have e : nI x.toNat = iI x := by rw [show nI x.toNat = iI (x.toNat : Int) from iI_nat _]; congr 1; omega
  rw [e] at h1
  exact h1
theorem m_X2_sign {l : Launch} {G : xG} {w : Wd} {z p : Nat} {cs : List Int} {pl kd le nu se : Int} (h1 : padA G w p cs pl kd le nu se) (hp : iR pl) : xMet l G yX2_sign cX2_sign 1 (some .char) ({ frames := 0, cells := 0, slots := 0, locals := 0 } : Room) [.ref p] w z (rI (sgP cs pl) w z) := by
  obtain ⟨hW, ho, f, hf, hfv⟩ := id h1
  have hl := hW.1
  refine xMet_of RX2 rfl (by decide +kernel) false (by decide +kernel) (Nat.le_of_ble_eq_true rfl) rfl ?_
  intro P hM hR
  by_cases c : 0 ≤ pl ∧ pl < cs.length
  · obtain ⟨hi, hs⟩ := sgP_in c.1 c.2
    have hv := hfv _ hi
    rw [show ((pl.toNat : Nat) : Int) = pl by omega, ← hs] at hv
    have hb := sgP_b hW pl
    refine x_aload_n hM dX2_sign_0 rfl rfl ?_
    refine x_get hM wf_X2_25 wl_X2 (by first | assumption | exact pad_o (by assumption)) rfl dX2_sign_1 ?_
    refine x_if_lt (tgt := 42) hM dX2_sign_4 (by decide) (by omega) (fun c_4 => ?_) (fun c_4 => ?_)
    · exfalso; omega
    · refine x_aload_n hM dX2_sign_7 rfl rfl ?_
      refine x_get hM wf_X2_25 wl_X2 (by first | assumption | exact pad_o (by assumption)) rfl dX2_sign_8 ?_
      refine x_aload_n hM dX2_sign_11 rfl rfl ?_
      refine x_get hM wf_X2_21 wl_X2 (by first | assumption | exact pad_o (by assumption)) rfl dX2_sign_12 ?_
      refine x_icmp_ge (tgt := 42) hM dX2_sign_15 (by decide) (by omega) (by omega) (fun c_15 => ?_) (fun c_15 => ?_)
      · exfalso; omega
      · refine x_aload_n hM dX2_sign_18 rfl rfl ?_
        refine x_get hM wf_X2_25 wl_X2 (by first | assumption | exact pad_o (by assumption)) rfl dX2_sign_19 ?_
        refine x_aload_n hM dX2_sign_22 rfl rfl ?_
        refine x_get hM wf_X2_9 wl_X2 (by first | assumption | exact pad_o (by assumption)) rfl dX2_sign_23 ?_
        refine x_alenC hM hf dX2_sign_26 ?_
        refine x_icmp_ge (tgt := 42) hM dX2_sign_27 (by decide) (by omega) (by omega) (fun c_27 => ?_) (fun c_27 => ?_)
        · exfalso; omega
        · refine x_aload_n hM dX2_sign_30 rfl rfl ?_
          refine x_get hM wf_X2_9 wl_X2 (by first | assumption | exact pad_o (by assumption)) rfl dX2_sign_31 ?_
          refine x_aload_n hM dX2_sign_34 rfl rfl ?_
          refine x_get hM wf_X2_25 wl_X2 (by first | assumption | exact pad_o (by assumption)) rfl dX2_sign_35 ?_
          refine x_cald hM hf (by omega) dX2_sign_38 ?_
          refine x_goto (tgt := 43) hM dX2_sign_39 (by decide) ?_
          refine hR.c dX2_sign_43 (nar_c (by omega)) (Nat.zero_le _) (Nat.zero_le _) ?_
          exact p_rI hv
  · skip
    refine x_aload_n hM dX2_sign_0 rfl rfl ?_
    refine x_get hM wf_X2_25 wl_X2 (by first | assumption | exact pad_o (by assumption)) rfl dX2_sign_1 ?_
    refine x_if_lt (tgt := 42) hM dX2_sign_4 (by decide) (by omega) (fun c_4 => ?_) (fun c_4 => ?_)
    · refine x_iconst hM dX2_sign_42 ?_
      refine hR.c dX2_sign_43 rfl (Nat.zero_le _) (Nat.zero_le _) ?_
      exact p_rI (sgP_out (by omega)).symm
    · refine x_aload_n hM dX2_sign_7 rfl rfl ?_
      refine x_get hM wf_X2_25 wl_X2 (by first | assumption | exact pad_o (by assumption)) rfl dX2_sign_8 ?_
      refine x_aload_n hM dX2_sign_11 rfl rfl ?_
      refine x_get hM wf_X2_21 wl_X2 (by first | assumption | exact pad_o (by assumption)) rfl dX2_sign_12 ?_
      refine x_icmp_ge (tgt := 42) hM dX2_sign_15 (by decide) (by omega) (by omega) (fun c_15 => ?_) (fun c_15 => ?_)
      · refine x_iconst hM dX2_sign_42 ?_
        refine hR.c dX2_sign_43 rfl (Nat.zero_le _) (Nat.zero_le _) ?_
        exact p_rI (sgP_out (by omega)).symm
      · refine x_aload_n hM dX2_sign_18 rfl rfl ?_
        refine x_get hM wf_X2_25 wl_X2 (by first | assumption | exact pad_o (by assumption)) rfl dX2_sign_19 ?_
        refine x_aload_n hM dX2_sign_22 rfl rfl ?_
        refine x_get hM wf_X2_9 wl_X2 (by first | assumption | exact pad_o (by assumption)) rfl dX2_sign_23 ?_
        refine x_alenC hM hf dX2_sign_26 ?_
        refine x_icmp_ge (tgt := 42) hM dX2_sign_27 (by decide) (by omega) (by omega) (fun c_27 => ?_) (fun c_27 => ?_)
        · exfalso; omega
        · exfalso; omega
def isDg (c : Int) : Prop := 48 ≤ c ∧ c ≤ 57
theorem m_X2_isDigit {l : Launch} {G : xG} {w : Wd} {z p : Nat} {cs : List Int} {pl kd le nu se : Int} (h1 : padA G w p cs pl kd le nu se) (hp : iR pl) : xMet l G yX2_isDigit cX2_isDigit 1 (some .boolean) ({ frames := 1, cells := 0, slots := 0, locals := 20 } : Room) [.ref p] w z (rI (if 48 ≤ sgP cs pl ∧ sgP cs pl ≤ 57 then 1 else 0) w z) := by
  have hb := sgP_b h1.1 pl
  refine xMet_of RX2 rfl (by decide +kernel) false (by decide +kernel) (Nat.le_of_ble_eq_true rfl) rfl ?_
  intro P hM hR
  refine x_aload_n hM dX2_isDigit_0 rfl rfl ?_
  refine x_callV hM wv_X2_36 (m_X2_sign (by assumption) (by omega)) ⟨Nat.le_of_ble_eq_true rfl, Nat.le_of_ble_eq_true rfl⟩ (by first | assumption | exact pad_o (by assumption)) rfl rfl rfl rfl (Nat.le_of_ble_eq_true rfl) ⟨Nat.le_of_ble_eq_true rfl, Nat.le_of_ble_eq_true rfl⟩ dX2_isDigit_1 (k_rI ?_)
  refine x_bipush hM dX2_isDigit_4 rfl ?_
  refine x_icmp_lt (tgt := 22) hM dX2_isDigit_6 (by decide) (by omega) (by omega) (fun c_6 => ?_) (fun c_6 => ?_)
  · refine x_iconst hM dX2_isDigit_22 ?_
    refine hR.b dX2_isDigit_23 rfl (Nat.zero_le _) (Nat.zero_le _) ?_
    exact p_rI (by first | rw [if_pos (by omega)] | rw [if_neg (by omega)])
  · refine x_aload_n hM dX2_isDigit_9 rfl rfl ?_
    refine x_callV hM wv_X2_36 (m_X2_sign (by assumption) (by omega)) ⟨Nat.le_of_ble_eq_true rfl, Nat.le_of_ble_eq_true rfl⟩ (by first | assumption | exact pad_o (by assumption)) rfl rfl rfl rfl (Nat.le_of_ble_eq_true rfl) ⟨Nat.le_of_ble_eq_true rfl, Nat.le_of_ble_eq_true rfl⟩ dX2_isDigit_10 (k_rI ?_)
    refine x_bipush hM dX2_isDigit_13 rfl ?_
    refine x_icmp_gt (tgt := 22) hM dX2_isDigit_15 (by decide) (by omega) (by omega) (fun c_15 => ?_) (fun c_15 => ?_)
    · refine x_iconst hM dX2_isDigit_22 ?_
      refine hR.b dX2_isDigit_23 rfl (Nat.zero_le _) (Nat.zero_le _) ?_
      exact p_rI (by first | rw [if_pos (by omega)] | rw [if_neg (by omega)])
    · refine x_iconst hM dX2_isDigit_18 ?_
      refine x_goto (tgt := 23) hM dX2_isDigit_19 (by decide) ?_
      refine hR.b dX2_isDigit_23 rfl (Nat.zero_le _) (Nat.zero_le _) ?_
      exact p_rI (by first | rw [if_pos (by omega)] | rw [if_neg (by omega)])
theorem m_X2_readSign {l : Launch} {G : xG} {w : Wd} {z p : Nat} {cs : List Int} {pl kd le nu se x : Int} (h1 : padA G w p cs pl kd le nu se) (hp : 0 ≤ pl ∧ pl ≤ 10000) (hx : iR x) : xMet l G yX2_readSign cX2_readSign 2 (some .boolean) ({ frames := 1, cells := 0, slots := 0, locals := 20 } : Room) [.ref p, .int (iI x)] w z (qI z fun y w1 => Fr p (p + 2) w w1 ∧ ((sgP cs pl ≠ x ∧ y = 0 ∧ padA G w1 p cs pl kd le nu se) ∨ (sgP cs pl = x ∧ y = 1 ∧ padA G w1 p cs (pl + 1) kd le nu se))) := by
  have hb := sgP_b h1.1 pl
  refine xMet_of RX2 rfl (by decide +kernel) false (by decide +kernel) (Nat.le_of_ble_eq_true rfl) rfl ?_
  intro P hM hR
  refine x_aload_n hM dX2_readSign_0 rfl rfl ?_
  refine x_callV hM wv_X2_36 (m_X2_sign (by assumption) (by omega)) ⟨Nat.le_of_ble_eq_true rfl, Nat.le_of_ble_eq_true rfl⟩ (by first | assumption | exact pad_o (by assumption)) rfl rfl rfl rfl (Nat.le_of_ble_eq_true rfl) ⟨Nat.le_of_ble_eq_true rfl, Nat.le_of_ble_eq_true rfl⟩ dX2_readSign_1 (k_rI ?_)
  refine x_iload_n hM dX2_readSign_4 rfl rfl ?_
  refine x_icmp_eq (tgt := 10) hM dX2_readSign_5 (by decide) (by omega) (by omega) (fun c_5 => ?_) (fun c_5 => ?_)
  · refine x_aload_n hM dX2_readSign_10 rfl rfl ?_
    refine x_dup hM dX2_readSign_11 rfl ?_
    refine x_get hM wf_X2_25 wl_X2 (by first | assumption | exact pad_o (by assumption)) rfl dX2_readSign_12 ?_
    refine x_iconst hM dX2_readSign_15 ?_
    refine x_iadd hM dX2_readSign_16 ?_
    refine x_put hM wf_X2_25 wl_X2 (by first | assumption | exact pad_o (by assumption)) wq_X2_25 rfl rfl (Nat.le_of_ble_eq_true rfl) rfl dX2_readSign_17 ?_
    refine x_iconst hM dX2_readSign_20 ?_
    refine hR.b dX2_readSign_21 rfl (Nat.zero_le _) (Nat.zero_le _) ?_
    exact p_qI ⟨Fr.wS (by omega) (by omega), Or.inr ⟨by assumption, rfl, h1.up⟩⟩
  · refine x_iconst hM dX2_readSign_8 ?_
    refine hR.b dX2_readSign_9 rfl (Nat.zero_le _) (Nat.zero_le _) ?_
    exact p_qI ⟨Fr.rf, Or.inl ⟨by assumption, rfl, h1⟩⟩
theorem m_X2_readLetter {l : Launch} {G : xG} {w : Wd} {z p : Nat} {cs : List Int} {pl kd le nu se : Int} (h1 : padA G w p cs pl kd le nu se) (hp : 0 ≤ pl ∧ pl ≤ 10000) : xMet l G yX2_readLetter cX2_readLetter 1 (some .boolean) ({ frames := 1, cells := 0, slots := 0, locals := 20 } : Room) [.ref p] w z (qI z fun y w1 => Fr p (p + 2) w w1 ∧ ((¬ (0 ≤ sgP cs pl - 65 ∧ sgP cs pl - 65 < 10) ∧ y = 0 ∧ padA G w1 p cs pl kd (sgP cs pl - 65) nu se) ∨ ((0 ≤ sgP cs pl - 65 ∧ sgP cs pl - 65 < 10) ∧ y = 1 ∧ padA G w1 p cs (pl + 1) kd (sgP cs pl - 65) nu se))) := by
  have hb := sgP_b h1.1 pl
  refine xMet_of RX2 rfl (by decide +kernel) false (by decide +kernel) (Nat.le_of_ble_eq_true rfl) rfl ?_
  intro P hM hR
  refine x_aload_n hM dX2_readLetter_0 rfl rfl ?_
  refine x_aload_n hM dX2_readLetter_1 rfl rfl ?_
  refine x_callV hM wv_X2_36 (m_X2_sign (by assumption) (by omega)) ⟨Nat.le_of_ble_eq_true rfl, Nat.le_of_ble_eq_true rfl⟩ (by first | assumption | exact pad_o (by assumption)) rfl rfl rfl rfl (Nat.le_of_ble_eq_true rfl) ⟨Nat.le_of_ble_eq_true rfl, Nat.le_of_ble_eq_true rfl⟩ dX2_readLetter_2 (k_rI ?_)
  refine x_bipush hM dX2_readLetter_5 rfl ?_
  refine x_isub hM dX2_readLetter_7 ?_
  refine x_put hM wf_X2_55 wl_X2 (by first | assumption | exact pad_o (by assumption)) wq_X2_55 rfl rfl (Nat.le_of_ble_eq_true rfl) rfl dX2_readLetter_8 ?_
  have h2 := h1.up (pl2 := pl) (kd2 := kd) (le2 := sgP cs pl - 65) (nu2 := nu) (se2 := se)
  refine x_aload_n hM dX2_readLetter_11 rfl rfl ?_
  refine x_get hM wf_X2_55 wl_X2 (by first | assumption | exact pad_o (by assumption)) rfl dX2_readLetter_12 ?_
  refine x_if_lt (tgt := 27) hM dX2_readLetter_15 (by decide) (by omega) (fun c_15 => ?_) (fun c_15 => ?_)
  · refine x_iconst hM dX2_readLetter_27 ?_
    refine hR.b dX2_readLetter_28 rfl (Nat.zero_le _) (Nat.zero_le _) ?_
    exact p_qI ⟨Fr.wS (by omega) (by omega), Or.inl ⟨by omega, rfl, h2⟩⟩
  · refine x_aload_n hM dX2_readLetter_18 rfl rfl ?_
    refine x_get hM wf_X2_55 wl_X2 (by first | assumption | exact pad_o (by assumption)) rfl dX2_readLetter_19 ?_
    refine x_bipush hM dX2_readLetter_22 rfl ?_
    refine x_icmp_lt (tgt := 29) hM dX2_readLetter_24 (by decide) (by omega) (by omega) (fun c_24 => ?_) (fun c_24 => ?_)
    · refine x_aload_n hM dX2_readLetter_29 rfl rfl ?_
      refine x_dup hM dX2_readLetter_30 rfl ?_
      refine x_get hM wf_X2_25 wl_X2 (by first | assumption | exact pad_o (by assumption)) rfl dX2_readLetter_31 ?_
      refine x_iconst hM dX2_readLetter_34 ?_
      refine x_iadd hM dX2_readLetter_35 ?_
      refine x_put hM wf_X2_25 wl_X2 (by first | assumption | exact pad_o (by assumption)) wq_X2_25 rfl rfl (Nat.le_of_ble_eq_true rfl) rfl dX2_readLetter_36 ?_
      refine x_iconst hM dX2_readLetter_39 ?_
      refine hR.b dX2_readLetter_40 rfl (Nat.zero_le _) (Nat.zero_le _) ?_
      exact p_qI ⟨(Fr.wS (by omega) (by omega)).tr (Fr.wS (by omega) (by omega)), Or.inr ⟨by omega, rfl, h2.up⟩⟩
    · refine x_iconst hM dX2_readLetter_27 ?_
      refine hR.b dX2_readLetter_28 rfl (Nat.zero_le _) (Nat.zero_le _) ?_
      exact p_qI ⟨Fr.wS (by omega) (by omega), Or.inl ⟨by omega, rfl, h2⟩⟩
/-- a number's further digits: at most k of them -/
def numL (cs : List Int) : Nat → Int → Int → Int × Int
  | 0, v, i => (v, i)
  | k + 1, v, i => if 0 < v ∧ 48 ≤ sgP cs i ∧ sgP cs i ≤ 57 then numL cs k (v * 10 + sgP cs i - 48) (i + 1) else (v, i)
theorem numL_b {cs : List Int} : ∀ (k : Nat) (v i : Int), 0 ≤ v → 0 ≤ (numL cs k v i).1 ∧ i ≤ (numL cs k v i).2 ∧ (numL cs k v i).2 ≤ i + k := by
  intro k
  induction k with
  | zero => intro v i h; simp only [numL]; omega
  | succ k ih =>
    intro v i h
    simp only [numL]
    split
    · have := ih (v * 10 + sgP cs i - 48) (i + 1) (by omega)
      omega
    · simp only; omega
theorem numL_v {cs : List Int} {v i : Int} (h : 0 ≤ v ∧ v ≤ 9) : (numL cs 3 v i).1 ≤ 9999 := by
  have g : ∀ v i : Int, 0 ≤ v → v ≤ 999 → (numL cs 1 v i).1 ≤ 9999 := by
    intro v i h1 h2
    simp only [numL]
    split <;> simp only <;> omega
  have g2 : ∀ v i : Int, 0 ≤ v → v ≤ 99 → (numL cs 2 v i).1 ≤ 9999 := by
    intro v i h1 h2
    rw [numL]
    split
    · exact g _ _ (by omega) (by omega)
    · simp only; omega
  rw [numL]
  split
  · exact g2 _ _ (by omega) (by omega)
  · simp only; omega
theorem m_X2_readNumber {l : Launch} {G : xG} {w : Wd} {z p : Nat} {cs : List Int} {pl kd le nu se : Int} (h1 : padA G w p cs pl kd le nu se) (hp : 0 ≤ pl ∧ pl ≤ 10000) : xMet l G yX2_readNumber cX2_readNumber 2 (some .boolean) ({ frames := 2, cells := 0, slots := 0, locals := 40 } : Room) [.ref p] w z (qI z fun y w1 => Fr p (p + 2) w w1 ∧ ((¬ isDg (sgP cs pl) ∧ y = 0 ∧ padA G w1 p cs pl kd le nu se) ∨ (isDg (sgP cs pl) ∧ y = 1 ∧ padA G w1 p cs (numL cs 3 (sgP cs pl - 48) (pl + 1)).2 kd le (numL cs 3 (sgP cs pl - 48) (pl + 1)).1 se))) := by
  have hW := h1.1
  have hb := sgP_b h1.1 pl
  refine xMet_of RX2 rfl (by decide +kernel) false (by decide +kernel) (Nat.le_of_ble_eq_true rfl) rfl ?_
  intro P hM hR
  have K : isDg (sgP cs pl) → ∀ (k d : Nat) (v i : Int) (w1 : Wd), d + k = 4 → 0 ≤ v ∧ v ≤ 9999 → i = pl + d → 1 ≤ d ∧ (d ≤ 1 → v ≤ 9) ∧ (d ≤ 2 → v ≤ 99) ∧ (d ≤ 3 → v ≤ 999) → padA G w1 p cs i kd le v se → Fr p (p + 2) w w1 → numL cs k v i = numL cs 3 (sgP cs pl - 48) (pl + 1) → P 32 [some (.ref p), some (.int (iI d))] [] w1 (z, 0, 0) := by
    intro hdg k
    induction k with
    | zero =>
      intro d v i w1 hd hv hi hk hA hF hinv
      refine x_iload_n hM dX2_readNumber_32 rfl rfl ?_
      refine x_iconst hM dX2_readNumber_33 ?_
      refine x_icmp_ge (tgt := 86) hM dX2_readNumber_34 (by decide) (by omega) (by omega) (fun c_34 => ?_) (fun c_34 => ?_)
      · refine x_iconst hM dX2_readNumber_86 ?_
        refine hR.b dX2_readNumber_87 rfl (Nat.zero_le _) (Nat.zero_le _) ?_
        exact p_qI ⟨hF, Or.inr ⟨hdg, rfl, by rw [← hinv]; exact hA⟩⟩
      · exfalso; omega
    | succ k ih =>
      intro d v i w1 hd hv hi hk hA hF hinv
      have hb1 := sgP_b hW i
      have fin : ∀ (w1 : Wd) (ls : List (Option Value)), padA G w1 p cs (numL cs 3 (sgP cs pl - 48) (pl + 1)).2 kd le (numL cs 3 (sgP cs pl - 48) (pl + 1)).1 se → Fr p (p + 2) w w1 → P 86 ls [] w1 (z, 0, 0) := by
        intro w1 ls hA hF
        refine x_iconst hM dX2_readNumber_86 ?_
        refine hR.b dX2_readNumber_87 rfl (Nat.zero_le _) (Nat.zero_le _) ?_
        exact p_qI ⟨hF, Or.inr ⟨hdg, rfl, hA⟩⟩
      refine x_iload_n hM dX2_readNumber_32 rfl rfl ?_
      refine x_iconst hM dX2_readNumber_33 ?_
      refine x_icmp_ge (tgt := 86) hM dX2_readNumber_34 (by decide) (by omega) (by omega) (fun c_34 => ?_) (fun c_34 => ?_)
      · exfalso; omega
      · refine x_aload_n hM dX2_readNumber_37 rfl rfl ?_
        refine x_get hM wf_X2_49 wl_X2 (by first | assumption | exact pad_o (by assumption)) rfl dX2_readNumber_38 ?_
        refine x_if_le (tgt := 86) hM dX2_readNumber_41 (by decide) (by omega) (fun c_41 => ?_) (fun c_41 => ?_)
        · (have e9 : numL cs (k + 1) v i = (v, i) := if_neg (by omega))
          rw [e9] at hinv
          exact fin w1 _ (by rw [← hinv]; exact hA) hF
        · refine x_aload_n hM dX2_readNumber_44 rfl rfl ?_
          refine x_callV hM wv_X2_58 (m_X2_isDigit (by assumption) (by omega)) ⟨Nat.le_of_ble_eq_true rfl, Nat.le_of_ble_eq_true rfl⟩ (by first | assumption | exact pad_o (by assumption)) rfl rfl rfl rfl (Nat.le_of_ble_eq_true rfl) ⟨Nat.le_of_ble_eq_true rfl, Nat.le_of_ble_eq_true rfl⟩ dX2_readNumber_45 (k_rI ?_)
          by_cases c1 : 48 ≤ sgP cs i ∧ sgP cs i ≤ 57
          · rw [if_pos c1]
            refine x_if_eq (tgt := 86) hM dX2_readNumber_48 (by decide) (by omega) (fun q => absurd q (by decide)) (fun _ => ?_)
            refine x_aload_n hM dX2_readNumber_51 rfl rfl ?_
            refine x_aload_n hM dX2_readNumber_52 rfl rfl ?_
            refine x_get hM wf_X2_49 wl_X2 (by first | assumption | exact pad_o (by assumption)) rfl dX2_readNumber_53 ?_
            refine x_bipush hM dX2_readNumber_56 rfl ?_
            refine x_imul hM dX2_readNumber_58 ?_
            refine x_aload_n hM dX2_readNumber_59 rfl rfl ?_
            refine x_callV hM wv_X2_36 (m_X2_sign (by assumption) (by omega)) ⟨Nat.le_of_ble_eq_true rfl, Nat.le_of_ble_eq_true rfl⟩ (by first | assumption | exact pad_o (by assumption)) rfl rfl rfl rfl (Nat.le_of_ble_eq_true rfl) ⟨Nat.le_of_ble_eq_true rfl, Nat.le_of_ble_eq_true rfl⟩ dX2_readNumber_60 (k_rI ?_)
            refine x_iadd hM dX2_readNumber_63 ?_
            refine x_bipush hM dX2_readNumber_64 rfl ?_
            refine x_isub hM dX2_readNumber_66 ?_
            refine x_put hM wf_X2_49 wl_X2 (by first | assumption | exact pad_o (by assumption)) wq_X2_49 rfl rfl (Nat.le_of_ble_eq_true rfl) rfl dX2_readNumber_67 ?_
            have hA2 := hA.up (pl2 := i) (kd2 := kd) (le2 := le) (nu2 := v * 10 + sgP cs i - 48) (se2 := se)
            refine x_aload_n hM dX2_readNumber_70 rfl rfl ?_
            refine x_dup hM dX2_readNumber_71 rfl ?_
            refine x_get hM wf_X2_25 wl_X2 (by first | assumption | exact pad_o (by assumption)) rfl dX2_readNumber_72 ?_
            refine x_iconst hM dX2_readNumber_75 ?_
            refine x_iadd hM dX2_readNumber_76 ?_
            refine x_put hM wf_X2_25 wl_X2 (by first | assumption | exact pad_o (by assumption)) wq_X2_25 rfl rfl (Nat.le_of_ble_eq_true rfl) rfl dX2_readNumber_77 ?_
            have hA3 := hA2.up (pl2 := i + 1) (kd2 := kd) (le2 := le) (nu2 := v * 10 + sgP cs i - 48) (se2 := se)
            refine x_iinc hM dX2_readNumber_80 rfl rfl rfl ?_
            refine x_goto (tgt := 32) hM dX2_readNumber_83 (by decide) ?_
            refine ih (d + 1) _ _ _ (by omega) (by omega) (by omega) (by omega) hA3 ((hF.tr (Fr.wS (by omega) (by omega))).tr (Fr.wS (by omega) (by omega))) ?_
            rw [← hinv]
            exact (if_pos (by omega)).symm
          · rw [if_neg c1]
            refine x_if_eq (tgt := 86) hM dX2_readNumber_48 (by decide) (by omega) (fun _ => ?_) (fun q => absurd rfl q)
            (have e9 : numL cs (k + 1) v i = (v, i) := if_neg (by omega))
            rw [e9] at hinv
            exact fin w1 _ (by rw [← hinv]; exact hA) hF
  refine x_aload_n hM dX2_readNumber_0 rfl rfl ?_
  refine x_callV hM wv_X2_58 (m_X2_isDigit (by assumption) (by omega)) ⟨Nat.le_of_ble_eq_true rfl, Nat.le_of_ble_eq_true rfl⟩ (by first | assumption | exact pad_o (by assumption)) rfl rfl rfl rfl (Nat.le_of_ble_eq_true rfl) ⟨Nat.le_of_ble_eq_true rfl, Nat.le_of_ble_eq_true rfl⟩ dX2_readNumber_1 (k_rI ?_)
  by_cases c1 : 48 ≤ sgP cs pl ∧ sgP cs pl ≤ 57
  · rw [if_pos c1]
    refine x_if_ne (tgt := 9) hM dX2_readNumber_4 (by decide) (by omega) (fun _ => ?_) (fun q => absurd q (by decide))
    refine x_aload_n hM dX2_readNumber_9 rfl rfl ?_
    refine x_aload_n hM dX2_readNumber_10 rfl rfl ?_
    refine x_callV hM wv_X2_36 (m_X2_sign (by assumption) (by omega)) ⟨Nat.le_of_ble_eq_true rfl, Nat.le_of_ble_eq_true rfl⟩ (by first | assumption | exact pad_o (by assumption)) rfl rfl rfl rfl (Nat.le_of_ble_eq_true rfl) ⟨Nat.le_of_ble_eq_true rfl, Nat.le_of_ble_eq_true rfl⟩ dX2_readNumber_11 (k_rI ?_)
    refine x_bipush hM dX2_readNumber_14 rfl ?_
    refine x_isub hM dX2_readNumber_16 ?_
    refine x_put hM wf_X2_49 wl_X2 (by first | assumption | exact pad_o (by assumption)) wq_X2_49 rfl rfl (Nat.le_of_ble_eq_true rfl) rfl dX2_readNumber_17 ?_
    have hA2 := h1.up (pl2 := pl) (kd2 := kd) (le2 := le) (nu2 := sgP cs pl - 48) (se2 := se)
    refine x_aload_n hM dX2_readNumber_20 rfl rfl ?_
    refine x_dup hM dX2_readNumber_21 rfl ?_
    refine x_get hM wf_X2_25 wl_X2 (by first | assumption | exact pad_o (by assumption)) rfl dX2_readNumber_22 ?_
    refine x_iconst hM dX2_readNumber_25 ?_
    refine x_iadd hM dX2_readNumber_26 ?_
    refine x_put hM wf_X2_25 wl_X2 (by first | assumption | exact pad_o (by assumption)) wq_X2_25 rfl rfl (Nat.le_of_ble_eq_true rfl) rfl dX2_readNumber_27 ?_
    have hA3 := hA2.up (pl2 := pl + 1) (kd2 := kd) (le2 := le) (nu2 := sgP cs pl - 48) (se2 := se)
    refine x_iconst hM dX2_readNumber_30 ?_
    refine x_istore_n hM dX2_readNumber_31 rfl rfl (Nat.le_of_ble_eq_true rfl) rfl ?_
    exact K c1 3 1 _ _ _ (by omega) (by omega) (by omega) (by omega) hA3 ((Fr.wS (by omega) (by omega)).tr (Fr.wS (by omega) (by omega))) rfl
  · rw [if_neg c1]
    refine x_if_ne (tgt := 9) hM dX2_readNumber_4 (by decide) (by omega) (fun q => absurd rfl q) (fun _ => ?_)
    refine x_iconst hM dX2_readNumber_7 ?_
    refine hR.b dX2_readNumber_8 rfl (Nat.zero_le _) (Nat.zero_le _) ?_
    exact p_qI ⟨Fr.rf, Or.inl ⟨c1, rfl, h1⟩⟩
