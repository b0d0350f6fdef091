/-! Street: gaps -/
def mbtS (o : Int) (c : Int × Int) (s : Sg) : Int × Int := if s.1 = o then ((if c.1 = -6 then s.2.1 else c.1), s.2.2) else c
def mbtF (L : List Sg) (o : Int) : Int := let c := L.foldl (mbtS o) (-6, 0); if c.1 = -6 then 0 else c.2 - c.1 - mtsO L o
theorem m_X5_metersBetween {l : Launch} {G : xG} {w : Wd} {z a : Nat} {L : List Sg} {o : Int} (h1 : strA G w a L) (ho : 0 ≤ o ∧ o < 10) : xMet l G yX5_metersBetween cX5_metersBetween 5 (some .int) ({ frames := 2, cells := 0, slots := 0, locals := 42 } : Room) [.ref a, .int (iI o)] w z (rI (mbtF L o) w z) := by
  have h0 := h1
  obtain ⟨hW, fo, fs, fl, fr, fm, hs, hL⟩ := h1
  have hW1 := hW.1
  have hm := (hL.2 o ho.1 ho.2).2
  refine xMet_of RX5 rfl (by decide +kernel) false (by decide +kernel) (Nat.le_of_ble_eq_true rfl) rfl ?_
  intro P hM hR
  have K : ∀ (k i : Nat) (f e : Int), L.length - i < k → i ≤ L.length → -6 ≤ f ∧ f ≤ 10000 → (L.drop i).foldl (mbtS o) (f, e) = L.foldl (mbtS o) (-6, 0) → P 8 [some (.ref a), some (.int (iI o)), some (.int (iI f)), some (.int (iI e)), some (.int (iI i))] [] w (z, 0, 0) := by
    intro k
    induction k with
    | zero => intro i f e hk; omega
    | succ k ih =>
      intro i f e hk hi hf hinv
      by_cases hlt : i < L.length
      · obtain ⟨e1, e2, e3⟩ := hL.1 i hlt
        have hok := strW_at hW hlt
        have e4 : fs i + fl i = L[i].2.2 := by omega
        rw [drop_fold _ _ hlt] at hinv
        refine x_iload hM dX5_metersBetween_8 rfl ?_
        refine x_aload_n hM dX5_metersBetween_10 rfl rfl ?_
        refine x_get hM wf_X5_36 wl_X5 (by first | assumption | exact str_o (by assumption) | exact str_a (by assumption)) rfl dX5_metersBetween_11 ?_
        refine x_icmp_ge (tgt := 63) hM dX5_metersBetween_14 (by decide) (by omega) (by omega) (fun c_14 => ?_) (fun c_14 => ?_)
        · exfalso; omega
        · refine x_aload_n hM dX5_metersBetween_17 rfl rfl ?_
          refine x_get hM wf_X5_14 wl_X5 (by first | assumption | exact str_o (by assumption) | exact str_a (by assumption)) rfl dX5_metersBetween_18 ?_
          refine x_iload hM dX5_metersBetween_21 rfl ?_
          refine x_callV hM wv_X5_43 (m_X4_at (by first | assumption | exact sr1 (by assumption) | exact sr2 (by assumption) | exact sr3 (by assumption) | exact sr4 (by assumption) | exact sr5 (by assumption) | exact rg1 (by assumption) | exact rg2 (by assumption) | exact rg3 (by assumption)) (by omega)) ⟨Nat.le_of_ble_eq_true rfl, Nat.le_of_ble_eq_true rfl⟩ (by first | assumption | exact row_o (by first | assumption | exact sr1 (by assumption) | exact sr2 (by assumption) | exact sr3 (by assumption) | exact sr4 (by assumption) | exact sr5 (by assumption) | exact rg1 (by assumption) | exact rg2 (by assumption) | exact rg3 (by assumption))) rfl rfl rfl rfl (Nat.le_of_ble_eq_true rfl) ⟨Nat.le_of_ble_eq_true rfl, Nat.le_of_ble_eq_true rfl⟩ dX5_metersBetween_23 (k_rI ?_)
          refine x_iload_n hM dX5_metersBetween_26 rfl rfl ?_
          refine x_icmp_ne (tgt := 57) hM dX5_metersBetween_27 (by decide) (by omega) (by omega) (fun c_27 => ?_) (fun c_27 => ?_)
          · refine x_iinc hM dX5_metersBetween_57 rfl rfl rfl ?_
            refine x_goto (tgt := 8) hM dX5_metersBetween_60 (by decide) ?_
            first | (rw [show mbtS o (f, e) L[i] = (fs i, L[i].2.2) from by unfold mbtS; rw [if_pos (by omega), if_pos (by assumption), e2]] at hinv; exact ih (i + 1) _ _ (by omega) (by omega) (by omega) hinv) | (rw [show mbtS o (f, e) L[i] = (f, L[i].2.2) from by unfold mbtS; rw [if_pos (by omega), if_neg (by assumption)]] at hinv; exact ih (i + 1) _ _ (by omega) (by omega) (by omega) hinv) | (rw [show mbtS o (f, e) L[i] = (f, e) from if_neg (by omega)] at hinv; exact ih (i + 1) _ _ (by omega) (by omega) (by omega) hinv)
          · refine x_iload_n hM dX5_metersBetween_30 rfl rfl ?_
            refine x_bipush hM dX5_metersBetween_31 rfl ?_
            refine x_icmp_ne (tgt := 48) hM dX5_metersBetween_33 (by decide) (by omega) (by omega) (fun c_33 => ?_) (fun c_33 => ?_)
            · refine x_iload_n hM dX5_metersBetween_48 rfl rfl ?_
              refine x_istore_n hM dX5_metersBetween_49 rfl rfl (Nat.le_of_ble_eq_true rfl) rfl ?_
              refine x_aload_n hM dX5_metersBetween_50 rfl rfl ?_
              refine x_iload hM dX5_metersBetween_51 rfl ?_
              refine x_callV hM wv_X5_59 (m_X5_endOf (by assumption) (by omega)) ⟨Nat.le_of_ble_eq_true rfl, Nat.le_of_ble_eq_true rfl⟩ (by first | assumption | exact str_o (by assumption) | exact str_a (by assumption)) rfl rfl rfl rfl (Nat.le_of_ble_eq_true rfl) ⟨Nat.le_of_ble_eq_true rfl, Nat.le_of_ble_eq_true rfl⟩ dX5_metersBetween_53 (k_rI ?_)
              rw [e4]
              refine x_istore_n hM dX5_metersBetween_56 rfl rfl (Nat.le_of_ble_eq_true rfl) rfl ?_
              refine x_iinc hM dX5_metersBetween_57 rfl rfl rfl ?_
              refine x_goto (tgt := 8) hM dX5_metersBetween_60 (by decide) ?_
              first | (rw [show mbtS o (f, e) L[i] = (fs i, L[i].2.2) from by unfold mbtS; rw [if_pos (by omega), if_pos (by assumption), e2]] at hinv; exact ih (i + 1) _ _ (by omega) (by omega) (by omega) hinv) | (rw [show mbtS o (f, e) L[i] = (f, L[i].2.2) from by unfold mbtS; rw [if_pos (by omega), if_neg (by assumption)]] at hinv; exact ih (i + 1) _ _ (by omega) (by omega) (by omega) hinv) | (rw [show mbtS o (f, e) L[i] = (f, e) from if_neg (by omega)] at hinv; exact ih (i + 1) _ _ (by omega) (by omega) (by omega) hinv)
            · refine x_aload_n hM dX5_metersBetween_36 rfl rfl ?_
              refine x_get hM wf_X5_20 wl_X5 (by first | assumption | exact str_o (by assumption) | exact str_a (by assumption)) rfl dX5_metersBetween_37 ?_
              refine x_iload hM dX5_metersBetween_40 rfl ?_
              refine x_callV hM wv_X5_43 (m_X4_at (by first | assumption | exact sr1 (by assumption) | exact sr2 (by assumption) | exact sr3 (by assumption) | exact sr4 (by assumption) | exact sr5 (by assumption) | exact rg1 (by assumption) | exact rg2 (by assumption) | exact rg3 (by assumption)) (by omega)) ⟨Nat.le_of_ble_eq_true rfl, Nat.le_of_ble_eq_true rfl⟩ (by first | assumption | exact row_o (by first | assumption | exact sr1 (by assumption) | exact sr2 (by assumption) | exact sr3 (by assumption) | exact sr4 (by assumption) | exact sr5 (by assumption) | exact rg1 (by assumption) | exact rg2 (by assumption) | exact rg3 (by assumption))) rfl rfl rfl rfl (Nat.le_of_ble_eq_true rfl) ⟨Nat.le_of_ble_eq_true rfl, Nat.le_of_ble_eq_true rfl⟩ dX5_metersBetween_42 (k_rI ?_)
              refine x_goto (tgt := 49) hM dX5_metersBetween_45 (by decide) ?_
              refine x_istore_n hM dX5_metersBetween_49 rfl rfl (Nat.le_of_ble_eq_true rfl) rfl ?_
              refine x_aload_n hM dX5_metersBetween_50 rfl rfl ?_
              refine x_iload hM dX5_metersBetween_51 rfl ?_
              refine x_callV hM wv_X5_59 (m_X5_endOf (by assumption) (by omega)) ⟨Nat.le_of_ble_eq_true rfl, Nat.le_of_ble_eq_true rfl⟩ (by first | assumption | exact str_o (by assumption) | exact str_a (by assumption)) rfl rfl rfl rfl (Nat.le_of_ble_eq_true rfl) ⟨Nat.le_of_ble_eq_true rfl, Nat.le_of_ble_eq_true rfl⟩ dX5_metersBetween_53 (k_rI ?_)
              rw [e4]
              refine x_istore_n hM dX5_metersBetween_56 rfl rfl (Nat.le_of_ble_eq_true rfl) rfl ?_
              refine x_iinc hM dX5_metersBetween_57 rfl rfl rfl ?_
              refine x_goto (tgt := 8) hM dX5_metersBetween_60 (by decide) ?_
              first | (rw [show mbtS o (f, e) L[i] = (fs i, L[i].2.2) from by unfold mbtS; rw [if_pos (by omega), if_pos (by assumption), e2]] at hinv; exact ih (i + 1) _ _ (by omega) (by omega) (by omega) hinv) | (rw [show mbtS o (f, e) L[i] = (f, L[i].2.2) from by unfold mbtS; rw [if_pos (by omega), if_neg (by assumption)]] at hinv; exact ih (i + 1) _ _ (by omega) (by omega) (by omega) hinv) | (rw [show mbtS o (f, e) L[i] = (f, e) from if_neg (by omega)] at hinv; exact ih (i + 1) _ _ (by omega) (by omega) (by omega) hinv)
      · have hfin : mbtF L o = if f = -6 then 0 else e - f - mtsO L o := by
          unfold mbtF
          rw [← hinv, drop_foldE _ _ (by omega)]
        refine x_iload hM dX5_metersBetween_8 rfl ?_
        refine x_aload_n hM dX5_metersBetween_10 rfl rfl ?_
        refine x_get hM wf_X5_36 wl_X5 (by first | assumption | exact str_o (by assumption) | exact str_a (by assumption)) rfl dX5_metersBetween_11 ?_
        refine x_icmp_ge (tgt := 63) hM dX5_metersBetween_14 (by decide) (by omega) (by omega) (fun c_14 => ?_) (fun c_14 => ?_)
        · refine x_iload_n hM dX5_metersBetween_63 rfl rfl ?_
          refine x_bipush hM dX5_metersBetween_64 rfl ?_
          refine x_icmp_ne (tgt := 73) hM dX5_metersBetween_66 (by decide) (by omega) (by omega) (fun c_66 => ?_) (fun c_66 => ?_)
          · refine x_iload_n hM dX5_metersBetween_73 rfl rfl ?_
            refine x_iload_n hM dX5_metersBetween_74 rfl rfl ?_
            refine x_isub hM dX5_metersBetween_75 ?_
            refine x_aload_n hM dX5_metersBetween_76 rfl rfl ?_
            refine x_get hM wf_X5_29 wl_X5 (by first | assumption | exact str_o (by assumption) | exact str_a (by assumption)) rfl dX5_metersBetween_77 ?_
            refine x_iload_n hM dX5_metersBetween_80 rfl rfl ?_
            refine x_callV hM wv_X5_43 (m_X4_at (by first | assumption | exact sr1 (by assumption) | exact sr2 (by assumption) | exact sr3 (by assumption) | exact sr4 (by assumption) | exact sr5 (by assumption) | exact rg1 (by assumption) | exact rg2 (by assumption) | exact rg3 (by assumption)) (by omega)) ⟨Nat.le_of_ble_eq_true rfl, Nat.le_of_ble_eq_true rfl⟩ (by first | assumption | exact row_o (by first | assumption | exact sr1 (by assumption) | exact sr2 (by assumption) | exact sr3 (by assumption) | exact sr4 (by assumption) | exact sr5 (by assumption) | exact rg1 (by assumption) | exact rg2 (by assumption) | exact rg3 (by assumption))) rfl rfl rfl rfl (Nat.le_of_ble_eq_true rfl) ⟨Nat.le_of_ble_eq_true rfl, Nat.le_of_ble_eq_true rfl⟩ dX5_metersBetween_81 (k_rI ?_)
            refine x_isub hM dX5_metersBetween_84 ?_
            refine hR.i dX5_metersBetween_85 (Nat.zero_le _) (Nat.zero_le _) ?_
            exact p_rI (by rw [hfin]; first | rw [if_pos (by assumption)] | (rw [if_neg (by assumption), hm]))
          · refine x_iconst hM dX5_metersBetween_69 ?_
            refine x_goto (tgt := 85) hM dX5_metersBetween_70 (by decide) ?_
            refine hR.i dX5_metersBetween_85 (Nat.zero_le _) (Nat.zero_le _) ?_
            exact p_rI (by rw [hfin]; first | rw [if_pos (by assumption)] | (rw [if_neg (by assumption), hm]))
        · exfalso; omega
  refine x_bipush hM dX5_metersBetween_0 rfl ?_
  refine x_istore_n hM dX5_metersBetween_2 rfl rfl (Nat.le_of_ble_eq_true rfl) rfl ?_
  refine x_iconst hM dX5_metersBetween_3 ?_
  refine x_istore_n hM dX5_metersBetween_4 rfl rfl (Nat.le_of_ble_eq_true rfl) rfl ?_
  refine x_iconst hM dX5_metersBetween_5 ?_
  refine x_istore hM dX5_metersBetween_6 rfl (Nat.le_of_ble_eq_true rfl) rfl ?_
  exact K (L.length + 1) 0 _ _ (by omega) (by omega) (by omega) rfl
/-- gaps: before each range, and behind the last one: (first meter, length), from p on -/
def gapL : Int → List Sg → List (Int × Int)
  | p, [] => [(p, 10000 - p)]
  | p, s :: t => (p, s.2.1 - p) :: gapL s.2.2 t
def gapP (L : List Sg) (i : Nat) : Int := match i with
  | 0 => 0
  | j + 1 => match L[j]? with
    | some s => s.2.2
    | none => 0
theorem gapL_len (L : List Sg) (p : Int) : (gapL p L).length = L.length + 1 := by
  induction L generalizing p with
  | nil => rfl
  | cons s t ih => simp only [gapL, List.length_cons, ih]
theorem gapP_b {L : List Sg} (h : strW L) (i : Nat) : 0 ≤ gapP L i ∧ gapP L i ≤ 10000 := by
  cases i with
  | zero => simp [gapP]
  | succ j =>
    simp only [gapP]
    cases h1 : L[j]? with
    | none => simp
    | some s =>
      have := h.2 s (List.mem_of_getElem? h1)
      simp only
      omega
/-- behind gap i -/
def gapE (L : List Sg) (i : Nat) : Int := match L[i]? with
  | some s => s.2.1
  | none => 10000
theorem gapE_b {L : List Sg} (h : strW L) (i : Nat) : 0 ≤ gapE L i ∧ gapE L i ≤ 10000 := by
  unfold gapE
  cases h1 : L[i]? with
  | none => simp
  | some s =>
    have := h.2 s (List.mem_of_getElem? h1)
    simp only
    omega
theorem gapL_at (L : List Sg) : ∀ i : Nat, i ≤ L.length → ∃ p, gapP L i = p ∧ (gapL 0 L).drop i = gapL p (L.drop i) := by
  intro i
  induction i with
  | zero => intro _; exact ⟨0, rfl, rfl⟩
  | succ i ih =>
    intro hi
    obtain ⟨p, h1, h2⟩ := ih (by omega)
    refine ⟨L[i].2.2, by simp [gapP, List.getElem?_eq_getElem (show i < L.length by omega)], ?_⟩
    rw [← List.drop_drop, h2, List.drop_eq_getElem_cons (show i < L.length by omega)]
    rfl
theorem gapL_drop {L : List Sg} {i : Nat} (hi : i ≤ L.length) : (gapL 0 L).drop i = (gapP L i, gapE L i - gapP L i) :: (gapL 0 L).drop (i + 1) := by
  obtain ⟨p, h1, h2⟩ := gapL_at L i hi
  rw [← List.drop_drop, h2, h1]
  unfold gapE
  by_cases hlt : i < L.length
  · rw [List.drop_eq_getElem_cons hlt, List.getElem?_eq_getElem hlt]
    rfl
  · rw [List.getElem?_eq_none (by omega), List.drop_of_length_le (by omega)]
    rfl
theorem m_X5_startOfGap {l : Launch} {G : xG} {w : Wd} {z a i : Nat} {L : List Sg} (h1 : strA G w a L) (hi : i ≤ L.length) : xMet l G yX5_startOfGap cX5_startOfGap 2 (some .int) ({ frames := 1, cells := 0, slots := 0, locals := 21 } : Room) [.ref a, .int (iI i)] w z (rI (gapP L i) w z) := by
  have h0 := h1
  obtain ⟨hW, fo, fs, fl, fr, fm, hs, hL⟩ := h1
  have hW1 := hW.1
  refine xMet_of RX5 rfl (by decide +kernel) false (by decide +kernel) (Nat.le_of_ble_eq_true rfl) rfl ?_
  intro P hM hR
  cases i with
  | zero =>
    refine x_iload_n hM dX5_startOfGap_0 rfl rfl ?_
    refine x_if_le (tgt := 28) hM dX5_startOfGap_1 (by decide) (by omega) (fun c_1 => ?_) (fun c_1 => ?_)
    · refine x_iconst hM dX5_startOfGap_28 ?_
      refine hR.i dX5_startOfGap_29 (Nat.zero_le _) (Nat.zero_le _) ?_
      exact p_rI rfl
    · exfalso; omega
  | succ j =>
    have hj := hL.1 j (by omega)
    have e : gapP L (j + 1) = L[j].2.2 := by simp [gapP, List.getElem?_eq_getElem (show j < L.length by omega)]
    have e4 : fs j + fl j = L[j].2.2 := by omega
    have e5 : ((j + 1 : Nat) : Int) - 1 = j := by omega
    refine x_iload_n hM dX5_startOfGap_0 rfl rfl ?_
    refine x_if_le (tgt := 28) hM dX5_startOfGap_1 (by decide) (by omega) (fun c_1 => ?_) (fun c_1 => ?_)
    · exfalso; omega
    · refine x_aload_n hM dX5_startOfGap_4 rfl rfl ?_
      refine x_get hM wf_X5_20 wl_X5 (by first | assumption | exact str_o (by assumption) | exact str_a (by assumption)) rfl dX5_startOfGap_5 ?_
      refine x_iload_n hM dX5_startOfGap_8 rfl rfl ?_
      refine x_iconst hM dX5_startOfGap_9 ?_
      refine x_isub hM dX5_startOfGap_10 ?_
      rw [e5]
      refine x_callV hM wv_X5_43 (m_X4_at (by first | assumption | exact sr1 (by assumption) | exact sr2 (by assumption) | exact sr3 (by assumption) | exact sr4 (by assumption) | exact sr5 (by assumption) | exact rg1 (by assumption) | exact rg2 (by assumption) | exact rg3 (by assumption)) (by omega)) ⟨Nat.le_of_ble_eq_true rfl, Nat.le_of_ble_eq_true rfl⟩ (by first | assumption | exact row_o (by first | assumption | exact sr1 (by assumption) | exact sr2 (by assumption) | exact sr3 (by assumption) | exact sr4 (by assumption) | exact sr5 (by assumption) | exact rg1 (by assumption) | exact rg2 (by assumption) | exact rg3 (by assumption))) rfl rfl rfl rfl (Nat.le_of_ble_eq_true rfl) ⟨Nat.le_of_ble_eq_true rfl, Nat.le_of_ble_eq_true rfl⟩ dX5_startOfGap_11 (k_rI ?_)
      refine x_aload_n hM dX5_startOfGap_14 rfl rfl ?_
      refine x_get hM wf_X5_23 wl_X5 (by first | assumption | exact str_o (by assumption) | exact str_a (by assumption)) rfl dX5_startOfGap_15 ?_
      refine x_iload_n hM dX5_startOfGap_18 rfl rfl ?_
      refine x_iconst hM dX5_startOfGap_19 ?_
      refine x_isub hM dX5_startOfGap_20 ?_
      rw [e5]
      refine x_callV hM wv_X5_43 (m_X4_at (by first | assumption | exact sr1 (by assumption) | exact sr2 (by assumption) | exact sr3 (by assumption) | exact sr4 (by assumption) | exact sr5 (by assumption) | exact rg1 (by assumption) | exact rg2 (by assumption) | exact rg3 (by assumption)) (by omega)) ⟨Nat.le_of_ble_eq_true rfl, Nat.le_of_ble_eq_true rfl⟩ (by first | assumption | exact row_o (by first | assumption | exact sr1 (by assumption) | exact sr2 (by assumption) | exact sr3 (by assumption) | exact sr4 (by assumption) | exact sr5 (by assumption) | exact rg1 (by assumption) | exact rg2 (by assumption) | exact rg3 (by assumption))) rfl rfl rfl rfl (Nat.le_of_ble_eq_true rfl) ⟨Nat.le_of_ble_eq_true rfl, Nat.le_of_ble_eq_true rfl⟩ dX5_startOfGap_21 (k_rI ?_)
      refine x_iadd hM dX5_startOfGap_24 ?_
      refine x_goto (tgt := 29) hM dX5_startOfGap_25 (by decide) ?_
      refine hR.i dX5_startOfGap_29 (Nat.zero_le _) (Nat.zero_le _) ?_
      exact p_rI (by rw [e, e4])
theorem m_X5_lengthOfGap {l : Launch} {G : xG} {w : Wd} {z a i : Nat} {L : List Sg} (h1 : strA G w a L) (hi : i ≤ L.length) : xMet l G yX5_lengthOfGap cX5_lengthOfGap 2 (some .int) ({ frames := 2, cells := 0, slots := 0, locals := 42 } : Room) [.ref a, .int (iI i)] w z (rI (gapE L i - gapP L i) w z) := by
  have h0 := h1
  obtain ⟨hW, fo, fs, fl, fr, fm, hs, hL⟩ := h1
  have hW1 := hW.1
  refine xMet_of RX5 rfl (by decide +kernel) false (by decide +kernel) (Nat.le_of_ble_eq_true rfl) rfl ?_
  intro P hM hR
  by_cases hlt : i < L.length
  · obtain ⟨e1, e2, e3⟩ := hL.1 i hlt
    have e : gapE L i = fs i := by unfold gapE; rw [List.getElem?_eq_getElem hlt, e2]
    refine x_iload_n hM dX5_lengthOfGap_0 rfl rfl ?_
    refine x_aload_n hM dX5_lengthOfGap_1 rfl rfl ?_
    refine x_get hM wf_X5_36 wl_X5 (by first | assumption | exact str_o (by assumption) | exact str_a (by assumption)) rfl dX5_lengthOfGap_2 ?_
    refine x_icmp_ge (tgt := 19) hM dX5_lengthOfGap_5 (by decide) (by omega) (by omega) (fun c_5 => ?_) (fun c_5 => ?_)
    · exfalso; omega
    · refine x_aload_n hM dX5_lengthOfGap_8 rfl rfl ?_
      refine x_get hM wf_X5_20 wl_X5 (by first | assumption | exact str_o (by assumption) | exact str_a (by assumption)) rfl dX5_lengthOfGap_9 ?_
      refine x_iload_n hM dX5_lengthOfGap_12 rfl rfl ?_
      refine x_callV hM wv_X5_43 (m_X4_at (by first | assumption | exact sr1 (by assumption) | exact sr2 (by assumption) | exact sr3 (by assumption) | exact sr4 (by assumption) | exact sr5 (by assumption) | exact rg1 (by assumption) | exact rg2 (by assumption) | exact rg3 (by assumption)) (by omega)) ⟨Nat.le_of_ble_eq_true rfl, Nat.le_of_ble_eq_true rfl⟩ (by first | assumption | exact row_o (by first | assumption | exact sr1 (by assumption) | exact sr2 (by assumption) | exact sr3 (by assumption) | exact sr4 (by assumption) | exact sr5 (by assumption) | exact rg1 (by assumption) | exact rg2 (by assumption) | exact rg3 (by assumption))) rfl rfl rfl rfl (Nat.le_of_ble_eq_true rfl) ⟨Nat.le_of_ble_eq_true rfl, Nat.le_of_ble_eq_true rfl⟩ dX5_lengthOfGap_13 (k_rI ?_)
      refine x_goto (tgt := 22) hM dX5_lengthOfGap_16 (by decide) ?_
      refine x_aload_n hM dX5_lengthOfGap_22 rfl rfl ?_
      refine x_iload_n hM dX5_lengthOfGap_23 rfl rfl ?_
      refine x_callV hM wv_X5_94 (m_X5_startOfGap (by assumption) (by omega)) ⟨Nat.le_of_ble_eq_true rfl, Nat.le_of_ble_eq_true rfl⟩ (by first | assumption | exact str_o (by assumption) | exact str_a (by assumption)) rfl rfl rfl rfl (Nat.le_of_ble_eq_true rfl) ⟨Nat.le_of_ble_eq_true rfl, Nat.le_of_ble_eq_true rfl⟩ dX5_lengthOfGap_24 (k_rI ?_)
      refine x_isub hM dX5_lengthOfGap_27 ?_
      refine hR.i dX5_lengthOfGap_28 (Nat.zero_le _) (Nat.zero_le _) ?_
      exact p_rI (by rw [e])
  · have e : gapE L i = 10000 := by unfold gapE; rw [List.getElem?_eq_none (by omega)]
    refine x_iload_n hM dX5_lengthOfGap_0 rfl rfl ?_
    refine x_aload_n hM dX5_lengthOfGap_1 rfl rfl ?_
    refine x_get hM wf_X5_36 wl_X5 (by first | assumption | exact str_o (by assumption) | exact str_a (by assumption)) rfl dX5_lengthOfGap_2 ?_
    refine x_icmp_ge (tgt := 19) hM dX5_lengthOfGap_5 (by decide) (by omega) (by omega) (fun c_5 => ?_) (fun c_5 => ?_)
    · refine x_sipush hM dX5_lengthOfGap_19 rfl ?_
      refine x_aload_n hM dX5_lengthOfGap_22 rfl rfl ?_
      refine x_iload_n hM dX5_lengthOfGap_23 rfl rfl ?_
      refine x_callV hM wv_X5_94 (m_X5_startOfGap (by assumption) (by omega)) ⟨Nat.le_of_ble_eq_true rfl, Nat.le_of_ble_eq_true rfl⟩ (by first | assumption | exact str_o (by assumption) | exact str_a (by assumption)) rfl rfl rfl rfl (Nat.le_of_ble_eq_true rfl) ⟨Nat.le_of_ble_eq_true rfl, Nat.le_of_ble_eq_true rfl⟩ dX5_lengthOfGap_24 (k_rI ?_)
      refine x_isub hM dX5_lengthOfGap_27 ?_
      refine hR.i dX5_lengthOfGap_28 (Nat.zero_le _) (Nat.zero_le _) ?_
      exact p_rI (by rw [e])
    · exfalso; omega
theorem gap_fold {β : Type} (f : β → Int × Int → β) {L : List Sg} {i : Nat} (h : i ≤ L.length) (c : β) : ((gapL 0 L).drop i).foldl f c = ((gapL 0 L).drop (i + 1)).foldl f (f c (gapP L i, gapE L i - gapP L i)) := by
  rw [gapL_drop h]; rfl
theorem gap_foldE {β : Type} (f : β → Int × Int → β) {L : List Sg} {i : Nat} (h : i = L.length + 1) (c : β) : ((gapL 0 L).drop i).foldl f c = c := by
  rw [List.drop_of_length_le (by rw [gapL_len]; omega)]; rfl
def holS (c : Int) (g : Int × Int) : Int := if 0 < g.2 then c + 1 else c
def holF (L : List Sg) : Int := (gapL 0 L).foldl holS 0
theorem m_X5_holes {l : Launch} {G : xG} {w : Wd} {z a : Nat} {L : List Sg} (h1 : strA G w a L) : xMet l G yX5_holes cX5_holes 3 (some .int) ({ frames := 3, cells := 0, slots := 0, locals := 63 } : Room) [.ref a] w z (rI (holF L) w z) := by
  have h0 := h1
  obtain ⟨hW, fo, fs, fl, fr, fm, hs, hL⟩ := h1
  have hW1 := hW.1
  refine xMet_of RX5 rfl (by decide +kernel) false (by decide +kernel) (Nat.le_of_ble_eq_true rfl) rfl ?_
  intro P hM hR
  have K : ∀ (k i : Nat) (c : Int), L.length + 1 - i < k → i ≤ L.length + 1 → ((gapL 0 L).drop i).foldl holS c = holF L → P 4 [some (.ref a), some (.int (iI c)), some (.int (iI i))] [] w (z, 0, 0) := by
    intro k
    induction k with
    | zero => intro i c hk; omega
    | succ k ih =>
      intro i c hk hi hinv
      by_cases hlt : i < L.length + 1
      · have b1 := gapP_b hW i
        have b2 := gapE_b hW i
        rw [gap_fold _ (by omega)] at hinv
        refine x_iload_n hM dX5_holes_4 rfl rfl ?_
        refine x_aload_n hM dX5_holes_5 rfl rfl ?_
        refine x_get hM wf_X5_36 wl_X5 (by first | assumption | exact str_o (by assumption) | exact str_a (by assumption)) rfl dX5_holes_6 ?_
        refine x_icmp_gt (tgt := 29) hM dX5_holes_9 (by decide) (by omega) (by omega) (fun c_9 => ?_) (fun c_9 => ?_)
        · exfalso; omega
        · refine x_aload_n hM dX5_holes_12 rfl rfl ?_
          refine x_iload_n hM dX5_holes_13 rfl rfl ?_
          refine x_callV hM wv_X5_97 (m_X5_lengthOfGap (i := i) (by assumption) (by omega)) ⟨Nat.le_of_ble_eq_true rfl, Nat.le_of_ble_eq_true rfl⟩ (by first | assumption | exact str_o (by assumption) | exact str_a (by assumption)) rfl rfl rfl rfl (Nat.le_of_ble_eq_true rfl) ⟨Nat.le_of_ble_eq_true rfl, Nat.le_of_ble_eq_true rfl⟩ dX5_holes_14 (k_rI ?_)
          refine x_if_le (tgt := 23) hM dX5_holes_17 (by decide) (by omega) (fun c_17 => ?_) (fun c_17 => ?_)
          · refine x_iinc hM dX5_holes_23 rfl rfl rfl ?_
            refine x_goto (tgt := 4) hM dX5_holes_26 (by decide) ?_
            exact ih (i + 1) _ (by omega) (by omega) (by rw [← hinv]; first | rw [show holS c (gapP L i, gapE L i - gapP L i) = _ from if_pos (by assumption)] | rw [show holS c (gapP L i, gapE L i - gapP L i) = _ from if_neg (by omega)])
          · refine x_iinc hM dX5_holes_20 rfl rfl rfl ?_
            refine x_iinc hM dX5_holes_23 rfl rfl rfl ?_
            refine x_goto (tgt := 4) hM dX5_holes_26 (by decide) ?_
            exact ih (i + 1) _ (by omega) (by omega) (by rw [← hinv]; first | rw [show holS c (gapP L i, gapE L i - gapP L i) = _ from if_pos (by assumption)] | rw [show holS c (gapP L i, gapE L i - gapP L i) = _ from if_neg (by omega)])
      · skip
        refine x_iload_n hM dX5_holes_4 rfl rfl ?_
        refine x_aload_n hM dX5_holes_5 rfl rfl ?_
        refine x_get hM wf_X5_36 wl_X5 (by first | assumption | exact str_o (by assumption) | exact str_a (by assumption)) rfl dX5_holes_6 ?_
        refine x_icmp_gt (tgt := 29) hM dX5_holes_9 (by decide) (by omega) (by omega) (fun c_9 => ?_) (fun c_9 => ?_)
        · refine x_iload_n hM dX5_holes_29 rfl rfl ?_
          refine hR.i dX5_holes_30 (Nat.zero_le _) (Nat.zero_le _) ?_
          exact p_rI (by rw [← hinv, gap_foldE _ (by omega)])
        · exfalso; omega
  refine x_iconst hM dX5_holes_0 ?_
  refine x_istore_n hM dX5_holes_1 rfl rfl (Nat.le_of_ble_eq_true rfl) rfl ?_
  refine x_iconst hM dX5_holes_2 ?_
  refine x_istore_n hM dX5_holes_3 rfl rfl (Nat.le_of_ble_eq_true rfl) rfl ?_
  exact K (L.length + 2) 0 0 (by omega) (by omega) rfl
def lghS (c : Int) (g : Int × Int) : Int := if c < g.2 then g.2 else c
def lghF (L : List Sg) : Int := (gapL 0 L).foldl lghS 0
theorem m_X5_longestHole {l : Launch} {G : xG} {w : Wd} {z a : Nat} {L : List Sg} (h1 : strA G w a L) : xMet l G yX5_longestHole cX5_longestHole 3 (some .int) ({ frames := 3, cells := 0, slots := 0, locals := 63 } : Room) [.ref a] w z (rI (lghF L) w z) := by
  have h0 := h1
  obtain ⟨hW, fo, fs, fl, fr, fm, hs, hL⟩ := h1
  have hW1 := hW.1
  refine xMet_of RX5 rfl (by decide +kernel) false (by decide +kernel) (Nat.le_of_ble_eq_true rfl) rfl ?_
  intro P hM hR
  have K : ∀ (k i : Nat) (c : Int), L.length + 1 - i < k → i ≤ L.length + 1 → 0 ≤ c ∧ c ≤ 10000 → ((gapL 0 L).drop i).foldl lghS c = lghF L → P 4 [some (.ref a), some (.int (iI c)), some (.int (iI i))] [] w (z, 0, 0) := by
    intro k
    induction k with
    | zero => intro i c hk; omega
    | succ k ih =>
      intro i c hk hi hc hinv
      by_cases hlt : i < L.length + 1
      · have b1 := gapP_b hW i
        have b2 := gapE_b hW i
        rw [gap_fold _ (by omega)] at hinv
        refine x_iload_n hM dX5_longestHole_4 rfl rfl ?_
        refine x_aload_n hM dX5_longestHole_5 rfl rfl ?_
        refine x_get hM wf_X5_36 wl_X5 (by first | assumption | exact str_o (by assumption) | exact str_a (by assumption)) rfl dX5_longestHole_6 ?_
        refine x_icmp_gt (tgt := 28) hM dX5_longestHole_9 (by decide) (by omega) (by omega) (fun c_9 => ?_) (fun c_9 => ?_)
        · exfalso; omega
        · refine x_iload_n hM dX5_longestHole_12 rfl rfl ?_
          refine x_aload_n hM dX5_longestHole_13 rfl rfl ?_
          refine x_iload_n hM dX5_longestHole_14 rfl rfl ?_
          refine x_callV hM wv_X5_97 (m_X5_lengthOfGap (i := i) (by assumption) (by omega)) ⟨Nat.le_of_ble_eq_true rfl, Nat.le_of_ble_eq_true rfl⟩ (by first | assumption | exact str_o (by assumption) | exact str_a (by assumption)) rfl rfl rfl rfl (Nat.le_of_ble_eq_true rfl) ⟨Nat.le_of_ble_eq_true rfl, Nat.le_of_ble_eq_true rfl⟩ dX5_longestHole_15 (k_rI ?_)
          refine x_max hM wm_X5_72 (by omega) (by omega) (Nat.le_of_ble_eq_true rfl) (Nat.le_of_ble_eq_true rfl) ⟨Nat.le_of_ble_eq_true rfl, Nat.le_of_ble_eq_true rfl⟩ dX5_longestHole_18 ?_
          refine x_istore_n hM dX5_longestHole_21 rfl rfl (Nat.le_of_ble_eq_true rfl) rfl ?_
          refine x_iinc hM dX5_longestHole_22 rfl rfl rfl ?_
          refine x_goto (tgt := 4) hM dX5_longestHole_25 (by decide) ?_
          exact ih (i + 1) _ (by omega) (by omega) (by omega) hinv
      · skip
        refine x_iload_n hM dX5_longestHole_4 rfl rfl ?_
        refine x_aload_n hM dX5_longestHole_5 rfl rfl ?_
        refine x_get hM wf_X5_36 wl_X5 (by first | assumption | exact str_o (by assumption) | exact str_a (by assumption)) rfl dX5_longestHole_6 ?_
        refine x_icmp_gt (tgt := 28) hM dX5_longestHole_9 (by decide) (by omega) (by omega) (fun c_9 => ?_) (fun c_9 => ?_)
        · refine x_iload_n hM dX5_longestHole_28 rfl rfl ?_
          refine hR.i dX5_longestHole_29 (Nat.zero_le _) (Nat.zero_le _) ?_
          exact p_rI (by rw [← hinv, gap_foldE _ (by omega)])
        · exfalso; omega
  refine x_iconst hM dX5_longestHole_0 ?_
  refine x_istore_n hM dX5_longestHole_1 rfl rfl (Nat.le_of_ble_eq_true rfl) rfl ?_
  refine x_iconst hM dX5_longestHole_2 ?_
  refine x_istore_n hM dX5_longestHole_3 rfl rfl (Nat.le_of_ble_eq_true rfl) rfl ?_
  exact K (L.length + 2) 0 0 (by omega) (by omega) (by omega) rfl
theorem m_X5_isBetter {l : Launch} {G : xG} {w : Wd} {z : Nat} {x y h : Int} (hx : iR x) (hy : iR y) (hh : iR h) : xMet l G yX5_isBetter cX5_isBetter 3 (some .boolean) ({ frames := 0, cells := 0, slots := 0, locals := 0 } : Room) [.int (iI x), .int (iI y), .int (iI h)] w z (rI (if (h = 1 ∧ x < y) ∨ (h = 2 ∧ y < x) then 1 else 0) w z) := by
  refine xMet_of RX5 rfl (by decide +kernel) false (by decide +kernel) (Nat.le_of_ble_eq_true rfl) rfl ?_
  intro P hM hR
  refine x_iload_n hM dX5_isBetter_0 rfl rfl ?_
  refine x_iconst hM dX5_isBetter_1 ?_
  refine x_icmp_ne (tgt := 10) hM dX5_isBetter_2 (by decide) (by omega) (by omega) (fun c_2 => ?_) (fun c_2 => ?_)
  · refine x_iload_n hM dX5_isBetter_10 rfl rfl ?_
    refine x_iconst hM dX5_isBetter_11 ?_
    refine x_icmp_ne (tgt := 24) hM dX5_isBetter_12 (by decide) (by omega) (by omega) (fun c_12 => ?_) (fun c_12 => ?_)
    · refine x_iconst hM dX5_isBetter_24 ?_
      refine hR.b dX5_isBetter_25 rfl (Nat.zero_le _) (Nat.zero_le _) ?_
      exact p_rI (by first | (exfalso; omega) | rw [if_pos (by omega)] | rw [if_neg (by omega)])
    · refine x_iload_n hM dX5_isBetter_15 rfl rfl ?_
      refine x_iload_n hM dX5_isBetter_16 rfl rfl ?_
      refine x_icmp_le (tgt := 24) hM dX5_isBetter_17 (by decide) (by omega) (by omega) (fun c_17 => ?_) (fun c_17 => ?_)
      · refine x_iconst hM dX5_isBetter_24 ?_
        refine hR.b dX5_isBetter_25 rfl (Nat.zero_le _) (Nat.zero_le _) ?_
        exact p_rI (by first | (exfalso; omega) | rw [if_pos (by omega)] | rw [if_neg (by omega)])
      · refine x_iconst hM dX5_isBetter_20 ?_
        refine x_goto (tgt := 25) hM dX5_isBetter_21 (by decide) ?_
        refine hR.b dX5_isBetter_25 rfl (Nat.zero_le _) (Nat.zero_le _) ?_
        exact p_rI (by first | (exfalso; omega) | rw [if_pos (by omega)] | rw [if_neg (by omega)])
  · refine x_iload_n hM dX5_isBetter_5 rfl rfl ?_
    refine x_iload_n hM dX5_isBetter_6 rfl rfl ?_
    refine x_icmp_lt (tgt := 20) hM dX5_isBetter_7 (by decide) (by omega) (by omega) (fun c_7 => ?_) (fun c_7 => ?_)
    · refine x_iconst hM dX5_isBetter_20 ?_
      refine x_goto (tgt := 25) hM dX5_isBetter_21 (by decide) ?_
      refine hR.b dX5_isBetter_25 rfl (Nat.zero_le _) (Nat.zero_le _) ?_
      exact p_rI (by first | (exfalso; omega) | rw [if_pos (by omega)] | rw [if_neg (by omega)])
    · refine x_iload_n hM dX5_isBetter_10 rfl rfl ?_
      refine x_iconst hM dX5_isBetter_11 ?_
      refine x_icmp_ne (tgt := 24) hM dX5_isBetter_12 (by decide) (by omega) (by omega) (fun c_12 => ?_) (fun c_12 => ?_)
      · refine x_iconst hM dX5_isBetter_24 ?_
        refine hR.b dX5_isBetter_25 rfl (Nat.zero_le _) (Nat.zero_le _) ?_
        exact p_rI (by first | (exfalso; omega) | rw [if_pos (by omega)] | rw [if_neg (by omega)])
      · refine x_iload_n hM dX5_isBetter_15 rfl rfl ?_
        refine x_iload_n hM dX5_isBetter_16 rfl rfl ?_
        refine x_icmp_le (tgt := 24) hM dX5_isBetter_17 (by decide) (by omega) (by omega) (fun c_17 => ?_) (fun c_17 => ?_)
        · refine x_iconst hM dX5_isBetter_24 ?_
          refine hR.b dX5_isBetter_25 rfl (Nat.zero_le _) (Nat.zero_le _) ?_
          exact p_rI (by first | (exfalso; omega) | rw [if_pos (by omega)] | rw [if_neg (by omega)])
        · refine x_iconst hM dX5_isBetter_20 ?_
          refine x_goto (tgt := 25) hM dX5_isBetter_21 (by decide) ?_
          refine hR.b dX5_isBetter_25 rfl (Nat.zero_le _) (Nat.zero_le _) ?_
          exact p_rI (by first | (exfalso; omega) | rw [if_pos (by omega)] | rw [if_neg (by omega)])
/-- gapFor: (number of the gap, best one, its length) -/
def gfrS (n h : Int) (c : Int × Int × Int) (g : Int × Int) : Int × Int × Int := if n ≤ g.2 ∧ (c.2.1 = -6 ∨ (h = 1 ∧ g.2 < c.2.2) ∨ (h = 2 ∧ c.2.2 < g.2)) then (c.1 + 1, c.1, g.2) else (c.1 + 1, c.2.1, c.2.2)
def gfrF (L : List Sg) (n h : Int) : Int := ((gapL 0 L).foldl (gfrS n h) (0, -6, 0)).2.1
theorem gfr_b (n h : Int) (M : List (Int × Int)) : ∀ (i b bl : Int), 0 ≤ i → (b = -6 ∨ (0 ≤ b ∧ b < i)) → (M.foldl (gfrS n h) (i, b, bl)).2.1 = -6 ∨ (0 ≤ (M.foldl (gfrS n h) (i, b, bl)).2.1 ∧ (M.foldl (gfrS n h) (i, b, bl)).2.1 < i + M.length) := by
  induction M with
  | nil => intro i b bl h0 hb; simp only [List.foldl_nil, List.length_nil]; omega
  | cons g t ih =>
    intro i b bl h0 hb
    rw [List.foldl_cons, List.length_cons]
    by_cases hc : n ≤ g.2 ∧ (b = -6 ∨ (h = 1 ∧ g.2 < bl) ∨ (h = 2 ∧ bl < g.2))
    · rw [show gfrS n h (i, b, bl) g = (i + 1, i, g.2) from if_pos hc]
      have := ih (i + 1) i g.2 (by omega) (by omega)
      omega
    · rw [show gfrS n h (i, b, bl) g = (i + 1, b, bl) from if_neg hc]
      have := ih (i + 1) b bl (by omega) (by omega)
      omega
theorem gfrF_b (L : List Sg) (n h : Int) : gfrF L n h = -6 ∨ (0 ≤ gfrF L n h ∧ gfrF L n h ≤ L.length) := by
  have := gfr_b n h (gapL 0 L) 0 (-6) 0 (by omega) (by omega)
  rw [gapL_len] at this
  unfold gfrF
  omega
theorem m_X5_gapFor {l : Launch} {G : xG} {w : Wd} {z a : Nat} {L : List Sg} {n h : Int} (h1 : strA G w a L) (hn : iR n) (hh : iR h) : xMet l G yX5_gapFor cX5_gapFor 7 (some .int) ({ frames := 3, cells := 0, slots := 0, locals := 63 } : Room) [.ref a, .int (iI n), .int (iI h)] w z (rI (gfrF L n h) w z) := by
  have h0 := h1
  obtain ⟨hW, fo, fs, fl, fr, fm, hs, hL⟩ := h1
  have hW1 := hW.1
  refine xMet_of RX5 rfl (by decide +kernel) false (by decide +kernel) (Nat.le_of_ble_eq_true rfl) rfl ?_
  intro P hM hR
  have K : ∀ (k i : Nat) (b bl : Int) (x6 : Option Value), L.length + 1 - i < k → i ≤ L.length + 1 → iR b → iR bl → ((gapL 0 L).drop i).foldl (gfrS n h) ((i : Int), b, bl) = (gapL 0 L).foldl (gfrS n h) (0, -6, 0) → P 9 [some (.ref a), some (.int (iI n)), some (.int (iI h)), some (.int (iI b)), some (.int (iI bl)), some (.int (iI i)), x6] [] w (z, 0, 0) := by
    intro k
    induction k with
    | zero => intro i b bl x6 hk; omega
    | succ k ih =>
      intro i b bl x6 hk hi hb hbl hinv
      by_cases hlt : i < L.length + 1
      · have b1 := gapP_b hW i
        have b2 := gapE_b hW i
        rw [gap_fold _ (by omega)] at hinv
        have step1 : n ≤ gapE L i - gapP L i ∧ (b = -6 ∨ (h = 1 ∧ gapE L i - gapP L i < bl) ∨ (h = 2 ∧ bl < gapE L i - gapP L i)) → P 56 [some (.ref a), some (.int (iI n)), some (.int (iI h)), some (.int (iI i)), some (.int (iI (gapE L i - gapP L i))), some (.int (iI i)), some (.int (iI (gapE L i - gapP L i)))] [] w (z, 0, 0) := by
          intro hc
          rw [show gfrS n h ((i : Int), b, bl) (gapP L i, gapE L i - gapP L i) = ((i : Int) + 1, (i : Int), gapE L i - gapP L i) from if_pos hc] at hinv
          refine x_iinc hM dX5_gapFor_56 rfl rfl rfl ?_
          refine x_goto (tgt := 9) hM dX5_gapFor_59 (by decide) ?_
          exact ih (i + 1) _ _ _ (by omega) (by omega) (by omega) (by omega) hinv
        have step2 : ¬ (n ≤ gapE L i - gapP L i ∧ (b = -6 ∨ (h = 1 ∧ gapE L i - gapP L i < bl) ∨ (h = 2 ∧ bl < gapE L i - gapP L i))) → P 56 [some (.ref a), some (.int (iI n)), some (.int (iI h)), some (.int (iI b)), some (.int (iI bl)), some (.int (iI i)), some (.int (iI (gapE L i - gapP L i)))] [] w (z, 0, 0) := by
          intro hc
          rw [show gfrS n h ((i : Int), b, bl) (gapP L i, gapE L i - gapP L i) = ((i : Int) + 1, b, bl) from if_neg hc] at hinv
          refine x_iinc hM dX5_gapFor_56 rfl rfl rfl ?_
          refine x_goto (tgt := 9) hM dX5_gapFor_59 (by decide) ?_
          exact ih (i + 1) _ _ _ (by omega) (by omega) (by omega) (by omega) hinv
        refine x_iload hM dX5_gapFor_9 rfl ?_
        refine x_aload_n hM dX5_gapFor_11 rfl rfl ?_
        refine x_get hM wf_X5_36 wl_X5 (by first | assumption | exact str_o (by assumption) | exact str_a (by assumption)) rfl dX5_gapFor_12 ?_
        refine x_icmp_gt (tgt := 62) hM dX5_gapFor_15 (by decide) (by omega) (by omega) (fun c_15 => ?_) (fun c_15 => ?_)
        · exfalso; omega
        · refine x_aload_n hM dX5_gapFor_18 rfl rfl ?_
          refine x_iload hM dX5_gapFor_19 rfl ?_
          refine x_callV hM wv_X5_97 (m_X5_lengthOfGap (i := i) (by assumption) (by omega)) ⟨Nat.le_of_ble_eq_true rfl, Nat.le_of_ble_eq_true rfl⟩ (by first | assumption | exact str_o (by assumption) | exact str_a (by assumption)) rfl rfl rfl rfl (Nat.le_of_ble_eq_true rfl) ⟨Nat.le_of_ble_eq_true rfl, Nat.le_of_ble_eq_true rfl⟩ dX5_gapFor_21 (k_rI ?_)
          refine x_istore hM dX5_gapFor_24 rfl (Nat.le_of_ble_eq_true rfl) rfl ?_
          refine x_iload hM dX5_gapFor_26 rfl ?_
          refine x_iload_n hM dX5_gapFor_28 rfl rfl ?_
          refine x_icmp_lt (tgt := 56) hM dX5_gapFor_29 (by decide) (by omega) (by omega) (fun c_29 => ?_) (fun c_29 => ?_)
          · first | exact step1 (by omega) | exact step2 (by omega)
          · refine x_iload_n hM dX5_gapFor_32 rfl rfl ?_
            refine x_bipush hM dX5_gapFor_33 rfl ?_
            refine x_icmp_eq (tgt := 49) hM dX5_gapFor_35 (by decide) (by omega) (by omega) (fun c_35 => ?_) (fun c_35 => ?_)
            · refine x_iload hM dX5_gapFor_49 rfl ?_
              refine x_istore_n hM dX5_gapFor_51 rfl rfl (Nat.le_of_ble_eq_true rfl) rfl ?_
              refine x_iload hM dX5_gapFor_52 rfl ?_
              refine x_istore hM dX5_gapFor_54 rfl (Nat.le_of_ble_eq_true rfl) rfl ?_
              first | exact step1 (by omega) | exact step2 (by omega)
            · refine x_iload hM dX5_gapFor_38 rfl ?_
              refine x_iload hM dX5_gapFor_40 rfl ?_
              refine x_iload_n hM dX5_gapFor_42 rfl rfl ?_
              refine x_callS hM ws_X5_100 (m_X5_isBetter (by omega) (by omega) (by omega)) ⟨Nat.le_of_ble_eq_true rfl, Nat.le_of_ble_eq_true rfl⟩ rfl rfl (Nat.le_of_ble_eq_true rfl) ⟨Nat.le_of_ble_eq_true rfl, Nat.le_of_ble_eq_true rfl⟩ dX5_gapFor_43 (k_rI ?_)
              by_cases cb : (h = 1 ∧ gapE L i - gapP L i < bl) ∨ (h = 2 ∧ bl < gapE L i - gapP L i)
              · rw [if_pos cb]
                refine x_if_eq (tgt := 56) hM dX5_gapFor_46 (by decide) (by omega) (fun q => absurd q (by omega)) (fun _ => ?_)
                refine x_iload hM dX5_gapFor_49 rfl ?_
                refine x_istore_n hM dX5_gapFor_51 rfl rfl (Nat.le_of_ble_eq_true rfl) rfl ?_
                refine x_iload hM dX5_gapFor_52 rfl ?_
                refine x_istore hM dX5_gapFor_54 rfl (Nat.le_of_ble_eq_true rfl) rfl ?_
                exact step1 (by omega)
              · rw [if_neg cb]
                refine x_if_eq (tgt := 56) hM dX5_gapFor_46 (by decide) (by omega) (fun _ => ?_) (fun q => absurd rfl q)
                exact step2 (by omega)
              skip
      · skip
        refine x_iload hM dX5_gapFor_9 rfl ?_
        refine x_aload_n hM dX5_gapFor_11 rfl rfl ?_
        refine x_get hM wf_X5_36 wl_X5 (by first | assumption | exact str_o (by assumption) | exact str_a (by assumption)) rfl dX5_gapFor_12 ?_
        refine x_icmp_gt (tgt := 62) hM dX5_gapFor_15 (by decide) (by omega) (by omega) (fun c_15 => ?_) (fun c_15 => ?_)
        · refine x_iload_n hM dX5_gapFor_62 rfl rfl ?_
          refine hR.i dX5_gapFor_63 (Nat.zero_le _) (Nat.zero_le _) ?_
          exact p_rI (by unfold gfrF; rw [← hinv, gap_foldE _ (by omega)])
        · exfalso; omega
  refine x_bipush hM dX5_gapFor_0 rfl ?_
  refine x_istore_n hM dX5_gapFor_2 rfl rfl (Nat.le_of_ble_eq_true rfl) rfl ?_
  refine x_iconst hM dX5_gapFor_3 ?_
  refine x_istore hM dX5_gapFor_4 rfl (Nat.le_of_ble_eq_true rfl) rfl ?_
  refine x_iconst hM dX5_gapFor_6 ?_
  refine x_istore hM dX5_gapFor_7 rfl (Nat.le_of_ble_eq_true rfl) rfl ?_
  exact K (L.length + 2) 0 _ _ _ (by omega) (by omega) (by omega) (by omega) rfl
