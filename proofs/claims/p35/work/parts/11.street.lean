/-! Street -/
def strR (G : xG) (w : Wd) (a : Nat) (n : Int) (fo fs fl fr fm : Int → Int) : Prop :=
  w a = some (.inr (5, [.ref (a + 1), .ref (a + 3), .ref (a + 5), .ref (a + 7), .ref (a + 9), .int (iI n)])) ∧ rowA G w (a + 1) 42 fo ∧ rowA G w (a + 3) 42 fs ∧ rowA G w (a + 5) 42 fl ∧ rowA G w (a + 7) 10 fr ∧ rowA G w (a + 9) 10 fm
section SR
variable {G : xG} {w w1 : Wd} {a : Nat} {n m : Int} {fo fs fl fr fm g : Int → Int} {L : List Sg}
theorem str_o (h : strR G w a n fo fs fl fr fm) : w a = some (.inr (5, [.ref (a + 1), .ref (a + 3), .ref (a + 5), .ref (a + 7), .ref (a + 9), .int (iI n)])) := h.1
theorem sr1 (h : strR G w a n fo fs fl fr fm) : rowA G w (a + 1) 42 fo := h.2.1
theorem sr2 (h : strR G w a n fo fs fl fr fm) : rowA G w (a + 3) 42 fs := h.2.2.1
theorem sr3 (h : strR G w a n fo fs fl fr fm) : rowA G w (a + 5) 42 fl := h.2.2.2.1
theorem sr4 (h : strR G w a n fo fs fl fr fm) : rowA G w (a + 7) 10 fr := h.2.2.2.2.1
theorem sr5 (h : strR G w a n fo fs fl fr fm) : rowA G w (a + 9) 10 fm := h.2.2.2.2.2
theorem strR.kp {lo hi : Nat} (h : strR G w a n fo fs fl fr fm) (r : Fr lo hi w w1) (d : a + 11 ≤ lo ∨ hi ≤ a) : strR G w1 a n fo fs fl fr fm :=
  ⟨(r a (by omega)).trans h.1, h.2.1.kp r (by omega), h.2.2.1.kp r (by omega), h.2.2.2.1.kp r (by omega), h.2.2.2.2.1.kp r (by omega), h.2.2.2.2.2.kp r (by omega)⟩
theorem rowA.wS {h k q : Nat} {e : va_E} {f : Int → Int} (x : rowA G w h k f) (d : q ≠ h ∧ q ≠ h + 1) : rowA G (wS w q e) h k f := ⟨(wS_ne (Ne.symm d.1)).trans x.1, (wS_ne (Ne.symm d.2)).trans x.2⟩
theorem strR.u1 (h : strR G w a n fo fs fl fr fm) : strR G (wS w (a + 1 + 1) (aI G 42 g)) a n g fs fl fr fm :=
  ⟨(wS_ne (by omega)).trans h.1, h.2.1.up, h.2.2.1.wS (by omega), h.2.2.2.1.wS (by omega), h.2.2.2.2.1.wS (by omega), h.2.2.2.2.2.wS (by omega)⟩
theorem strR.u2 (h : strR G w a n fo fs fl fr fm) : strR G (wS w (a + 3 + 1) (aI G 42 g)) a n fo g fl fr fm :=
  ⟨(wS_ne (by omega)).trans h.1, h.2.1.wS (by omega), h.2.2.1.up, h.2.2.2.1.wS (by omega), h.2.2.2.2.1.wS (by omega), h.2.2.2.2.2.wS (by omega)⟩
theorem strR.u3 (h : strR G w a n fo fs fl fr fm) : strR G (wS w (a + 5 + 1) (aI G 42 g)) a n fo fs g fr fm :=
  ⟨(wS_ne (by omega)).trans h.1, h.2.1.wS (by omega), h.2.2.1.wS (by omega), h.2.2.2.1.up, h.2.2.2.2.1.wS (by omega), h.2.2.2.2.2.wS (by omega)⟩
theorem strR.u4 (h : strR G w a n fo fs fl fr fm) : strR G (wS w (a + 7 + 1) (aI G 10 g)) a n fo fs fl g fm :=
  ⟨(wS_ne (by omega)).trans h.1, h.2.1.wS (by omega), h.2.2.1.wS (by omega), h.2.2.2.1.wS (by omega), h.2.2.2.2.1.up, h.2.2.2.2.2.wS (by omega)⟩
theorem strR.u5 (h : strR G w a n fo fs fl fr fm) : strR G (wS w (a + 9 + 1) (aI G 10 g)) a n fo fs fl fr g :=
  ⟨(wS_ne (by omega)).trans h.1, h.2.1.wS (by omega), h.2.2.1.wS (by omega), h.2.2.2.1.wS (by omega), h.2.2.2.2.1.wS (by omega), h.2.2.2.2.2.up⟩
theorem strR.u0 (h : strR G w a n fo fs fl fr fm) : strR G (wS w a (.inr (5, [.ref (a + 1), .ref (a + 3), .ref (a + 5), .ref (a + 7), .ref (a + 9), .int (iI m)]))) a m fo fs fl fr fm :=
  ⟨wS_eq, h.2.1.wS (by omega), h.2.2.1.wS (by omega), h.2.2.2.1.wS (by omega), h.2.2.2.2.1.wS (by omega), h.2.2.2.2.2.wS (by omega)⟩
/-- the rows hold the list -/
def strL (L : List Sg) (fo fs fl fr fm : Int → Int) : Prop := (∀ (i : Nat) (hi : i < L.length), fo i = L[i].1 ∧ fs i = L[i].2.1 ∧ fl i = L[i].2.2 - L[i].2.1) ∧ ∀ o : Int, 0 ≤ o → o < 10 → fr o = cntO L o ∧ fm o = mtsO L o
def strA (G : xG) (w : Wd) (a : Nat) (L : List Sg) : Prop := strW L ∧ ∃ fo fs fl fr fm : Int → Int, strR G w a L.length fo fs fl fr fm ∧ strL L fo fs fl fr fm
theorem strA.kp {lo hi : Nat} (h : strA G w a L) (r : Fr lo hi w w1) (d : a + 11 ≤ lo ∨ hi ≤ a) : strA G w1 a L := by
  obtain ⟨h1, fo, fs, fl, fr, fm, h2, h3⟩ := h
  exact ⟨h1, fo, fs, fl, fr, fm, h2.kp r d, h3⟩
theorem str_a (h : strA G w a L) : w a = some (.inr (5, [.ref (a + 1), .ref (a + 3), .ref (a + 5), .ref (a + 7), .ref (a + 9), .int (iI L.length)])) := by
  obtain ⟨h1, fo, fs, fl, fr, fm, h2, h3⟩ := h
  exact h2.1
end SR
theorem m_X5_hasRange {l : Launch} {G : xG} {w : Wd} {z a : Nat} {n r : Int} {fo fs fl fr fm : Int → Int} (h1 : strR G w a n fo fs fl fr fm) (hn : iR n) (hr : iR r) : xMet l G yX5_hasRange cX5_hasRange 2 (some .boolean) ({ frames := 0, cells := 0, slots := 0, locals := 0 } : Room) [.ref a, .int (iI r)] w z (rI (if 0 ≤ r ∧ r < n then 1 else 0) w z) := by
  refine xMet_of RX5 rfl (by decide +kernel) false (by decide +kernel) (Nat.le_of_ble_eq_true rfl) rfl ?_
  intro P hM hR
  refine x_iload_n hM dX5_hasRange_0 rfl rfl ?_
  refine x_if_lt (tgt := 16) hM dX5_hasRange_1 (by decide) (by omega) (fun c_1 => ?_) (fun c_1 => ?_)
  · refine x_iconst hM dX5_hasRange_16 ?_
    refine hR.b dX5_hasRange_17 rfl (Nat.zero_le _) (Nat.zero_le _) ?_
    exact p_rI (by first | rw [if_pos (by omega)] | rw [if_neg (by omega)])
  · refine x_iload_n hM dX5_hasRange_4 rfl rfl ?_
    refine x_aload_n hM dX5_hasRange_5 rfl rfl ?_
    refine x_get hM wf_X5_36 wl_X5 (by first | assumption | exact str_o (by assumption) | exact str_a (by assumption)) rfl dX5_hasRange_6 ?_
    refine x_icmp_ge (tgt := 16) hM dX5_hasRange_9 (by decide) (by omega) (by omega) (fun c_9 => ?_) (fun c_9 => ?_)
    · refine x_iconst hM dX5_hasRange_16 ?_
      refine hR.b dX5_hasRange_17 rfl (Nat.zero_le _) (Nat.zero_le _) ?_
      exact p_rI (by first | rw [if_pos (by omega)] | rw [if_neg (by omega)])
    · refine x_iconst hM dX5_hasRange_12 ?_
      refine x_goto (tgt := 17) hM dX5_hasRange_13 (by decide) ?_
      refine hR.b dX5_hasRange_17 rfl (Nat.zero_le _) (Nat.zero_le _) ?_
      exact p_rI (by first | rw [if_pos (by omega)] | rw [if_neg (by omega)])
theorem m_X5_endOf {l : Launch} {G : xG} {w : Wd} {z a : Nat} {n i : Int} {fo fs fl fr fm : Int → Int} (h1 : strR G w a n fo fs fl fr fm) (hi : 0 ≤ i ∧ i < 42) : xMet l G yX5_endOf cX5_endOf 2 (some .int) ({ frames := 1, cells := 0, slots := 0, locals := 21 } : Room) [.ref a, .int (iI i)] w z (rI (fs i + fl i) w z) := by
  refine xMet_of RX5 rfl (by decide +kernel) false (by decide +kernel) (Nat.le_of_ble_eq_true rfl) rfl ?_
  intro P hM hR
  refine x_aload_n hM dX5_endOf_0 rfl rfl ?_
  refine x_get hM wf_X5_20 wl_X5 (by first | assumption | exact str_o (by assumption) | exact str_a (by assumption)) rfl dX5_endOf_1 ?_
  refine x_iload_n hM dX5_endOf_4 rfl rfl ?_
  refine x_callV hM wv_X5_43 (m_X4_at (by first | assumption | exact sr1 (by assumption) | exact sr2 (by assumption) | exact sr3 (by assumption) | exact sr4 (by assumption) | exact sr5 (by assumption) | exact rg1 (by assumption) | exact rg2 (by assumption) | exact rg3 (by assumption)) (by omega)) ⟨Nat.le_of_ble_eq_true rfl, Nat.le_of_ble_eq_true rfl⟩ (by first | assumption | exact row_o (by first | assumption | exact sr1 (by assumption) | exact sr2 (by assumption) | exact sr3 (by assumption) | exact sr4 (by assumption) | exact sr5 (by assumption) | exact rg1 (by assumption) | exact rg2 (by assumption) | exact rg3 (by assumption))) rfl rfl rfl rfl (Nat.le_of_ble_eq_true rfl) ⟨Nat.le_of_ble_eq_true rfl, Nat.le_of_ble_eq_true rfl⟩ dX5_endOf_5 (k_rI ?_)
  refine x_aload_n hM dX5_endOf_8 rfl rfl ?_
  refine x_get hM wf_X5_23 wl_X5 (by first | assumption | exact str_o (by assumption) | exact str_a (by assumption)) rfl dX5_endOf_9 ?_
  refine x_iload_n hM dX5_endOf_12 rfl rfl ?_
  refine x_callV hM wv_X5_43 (m_X4_at (by first | assumption | exact sr1 (by assumption) | exact sr2 (by assumption) | exact sr3 (by assumption) | exact sr4 (by assumption) | exact sr5 (by assumption) | exact rg1 (by assumption) | exact rg2 (by assumption) | exact rg3 (by assumption)) (by omega)) ⟨Nat.le_of_ble_eq_true rfl, Nat.le_of_ble_eq_true rfl⟩ (by first | assumption | exact row_o (by first | assumption | exact sr1 (by assumption) | exact sr2 (by assumption) | exact sr3 (by assumption) | exact sr4 (by assumption) | exact sr5 (by assumption) | exact rg1 (by assumption) | exact rg2 (by assumption) | exact rg3 (by assumption))) rfl rfl rfl rfl (Nat.le_of_ble_eq_true rfl) ⟨Nat.le_of_ble_eq_true rfl, Nat.le_of_ble_eq_true rfl⟩ dX5_endOf_13 (k_rI ?_)
  refine x_iadd hM dX5_endOf_16 ?_
  refine hR.i dX5_endOf_17 (Nat.zero_le _) (Nat.zero_le _) ?_
  exact p_rI rfl
theorem m_X5_metersOfAll {l : Launch} {G : xG} {w : Wd} {z a : Nat} {n : Int} {fo fs fl fr fm : Int → Int} (h1 : strR G w a n fo fs fl fr fm) : xMet l G yX5_metersOfAll cX5_metersOfAll 1 (some .int) ({ frames := 1, cells := 0, slots := 0, locals := 22 } : Room) [.ref a] w z (rI (sumF fm 10) w z) := by
  refine xMet_of RX5 rfl (by decide +kernel) false (by decide +kernel) (Nat.le_of_ble_eq_true rfl) rfl ?_
  intro P hM hR
  refine x_aload_n hM dX5_metersOfAll_0 rfl rfl ?_
  refine x_get hM wf_X5_29 wl_X5 (by first | assumption | exact str_o (by assumption) | exact str_a (by assumption)) rfl dX5_metersOfAll_1 ?_
  refine x_callV hM wv_X5_47 (m_X4_sum (by first | assumption | exact sr1 (by assumption) | exact sr2 (by assumption) | exact sr3 (by assumption) | exact sr4 (by assumption) | exact sr5 (by assumption) | exact rg1 (by assumption) | exact rg2 (by assumption) | exact rg3 (by assumption)) (by omega)) ⟨Nat.le_of_ble_eq_true rfl, Nat.le_of_ble_eq_true rfl⟩ (by first | assumption | exact row_o (by first | assumption | exact sr1 (by assumption) | exact sr2 (by assumption) | exact sr3 (by assumption) | exact sr4 (by assumption) | exact sr5 (by assumption) | exact rg1 (by assumption) | exact rg2 (by assumption) | exact rg3 (by assumption))) rfl rfl rfl rfl (Nat.le_of_ble_eq_true rfl) ⟨Nat.le_of_ble_eq_true rfl, Nat.le_of_ble_eq_true rfl⟩ dX5_metersOfAll_4 (k_rI ?_)
  refine hR.i dX5_metersOfAll_7 (Nat.zero_le _) (Nat.zero_le _) ?_
  exact p_rI rfl
theorem strL_push {L : List Sg} {fo fs fl fr fm g : Int → Int} {o f n : Int} (h : strL L fo fs fl fr fm) (hg : ∀ x : Int, 0 ≤ x → x < 10 → g x = if x = o then fm x + n else fm x) : strL (L ++ [(o, f, f + n)]) (fU fo L.length o) (fU fs L.length f) (fU fl L.length n) (fU fr o (fr o + 1)) g := by
  refine ⟨fun i hi => ?_, fun x x1 x2 => ?_⟩
  · by_cases hl : i < L.length
    · rw [List.getElem_append_left hl, fU_ne (by omega), fU_ne (by omega), fU_ne (by omega)]
      exact h.1 i hl
    · have e : i = L.length := by simp at hi; omega
      subst e
      rw [fU_eq, fU_eq, fU_eq, List.getElem_append_right (Nat.le_refl _)]
      simp
      omega
  · have h2 := h.2 x x1 x2
    rw [cntO_app, mtsO_app, hg x x1 x2]
    simp only [cntO, mtsO]
    by_cases e : x = o
    · subst e
      rw [fU_eq, if_pos rfl, if_pos rfl, if_pos rfl]
      omega
    · rw [fU_ne e, if_neg e, if_neg (Ne.symm e), if_neg (Ne.symm e)]
      omega
theorem strL_ext {L M : List Sg} {x : Sg} {fo fs fl fr fm g : Int → Int} {o n : Int} (h : strL L fo fs fl fr fm) (hM : L = M ++ [x]) (hx : x.1 = o) (hg : ∀ y : Int, 0 ≤ y → y < 10 → g y = if y = o then fm y + n else fm y) : strL (M ++ [(o, x.2.1, x.2.2 + n)]) fo fs (fU fl (L.length - 1) (fl (L.length - 1) + n)) fr g := by
  have hlen : L.length = M.length + 1 := by rw [hM]; simp
  have e1 : (L.length : Int) - 1 = (M.length : Nat) := by omega
  rw [e1]
  refine ⟨fun i hi => ?_, fun y y1 y2 => ?_⟩
  · have hi2 : i < M.length + 1 := by simpa using hi
    have h1 := h.1 i (by omega)
    by_cases hl : i < M.length
    · rw [List.getElem_append_left hl, fU_ne (by omega)]
      have e2 : L[i]'(by omega) = M[i] := by
        subst hM
        rw [List.getElem_append_left hl]
      rw [e2] at h1
      exact h1
    · have e : i = M.length := by omega
      subst e
      have e2 : L[M.length]'(by omega) = x := by
        subst hM
        rw [List.getElem_append_right (Nat.le_refl _)]
        simp
      rw [e2] at h1
      rw [fU_eq, List.getElem_append_right (Nat.le_refl _)]
      simp
      omega
  · have h2 := h.2 y y1 y2
    rw [hM, cntO_app, mtsO_app] at h2
    rw [cntO_app, mtsO_app, hg y y1 y2]
    simp only [cntO, mtsO] at h2 ⊢
    rw [hx] at h2
    by_cases e : y = o
    · subst e
      rw [if_pos rfl] at h2 ⊢
      rw [if_pos rfl] at h2 ⊢
      simp only [if_true] at h2 ⊢
      omega
    · rw [if_neg (Ne.symm e)] at h2 ⊢
      rw [if_neg (Ne.symm e)] at h2 ⊢
      rw [if_neg e]
      exact h2
theorem strL_last {L : List Sg} {x : Sg} {fo fs fl fr fm : Int → Int} (h : strL L fo fs fl fr fm) (hx : L.getLast? = some x) : L = L.dropLast ++ [x] ∧ 0 < L.length ∧ fo (L.length - 1) = x.1 ∧ fs (L.length - 1) = x.2.1 ∧ fl (L.length - 1) = x.2.2 - x.2.1 := by
  have hm : 0 < L.length := List.length_pos_of_mem (List.mem_of_getLast? hx)
  rw [List.getLast?_eq_getElem?] at hx
  obtain ⟨h1, h2⟩ := List.getElem?_eq_some_iff.mp hx
  have h3 := h.1 _ h1
  rw [h2, show ((L.length - 1 : Nat) : Int) = (L.length : Int) - 1 by omega] at h3
  refine ⟨?_, hm, h3⟩
  have h4 := List.dropLast_concat_getLast (List.ne_nil_of_length_pos hm)
  rw [List.getLast_eq_getElem, h2] at h4
  exact h4.symm
theorem m_X5_append {l : Launch} {G : xG} {w : Wd} {z a : Nat} {L : List Sg} {o f n : Int} (h1 : strA G w a L) (ho : iR o ∧ o < 10) (hb : iR n ∧ iR f ∧ (0 ≤ o → 0 < n → 0 ≤ f ∧ f + n ≤ 10000)) : xMet l G yX5_append cX5_append 5 none ({ frames := 1, cells := 0, slots := 0, locals := 22 } : Room) [.ref a, .int (iI o), .int (iI f), .int (iI n)] w z (qV z fun w1 => strA G w1 a (apF L o f n) ∧ Fr a (a + 11) w w1) := by
  obtain ⟨hW, fo, fs, fl, fr, fm, hs, hL⟩ := h1
  have hW1 := hW.1
  have hWn := apF_W hW ho.2 hb.2.2
  refine xMet_of RX5 rfl (by decide +kernel) false (by decide +kernel) (Nat.le_of_ble_eq_true rfl) rfl ?_
  intro P hM hR
  by_cases c0 : o < 0 ∨ n ≤ 0
  · have e0 : apF L o f n = L := if_pos c0
    refine x_iload_n hM dX5_append_0 rfl rfl ?_
    refine x_if_lt (tgt := 8) hM dX5_append_1 (by decide) (by omega) (fun c_1 => ?_) (fun c_1 => ?_)
    · refine hR.v dX5_append_8 (Nat.zero_le _) (Nat.zero_le _) ?_
      exact p_qV ⟨by rw [e0]; exact ⟨hW, fo, fs, fl, fr, fm, hs, hL⟩, Fr.rf⟩
    · refine x_iload_n hM dX5_append_4 rfl rfl ?_
      refine x_if_gt (tgt := 9) hM dX5_append_5 (by decide) (by omega) (fun c_5 => ?_) (fun c_5 => ?_)
      · exfalso; omega
      · refine hR.v dX5_append_8 (Nat.zero_le _) (Nat.zero_le _) ?_
        exact p_qV ⟨by rw [e0]; exact ⟨hW, fo, fs, fl, fr, fm, hs, hL⟩, Fr.rf⟩
  · obtain ⟨hb1, hb2⟩ := hb.2.2 (by omega) (by omega)
    have tail : ∀ (w1 : Wd) (fo1 fs1 fl1 fr1 : Int → Int) (ls : List (Option Value)), ls = [some (.ref a), some (.int (iI o)), some (.int (iI f)), some (.int (iI n)), some (.int (iI (L.length - 1)))] → strR G w1 a (apF L o f n).length fo1 fs1 fl1 fr1 fm → Fr a (a + 11) w w1 → (∀ g : Int → Int, (∀ x : Int, 0 ≤ x → x < 10 → g x = if x = o then fm x + n else fm x) → strL (apF L o f n) fo1 fs1 fl1 fr1 g) → P 141 ls [] w1 (z, 0, 0) := by
      intro w1 fo1 fs1 fl1 fr1 ls els hs1 hF hg
      subst els
      refine x_aload_n hM dX5_append_141 rfl rfl ?_
      refine x_get hM wf_X5_29 wl_X5 (by first | assumption | exact str_o (by assumption) | exact str_a (by assumption)) rfl dX5_append_142 ?_
      refine x_iload_n hM dX5_append_145 rfl rfl ?_
      refine x_iload_n hM dX5_append_146 rfl rfl ?_
      refine x_callV hM wv_X5_51 (m_X4_add (by first | assumption | exact sr1 (by assumption) | exact sr2 (by assumption) | exact sr3 (by assumption) | exact sr4 (by assumption) | exact sr5 (by assumption) | exact rg1 (by assumption) | exact rg2 (by assumption) | exact rg3 (by assumption)) (by omega)) ⟨Nat.le_of_ble_eq_true rfl, Nat.le_of_ble_eq_true rfl⟩ (by first | assumption | exact row_o (by first | assumption | exact sr1 (by assumption) | exact sr2 (by assumption) | exact sr3 (by assumption) | exact sr4 (by assumption) | exact sr5 (by assumption) | exact rg1 (by assumption) | exact rg2 (by assumption) | exact rg3 (by assumption))) rfl rfl rfl rfl (Nat.le_of_ble_eq_true rfl) ⟨Nat.le_of_ble_eq_true rfl, Nat.le_of_ble_eq_true rfl⟩ dX5_append_147 (k_qV fun w_147 q_147 => ?_)
      refine hR.v dX5_append_150 (Nat.zero_le _) (Nat.zero_le _) ?_
      subst q_147
      exact p_qV ⟨⟨hWn, fo1, fs1, fl1, fr1, _, hs1.u5, hg _ (fun x x1 x2 => by by_cases e : x = o <;> simp [fU, e])⟩, hF.tr (Fr.wS (by omega) (by omega))⟩
    have push : ∀ (he : apF L o f n = if L.length < 42 then L ++ [(o, f, f + n)] else L) (ls : List (Option Value)), ls = [some (.ref a), some (.int (iI o)), some (.int (iI f)), some (.int (iI n)), some (.int (iI (L.length - 1)))] → P 73 ls [] w (z, 0, 0) := by
      intro he ls els
      subst els
      refine x_aload_n hM dX5_append_73 rfl rfl ?_
      refine x_get hM wf_X5_36 wl_X5 (by first | assumption | exact str_o (by assumption) | exact str_a (by assumption)) rfl dX5_append_74 ?_
      refine x_bipush hM dX5_append_77 rfl ?_
      refine x_icmp_ge (tgt := 140) hM dX5_append_79 (by decide) (by omega) (by omega) (fun c_79 => ?_) (fun c_79 => ?_)
      · refine hR.v dX5_append_140 (Nat.zero_le _) (Nat.zero_le _) ?_
        exact p_qV ⟨by rw [he, if_neg (by omega)]; exact ⟨hW, fo, fs, fl, fr, fm, hs, hL⟩, Fr.rf⟩
      · refine x_aload_n hM dX5_append_82 rfl rfl ?_
        refine x_get hM wf_X5_14 wl_X5 (by first | assumption | exact str_o (by assumption) | exact str_a (by assumption)) rfl dX5_append_83 ?_
        refine x_aload_n hM dX5_append_86 rfl rfl ?_
        refine x_get hM wf_X5_36 wl_X5 (by first | assumption | exact str_o (by assumption) | exact str_a (by assumption)) rfl dX5_append_87 ?_
        refine x_iload_n hM dX5_append_90 rfl rfl ?_
        refine x_callV hM wv_X5_55 (m_X4_store (by first | assumption | exact sr1 (by assumption) | exact sr2 (by assumption) | exact sr3 (by assumption) | exact sr4 (by assumption) | exact sr5 (by assumption) | exact rg1 (by assumption) | exact rg2 (by assumption) | exact rg3 (by assumption)) (by omega)) ⟨Nat.le_of_ble_eq_true rfl, Nat.le_of_ble_eq_true rfl⟩ (by first | assumption | exact row_o (by first | assumption | exact sr1 (by assumption) | exact sr2 (by assumption) | exact sr3 (by assumption) | exact sr4 (by assumption) | exact sr5 (by assumption) | exact rg1 (by assumption) | exact rg2 (by assumption) | exact rg3 (by assumption))) rfl rfl rfl rfl (Nat.le_of_ble_eq_true rfl) ⟨Nat.le_of_ble_eq_true rfl, Nat.le_of_ble_eq_true rfl⟩ dX5_append_91 (k_qV fun w_91 q_91 => ?_)
        subst q_91
        have hs1 := hs.u1 (g := fU fo L.length o)
        refine x_aload_n hM dX5_append_94 rfl rfl ?_
        refine x_get hM wf_X5_20 wl_X5 (by first | assumption | exact str_o (by assumption) | exact str_a (by assumption)) rfl dX5_append_95 ?_
        refine x_aload_n hM dX5_append_98 rfl rfl ?_
        refine x_get hM wf_X5_36 wl_X5 (by first | assumption | exact str_o (by assumption) | exact str_a (by assumption)) rfl dX5_append_99 ?_
        refine x_iload_n hM dX5_append_102 rfl rfl ?_
        refine x_callV hM wv_X5_55 (m_X4_store (by first | assumption | exact sr1 (by assumption) | exact sr2 (by assumption) | exact sr3 (by assumption) | exact sr4 (by assumption) | exact sr5 (by assumption) | exact rg1 (by assumption) | exact rg2 (by assumption) | exact rg3 (by assumption)) (by omega)) ⟨Nat.le_of_ble_eq_true rfl, Nat.le_of_ble_eq_true rfl⟩ (by first | assumption | exact row_o (by first | assumption | exact sr1 (by assumption) | exact sr2 (by assumption) | exact sr3 (by assumption) | exact sr4 (by assumption) | exact sr5 (by assumption) | exact rg1 (by assumption) | exact rg2 (by assumption) | exact rg3 (by assumption))) rfl rfl rfl rfl (Nat.le_of_ble_eq_true rfl) ⟨Nat.le_of_ble_eq_true rfl, Nat.le_of_ble_eq_true rfl⟩ dX5_append_103 (k_qV fun w_103 q_103 => ?_)
        subst q_103
        have hs2 := hs1.u2 (g := fU fs L.length f)
        refine x_aload_n hM dX5_append_106 rfl rfl ?_
        refine x_get hM wf_X5_23 wl_X5 (by first | assumption | exact str_o (by assumption) | exact str_a (by assumption)) rfl dX5_append_107 ?_
        refine x_aload_n hM dX5_append_110 rfl rfl ?_
        refine x_get hM wf_X5_36 wl_X5 (by first | assumption | exact str_o (by assumption) | exact str_a (by assumption)) rfl dX5_append_111 ?_
        refine x_iload_n hM dX5_append_114 rfl rfl ?_
        refine x_callV hM wv_X5_55 (m_X4_store (by first | assumption | exact sr1 (by assumption) | exact sr2 (by assumption) | exact sr3 (by assumption) | exact sr4 (by assumption) | exact sr5 (by assumption) | exact rg1 (by assumption) | exact rg2 (by assumption) | exact rg3 (by assumption)) (by omega)) ⟨Nat.le_of_ble_eq_true rfl, Nat.le_of_ble_eq_true rfl⟩ (by first | assumption | exact row_o (by first | assumption | exact sr1 (by assumption) | exact sr2 (by assumption) | exact sr3 (by assumption) | exact sr4 (by assumption) | exact sr5 (by assumption) | exact rg1 (by assumption) | exact rg2 (by assumption) | exact rg3 (by assumption))) rfl rfl rfl rfl (Nat.le_of_ble_eq_true rfl) ⟨Nat.le_of_ble_eq_true rfl, Nat.le_of_ble_eq_true rfl⟩ dX5_append_115 (k_qV fun w_115 q_115 => ?_)
        subst q_115
        have hs3 := hs2.u3 (g := fU fl L.length n)
        refine x_aload_n hM dX5_append_118 rfl rfl ?_
        refine x_get hM wf_X5_26 wl_X5 (by first | assumption | exact str_o (by assumption) | exact str_a (by assumption)) rfl dX5_append_119 ?_
        refine x_iload_n hM dX5_append_122 rfl rfl ?_
        refine x_iconst hM dX5_append_123 ?_
        refine x_callV hM wv_X5_51 (m_X4_add (by first | assumption | exact sr1 (by assumption) | exact sr2 (by assumption) | exact sr3 (by assumption) | exact sr4 (by assumption) | exact sr5 (by assumption) | exact rg1 (by assumption) | exact rg2 (by assumption) | exact rg3 (by assumption)) (by omega)) ⟨Nat.le_of_ble_eq_true rfl, Nat.le_of_ble_eq_true rfl⟩ (by first | assumption | exact row_o (by first | assumption | exact sr1 (by assumption) | exact sr2 (by assumption) | exact sr3 (by assumption) | exact sr4 (by assumption) | exact sr5 (by assumption) | exact rg1 (by assumption) | exact rg2 (by assumption) | exact rg3 (by assumption))) rfl rfl rfl rfl (Nat.le_of_ble_eq_true rfl) ⟨Nat.le_of_ble_eq_true rfl, Nat.le_of_ble_eq_true rfl⟩ dX5_append_124 (k_qV fun w_124 q_124 => ?_)
        subst q_124
        have hs4 := hs3.u4 (g := fU fr o (fr o + 1))
        refine x_aload_n hM dX5_append_127 rfl rfl ?_
        refine x_dup hM dX5_append_128 rfl ?_
        refine x_get hM wf_X5_36 wl_X5 (by first | assumption | exact str_o (by assumption) | exact str_a (by assumption)) rfl dX5_append_129 ?_
        refine x_iconst hM dX5_append_132 ?_
        refine x_iadd hM dX5_append_133 ?_
        refine x_put hM wf_X5_36 wl_X5 (by first | assumption | exact str_o (by assumption) | exact str_a (by assumption)) wq_X5_36 rfl rfl (Nat.le_of_ble_eq_true rfl) rfl dX5_append_134 ?_
        have hs5 := hs4.u0 (m := L.length + 1)
        refine x_goto (tgt := 141) hM dX5_append_137 (by decide) ?_
        rw [if_pos (by omega)] at he
        refine tail _ _ _ _ _ _ rfl (by rw [he, List.length_append]; exact hs5) ((((Fr.wS (by omega) (by omega)).tr (Fr.wS (by omega) (by omega))).tr (Fr.wS (by omega) (by omega))).tr (Fr.wS (by omega) (by omega))|>.tr (Fr.wS (by omega) (by omega))) (fun g hg => ?_)
        rw [he]
        exact strL_push hL hg
    cases hx : L.getLast? with
    | none =>
      have hnil : L = [] := List.getLast?_eq_none_iff.mp hx
      have hl0 : L.length = 0 := by rw [hnil]; rfl
      refine x_iload_n hM dX5_append_0 rfl rfl ?_
      refine x_if_lt (tgt := 8) hM dX5_append_1 (by decide) (by omega) (fun c_1 => ?_) (fun c_1 => ?_)
      · exfalso; omega
      · refine x_iload_n hM dX5_append_4 rfl rfl ?_
        refine x_if_gt (tgt := 9) hM dX5_append_5 (by decide) (by omega) (fun c_5 => ?_) (fun c_5 => ?_)
        · refine x_aload_n hM dX5_append_9 rfl rfl ?_
          refine x_get hM wf_X5_36 wl_X5 (by first | assumption | exact str_o (by assumption) | exact str_a (by assumption)) rfl dX5_append_10 ?_
          refine x_iconst hM dX5_append_13 ?_
          refine x_isub hM dX5_append_14 ?_
          refine x_istore hM dX5_append_15 rfl (Nat.le_of_ble_eq_true rfl) rfl ?_
          refine x_aload_n hM dX5_append_17 rfl rfl ?_
          refine x_get hM wf_X5_36 wl_X5 (by first | assumption | exact str_o (by assumption) | exact str_a (by assumption)) rfl dX5_append_18 ?_
          refine x_if_le (tgt := 73) hM dX5_append_21 (by decide) (by omega) (fun c_21 => ?_) (fun c_21 => ?_)
          · exact push (by unfold apF; rw [if_neg c0, hx, if_pos (by omega)]) _ rfl
          · exfalso; omega
        · exfalso; omega
    | some x =>
      obtain ⟨hd, hpos, e1, e2, e3⟩ := strL_last hL hx
      have hok := hW.2 x (List.mem_of_getLast? hx)
      refine x_iload_n hM dX5_append_0 rfl rfl ?_
      refine x_if_lt (tgt := 8) hM dX5_append_1 (by decide) (by omega) (fun c_1 => ?_) (fun c_1 => ?_)
      · exfalso; omega
      · refine x_iload_n hM dX5_append_4 rfl rfl ?_
        refine x_if_gt (tgt := 9) hM dX5_append_5 (by decide) (by omega) (fun c_5 => ?_) (fun c_5 => ?_)
        · refine x_aload_n hM dX5_append_9 rfl rfl ?_
          refine x_get hM wf_X5_36 wl_X5 (by first | assumption | exact str_o (by assumption) | exact str_a (by assumption)) rfl dX5_append_10 ?_
          refine x_iconst hM dX5_append_13 ?_
          refine x_isub hM dX5_append_14 ?_
          refine x_istore hM dX5_append_15 rfl (Nat.le_of_ble_eq_true rfl) rfl ?_
          refine x_aload_n hM dX5_append_17 rfl rfl ?_
          refine x_get hM wf_X5_36 wl_X5 (by first | assumption | exact str_o (by assumption) | exact str_a (by assumption)) rfl dX5_append_18 ?_
          refine x_if_le (tgt := 73) hM dX5_append_21 (by decide) (by omega) (fun c_21 => ?_) (fun c_21 => ?_)
          · exfalso; omega
          · refine x_aload_n hM dX5_append_24 rfl rfl ?_
            refine x_get hM wf_X5_14 wl_X5 (by first | assumption | exact str_o (by assumption) | exact str_a (by assumption)) rfl dX5_append_25 ?_
            refine x_iload hM dX5_append_28 rfl ?_
            refine x_callV hM wv_X5_43 (m_X4_at (by first | assumption | exact sr1 (by assumption) | exact sr2 (by assumption) | exact sr3 (by assumption) | exact sr4 (by assumption) | exact sr5 (by assumption) | exact rg1 (by assumption) | exact rg2 (by assumption) | exact rg3 (by assumption)) (by omega)) ⟨Nat.le_of_ble_eq_true rfl, Nat.le_of_ble_eq_true rfl⟩ (by first | assumption | exact row_o (by first | assumption | exact sr1 (by assumption) | exact sr2 (by assumption) | exact sr3 (by assumption) | exact sr4 (by assumption) | exact sr5 (by assumption) | exact rg1 (by assumption) | exact rg2 (by assumption) | exact rg3 (by assumption))) rfl rfl rfl rfl (Nat.le_of_ble_eq_true rfl) ⟨Nat.le_of_ble_eq_true rfl, Nat.le_of_ble_eq_true rfl⟩ dX5_append_30 (k_rI ?_)
            refine x_iload_n hM dX5_append_33 rfl rfl ?_
            refine x_icmp_ne (tgt := 73) hM dX5_append_34 (by decide) (by omega) (by omega) (fun c_34 => ?_) (fun c_34 => ?_)
            · exact push (by unfold apF; rw [if_neg c0, hx]; exact if_neg (by omega)) _ rfl
            · refine x_aload_n hM dX5_append_37 rfl rfl ?_
              refine x_get hM wf_X5_20 wl_X5 (by first | assumption | exact str_o (by assumption) | exact str_a (by assumption)) rfl dX5_append_38 ?_
              refine x_iload hM dX5_append_41 rfl ?_
              refine x_callV hM wv_X5_43 (m_X4_at (by first | assumption | exact sr1 (by assumption) | exact sr2 (by assumption) | exact sr3 (by assumption) | exact sr4 (by assumption) | exact sr5 (by assumption) | exact rg1 (by assumption) | exact rg2 (by assumption) | exact rg3 (by assumption)) (by omega)) ⟨Nat.le_of_ble_eq_true rfl, Nat.le_of_ble_eq_true rfl⟩ (by first | assumption | exact row_o (by first | assumption | exact sr1 (by assumption) | exact sr2 (by assumption) | exact sr3 (by assumption) | exact sr4 (by assumption) | exact sr5 (by assumption) | exact rg1 (by assumption) | exact rg2 (by assumption) | exact rg3 (by assumption))) rfl rfl rfl rfl (Nat.le_of_ble_eq_true rfl) ⟨Nat.le_of_ble_eq_true rfl, Nat.le_of_ble_eq_true rfl⟩ dX5_append_43 (k_rI ?_)
              refine x_aload_n hM dX5_append_46 rfl rfl ?_
              refine x_get hM wf_X5_23 wl_X5 (by first | assumption | exact str_o (by assumption) | exact str_a (by assumption)) rfl dX5_append_47 ?_
              refine x_iload hM dX5_append_50 rfl ?_
              refine x_callV hM wv_X5_43 (m_X4_at (by first | assumption | exact sr1 (by assumption) | exact sr2 (by assumption) | exact sr3 (by assumption) | exact sr4 (by assumption) | exact sr5 (by assumption) | exact rg1 (by assumption) | exact rg2 (by assumption) | exact rg3 (by assumption)) (by omega)) ⟨Nat.le_of_ble_eq_true rfl, Nat.le_of_ble_eq_true rfl⟩ (by first | assumption | exact row_o (by first | assumption | exact sr1 (by assumption) | exact sr2 (by assumption) | exact sr3 (by assumption) | exact sr4 (by assumption) | exact sr5 (by assumption) | exact rg1 (by assumption) | exact rg2 (by assumption) | exact rg3 (by assumption))) rfl rfl rfl rfl (Nat.le_of_ble_eq_true rfl) ⟨Nat.le_of_ble_eq_true rfl, Nat.le_of_ble_eq_true rfl⟩ dX5_append_52 (k_rI ?_)
              refine x_iadd hM dX5_append_55 ?_
              refine x_iload_n hM dX5_append_56 rfl rfl ?_
              refine x_icmp_ne (tgt := 73) hM dX5_append_57 (by decide) (by omega) (by omega) (fun c_57 => ?_) (fun c_57 => ?_)
              · exact push (by unfold apF; rw [if_neg c0, hx]; exact if_neg (by omega)) _ rfl
              · refine x_aload_n hM dX5_append_60 rfl rfl ?_
                refine x_get hM wf_X5_23 wl_X5 (by first | assumption | exact str_o (by assumption) | exact str_a (by assumption)) rfl dX5_append_61 ?_
                refine x_iload hM dX5_append_64 rfl ?_
                refine x_iload_n hM dX5_append_66 rfl rfl ?_
                refine x_callV hM wv_X5_51 (m_X4_add (by first | assumption | exact sr1 (by assumption) | exact sr2 (by assumption) | exact sr3 (by assumption) | exact sr4 (by assumption) | exact sr5 (by assumption) | exact rg1 (by assumption) | exact rg2 (by assumption) | exact rg3 (by assumption)) (by omega)) ⟨Nat.le_of_ble_eq_true rfl, Nat.le_of_ble_eq_true rfl⟩ (by first | assumption | exact row_o (by first | assumption | exact sr1 (by assumption) | exact sr2 (by assumption) | exact sr3 (by assumption) | exact sr4 (by assumption) | exact sr5 (by assumption) | exact rg1 (by assumption) | exact rg2 (by assumption) | exact rg3 (by assumption))) rfl rfl rfl rfl (Nat.le_of_ble_eq_true rfl) ⟨Nat.le_of_ble_eq_true rfl, Nat.le_of_ble_eq_true rfl⟩ dX5_append_67 (k_qV fun w_67 q_67 => ?_)
                subst q_67
                have hs1 := hs.u3 (g := fU fl (L.length - 1) (fl (L.length - 1) + n))
                have he : apF L o f n = L.dropLast ++ [(o, x.2.1, x.2.2 + n)] := by unfold apF; rw [if_neg c0, hx]; exact if_pos (by omega)
                have hlen : ((apF L o f n).length : Int) = L.length := by rw [he, List.length_append, List.length_dropLast]; simp; omega
                refine x_goto (tgt := 141) hM dX5_append_70 (by decide) ?_
                refine tail _ _ _ _ _ _ rfl (by rw [hlen]; exact hs1) (Fr.wS (by omega) (by omega)) (fun g hg => ?_)
                rw [he]
                exact strL_ext hL hd (by omega) hg
        · exfalso; omega
