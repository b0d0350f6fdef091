/-! Street: questions -/
theorem drop_fold {α β : Type} (f : β → α → β) (M : List α) {i : Nat} (h : i < M.length) (c : β) : (M.drop i).foldl f c = (M.drop (i + 1)).foldl f (f c M[i]) := by
  rw [List.drop_eq_getElem_cons h]; rfl
theorem drop_foldE {α β : Type} (f : β → α → β) (M : List α) {i : Nat} (h : i = M.length) (c : β) : (M.drop i).foldl f c = c := by
  rw [h, List.drop_length]; rfl
def hldF : List Sg → Int → Int
  | [], _ => -6
  | s :: t, m => if s.2.1 ≤ m ∧ m < s.2.2 then s.1 else hldF t m
theorem m_X5_holderAt {l : Launch} {G : xG} {w : Wd} {z a : Nat} {L : List Sg} {m : Int} (h1 : strA G w a L) (hm : iR m) : xMet l G yX5_holderAt cX5_holderAt 3 (some .int) ({ frames := 2, cells := 0, slots := 0, locals := 42 } : Room) [.ref a, .int (iI m)] w z (rI (hldF L m) w z) := by
  obtain ⟨hW, fo, fs, fl, fr, fm, hs, hL⟩ := h1
  have hW1 := hW.1
  refine xMet_of RX5 rfl (by decide +kernel) false (by decide +kernel) (Nat.le_of_ble_eq_true rfl) rfl ?_
  intro P hM hR
  have K : ∀ (k i : Nat), L.length - i < k → i ≤ L.length → hldF (L.drop i) m = hldF L m → P 2 [some (.ref a), some (.int (iI m)), some (.int (iI i))] [] w (z, 0, 0) := by
    intro k
    induction k with
    | zero => intro i hk; omega
    | succ k ih =>
      intro i hk hi hinv
      by_cases hlt : i < L.length
      · obtain ⟨e1, e2, e3⟩ := hL.1 i hlt
        have hok := strW_at hW hlt
        rw [List.drop_eq_getElem_cons hlt] at hinv
        refine x_iload_n hM dX5_holderAt_2 rfl rfl ?_
        refine x_aload_n hM dX5_holderAt_3 rfl rfl ?_
        refine x_get hM wf_X5_36 wl_X5 (by first | assumption | exact str_o (by assumption) | exact str_a (by assumption)) rfl dX5_holderAt_4 ?_
        refine x_icmp_ge (tgt := 46) hM dX5_holderAt_7 (by decide) (by omega) (by omega) (fun c_7 => ?_) (fun c_7 => ?_)
        · exfalso; omega
        · refine x_iload_n hM dX5_holderAt_10 rfl rfl ?_
          refine x_aload_n hM dX5_holderAt_11 rfl rfl ?_
          refine x_get hM wf_X5_20 wl_X5 (by first | assumption | exact str_o (by assumption) | exact str_a (by assumption)) rfl dX5_holderAt_12 ?_
          refine x_iload_n hM dX5_holderAt_15 rfl rfl ?_
          refine x_callV hM wv_X5_43 (m_X4_at (by first | assumption | exact sr1 (by assumption) | exact sr2 (by assumption) | exact sr3 (by assumption) | exact sr4 (by assumption) | exact sr5 (by assumption) | exact rg1 (by assumption) | exact rg2 (by assumption) | exact rg3 (by assumption)) (by omega)) ⟨Nat.le_of_ble_eq_true rfl, Nat.le_of_ble_eq_true rfl⟩ (by first | assumption | exact row_o (by first | assumption | exact sr1 (by assumption) | exact sr2 (by assumption) | exact sr3 (by assumption) | exact sr4 (by assumption) | exact sr5 (by assumption) | exact rg1 (by assumption) | exact rg2 (by assumption) | exact rg3 (by assumption))) rfl rfl rfl rfl (Nat.le_of_ble_eq_true rfl) ⟨Nat.le_of_ble_eq_true rfl, Nat.le_of_ble_eq_true rfl⟩ dX5_holderAt_16 (k_rI ?_)
          refine x_icmp_lt (tgt := 40) hM dX5_holderAt_19 (by decide) (by omega) (by omega) (fun c_19 => ?_) (fun c_19 => ?_)
          · rw [show hldF (L[i] :: L.drop (i + 1)) m = hldF (L.drop (i + 1)) m from if_neg (by omega)] at hinv
            refine x_iinc hM dX5_holderAt_40 rfl rfl rfl ?_
            refine x_goto (tgt := 2) hM dX5_holderAt_43 (by decide) ?_
            exact ih (i + 1) (by omega) (by omega) hinv
          · refine x_iload_n hM dX5_holderAt_22 rfl rfl ?_
            refine x_aload_n hM dX5_holderAt_23 rfl rfl ?_
            refine x_iload_n hM dX5_holderAt_24 rfl rfl ?_
            refine x_callV hM wv_X5_59 (m_X5_endOf (by assumption) (by omega)) ⟨Nat.le_of_ble_eq_true rfl, Nat.le_of_ble_eq_true rfl⟩ (by first | assumption | exact str_o (by assumption) | exact str_a (by assumption)) rfl rfl rfl rfl (Nat.le_of_ble_eq_true rfl) ⟨Nat.le_of_ble_eq_true rfl, Nat.le_of_ble_eq_true rfl⟩ dX5_holderAt_25 (k_rI ?_)
            refine x_icmp_ge (tgt := 40) hM dX5_holderAt_28 (by decide) (by omega) (by omega) (fun c_28 => ?_) (fun c_28 => ?_)
            · rw [show hldF (L[i] :: L.drop (i + 1)) m = hldF (L.drop (i + 1)) m from if_neg (by omega)] at hinv
              refine x_iinc hM dX5_holderAt_40 rfl rfl rfl ?_
              refine x_goto (tgt := 2) hM dX5_holderAt_43 (by decide) ?_
              exact ih (i + 1) (by omega) (by omega) hinv
            · refine x_aload_n hM dX5_holderAt_31 rfl rfl ?_
              refine x_get hM wf_X5_14 wl_X5 (by first | assumption | exact str_o (by assumption) | exact str_a (by assumption)) rfl dX5_holderAt_32 ?_
              refine x_iload_n hM dX5_holderAt_35 rfl rfl ?_
              refine x_callV hM wv_X5_43 (m_X4_at (by first | assumption | exact sr1 (by assumption) | exact sr2 (by assumption) | exact sr3 (by assumption) | exact sr4 (by assumption) | exact sr5 (by assumption) | exact rg1 (by assumption) | exact rg2 (by assumption) | exact rg3 (by assumption)) (by omega)) ⟨Nat.le_of_ble_eq_true rfl, Nat.le_of_ble_eq_true rfl⟩ (by first | assumption | exact row_o (by first | assumption | exact sr1 (by assumption) | exact sr2 (by assumption) | exact sr3 (by assumption) | exact sr4 (by assumption) | exact sr5 (by assumption) | exact rg1 (by assumption) | exact rg2 (by assumption) | exact rg3 (by assumption))) rfl rfl rfl rfl (Nat.le_of_ble_eq_true rfl) ⟨Nat.le_of_ble_eq_true rfl, Nat.le_of_ble_eq_true rfl⟩ dX5_holderAt_36 (k_rI ?_)
              refine hR.i dX5_holderAt_39 (Nat.zero_le _) (Nat.zero_le _) ?_
              exact p_rI (by rw [← hinv, e1]; exact (if_pos (by omega)).symm)
      · skip
        refine x_iload_n hM dX5_holderAt_2 rfl rfl ?_
        refine x_aload_n hM dX5_holderAt_3 rfl rfl ?_
        refine x_get hM wf_X5_36 wl_X5 (by first | assumption | exact str_o (by assumption) | exact str_a (by assumption)) rfl dX5_holderAt_4 ?_
        refine x_icmp_ge (tgt := 46) hM dX5_holderAt_7 (by decide) (by omega) (by omega) (fun c_7 => ?_) (fun c_7 => ?_)
        · refine x_bipush hM dX5_holderAt_46 rfl ?_
          refine hR.i dX5_holderAt_48 (Nat.zero_le _) (Nat.zero_le _) ?_
          exact p_rI (by rw [← hinv, show i = L.length by omega, List.drop_length]; rfl)
        · exfalso; omega
  refine x_iconst hM dX5_holderAt_0 ?_
  refine x_istore_n hM dX5_holderAt_1 rfl rfl (Nat.le_of_ble_eq_true rfl) rfl ?_
  exact K (L.length + 1) 0 (by omega) (by omega) rfl
def lonS (o : Int) (c : Int) (s : Sg) : Int := if s.1 = o then (if c < s.2.2 - s.2.1 then s.2.2 - s.2.1 else c) else c
theorem lonS_t {o c : Int} {s : Sg} (h : s.1 = o) : lonS o c s = if c < s.2.2 - s.2.1 then s.2.2 - s.2.1 else c := if_pos h
theorem lonS_f {o c : Int} {s : Sg} (h : s.1 ≠ o) : lonS o c s = c := if_neg h
def lonF (L : List Sg) (o : Int) : Int := L.foldl (lonS o) 0
theorem m_X5_longestOf {l : Launch} {G : xG} {w : Wd} {z a : Nat} {L : List Sg} {o : Int} (h1 : strA G w a L) (ho : iR o) : xMet l G yX5_longestOf cX5_longestOf 4 (some .int) ({ frames := 1, cells := 0, slots := 0, locals := 21 } : Room) [.ref a, .int (iI o)] w z (rI (lonF L o) w z) := by
  obtain ⟨hW, fo, fs, fl, fr, fm, hs, hL⟩ := h1
  have hW1 := hW.1
  refine xMet_of RX5 rfl (by decide +kernel) false (by decide +kernel) (Nat.le_of_ble_eq_true rfl) rfl ?_
  intro P hM hR
  have K : ∀ (k i : Nat) (c : Int), L.length - i < k → i ≤ L.length → 0 ≤ c ∧ c ≤ 10000 → (L.drop i).foldl (lonS o) c = lonF L o → P 4 [some (.ref a), some (.int (iI o)), some (.int (iI c)), some (.int (iI i))] [] w (z, 0, 0) := by
    intro k
    induction k with
    | zero => intro i c hk; omega
    | succ k ih =>
      intro i c hk hi hc hinv
      by_cases hlt : i < L.length
      · obtain ⟨e1, e2, e3⟩ := hL.1 i hlt
        have hok := strW_at hW hlt
        rw [drop_fold _ _ hlt] at hinv
        refine x_iload_n hM dX5_longestOf_4 rfl rfl ?_
        refine x_aload_n hM dX5_longestOf_5 rfl rfl ?_
        refine x_get hM wf_X5_36 wl_X5 (by first | assumption | exact str_o (by assumption) | exact str_a (by assumption)) rfl dX5_longestOf_6 ?_
        refine x_icmp_ge (tgt := 43) hM dX5_longestOf_9 (by decide) (by omega) (by omega) (fun c_9 => ?_) (fun c_9 => ?_)
        · exfalso; omega
        · refine x_aload_n hM dX5_longestOf_12 rfl rfl ?_
          refine x_get hM wf_X5_14 wl_X5 (by first | assumption | exact str_o (by assumption) | exact str_a (by assumption)) rfl dX5_longestOf_13 ?_
          refine x_iload_n hM dX5_longestOf_16 rfl rfl ?_
          refine x_callV hM wv_X5_43 (m_X4_at (by first | assumption | exact sr1 (by assumption) | exact sr2 (by assumption) | exact sr3 (by assumption) | exact sr4 (by assumption) | exact sr5 (by assumption) | exact rg1 (by assumption) | exact rg2 (by assumption) | exact rg3 (by assumption)) (by omega)) ⟨Nat.le_of_ble_eq_true rfl, Nat.le_of_ble_eq_true rfl⟩ (by first | assumption | exact row_o (by first | assumption | exact sr1 (by assumption) | exact sr2 (by assumption) | exact sr3 (by assumption) | exact sr4 (by assumption) | exact sr5 (by assumption) | exact rg1 (by assumption) | exact rg2 (by assumption) | exact rg3 (by assumption))) rfl rfl rfl rfl (Nat.le_of_ble_eq_true rfl) ⟨Nat.le_of_ble_eq_true rfl, Nat.le_of_ble_eq_true rfl⟩ dX5_longestOf_17 (k_rI ?_)
          refine x_iload_n hM dX5_longestOf_20 rfl rfl ?_
          refine x_icmp_ne (tgt := 37) hM dX5_longestOf_21 (by decide) (by omega) (by omega) (fun c_21 => ?_) (fun c_21 => ?_)
          · refine x_iinc hM dX5_longestOf_37 rfl rfl rfl ?_
            refine x_goto (tgt := 4) hM dX5_longestOf_40 (by decide) ?_
            exact ih (i + 1) _ (by omega) (by omega) (by omega) (by rw [← hinv]; first | rw [lonS_t (by omega), e3] | rw [lonS_f (by omega)])
          · refine x_iload_n hM dX5_longestOf_24 rfl rfl ?_
            refine x_aload_n hM dX5_longestOf_25 rfl rfl ?_
            refine x_get hM wf_X5_23 wl_X5 (by first | assumption | exact str_o (by assumption) | exact str_a (by assumption)) rfl dX5_longestOf_26 ?_
            refine x_iload_n hM dX5_longestOf_29 rfl rfl ?_
            refine x_callV hM wv_X5_43 (m_X4_at (by first | assumption | exact sr1 (by assumption) | exact sr2 (by assumption) | exact sr3 (by assumption) | exact sr4 (by assumption) | exact sr5 (by assumption) | exact rg1 (by assumption) | exact rg2 (by assumption) | exact rg3 (by assumption)) (by omega)) ⟨Nat.le_of_ble_eq_true rfl, Nat.le_of_ble_eq_true rfl⟩ (by first | assumption | exact row_o (by first | assumption | exact sr1 (by assumption) | exact sr2 (by assumption) | exact sr3 (by assumption) | exact sr4 (by assumption) | exact sr5 (by assumption) | exact rg1 (by assumption) | exact rg2 (by assumption) | exact rg3 (by assumption))) rfl rfl rfl rfl (Nat.le_of_ble_eq_true rfl) ⟨Nat.le_of_ble_eq_true rfl, Nat.le_of_ble_eq_true rfl⟩ dX5_longestOf_30 (k_rI ?_)
            refine x_max hM wm_X5_72 (by omega) (by omega) (Nat.le_of_ble_eq_true rfl) (Nat.le_of_ble_eq_true rfl) ⟨Nat.le_of_ble_eq_true rfl, Nat.le_of_ble_eq_true rfl⟩ dX5_longestOf_33 ?_
            refine x_istore_n hM dX5_longestOf_36 rfl rfl (Nat.le_of_ble_eq_true rfl) rfl ?_
            refine x_iinc hM dX5_longestOf_37 rfl rfl rfl ?_
            refine x_goto (tgt := 4) hM dX5_longestOf_40 (by decide) ?_
            exact ih (i + 1) _ (by omega) (by omega) (by omega) (by rw [← hinv]; first | rw [lonS_t (by omega), e3] | rw [lonS_f (by omega)])
      · skip
        refine x_iload_n hM dX5_longestOf_4 rfl rfl ?_
        refine x_aload_n hM dX5_longestOf_5 rfl rfl ?_
        refine x_get hM wf_X5_36 wl_X5 (by first | assumption | exact str_o (by assumption) | exact str_a (by assumption)) rfl dX5_longestOf_6 ?_
        refine x_icmp_ge (tgt := 43) hM dX5_longestOf_9 (by decide) (by omega) (by omega) (fun c_9 => ?_) (fun c_9 => ?_)
        · refine x_iload_n hM dX5_longestOf_43 rfl rfl ?_
          refine hR.i dX5_longestOf_44 (Nat.zero_le _) (Nat.zero_le _) ?_
          exact p_rI (by rw [← hinv, drop_foldE _ _ (by omega)])
        · exfalso; omega
  refine x_iconst hM dX5_longestOf_0 ?_
  refine x_istore_n hM dX5_longestOf_1 rfl rfl (Nat.le_of_ble_eq_true rfl) rfl ?_
  refine x_iconst hM dX5_longestOf_2 ?_
  refine x_istore_n hM dX5_longestOf_3 rfl rfl (Nat.le_of_ble_eq_true rfl) rfl ?_
  exact K (L.length + 1) 0 0 (by omega) (by omega) (by omega) rfl
def srtS (o : Int) (c : Int × Int × Int) (s : Sg) : Int × Int × Int := if s.1 = o ∧ (c.2.1 = -6 ∨ s.2.2 - s.2.1 ≤ c.2.2) then (c.1 + 1, c.1, s.2.2 - s.2.1) else (c.1 + 1, c.2.1, c.2.2)
def srtF (L : List Sg) (o : Int) : Int := (L.foldl (srtS o) (0, -6, 0)).2.1
theorem m_X5_shortestOf {l : Launch} {G : xG} {w : Wd} {z a : Nat} {L : List Sg} {o : Int} (h1 : strA G w a L) (ho : iR o) : xMet l G yX5_shortestOf cX5_shortestOf 4 (some .int) ({ frames := 1, cells := 0, slots := 0, locals := 21 } : Room) [.ref a, .int (iI o)] w z (rI (srtF L o) w z) := by
  obtain ⟨hW, fo, fs, fl, fr, fm, hs, hL⟩ := h1
  have hW1 := hW.1
  refine xMet_of RX5 rfl (by decide +kernel) false (by decide +kernel) (Nat.le_of_ble_eq_true rfl) rfl ?_
  intro P hM hR
  have K : ∀ (k i : Nat) (b : Int) (bl : Int), L.length - i < k → i ≤ L.length → (b = -6 ∨ (0 ≤ b ∧ b < i ∧ fl b = bl ∧ 0 < bl ∧ bl ≤ 10000)) → ((L.drop i).foldl (srtS o) ((i : Int), b, bl)).2.1 = srtF L o → P 5 [some (.ref a), some (.int (iI o)), some (.int (iI b)), some (.int (iI i))] [] w (z, 0, 0) := by
    intro k
    induction k with
    | zero => intro i b bl hk; omega
    | succ k ih =>
      intro i b bl hk hi hc hinv
      by_cases hlt : i < L.length
      · obtain ⟨e1, e2, e3⟩ := hL.1 i hlt
        have hok := strW_at hW hlt
        rw [drop_fold _ _ hlt] at hinv
        have step1 : (L[i].1 = o ∧ (b = -6 ∨ L[i].2.2 - L[i].2.1 ≤ bl)) → P 5 [some (.ref a), some (.int (iI o)), some (.int (iI i)), some (.int (iI (i + 1)))] [] w (z, 0, 0) := by
          intro hc2
          rw [show srtS o ((i : Int), b, bl) L[i] = ((i : Int) + 1, (i : Int), L[i].2.2 - L[i].2.1) from if_pos hc2] at hinv
          exact ih (i + 1) _ _ (by omega) (by omega) (Or.inr (by omega)) hinv
        have step2 : ¬ (L[i].1 = o ∧ (b = -6 ∨ L[i].2.2 - L[i].2.1 ≤ bl)) → P 5 [some (.ref a), some (.int (iI o)), some (.int (iI b)), some (.int (iI (i + 1)))] [] w (z, 0, 0) := by
          intro hc2
          rw [show srtS o ((i : Int), b, bl) L[i] = ((i : Int) + 1, b, bl) from if_neg hc2] at hinv
          exact ih (i + 1) _ _ (by omega) (by omega) (by omega) hinv
        refine x_iload_n hM dX5_shortestOf_5 rfl rfl ?_
        refine x_aload_n hM dX5_shortestOf_6 rfl rfl ?_
        refine x_get hM wf_X5_36 wl_X5 (by first | assumption | exact str_o (by assumption) | exact str_a (by assumption)) rfl dX5_shortestOf_7 ?_
        refine x_icmp_ge (tgt := 58) hM dX5_shortestOf_10 (by decide) (by omega) (by omega) (fun c_10 => ?_) (fun c_10 => ?_)
        · exfalso; omega
        · refine x_aload_n hM dX5_shortestOf_13 rfl rfl ?_
          refine x_get hM wf_X5_14 wl_X5 (by first | assumption | exact str_o (by assumption) | exact str_a (by assumption)) rfl dX5_shortestOf_14 ?_
          refine x_iload_n hM dX5_shortestOf_17 rfl rfl ?_
          refine x_callV hM wv_X5_43 (m_X4_at (by first | assumption | exact sr1 (by assumption) | exact sr2 (by assumption) | exact sr3 (by assumption) | exact sr4 (by assumption) | exact sr5 (by assumption) | exact rg1 (by assumption) | exact rg2 (by assumption) | exact rg3 (by assumption)) (by omega)) ⟨Nat.le_of_ble_eq_true rfl, Nat.le_of_ble_eq_true rfl⟩ (by first | assumption | exact row_o (by first | assumption | exact sr1 (by assumption) | exact sr2 (by assumption) | exact sr3 (by assumption) | exact sr4 (by assumption) | exact sr5 (by assumption) | exact rg1 (by assumption) | exact rg2 (by assumption) | exact rg3 (by assumption))) rfl rfl rfl rfl (Nat.le_of_ble_eq_true rfl) ⟨Nat.le_of_ble_eq_true rfl, Nat.le_of_ble_eq_true rfl⟩ dX5_shortestOf_18 (k_rI ?_)
          refine x_iload_n hM dX5_shortestOf_21 rfl rfl ?_
          refine x_icmp_ne (tgt := 52) hM dX5_shortestOf_22 (by decide) (by omega) (by omega) (fun c_22 => ?_) (fun c_22 => ?_)
          · refine x_iinc hM dX5_shortestOf_52 rfl rfl rfl ?_
            refine x_goto (tgt := 5) hM dX5_shortestOf_55 (by decide) ?_
            first | exact step1 (by omega) | exact step2 (by omega)
          · refine x_iload_n hM dX5_shortestOf_25 rfl rfl ?_
            refine x_bipush hM dX5_shortestOf_26 rfl ?_
            refine x_icmp_eq (tgt := 50) hM dX5_shortestOf_28 (by decide) (by omega) (by omega) (fun c_28 => ?_) (fun c_28 => ?_)
            · refine x_iload_n hM dX5_shortestOf_50 rfl rfl ?_
              refine x_istore_n hM dX5_shortestOf_51 rfl rfl (Nat.le_of_ble_eq_true rfl) rfl ?_
              refine x_iinc hM dX5_shortestOf_52 rfl rfl rfl ?_
              refine x_goto (tgt := 5) hM dX5_shortestOf_55 (by decide) ?_
              first | exact step1 (by omega) | exact step2 (by omega)
            · refine x_aload_n hM dX5_shortestOf_31 rfl rfl ?_
              refine x_get hM wf_X5_23 wl_X5 (by first | assumption | exact str_o (by assumption) | exact str_a (by assumption)) rfl dX5_shortestOf_32 ?_
              refine x_iload_n hM dX5_shortestOf_35 rfl rfl ?_
              refine x_callV hM wv_X5_43 (m_X4_at (by first | assumption | exact sr1 (by assumption) | exact sr2 (by assumption) | exact sr3 (by assumption) | exact sr4 (by assumption) | exact sr5 (by assumption) | exact rg1 (by assumption) | exact rg2 (by assumption) | exact rg3 (by assumption)) (by omega)) ⟨Nat.le_of_ble_eq_true rfl, Nat.le_of_ble_eq_true rfl⟩ (by first | assumption | exact row_o (by first | assumption | exact sr1 (by assumption) | exact sr2 (by assumption) | exact sr3 (by assumption) | exact sr4 (by assumption) | exact sr5 (by assumption) | exact rg1 (by assumption) | exact rg2 (by assumption) | exact rg3 (by assumption))) rfl rfl rfl rfl (Nat.le_of_ble_eq_true rfl) ⟨Nat.le_of_ble_eq_true rfl, Nat.le_of_ble_eq_true rfl⟩ dX5_shortestOf_36 (k_rI ?_)
              refine x_aload_n hM dX5_shortestOf_39 rfl rfl ?_
              refine x_get hM wf_X5_23 wl_X5 (by first | assumption | exact str_o (by assumption) | exact str_a (by assumption)) rfl dX5_shortestOf_40 ?_
              refine x_iload_n hM dX5_shortestOf_43 rfl rfl ?_
              refine x_callV hM wv_X5_43 (m_X4_at (by first | assumption | exact sr1 (by assumption) | exact sr2 (by assumption) | exact sr3 (by assumption) | exact sr4 (by assumption) | exact sr5 (by assumption) | exact rg1 (by assumption) | exact rg2 (by assumption) | exact rg3 (by assumption)) (by omega)) ⟨Nat.le_of_ble_eq_true rfl, Nat.le_of_ble_eq_true rfl⟩ (by first | assumption | exact row_o (by first | assumption | exact sr1 (by assumption) | exact sr2 (by assumption) | exact sr3 (by assumption) | exact sr4 (by assumption) | exact sr5 (by assumption) | exact rg1 (by assumption) | exact rg2 (by assumption) | exact rg3 (by assumption))) rfl rfl rfl rfl (Nat.le_of_ble_eq_true rfl) ⟨Nat.le_of_ble_eq_true rfl, Nat.le_of_ble_eq_true rfl⟩ dX5_shortestOf_44 (k_rI ?_)
              refine x_icmp_gt (tgt := 52) hM dX5_shortestOf_47 (by decide) (by omega) (by omega) (fun c_47 => ?_) (fun c_47 => ?_)
              · refine x_iinc hM dX5_shortestOf_52 rfl rfl rfl ?_
                refine x_goto (tgt := 5) hM dX5_shortestOf_55 (by decide) ?_
                first | exact step1 (by omega) | exact step2 (by omega)
              · refine x_iload_n hM dX5_shortestOf_50 rfl rfl ?_
                refine x_istore_n hM dX5_shortestOf_51 rfl rfl (Nat.le_of_ble_eq_true rfl) rfl ?_
                refine x_iinc hM dX5_shortestOf_52 rfl rfl rfl ?_
                refine x_goto (tgt := 5) hM dX5_shortestOf_55 (by decide) ?_
                first | exact step1 (by omega) | exact step2 (by omega)
      · skip
        refine x_iload_n hM dX5_shortestOf_5 rfl rfl ?_
        refine x_aload_n hM dX5_shortestOf_6 rfl rfl ?_
        refine x_get hM wf_X5_36 wl_X5 (by first | assumption | exact str_o (by assumption) | exact str_a (by assumption)) rfl dX5_shortestOf_7 ?_
        refine x_icmp_ge (tgt := 58) hM dX5_shortestOf_10 (by decide) (by omega) (by omega) (fun c_10 => ?_) (fun c_10 => ?_)
        · refine x_iload_n hM dX5_shortestOf_58 rfl rfl ?_
          refine hR.i dX5_shortestOf_59 (Nat.zero_le _) (Nat.zero_le _) ?_
          exact p_rI (by rw [← hinv, drop_foldE _ _ (by omega)])
        · exfalso; omega
  refine x_bipush hM dX5_shortestOf_0 rfl ?_
  refine x_istore_n hM dX5_shortestOf_2 rfl rfl (Nat.le_of_ble_eq_true rfl) rfl ?_
  refine x_iconst hM dX5_shortestOf_3 ?_
  refine x_istore_n hM dX5_shortestOf_4 rfl rfl (Nat.le_of_ble_eq_true rfl) rfl ?_
  exact K (L.length + 1) 0 (-6) 0 (by omega) (by omega) (by omega) rfl
/-- what shortestOf finds -/
theorem srt_spec (o : Int) : ∀ (L M : List Sg) (b bl : Int), (b = -6 → ∀ s ∈ M, s.1 ≠ o) → (b ≠ -6 → 0 ≤ b ∧ b < M.length ∧ ∃ x, M[b.toNat]? = some x ∧ x.1 = o ∧ x.2.2 - x.2.1 = bl ∧ (∀ s ∈ M, s.1 = o → bl ≤ s.2.2 - s.2.1) ∧ ∀ (j : Nat) (s : Sg), b < j → M[j]? = some s → s.1 = o → bl < s.2.2 - s.2.1) →
    let r := (L.foldl (srtS o) ((M.length : Int), b, bl)).2.1
    (r = -6 → ∀ s ∈ M ++ L, s.1 ≠ o) ∧ (r ≠ -6 → 0 ≤ r ∧ r < (M ++ L).length ∧ ∃ x, (M ++ L)[r.toNat]? = some x ∧ x.1 = o ∧ (∀ s ∈ M ++ L, s.1 = o → x.2.2 - x.2.1 ≤ s.2.2 - s.2.1) ∧ ∀ (j : Nat) (s : Sg), r < j → (M ++ L)[j]? = some s → s.1 = o → x.2.2 - x.2.1 < s.2.2 - s.2.1) := by
  intro L
  induction L with
  | nil =>
    intro M b bl h1 h2
    simp only [List.foldl_nil, List.append_nil]
    refine ⟨h1, fun hb => ?_⟩
    obtain ⟨g1, g2, x, g3, g4, g5, g6, g7⟩ := h2 hb
    subst g5
    exact ⟨g1, g2, x, g3, g4, g6, g7⟩
  | cons s t ih =>
    intro M b bl h1 h2
    simp only [List.foldl_cons]
    have e : M ++ s :: t = (M ++ [s]) ++ t := by simp
    rw [e]
    by_cases hc : s.1 = o ∧ (b = -6 ∨ s.2.2 - s.2.1 ≤ bl)
    · rw [show srtS o ((M.length : Int), b, bl) s = ((M.length : Int) + 1, (M.length : Int), s.2.2 - s.2.1) from if_pos hc]
      have := ih (M ++ [s]) M.length (s.2.2 - s.2.1) (by omega) (fun _ => ⟨by omega, by simp; omega, s, ?_, hc.1, rfl, ?_, ?_⟩)
      · simpa using this
      · simp
      · intro x hx hxo
        rcases List.mem_append.mp hx with g | g
        · rcases hc.2 with hb | hb
          · exact absurd hxo (h1 hb x g)
          · by_cases hb6 : b = -6
            · exact absurd hxo (h1 hb6 x g)
            · obtain ⟨-, -, y, -, -, -, g6, -⟩ := h2 hb6
              have := g6 x g hxo
              omega
        · simp at g
          subst g
          omega
      · intro j x hj hx
        have : j < (M ++ [s]).length := (List.getElem?_eq_some_iff.mp hx).1
        simp at this
        omega
    · rw [show srtS o ((M.length : Int), b, bl) s = ((M.length : Int) + 1, b, bl) from if_neg hc]
      have := ih (M ++ [s]) b bl (fun hb x hx => ?_) (fun hb => ?_)
      · simpa using this
      · rcases List.mem_append.mp hx with g | g
        · exact h1 hb x g
        · simp at g
          subst g
          intro h
          exact hc ⟨h, Or.inl hb⟩
      · obtain ⟨g1, g2, y, g3, g4, g5, g6, g7⟩ := h2 hb
        refine ⟨g1, by simp; omega, y, ?_, g4, g5, ?_, ?_⟩
        · rw [List.getElem?_append_left (by omega)]
          exact g3
        · intro x hx hxo
          rcases List.mem_append.mp hx with g | g
          · exact g6 x g hxo
          · simp at g
            subst g
            omega
        · intro j x hj hx hxo
          by_cases hjl : j < M.length
          · rw [List.getElem?_append_left hjl] at hx
            exact g7 j x hj hx hxo
          · have hx2 := List.mem_of_getElem? hx
            rw [List.getElem?_append_right (by omega)] at hx
            have : j - M.length = 0 := by
              have := (List.getElem?_eq_some_iff.mp hx).1
              simp at this
              omega
            rw [this] at hx
            simp at hx
            subst hx
            omega
theorem srt_ok (L : List Sg) (o : Int) : (srtF L o = -6 → ∀ s ∈ L, s.1 ≠ o) ∧ (srtF L o ≠ -6 → 0 ≤ srtF L o ∧ srtF L o < L.length ∧ ∃ x, L[(srtF L o).toNat]? = some x ∧ x.1 = o ∧ (∀ s ∈ L, s.1 = o → x.2.2 - x.2.1 ≤ s.2.2 - s.2.1) ∧ ∀ (j : Nat) (s : Sg), srtF L o < j → L[j]? = some s → s.1 = o → x.2.2 - x.2.1 < s.2.2 - s.2.1) := by
  have h := srt_spec o L [] (-6) 0 (fun _ s h => absurd h List.not_mem_nil) (fun h => absurd rfl h)
  simp only [List.nil_append] at h
  exact h
def shoB (L : List Sg) (o n : Int) : Bool := L.any fun s => decide (s.1 = o) && decide (s.2.2 - s.2.1 < n)
theorem m_X5_hasShorter {l : Launch} {G : xG} {w : Wd} {z a : Nat} {L : List Sg} {o n : Int} (h1 : strA G w a L) (ho : iR o) (hn : iR n) : xMet l G yX5_hasShorter cX5_hasShorter 4 (some .boolean) ({ frames := 2, cells := 0, slots := 0, locals := 44 } : Room) [.ref a, .int (iI o), .int (iI n)] w z (rI (if shoB L o n = true then 1 else 0) w z) := by
  have h0 := h1
  obtain ⟨hW, fo, fs, fl, fr, fm, hs, hL⟩ := h1
  have hW1 := hW.1
  obtain ⟨s1, s2⟩ := srt_ok L o
  have hb : ∀ b : Int, b = srtF L o → (b = -6 ∧ shoB L o n = false) ∨ (0 ≤ b ∧ b < 42 ∧ 0 < fl b ∧ fl b ≤ 10000 ∧ (shoB L o n = true ↔ fl b < n)) := by
    intro b hb
    subst hb
    by_cases c : srtF L o = -6
    · refine Or.inl ⟨c, ?_⟩
      unfold shoB
      rw [List.any_eq_false]
      intro x hx
      simp [s1 c x hx]
    · obtain ⟨g1, g2, x, g3, g4, g5, -⟩ := s2 c
      obtain ⟨g6, g7⟩ := List.getElem?_eq_some_iff.mp g3
      have g8 := (hL.1 _ g6).2.2
      have g9 := strW_at hW g6
      rw [g7] at g8 g9
      rw [show (((srtF L o).toNat : Nat) : Int) = srtF L o by omega] at g8
      refine Or.inr ⟨g1, by omega, by omega, by omega, ?_⟩
      unfold shoB
      rw [List.any_eq_true]
      constructor
      · rintro ⟨y, hy, hy2⟩
        simp at hy2
        have := g5 y hy hy2.1
        omega
      · intro hlt
        exact ⟨x, List.mem_of_getElem? g3, by simp [g4]; omega⟩
  refine xMet_of RX5 rfl (by decide +kernel) false (by decide +kernel) (Nat.le_of_ble_eq_true rfl) rfl ?_
  intro P hM hR
  refine x_aload_n hM dX5_hasShorter_0 rfl rfl ?_
  refine x_iload_n hM dX5_hasShorter_1 rfl rfl ?_
  refine x_callV hM wv_X5_79 (m_X5_shortestOf (by assumption) (by omega)) ⟨Nat.le_of_ble_eq_true rfl, Nat.le_of_ble_eq_true rfl⟩ (by first | assumption | exact str_o (by assumption) | exact str_a (by assumption)) rfl rfl rfl rfl (Nat.le_of_ble_eq_true rfl) ⟨Nat.le_of_ble_eq_true rfl, Nat.le_of_ble_eq_true rfl⟩ dX5_hasShorter_2 (k_rI ?_)
  generalize hbb : srtF L o = b
  have hb1 := hb b hbb.symm
  refine x_istore_n hM dX5_hasShorter_5 rfl rfl (Nat.le_of_ble_eq_true rfl) rfl ?_
  refine x_iload_n hM dX5_hasShorter_6 rfl rfl ?_
  refine x_bipush hM dX5_hasShorter_7 rfl ?_
  refine x_icmp_eq (tgt := 28) hM dX5_hasShorter_9 (by decide) (by omega) (by omega) (fun c_9 => ?_) (fun c_9 => ?_)
  · refine x_iconst hM dX5_hasShorter_28 ?_
    refine hR.b dX5_hasShorter_29 rfl (Nat.zero_le _) (Nat.zero_le _) ?_
    exact p_rI (by first | (rw [if_pos (hb2.2.2.2.2.mpr (by omega))]) | (rw [if_neg (fun q => absurd (hb2.2.2.2.2.mp q) (by omega))]) | exact hb1.elim (fun q => by rw [q.2]; rfl) (fun q => by omega))
  · have hb2 := hb1.resolve_left (fun q => by omega)
    refine x_aload_n hM dX5_hasShorter_12 rfl rfl ?_
    refine x_get hM wf_X5_23 wl_X5 (by first | assumption | exact str_o (by assumption) | exact str_a (by assumption)) rfl dX5_hasShorter_13 ?_
    refine x_iload_n hM dX5_hasShorter_16 rfl rfl ?_
    refine x_callV hM wv_X5_43 (m_X4_at (by first | assumption | exact sr1 (by assumption) | exact sr2 (by assumption) | exact sr3 (by assumption) | exact sr4 (by assumption) | exact sr5 (by assumption) | exact rg1 (by assumption) | exact rg2 (by assumption) | exact rg3 (by assumption)) (by omega)) ⟨Nat.le_of_ble_eq_true rfl, Nat.le_of_ble_eq_true rfl⟩ (by first | assumption | exact row_o (by first | assumption | exact sr1 (by assumption) | exact sr2 (by assumption) | exact sr3 (by assumption) | exact sr4 (by assumption) | exact sr5 (by assumption) | exact rg1 (by assumption) | exact rg2 (by assumption) | exact rg3 (by assumption))) rfl rfl rfl rfl (Nat.le_of_ble_eq_true rfl) ⟨Nat.le_of_ble_eq_true rfl, Nat.le_of_ble_eq_true rfl⟩ dX5_hasShorter_17 (k_rI ?_)
    refine x_iload_n hM dX5_hasShorter_20 rfl rfl ?_
    refine x_icmp_ge (tgt := 28) hM dX5_hasShorter_21 (by decide) (by omega) (by omega) (fun c_21 => ?_) (fun c_21 => ?_)
    · refine x_iconst hM dX5_hasShorter_28 ?_
      refine hR.b dX5_hasShorter_29 rfl (Nat.zero_le _) (Nat.zero_le _) ?_
      exact p_rI (by first | (rw [if_pos (hb2.2.2.2.2.mpr (by omega))]) | (rw [if_neg (fun q => absurd (hb2.2.2.2.2.mp q) (by omega))]) | exact hb1.elim (fun q => by rw [q.2]; rfl) (fun q => by omega))
    · refine x_iconst hM dX5_hasShorter_24 ?_
      refine x_goto (tgt := 29) hM dX5_hasShorter_25 (by decide) ?_
      refine hR.b dX5_hasShorter_29 rfl (Nat.zero_le _) (Nat.zero_le _) ?_
      exact p_rI (by first | (rw [if_pos (hb2.2.2.2.2.mpr (by omega))]) | (rw [if_neg (fun q => absurd (hb2.2.2.2.2.mp q) (by omega))]) | exact hb1.elim (fun q => by rw [q.2]; rfl) (fun q => by omega))
