/-! The reference: what it reads, 2 -/
theorem m_X7_longestOf {l : Launch} {G : xG} {w : Wd} {z m : Nat} {f : Int → Int} {t : St} {o : Int} (h : rdA G w m f t) (ho : iR o) : xMet l G yX7_longestOf cX7_longestOf 4 (some .int) ({ frames := 3, cells := 0, slots := 0, locals := 63 } : Room) [.ref m, .int (iI o)] w z (rI (lonF t.L o) w z) := by
  obtain ⟨⟨un, sg, it, rw', mn, pl, wr, hh⟩, hn, hp⟩ := id h
  have hl := (np_w hp).1
  refine xMet_of RX7 rfl (by decide +kernel) false (by decide +kernel) (Nat.le_of_ble_eq_true rfl) rfl ?_
  intro P hM hR
  have K : ∀ (k i : Nat) (c : Int), t.L.length - i < k → i ≤ t.L.length → 0 ≤ c ∧ c ≤ 10000 → (t.L.drop i).foldl (lonS o) c = lonF t.L o → P 4 [some (.ref m), some (.int (iI o)), some (.int (iI c)), some (.int (iI i))] [] w (z, 0, 0) := by
    intro k
    induction k with
    | zero => intro i c hk; omega
    | succ k ih =>
      intro i c hk hi hc hinv
      by_cases hlt : i < t.L.length
      · have hg := np_at hp hlt
        refine x_iload_n hM dX7_longestOf_4 rfl rfl ?_
        refine x_aload_n hM dX7_longestOf_5 rfl rfl ?_
        refine x_get hM wf_X7_7 wl_X7 (by first | assumption | exact md_o (by assumption)) rfl dX7_longestOf_6 ?_
        refine x_bipush hM dX7_longestOf_9 rfl ?_
        refine x_iald hM (by first | assumption | exact row_c (by first | assumption | exact sr1 (by assumption) | exact sr2 (by assumption) | exact sr3 (by assumption) | exact sr4 (by assumption) | exact sr5 (by assumption) | exact rg1 (by assumption) | exact rg2 (by assumption) | exact rg3 (by assumption))) (by omega) dX7_longestOf_11 ?_
        rw [np_n hp]
        refine x_icmp_ge (tgt := 49) hM dX7_longestOf_12 (by decide) (by omega) (by omega) (fun c_12 => ?_) (fun c_12 => ?_)
        · exfalso; omega
        · refine x_aload_n hM dX7_longestOf_15 rfl rfl ?_
          refine x_iload_n hM dX7_longestOf_16 rfl rfl ?_
          refine x_callV hM wv_X7_87 (m_X7_ownerOf (by assumption) (by omega)) ⟨Nat.le_of_ble_eq_true rfl, Nat.le_of_ble_eq_true rfl⟩ (by first | assumption | exact md_o (by assumption)) rfl rfl rfl rfl (Nat.le_of_ble_eq_true rfl) ⟨Nat.le_of_ble_eq_true rfl, Nat.le_of_ble_eq_true rfl⟩ dX7_longestOf_17 (k_rI ?_)
          refine x_iload_n hM dX7_longestOf_20 rfl rfl ?_
          refine x_icmp_ne (tgt := 41) hM dX7_longestOf_21 (by decide) (by omega) (by omega) (fun c_21 => ?_) (fun c_21 => ?_)
          · refine x_iload_n hM dX7_longestOf_41 rfl rfl ?_
            refine x_istore_n hM dX7_longestOf_42 rfl rfl (Nat.le_of_ble_eq_true rfl) rfl ?_
            refine x_iinc hM dX7_longestOf_43 rfl rfl rfl ?_
            refine x_goto (tgt := 4) hM dX7_longestOf_46 (by decide) ?_
            exact ih (i + 1) _ (by omega) (by omega) (by omega) (by rw [drop_fold _ _ hlt] at hinv; rw [← hinv]; congr 1; unfold lonS; split <;> omega)
          · refine x_aload_n hM dX7_longestOf_24 rfl rfl ?_
            refine x_iload_n hM dX7_longestOf_25 rfl rfl ?_
            refine x_callV hM wv_X7_124 (m_X7_length (by assumption) (by omega)) ⟨Nat.le_of_ble_eq_true rfl, Nat.le_of_ble_eq_true rfl⟩ (by first | assumption | exact md_o (by assumption)) rfl rfl rfl rfl (Nat.le_of_ble_eq_true rfl) ⟨Nat.le_of_ble_eq_true rfl, Nat.le_of_ble_eq_true rfl⟩ dX7_longestOf_26 (k_rI ?_)
            refine x_iload_n hM dX7_longestOf_29 rfl rfl ?_
            refine x_icmp_le (tgt := 41) hM dX7_longestOf_30 (by decide) (by omega) (by omega) (fun c_30 => ?_) (fun c_30 => ?_)
            · refine x_iload_n hM dX7_longestOf_41 rfl rfl ?_
              refine x_istore_n hM dX7_longestOf_42 rfl rfl (Nat.le_of_ble_eq_true rfl) rfl ?_
              refine x_iinc hM dX7_longestOf_43 rfl rfl rfl ?_
              refine x_goto (tgt := 4) hM dX7_longestOf_46 (by decide) ?_
              exact ih (i + 1) _ (by omega) (by omega) (by omega) (by rw [drop_fold _ _ hlt] at hinv; rw [← hinv]; congr 1; unfold lonS; split <;> omega)
            · refine x_aload_n hM dX7_longestOf_33 rfl rfl ?_
              refine x_iload_n hM dX7_longestOf_34 rfl rfl ?_
              refine x_callV hM wv_X7_124 (m_X7_length (by assumption) (by omega)) ⟨Nat.le_of_ble_eq_true rfl, Nat.le_of_ble_eq_true rfl⟩ (by first | assumption | exact md_o (by assumption)) rfl rfl rfl rfl (Nat.le_of_ble_eq_true rfl) ⟨Nat.le_of_ble_eq_true rfl, Nat.le_of_ble_eq_true rfl⟩ dX7_longestOf_35 (k_rI ?_)
              refine x_goto (tgt := 42) hM dX7_longestOf_38 (by decide) ?_
              refine x_istore_n hM dX7_longestOf_42 rfl rfl (Nat.le_of_ble_eq_true rfl) rfl ?_
              refine x_iinc hM dX7_longestOf_43 rfl rfl rfl ?_
              refine x_goto (tgt := 4) hM dX7_longestOf_46 (by decide) ?_
              exact ih (i + 1) _ (by omega) (by omega) (by omega) (by rw [drop_fold _ _ hlt] at hinv; rw [← hinv]; congr 1; unfold lonS; split <;> omega)
      · skip
        refine x_iload_n hM dX7_longestOf_4 rfl rfl ?_
        refine x_aload_n hM dX7_longestOf_5 rfl rfl ?_
        refine x_get hM wf_X7_7 wl_X7 (by first | assumption | exact md_o (by assumption)) rfl dX7_longestOf_6 ?_
        refine x_bipush hM dX7_longestOf_9 rfl ?_
        refine x_iald hM (by first | assumption | exact row_c (by first | assumption | exact sr1 (by assumption) | exact sr2 (by assumption) | exact sr3 (by assumption) | exact sr4 (by assumption) | exact sr5 (by assumption) | exact rg1 (by assumption) | exact rg2 (by assumption) | exact rg3 (by assumption))) (by omega) dX7_longestOf_11 ?_
        rw [np_n hp]
        refine x_icmp_ge (tgt := 49) hM dX7_longestOf_12 (by decide) (by omega) (by omega) (fun c_12 => ?_) (fun c_12 => ?_)
        · refine x_iload_n hM dX7_longestOf_49 rfl rfl ?_
          refine hR.i dX7_longestOf_50 (Nat.zero_le _) (Nat.zero_le _) ?_
          exact p_rI ((drop_foldE _ _ (by omega) c).symm.trans hinv)
        · exfalso; omega
  refine x_iconst hM dX7_longestOf_0 ?_
  refine x_istore_n hM dX7_longestOf_1 rfl rfl (Nat.le_of_ble_eq_true rfl) rfl ?_
  refine x_iconst hM dX7_longestOf_2 ?_
  refine x_istore_n hM dX7_longestOf_3 rfl rfl (Nat.le_of_ble_eq_true rfl) rfl ?_
  exact K _ 0 0 (Nat.lt_succ_self _) (Nat.zero_le _) (by omega) rfl
/-- the piece that is a range by its number: the pieces from the i-th on, n ranges before -/
def pieF : List Sg → Int → Int → Int → Int
  | [], _, _, _ => -6
  | s :: L, i, n, r => if 0 ≤ s.1 then (if n = r then i else pieF L (i + 1) (n + 1) r) else pieF L (i + 1) n r
theorem pieF_b : ∀ (L : List Sg) (i n r : Int), pieF L i n r = -6 ∨ (i ≤ pieF L i n r ∧ pieF L i n r < i + L.length) := by
  intro L
  induction L with
  | nil => intro i n r; exact Or.inl rfl
  | cons s L ih =>
    intro i n r
    have h1 := ih (i + 1) (n + 1) r
    have h2 := ih (i + 1) n r
    rw [pieF, List.length_cons]
    split
    · split <;> omega
    · omega
theorem m_X7_pieceOf {l : Launch} {G : xG} {w : Wd} {z m : Nat} {f : Int → Int} {t : St} {r : Int} (h : rdA G w m f t) (hr : iR r) : xMet l G yX7_pieceOf cX7_pieceOf 4 (some .int) ({ frames := 1, cells := 0, slots := 0, locals := 21 } : Room) [.ref m, .int (iI r)] w z (rI (pieF t.L 0 0 r) w z) := by
  obtain ⟨⟨un, sg, it, rw', mn, pl, wr, hh⟩, hn, hp⟩ := id h
  have hl := (np_w hp).1
  refine xMet_of RX7 rfl (by decide +kernel) false (by decide +kernel) (Nat.le_of_ble_eq_true rfl) rfl ?_
  intro P hM hR
  have K : ∀ (k i : Nat) (c : Int), t.L.length - i < k → i ≤ t.L.length → 0 ≤ c ∧ c ≤ i → pieF (t.L.drop i) i c r = pieF t.L 0 0 r → P 4 [some (.ref m), some (.int (iI r)), some (.int (iI c)), some (.int (iI i))] [] w (z, 0, 0) := by
    intro k
    induction k with
    | zero => intro i c hk; omega
    | succ k ih =>
      intro i c hk hi hc hinv
      by_cases hlt : i < t.L.length
      · have hg := np_at hp hlt
        rw [List.drop_eq_getElem_cons hlt, pieF] at hinv
        refine x_iload_n hM dX7_pieceOf_4 rfl rfl ?_
        refine x_aload_n hM dX7_pieceOf_5 rfl rfl ?_
        refine x_get hM wf_X7_7 wl_X7 (by first | assumption | exact md_o (by assumption)) rfl dX7_pieceOf_6 ?_
        refine x_bipush hM dX7_pieceOf_9 rfl ?_
        refine x_iald hM (by first | assumption | exact row_c (by first | assumption | exact sr1 (by assumption) | exact sr2 (by assumption) | exact sr3 (by assumption) | exact sr4 (by assumption) | exact sr5 (by assumption) | exact rg1 (by assumption) | exact rg2 (by assumption) | exact rg3 (by assumption))) (by omega) dX7_pieceOf_11 ?_
        rw [np_n hp]
        refine x_icmp_ge (tgt := 39) hM dX7_pieceOf_12 (by decide) (by omega) (by omega) (fun c_12 => ?_) (fun c_12 => ?_)
        · exfalso; omega
        · refine x_aload_n hM dX7_pieceOf_15 rfl rfl ?_
          refine x_iload_n hM dX7_pieceOf_16 rfl rfl ?_
          refine x_callV hM wv_X7_87 (m_X7_ownerOf (by assumption) (by omega)) ⟨Nat.le_of_ble_eq_true rfl, Nat.le_of_ble_eq_true rfl⟩ (by first | assumption | exact md_o (by assumption)) rfl rfl rfl rfl (Nat.le_of_ble_eq_true rfl) ⟨Nat.le_of_ble_eq_true rfl, Nat.le_of_ble_eq_true rfl⟩ dX7_pieceOf_17 (k_rI ?_)
          refine x_if_lt (tgt := 33) hM dX7_pieceOf_20 (by decide) (by omega) (fun c_20 => ?_) (fun c_20 => ?_)
          · refine x_iinc hM dX7_pieceOf_33 rfl rfl rfl ?_
            refine x_goto (tgt := 4) hM dX7_pieceOf_36 (by decide) ?_
            exact ih (i + 1) _ (by omega) (by omega) (by omega) (by first | (rw [if_pos (by omega), if_neg (by omega)] at hinv; exact hinv) | (rw [if_neg (by omega)] at hinv; exact hinv))
          · refine x_iload_n hM dX7_pieceOf_23 rfl rfl ?_
            refine x_iload_n hM dX7_pieceOf_24 rfl rfl ?_
            refine x_icmp_ne (tgt := 30) hM dX7_pieceOf_25 (by decide) (by omega) (by omega) (fun c_25 => ?_) (fun c_25 => ?_)
            · refine x_iinc hM dX7_pieceOf_30 rfl rfl rfl ?_
              refine x_iinc hM dX7_pieceOf_33 rfl rfl rfl ?_
              refine x_goto (tgt := 4) hM dX7_pieceOf_36 (by decide) ?_
              exact ih (i + 1) _ (by omega) (by omega) (by omega) (by first | (rw [if_pos (by omega), if_neg (by omega)] at hinv; exact hinv) | (rw [if_neg (by omega)] at hinv; exact hinv))
            · refine x_iload_n hM dX7_pieceOf_28 rfl rfl ?_
              refine hR.i dX7_pieceOf_29 (Nat.zero_le _) (Nat.zero_le _) ?_
              exact p_rI (by rw [← hinv, if_pos (by omega), if_pos (by omega)])
      · skip
        refine x_iload_n hM dX7_pieceOf_4 rfl rfl ?_
        refine x_aload_n hM dX7_pieceOf_5 rfl rfl ?_
        refine x_get hM wf_X7_7 wl_X7 (by first | assumption | exact md_o (by assumption)) rfl dX7_pieceOf_6 ?_
        refine x_bipush hM dX7_pieceOf_9 rfl ?_
        refine x_iald hM (by first | assumption | exact row_c (by first | assumption | exact sr1 (by assumption) | exact sr2 (by assumption) | exact sr3 (by assumption) | exact sr4 (by assumption) | exact sr5 (by assumption) | exact rg1 (by assumption) | exact rg2 (by assumption) | exact rg3 (by assumption))) (by omega) dX7_pieceOf_11 ?_
        rw [np_n hp]
        refine x_icmp_ge (tgt := 39) hM dX7_pieceOf_12 (by decide) (by omega) (by omega) (fun c_12 => ?_) (fun c_12 => ?_)
        · refine x_bipush hM dX7_pieceOf_39 rfl ?_
          refine hR.i dX7_pieceOf_41 (Nat.zero_le _) (Nat.zero_le _) ?_
          exact p_rI (by rw [List.drop_of_length_le (by omega)] at hinv; exact hinv)
        · exfalso; omega
  refine x_iconst hM dX7_pieceOf_0 ?_
  refine x_istore_n hM dX7_pieceOf_1 rfl rfl (Nat.le_of_ble_eq_true rfl) rfl ?_
  refine x_iconst hM dX7_pieceOf_2 ?_
  refine x_istore_n hM dX7_pieceOf_3 rfl rfl (Nat.le_of_ble_eq_true rfl) rfl ?_
  exact K _ 0 0 (Nat.lt_succ_self _) (Nat.zero_le _) (by omega) rfl
def ofRR (L : List Sg) (r k : Int) : Int := if pieF L 0 0 r < 0 then -1 else if k = 0 then gO L (pieF L 0 0 r).toNat else if k = 1 then gA_ L (pieF L 0 0 r).toNat else if k = 2 then gB_ L (pieF L 0 0 r).toNat - gA_ L (pieF L 0 0 r).toNat else -2
theorem m_X7_ofRange {l : Launch} {G : xG} {w : Wd} {z m : Nat} {f : Int → Int} {t : St} {r k : Int} (h : rdA G w m f t) (hr : iR r) (hk : iR k) : xMet l G yX7_ofRange cX7_ofRange 4 (some .int) ({ frames := 3, cells := 0, slots := 0, locals := 63 } : Room) [.ref m, .int (iI r), .int (iI k)] w z (rI (ofRR t.L r k) w z) := by
  obtain ⟨⟨un, sg, it, rw', mn, pl, wr, hh⟩, hn, hp⟩ := id h
  have hl := (np_w hp).1
  have hb := pieF_b t.L 0 0 r
  refine xMet_of RX7 rfl (by decide +kernel) false (by decide +kernel) (Nat.le_of_ble_eq_true rfl) rfl ?_
  intro P hM hR
  by_cases c1 : pieF t.L 0 0 r < 0
  · skip
    refine x_aload_n hM dX7_ofRange_0 rfl rfl ?_
    refine x_iload_n hM dX7_ofRange_1 rfl rfl ?_
    refine x_callV hM wv_X7_168 (m_X7_pieceOf (by assumption) (by omega)) ⟨Nat.le_of_ble_eq_true rfl, Nat.le_of_ble_eq_true rfl⟩ (by first | assumption | exact md_o (by assumption)) rfl rfl rfl rfl (Nat.le_of_ble_eq_true rfl) ⟨Nat.le_of_ble_eq_true rfl, Nat.le_of_ble_eq_true rfl⟩ dX7_ofRange_2 (k_rI ?_)
    refine x_istore_n hM dX7_ofRange_5 rfl rfl (Nat.le_of_ble_eq_true rfl) rfl ?_
    refine x_iload_n hM dX7_ofRange_6 rfl rfl ?_
    refine x_if_ge (tgt := 12) hM dX7_ofRange_7 (by decide) (by omega) (fun c_7 => ?_) (fun c_7 => ?_)
    · exfalso; omega
    · refine x_iconst hM dX7_ofRange_10 ?_
      refine hR.i dX7_ofRange_11 (Nat.zero_le _) (Nat.zero_le _) ?_
      exact p_rI (if_pos c1).symm
  · obtain ⟨n, hn0⟩ : ∃ n : Nat, pieF t.L 0 0 r = n := ⟨(pieF t.L 0 0 r).toNat, by omega⟩
    have hn1 : n < t.L.length := by omega
    have e := gO_at hn1
    have e1 : ofRR t.L r k = if k = 0 then t.L[n].1 else if k = 1 then t.L[n].2.1 else if k = 2 then t.L[n].2.2 - t.L[n].2.1 else -2 := by unfold ofRR; rw [if_neg c1, hn0, Int.toNat_natCast, e.1, e.2.1, e.2.2]
    refine x_aload_n hM dX7_ofRange_0 rfl rfl ?_
    refine x_iload_n hM dX7_ofRange_1 rfl rfl ?_
    refine x_callV hM wv_X7_168 (m_X7_pieceOf (by assumption) (by omega)) ⟨Nat.le_of_ble_eq_true rfl, Nat.le_of_ble_eq_true rfl⟩ (by first | assumption | exact md_o (by assumption)) rfl rfl rfl rfl (Nat.le_of_ble_eq_true rfl) ⟨Nat.le_of_ble_eq_true rfl, Nat.le_of_ble_eq_true rfl⟩ dX7_ofRange_2 (k_rI ?_)
    rw [hn0]
    refine x_istore_n hM dX7_ofRange_5 rfl rfl (Nat.le_of_ble_eq_true rfl) rfl ?_
    refine x_iload_n hM dX7_ofRange_6 rfl rfl ?_
    refine x_if_ge (tgt := 12) hM dX7_ofRange_7 (by decide) (by omega) (fun c_7 => ?_) (fun c_7 => ?_)
    · refine x_iload_n hM dX7_ofRange_12 rfl rfl ?_
      refine x_if_ne (tgt := 24) hM dX7_ofRange_13 (by decide) (by omega) (fun c_13 => ?_) (fun c_13 => ?_)
      · refine x_iload_n hM dX7_ofRange_24 rfl rfl ?_
        refine x_iconst hM dX7_ofRange_25 ?_
        refine x_icmp_ne (tgt := 37) hM dX7_ofRange_26 (by decide) (by omega) (by omega) (fun c_26 => ?_) (fun c_26 => ?_)
        · refine x_iload_n hM dX7_ofRange_37 rfl rfl ?_
          refine x_iconst hM dX7_ofRange_38 ?_
          refine x_icmp_ne (tgt := 50) hM dX7_ofRange_39 (by decide) (by omega) (by omega) (fun c_39 => ?_) (fun c_39 => ?_)
          · refine x_bipush hM dX7_ofRange_50 rfl ?_
            refine hR.i dX7_ofRange_52 (Nat.zero_le _) (Nat.zero_le _) ?_
            first | exact p_rI (e1.trans (if_pos (by omega))).symm | exact p_rI (e1.trans ((if_neg (by omega)).trans (if_pos (by omega)))).symm | exact p_rI (e1.trans ((if_neg (by omega)).trans ((if_neg (by omega)).trans (if_pos (by omega))))).symm | exact p_rI (e1.trans ((if_neg (by omega)).trans ((if_neg (by omega)).trans (if_neg (by omega))))).symm
          · refine x_aload_n hM dX7_ofRange_42 rfl rfl ?_
            refine x_iload_n hM dX7_ofRange_43 rfl rfl ?_
            refine x_callV hM wv_X7_124 (m_X7_length (i := n) h hn1) ⟨Nat.le_of_ble_eq_true rfl, Nat.le_of_ble_eq_true rfl⟩ (by first | assumption | exact md_o (by assumption)) rfl rfl rfl rfl (Nat.le_of_ble_eq_true rfl) ⟨Nat.le_of_ble_eq_true rfl, Nat.le_of_ble_eq_true rfl⟩ dX7_ofRange_44 (k_rI ?_)
            refine x_goto (tgt := 52) hM dX7_ofRange_47 (by decide) ?_
            refine hR.i dX7_ofRange_52 (Nat.zero_le _) (Nat.zero_le _) ?_
            first | exact p_rI (e1.trans (if_pos (by omega))).symm | exact p_rI (e1.trans ((if_neg (by omega)).trans (if_pos (by omega)))).symm | exact p_rI (e1.trans ((if_neg (by omega)).trans ((if_neg (by omega)).trans (if_pos (by omega))))).symm | exact p_rI (e1.trans ((if_neg (by omega)).trans ((if_neg (by omega)).trans (if_neg (by omega))))).symm
        · refine x_aload_n hM dX7_ofRange_29 rfl rfl ?_
          refine x_iload_n hM dX7_ofRange_30 rfl rfl ?_
          refine x_callV hM wv_X7_81 (m_X7_first (i := n) h hn1) ⟨Nat.le_of_ble_eq_true rfl, Nat.le_of_ble_eq_true rfl⟩ (by first | assumption | exact md_o (by assumption)) rfl rfl rfl rfl (Nat.le_of_ble_eq_true rfl) ⟨Nat.le_of_ble_eq_true rfl, Nat.le_of_ble_eq_true rfl⟩ dX7_ofRange_31 (k_rI ?_)
          refine x_goto (tgt := 52) hM dX7_ofRange_34 (by decide) ?_
          refine hR.i dX7_ofRange_52 (Nat.zero_le _) (Nat.zero_le _) ?_
          first | exact p_rI (e1.trans (if_pos (by omega))).symm | exact p_rI (e1.trans ((if_neg (by omega)).trans (if_pos (by omega)))).symm | exact p_rI (e1.trans ((if_neg (by omega)).trans ((if_neg (by omega)).trans (if_pos (by omega))))).symm | exact p_rI (e1.trans ((if_neg (by omega)).trans ((if_neg (by omega)).trans (if_neg (by omega))))).symm
      · refine x_aload_n hM dX7_ofRange_16 rfl rfl ?_
        refine x_iload_n hM dX7_ofRange_17 rfl rfl ?_
        refine x_callV hM wv_X7_87 (m_X7_ownerOf (i := n) h hn1) ⟨Nat.le_of_ble_eq_true rfl, Nat.le_of_ble_eq_true rfl⟩ (by first | assumption | exact md_o (by assumption)) rfl rfl rfl rfl (Nat.le_of_ble_eq_true rfl) ⟨Nat.le_of_ble_eq_true rfl, Nat.le_of_ble_eq_true rfl⟩ dX7_ofRange_18 (k_rI ?_)
        refine x_goto (tgt := 52) hM dX7_ofRange_21 (by decide) ?_
        refine hR.i dX7_ofRange_52 (Nat.zero_le _) (Nat.zero_le _) ?_
        first | exact p_rI (e1.trans (if_pos (by omega))).symm | exact p_rI (e1.trans ((if_neg (by omega)).trans (if_pos (by omega)))).symm | exact p_rI (e1.trans ((if_neg (by omega)).trans ((if_neg (by omega)).trans (if_pos (by omega))))).symm | exact p_rI (e1.trans ((if_neg (by omega)).trans ((if_neg (by omega)).trans (if_neg (by omega))))).symm
    · exfalso; omega
theorem m_X7_ofOwner {l : Launch} {G : xG} {w : Wd} {z m : Nat} {f : Int → Int} {t : St} {o k : Int} (h : rdA G w m f t) (ho : iR o) (hk : iR k) : xMet l G yX7_ofOwner cX7_ofOwner 3 (some .int) ({ frames := 5, cells := 0, slots := 0, locals := 111 } : Room) [.ref m, .int (iI o), .int (iI k)] w z (rI (ofO t o k) w z) := by
  obtain ⟨⟨un, sg, it, rw', mn, pl, wr, hh⟩, hn, hp⟩ := id h
  have hl := (np_w hp).1
  have hr := np_r hp
  obtain ⟨r1, r2, r3⟩ := id hr
  refine xMet_of RX7 rfl (by decide +kernel) false (by decide +kernel) (Nat.le_of_ble_eq_true rfl) rfl ?_
  intro P hM hR
  by_cases c1 : 0 ≤ o ∧ o < t.own
  · skip
    refine x_aload_n hM dX7_ofOwner_0 rfl rfl ?_
    refine x_iload_n hM dX7_ofOwner_1 rfl rfl ?_
    refine x_callV hM wv_X7_77 (m_X7_isOwner (by assumption) (by omega)) ⟨Nat.le_of_ble_eq_true rfl, Nat.le_of_ble_eq_true rfl⟩ (by first | assumption | exact md_o (by assumption)) rfl rfl rfl rfl (Nat.le_of_ble_eq_true rfl) ⟨Nat.le_of_ble_eq_true rfl, Nat.le_of_ble_eq_true rfl⟩ dX7_ofOwner_2 (k_rI ?_)
    rw [if_pos c1]
    refine x_if_ne (tgt := 10) hM dX7_ofOwner_5 (by decide) (by omega) (fun c_5 => ?_) (fun c_5 => ?_)
    · refine x_iload_n hM dX7_ofOwner_10 rfl rfl ?_
      by_cases sO_11 : k < 0 ∨ 5 < k
      · refine x_tableOut (tgt := 88) hM dX7_ofOwner_11 (by omega) sO_11 (by decide) ?_
        refine x_bipush hM dX7_ofOwner_88 rfl ?_
        refine hR.i dX7_ofOwner_90 (Nat.zero_le _) (Nat.zero_le _) ?_
        exact p_rI (by unfold ofO; rw [if_pos c1, if_neg (by omega), if_neg (by omega), if_neg (by omega), if_neg (by omega), if_neg (by omega), if_neg (by omega)])
      rcases (by omega : k = 0 ∨ k = 1 ∨ k = 2 ∨ k = 3 ∨ k = 4 ∨ k = 5) with rfl | rfl | rfl | rfl | rfl | rfl
      · refine x_tableIn (tgt := 48) hM dX7_ofOwner_11 (by omega) (by omega) (by omega) rfl (by decide) ?_
        refine x_aload_n hM dX7_ofOwner_48 rfl rfl ?_
        refine x_iload_n hM dX7_ofOwner_49 rfl rfl ?_
        refine x_callV hM wv_X7_153 (m_X7_manyOf (by assumption) (by omega)) ⟨Nat.le_of_ble_eq_true rfl, Nat.le_of_ble_eq_true rfl⟩ (by first | assumption | exact md_o (by assumption)) rfl rfl rfl rfl (Nat.le_of_ble_eq_true rfl) ⟨Nat.le_of_ble_eq_true rfl, Nat.le_of_ble_eq_true rfl⟩ dX7_ofOwner_50 (k_rI ?_)
        refine hR.i dX7_ofOwner_53 (Nat.zero_le _) (Nat.zero_le _) ?_
        exact p_rI (by unfold ofO; rw [if_pos c1, if_pos rfl])
      · refine x_tableIn (tgt := 54) hM dX7_ofOwner_11 (by omega) (by omega) (by omega) rfl (by decide) ?_
        refine x_aload_n hM dX7_ofOwner_54 rfl rfl ?_
        refine x_iload_n hM dX7_ofOwner_55 rfl rfl ?_
        refine x_callV hM wv_X7_101 (m_X7_metersOf (by assumption) (by omega)) ⟨Nat.le_of_ble_eq_true rfl, Nat.le_of_ble_eq_true rfl⟩ (by first | assumption | exact md_o (by assumption)) rfl rfl rfl rfl (Nat.le_of_ble_eq_true rfl) ⟨Nat.le_of_ble_eq_true rfl, Nat.le_of_ble_eq_true rfl⟩ dX7_ofOwner_56 (k_rI ?_)
        refine hR.i dX7_ofOwner_59 (Nat.zero_le _) (Nat.zero_le _) ?_
        exact p_rI (by unfold ofO; rw [if_pos c1, if_neg (by decide), if_pos rfl])
      · refine x_tableIn (tgt := 60) hM dX7_ofOwner_11 (by omega) (by omega) (by omega) rfl (by decide) ?_
        refine x_aload_n hM dX7_ofOwner_60 rfl rfl ?_
        refine x_iload_n hM dX7_ofOwner_61 rfl rfl ?_
        refine x_callV hM wv_X7_171 (m_X7_longestOf (by assumption) (by omega)) ⟨Nat.le_of_ble_eq_true rfl, Nat.le_of_ble_eq_true rfl⟩ (by first | assumption | exact md_o (by assumption)) rfl rfl rfl rfl (Nat.le_of_ble_eq_true rfl) ⟨Nat.le_of_ble_eq_true rfl, Nat.le_of_ble_eq_true rfl⟩ dX7_ofOwner_62 (k_rI ?_)
        refine hR.i dX7_ofOwner_65 (Nat.zero_le _) (Nat.zero_le _) ?_
        exact p_rI (by unfold ofO; rw [if_pos c1, if_neg (by decide), if_neg (by decide), if_pos rfl])
      · refine x_tableIn (tgt := 66) hM dX7_ofOwner_11 (by omega) (by omega) (by omega) rfl (by decide) ?_
        refine x_aload_n hM dX7_ofOwner_66 rfl rfl ?_
        refine x_iload_n hM dX7_ofOwner_67 rfl rfl ?_
        refine x_callV hM wv_X7_159 (m_X7_taxOf (by assumption) (by omega)) ⟨Nat.le_of_ble_eq_true rfl, Nat.le_of_ble_eq_true rfl⟩ (by first | assumption | exact md_o (by assumption)) rfl rfl rfl rfl (Nat.le_of_ble_eq_true rfl) ⟨Nat.le_of_ble_eq_true rfl, Nat.le_of_ble_eq_true rfl⟩ dX7_ofOwner_68 (k_rI ?_)
        refine hR.i dX7_ofOwner_71 (Nat.zero_le _) (Nat.zero_le _) ?_
        exact p_rI (by unfold ofO; rw [if_pos c1, if_neg (by decide), if_neg (by decide), if_neg (by decide), if_pos rfl])
      · refine x_tableIn (tgt := 72) hM dX7_ofOwner_11 (by omega) (by omega) (by omega) rfl (by decide) ?_
        refine x_aload_n hM dX7_ofOwner_72 rfl rfl ?_
        refine x_get hM wf_X7_7 wl_X7 (by first | assumption | exact md_o (by assumption)) rfl dX7_ofOwner_73 ?_
        refine x_bipush hM dX7_ofOwner_76 rfl ?_
        refine x_iconst hM dX7_ofOwner_78 ?_
        refine x_iload_n hM dX7_ofOwner_79 rfl rfl ?_
        refine x_imul hM dX7_ofOwner_80 ?_
        refine x_iadd hM dX7_ofOwner_81 ?_
        refine x_iload_n hM dX7_ofOwner_82 rfl rfl ?_
        refine x_iadd hM dX7_ofOwner_83 ?_
        refine x_iconst hM dX7_ofOwner_84 ?_
        refine x_isub hM dX7_ofOwner_85 ?_
        refine x_iald hM (by first | assumption | exact row_c (by first | assumption | exact sr1 (by assumption) | exact sr2 (by assumption) | exact sr3 (by assumption) | exact sr4 (by assumption) | exact sr5 (by assumption) | exact rg1 (by assumption) | exact rg2 (by assumption) | exact rg3 (by assumption))) (by omega) dX7_ofOwner_86 ?_
        have e4 : f (20 + 2 * o + 4 - 4) = t.tax o := (congrArg f (by omega)).trans (np_tax hp c1.1 (by omega))
        have e5 : f (20 + 2 * o + 5 - 4) = t.los o := (congrArg f (by omega)).trans (np_los hp c1.1 (by omega))
        first | rw [e4] | rw [e5]
        refine hR.i dX7_ofOwner_87 (Nat.zero_le _) (Nat.zero_le _) ?_
        exact p_rI (if_pos c1).symm
      · refine x_tableIn (tgt := 72) hM dX7_ofOwner_11 (by omega) (by omega) (by omega) rfl (by decide) ?_
        refine x_aload_n hM dX7_ofOwner_72 rfl rfl ?_
        refine x_get hM wf_X7_7 wl_X7 (by first | assumption | exact md_o (by assumption)) rfl dX7_ofOwner_73 ?_
        refine x_bipush hM dX7_ofOwner_76 rfl ?_
        refine x_iconst hM dX7_ofOwner_78 ?_
        refine x_iload_n hM dX7_ofOwner_79 rfl rfl ?_
        refine x_imul hM dX7_ofOwner_80 ?_
        refine x_iadd hM dX7_ofOwner_81 ?_
        refine x_iload_n hM dX7_ofOwner_82 rfl rfl ?_
        refine x_iadd hM dX7_ofOwner_83 ?_
        refine x_iconst hM dX7_ofOwner_84 ?_
        refine x_isub hM dX7_ofOwner_85 ?_
        refine x_iald hM (by first | assumption | exact row_c (by first | assumption | exact sr1 (by assumption) | exact sr2 (by assumption) | exact sr3 (by assumption) | exact sr4 (by assumption) | exact sr5 (by assumption) | exact rg1 (by assumption) | exact rg2 (by assumption) | exact rg3 (by assumption))) (by omega) dX7_ofOwner_86 ?_
        have e4 : f (20 + 2 * o + 4 - 4) = t.tax o := (congrArg f (by omega)).trans (np_tax hp c1.1 (by omega))
        have e5 : f (20 + 2 * o + 5 - 4) = t.los o := (congrArg f (by omega)).trans (np_los hp c1.1 (by omega))
        first | rw [e4] | rw [e5]
        refine hR.i dX7_ofOwner_87 (Nat.zero_le _) (Nat.zero_le _) ?_
        exact p_rI (if_pos c1).symm
    · exfalso; omega
  · skip
    refine x_aload_n hM dX7_ofOwner_0 rfl rfl ?_
    refine x_iload_n hM dX7_ofOwner_1 rfl rfl ?_
    refine x_callV hM wv_X7_77 (m_X7_isOwner (by assumption) (by omega)) ⟨Nat.le_of_ble_eq_true rfl, Nat.le_of_ble_eq_true rfl⟩ (by first | assumption | exact md_o (by assumption)) rfl rfl rfl rfl (Nat.le_of_ble_eq_true rfl) ⟨Nat.le_of_ble_eq_true rfl, Nat.le_of_ble_eq_true rfl⟩ dX7_ofOwner_2 (k_rI ?_)
    rw [if_neg c1]
    refine x_if_ne (tgt := 10) hM dX7_ofOwner_5 (by decide) (by omega) (fun c_5 => ?_) (fun c_5 => ?_)
    · exfalso; omega
    · refine x_iconst hM dX7_ofOwner_8 ?_
      refine hR.i dX7_ofOwner_9 (Nat.zero_le _) (Nat.zero_le _) ?_
      exact p_rI (if_neg c1).symm
theorem m_X7_money {l : Launch} {G : xG} {w : Wd} {z m : Nat} {f : Int → Int} {g : Int → Int64} {t : St} {o : Int} (h : rdA G w m f t) (hm : w (m + 2) = some (aJ G 10 g)) (hg : eqR 10 g t.mon) (ho : iR o) : xMet l G yX7_money cX7_money 2 (some .long) ({ frames := 2, cells := 0, slots := 0, locals := 43 } : Room) [.ref m, .int (iI o)] w z (rL (monV t o) w z) := by
  obtain ⟨⟨un, sg, it, rw', mn, pl, wr, hh⟩, hn, hp⟩ := id h
  have hl := (np_w hp).1
  have hr := np_r hp
  obtain ⟨r1, r2, r3⟩ := id hr
  refine xMet_of RX7 rfl (by decide +kernel) false (by decide +kernel) (Nat.le_of_ble_eq_true rfl) rfl ?_
  intro P hM hR
  refine x_aload_n hM dX7_money_0 rfl rfl ?_
  refine x_iload_n hM dX7_money_1 rfl rfl ?_
  refine x_callV hM wv_X7_77 (m_X7_isOwner (by assumption) (by omega)) ⟨Nat.le_of_ble_eq_true rfl, Nat.le_of_ble_eq_true rfl⟩ (by first | assumption | exact md_o (by assumption)) rfl rfl rfl rfl (Nat.le_of_ble_eq_true rfl) ⟨Nat.le_of_ble_eq_true rfl, Nat.le_of_ble_eq_true rfl⟩ dX7_money_2 (k_rI ?_)
  by_cases c1 : 0 ≤ o ∧ o < t.own
  · rw [if_pos c1]
    refine x_if_eq (tgt := 17) hM dX7_money_5 (by decide) (by omega) (fun q => absurd q (by decide)) (fun _ => ?_)
    refine x_aload_n hM dX7_money_8 rfl rfl ?_
    refine x_get hM wf_X7_13 wl_X7 (by first | assumption | exact md_o (by assumption)) rfl dX7_money_9 ?_
    refine x_iload_n hM dX7_money_12 rfl rfl ?_
    refine x_lald hM (by first | assumption | exact row_c (by first | assumption | exact sr1 (by assumption) | exact sr2 (by assumption) | exact sr3 (by assumption) | exact sr4 (by assumption) | exact sr5 (by assumption) | exact rg1 (by assumption) | exact rg2 (by assumption) | exact rg3 (by assumption))) (by omega) dX7_money_13 ?_
    rw [hg o (by omega) (by omega)]
    refine x_goto (tgt := 20) hM dX7_money_14 (by decide) ?_
    refine hR.j dX7_money_20 (Nat.zero_le _) (Nat.zero_le _) ?_
    first | exact p_rL (if_pos c1).symm | exact p_rL (if_neg c1).symm
  · rw [if_neg c1]
    refine x_if_eq (tgt := 17) hM dX7_money_5 (by decide) (by omega) (fun _ => ?_) (fun q => absurd rfl q)
    refine x_ldc2 hM dX7_money_17 wc_X7_174 ?_
    refine hR.j dX7_money_20 (Nat.zero_le _) (Nat.zero_le _) ?_
    first | exact p_rL (if_pos c1).symm | exact p_rL (if_neg c1).symm
def owS (m c : Int) (s : Sg) : Int := if s.2.1 ≤ m then s.1 else c
def owF (L : List Sg) (m : Int) : Int := L.foldl (owS m) (-6)
theorem m_X7_ownerOn {l : Launch} {G : xG} {w : Wd} {z m : Nat} {f : Int → Int} {t : St} {q : Int} (h : rdA G w m f t) (hq : iR q) : xMet l G yX7_ownerOn cX7_ownerOn 4 (some .int) ({ frames := 1, cells := 0, slots := 0, locals := 21 } : Room) [.ref m, .int (iI q)] w z (rI (owF t.L q) w z) := by
  obtain ⟨⟨un, sg, it, rw', mn, pl, wr, hh⟩, hn, hp⟩ := id h
  have hl := (np_w hp).1
  refine xMet_of RX7 rfl (by decide +kernel) false (by decide +kernel) (Nat.le_of_ble_eq_true rfl) rfl ?_
  intro P hM hR
  have K : ∀ (k i : Nat) (c : Int), t.L.length - i < k → i ≤ t.L.length → (t.L.drop i).foldl (owS q) c = owF t.L q → P 5 [some (.ref m), some (.int (iI q)), some (.int (iI c)), some (.int (iI i))] [] w (z, 0, 0) := by
    intro k
    induction k with
    | zero => intro i c hk; omega
    | succ k ih =>
      intro i c hk hi hinv
      by_cases hlt : i < t.L.length
      · have hg := np_at hp hlt
        refine x_iload_n hM dX7_ownerOn_5 rfl rfl ?_
        refine x_aload_n hM dX7_ownerOn_6 rfl rfl ?_
        refine x_get hM wf_X7_7 wl_X7 (by first | assumption | exact md_o (by assumption)) rfl dX7_ownerOn_7 ?_
        refine x_bipush hM dX7_ownerOn_10 rfl ?_
        refine x_iald hM (by first | assumption | exact row_c (by first | assumption | exact sr1 (by assumption) | exact sr2 (by assumption) | exact sr3 (by assumption) | exact sr4 (by assumption) | exact sr5 (by assumption) | exact rg1 (by assumption) | exact rg2 (by assumption) | exact rg3 (by assumption))) (by omega) dX7_ownerOn_12 ?_
        rw [np_n hp]
        refine x_icmp_ge (tgt := 41) hM dX7_ownerOn_13 (by decide) (by omega) (by omega) (fun c_13 => ?_) (fun c_13 => ?_)
        · exfalso; omega
        · refine x_aload_n hM dX7_ownerOn_16 rfl rfl ?_
          refine x_iload_n hM dX7_ownerOn_17 rfl rfl ?_
          refine x_callV hM wv_X7_81 (m_X7_first (by assumption) (by omega)) ⟨Nat.le_of_ble_eq_true rfl, Nat.le_of_ble_eq_true rfl⟩ (by first | assumption | exact md_o (by assumption)) rfl rfl rfl rfl (Nat.le_of_ble_eq_true rfl) ⟨Nat.le_of_ble_eq_true rfl, Nat.le_of_ble_eq_true rfl⟩ dX7_ownerOn_18 (k_rI ?_)
          refine x_iload_n hM dX7_ownerOn_21 rfl rfl ?_
          refine x_icmp_gt (tgt := 33) hM dX7_ownerOn_22 (by decide) (by omega) (by omega) (fun c_22 => ?_) (fun c_22 => ?_)
          · refine x_iload_n hM dX7_ownerOn_33 rfl rfl ?_
            refine x_istore_n hM dX7_ownerOn_34 rfl rfl (Nat.le_of_ble_eq_true rfl) rfl ?_
            refine x_iinc hM dX7_ownerOn_35 rfl rfl rfl ?_
            refine x_goto (tgt := 5) hM dX7_ownerOn_38 (by decide) ?_
            exact ih (i + 1) _ (by omega) (by omega) (by rw [drop_fold _ _ hlt] at hinv; rw [← hinv]; congr 1; unfold owS; split <;> omega)
          · refine x_aload_n hM dX7_ownerOn_25 rfl rfl ?_
            refine x_iload_n hM dX7_ownerOn_26 rfl rfl ?_
            refine x_callV hM wv_X7_87 (m_X7_ownerOf (by assumption) (by omega)) ⟨Nat.le_of_ble_eq_true rfl, Nat.le_of_ble_eq_true rfl⟩ (by first | assumption | exact md_o (by assumption)) rfl rfl rfl rfl (Nat.le_of_ble_eq_true rfl) ⟨Nat.le_of_ble_eq_true rfl, Nat.le_of_ble_eq_true rfl⟩ dX7_ownerOn_27 (k_rI ?_)
            refine x_goto (tgt := 34) hM dX7_ownerOn_30 (by decide) ?_
            refine x_istore_n hM dX7_ownerOn_34 rfl rfl (Nat.le_of_ble_eq_true rfl) rfl ?_
            refine x_iinc hM dX7_ownerOn_35 rfl rfl rfl ?_
            refine x_goto (tgt := 5) hM dX7_ownerOn_38 (by decide) ?_
            exact ih (i + 1) _ (by omega) (by omega) (by rw [drop_fold _ _ hlt] at hinv; rw [← hinv]; congr 1; unfold owS; split <;> omega)
      · skip
        refine x_iload_n hM dX7_ownerOn_5 rfl rfl ?_
        refine x_aload_n hM dX7_ownerOn_6 rfl rfl ?_
        refine x_get hM wf_X7_7 wl_X7 (by first | assumption | exact md_o (by assumption)) rfl dX7_ownerOn_7 ?_
        refine x_bipush hM dX7_ownerOn_10 rfl ?_
        refine x_iald hM (by first | assumption | exact row_c (by first | assumption | exact sr1 (by assumption) | exact sr2 (by assumption) | exact sr3 (by assumption) | exact sr4 (by assumption) | exact sr5 (by assumption) | exact rg1 (by assumption) | exact rg2 (by assumption) | exact rg3 (by assumption))) (by omega) dX7_ownerOn_12 ?_
        rw [np_n hp]
        refine x_icmp_ge (tgt := 41) hM dX7_ownerOn_13 (by decide) (by omega) (by omega) (fun c_13 => ?_) (fun c_13 => ?_)
        · refine x_iload_n hM dX7_ownerOn_41 rfl rfl ?_
          refine hR.i dX7_ownerOn_42 (Nat.zero_le _) (Nat.zero_le _) ?_
          exact p_rI ((drop_foldE _ _ (by omega) c).symm.trans hinv)
        · exfalso; omega
  refine x_bipush hM dX7_ownerOn_0 rfl ?_
  refine x_istore_n hM dX7_ownerOn_2 rfl rfl (Nat.le_of_ble_eq_true rfl) rfl ?_
  refine x_iconst hM dX7_ownerOn_3 ?_
  refine x_istore_n hM dX7_ownerOn_4 rfl rfl (Nat.le_of_ble_eq_true rfl) rfl ?_
  exact K _ 0 (-6) (Nat.lt_succ_self _) (Nat.zero_le _) rfl
def ownR (L : List Sg) (q : Int) : Int := if 0 ≤ q ∧ q ≤ 9999 then owF L q else -2
theorem m_X7_ownerAt {l : Launch} {G : xG} {w : Wd} {z m : Nat} {f : Int → Int} {t : St} {q : Int} (h : rdA G w m f t) (hq : iR q) : xMet l G yX7_ownerAt cX7_ownerAt 2 (some .int) ({ frames := 2, cells := 0, slots := 0, locals := 44 } : Room) [.ref m, .int (iI q)] w z (rI (ownR t.L q) w z) := by
  obtain ⟨⟨un, sg, it, rw', mn, pl, wr, hh⟩, hn, hp⟩ := id h
  have hl := (np_w hp).1
  refine xMet_of RX7 rfl (by decide +kernel) false (by decide +kernel) (Nat.le_of_ble_eq_true rfl) rfl ?_
  intro P hM hR
  refine x_iload_n hM dX7_ownerAt_0 rfl rfl ?_
  refine x_iconst hM dX7_ownerAt_1 ?_
  refine x_sipush hM dX7_ownerAt_2 rfl ?_
  refine x_callS hM ws_X7_62 (m_X7_in (by omega) (by omega) (by omega)) ⟨Nat.le_of_ble_eq_true rfl, Nat.le_of_ble_eq_true rfl⟩ rfl rfl (Nat.le_of_ble_eq_true rfl) ⟨Nat.le_of_ble_eq_true rfl, Nat.le_of_ble_eq_true rfl⟩ dX7_ownerAt_5 (k_rI ?_)
  by_cases c1 : 0 ≤ q ∧ q ≤ 9999
  · rw [if_pos c1]
    refine x_if_eq (tgt := 19) hM dX7_ownerAt_8 (by decide) (by omega) (fun q => absurd q (by decide)) (fun _ => ?_)
    refine x_aload_n hM dX7_ownerAt_11 rfl rfl ?_
    refine x_iload_n hM dX7_ownerAt_12 rfl rfl ?_
    refine x_callV hM wv_X7_176 (m_X7_ownerOn (by assumption) (by omega)) ⟨Nat.le_of_ble_eq_true rfl, Nat.le_of_ble_eq_true rfl⟩ (by first | assumption | exact md_o (by assumption)) rfl rfl rfl rfl (Nat.le_of_ble_eq_true rfl) ⟨Nat.le_of_ble_eq_true rfl, Nat.le_of_ble_eq_true rfl⟩ dX7_ownerAt_13 (k_rI ?_)
    refine x_goto (tgt := 21) hM dX7_ownerAt_16 (by decide) ?_
    refine hR.i dX7_ownerAt_21 (Nat.zero_le _) (Nat.zero_le _) ?_
    first | exact p_rI (if_pos c1).symm | exact p_rI (if_neg c1).symm
  · rw [if_neg c1]
    refine x_if_eq (tgt := 19) hM dX7_ownerAt_8 (by decide) (by omega) (fun _ => ?_) (fun q => absurd rfl q)
    refine x_bipush hM dX7_ownerAt_19 rfl ?_
    refine hR.i dX7_ownerAt_21 (Nat.zero_le _) (Nat.zero_le _) ?_
    first | exact p_rI (if_pos c1).symm | exact p_rI (if_neg c1).symm
theorem m_X7_ofTransfer {l : Launch} {G : xG} {w : Wd} {z m : Nat} {f : Int → Int} {t : St} {i k : Int} (h : rdA G w m f t) (hi : iR i) (hk : iR k) : xMet l G yX7_ofTransfer cX7_ofTransfer 3 (some .int) ({ frames := 1, cells := 0, slots := 0, locals := 22 } : Room) [.ref m, .int (iI i), .int (iI k)] w z (rI (ofT t i k) w z) := by
  obtain ⟨⟨un, sg, it, rw', mn, pl, wr, hh⟩, hn, hp⟩ := id h
  have hl := (np_w hp).1
  have hdl := (np_d hp).1
  refine xMet_of RX7 rfl (by decide +kernel) false (by decide +kernel) (Nat.le_of_ble_eq_true rfl) rfl ?_
  intro P hM hR
  by_cases c1 : 0 ≤ i ∧ i < t.D.length
  · obtain ⟨n, rfl⟩ : ∃ n : Nat, i = n := ⟨i.toNat, by omega⟩
    have hn1 : n < t.D.length := by omega
    refine x_iload_n hM dX7_ofTransfer_0 rfl rfl ?_
    refine x_iconst hM dX7_ofTransfer_1 ?_
    refine x_aload_n hM dX7_ofTransfer_2 rfl rfl ?_
    refine x_get hM wf_X7_7 wl_X7 (by first | assumption | exact md_o (by assumption)) rfl dX7_ofTransfer_3 ?_
    refine x_bipush hM dX7_ofTransfer_6 rfl ?_
    refine x_iald hM (by first | assumption | exact row_c (by first | assumption | exact sr1 (by assumption) | exact sr2 (by assumption) | exact sr3 (by assumption) | exact sr4 (by assumption) | exact sr5 (by assumption) | exact rg1 (by assumption) | exact rg2 (by assumption) | exact rg3 (by assumption))) (by omega) dX7_ofTransfer_8 ?_
    rw [np_m hp]
    refine x_iconst hM dX7_ofTransfer_9 ?_
    refine x_isub hM dX7_ofTransfer_10 ?_
    refine x_callS hM ws_X7_62 (m_X7_in (by omega) (by omega) (by omega)) ⟨Nat.le_of_ble_eq_true rfl, Nat.le_of_ble_eq_true rfl⟩ rfl rfl (Nat.le_of_ble_eq_true rfl) ⟨Nat.le_of_ble_eq_true rfl, Nat.le_of_ble_eq_true rfl⟩ dX7_ofTransfer_11 (k_rI ?_)
    rw [if_pos (by omega)]
    refine x_if_ne (tgt := 19) hM dX7_ofTransfer_14 (by decide) (by omega) (fun c_14 => ?_) (fun c_14 => ?_)
    · refine x_iload_n hM dX7_ofTransfer_19 rfl rfl ?_
      refine x_iconst hM dX7_ofTransfer_20 ?_
      refine x_iconst hM dX7_ofTransfer_21 ?_
      refine x_callS hM ws_X7_62 (m_X7_in (by omega) (by omega) (by omega)) ⟨Nat.le_of_ble_eq_true rfl, Nat.le_of_ble_eq_true rfl⟩ rfl rfl (Nat.le_of_ble_eq_true rfl) ⟨Nat.le_of_ble_eq_true rfl, Nat.le_of_ble_eq_true rfl⟩ dX7_ofTransfer_22 (k_rI ?_)
      by_cases c2 : 0 ≤ k ∧ k ≤ 4
      · rw [if_pos c2]
        refine x_if_eq (tgt := 44) hM dX7_ofTransfer_25 (by decide) (by omega) (fun q => absurd q (by decide)) (fun _ => ?_)
        refine x_aload_n hM dX7_ofTransfer_28 rfl rfl ?_
        refine x_get hM wf_X7_7 wl_X7 (by first | assumption | exact md_o (by assumption)) rfl dX7_ofTransfer_29 ?_
        refine x_bipush hM dX7_ofTransfer_32 rfl ?_
        refine x_iconst hM dX7_ofTransfer_34 ?_
        refine x_iload_n hM dX7_ofTransfer_35 rfl rfl ?_
        refine x_imul hM dX7_ofTransfer_36 ?_
        refine x_iadd hM dX7_ofTransfer_37 ?_
        refine x_iload_n hM dX7_ofTransfer_38 rfl rfl ?_
        refine x_iadd hM dX7_ofTransfer_39 ?_
        refine x_iald hM (by first | assumption | exact row_c (by first | assumption | exact sr1 (by assumption) | exact sr2 (by assumption) | exact sr3 (by assumption) | exact sr4 (by assumption) | exact sr5 (by assumption) | exact rg1 (by assumption) | exact rg2 (by assumption) | exact rg3 (by assumption))) (by omega) dX7_ofTransfer_40 ?_
        rw [np_tr hp hn1 (by omega) (by omega)]
        refine x_goto (tgt := 46) hM dX7_ofTransfer_41 (by decide) ?_
        refine hR.i dX7_ofTransfer_46 (Nat.zero_le _) (Nat.zero_le _) ?_
        unfold ofT
        first | exact p_rI ((if_pos c1).trans ((if_neg (by omega)).trans (by rw [Int.toNat_natCast, List.getElem?_eq_getElem hn1]; rfl))).symm | exact p_rI ((if_pos c1).trans (if_pos (by omega))).symm
      · rw [if_neg c2]
        refine x_if_eq (tgt := 44) hM dX7_ofTransfer_25 (by decide) (by omega) (fun _ => ?_) (fun q => absurd rfl q)
        refine x_bipush hM dX7_ofTransfer_44 rfl ?_
        refine hR.i dX7_ofTransfer_46 (Nat.zero_le _) (Nat.zero_le _) ?_
        unfold ofT
        first | exact p_rI ((if_pos c1).trans ((if_neg (by omega)).trans (by rw [Int.toNat_natCast, List.getElem?_eq_getElem hn1]; rfl))).symm | exact p_rI ((if_pos c1).trans (if_pos (by omega))).symm
    · exfalso; omega
  · skip
    refine x_iload_n hM dX7_ofTransfer_0 rfl rfl ?_
    refine x_iconst hM dX7_ofTransfer_1 ?_
    refine x_aload_n hM dX7_ofTransfer_2 rfl rfl ?_
    refine x_get hM wf_X7_7 wl_X7 (by first | assumption | exact md_o (by assumption)) rfl dX7_ofTransfer_3 ?_
    refine x_bipush hM dX7_ofTransfer_6 rfl ?_
    refine x_iald hM (by first | assumption | exact row_c (by first | assumption | exact sr1 (by assumption) | exact sr2 (by assumption) | exact sr3 (by assumption) | exact sr4 (by assumption) | exact sr5 (by assumption) | exact rg1 (by assumption) | exact rg2 (by assumption) | exact rg3 (by assumption))) (by omega) dX7_ofTransfer_8 ?_
    rw [np_m hp]
    refine x_iconst hM dX7_ofTransfer_9 ?_
    refine x_isub hM dX7_ofTransfer_10 ?_
    refine x_callS hM ws_X7_62 (m_X7_in (by omega) (by omega) (by omega)) ⟨Nat.le_of_ble_eq_true rfl, Nat.le_of_ble_eq_true rfl⟩ rfl rfl (Nat.le_of_ble_eq_true rfl) ⟨Nat.le_of_ble_eq_true rfl, Nat.le_of_ble_eq_true rfl⟩ dX7_ofTransfer_11 (k_rI ?_)
    rw [if_neg (by omega)]
    refine x_if_ne (tgt := 19) hM dX7_ofTransfer_14 (by decide) (by omega) (fun c_14 => ?_) (fun c_14 => ?_)
    · exfalso; omega
    · refine x_iconst hM dX7_ofTransfer_17 ?_
      refine hR.i dX7_ofTransfer_18 (Nat.zero_le _) (Nat.zero_le _) ?_
      exact p_rI (if_neg c1).symm
theorem m_X7_taxes {l : Launch} {G : xG} {w : Wd} {z m : Nat} {f : Int → Int} {t : St} (h : rdA G w m f t) : xMet l G yX7_taxes cX7_taxes 3 (some .int) ({ frames := 0, cells := 0, slots := 0, locals := 0 } : Room) [.ref m] w z (rI (sumF t.tax t.own.toNat) w z) := by
  obtain ⟨⟨un, sg, it, rw', mn, pl, wr, hh⟩, hn, hp⟩ := id h
  have hl := (np_w hp).1
  have hr := np_r hp
  obtain ⟨r1, r2, r3⟩ := id hr
  refine xMet_of RX7 rfl (by decide +kernel) false (by decide +kernel) (Nat.le_of_ble_eq_true rfl) rfl ?_
  intro P hM hR
  have K : ∀ (k i : Nat), i + k = t.own.toNat → P 4 [some (.ref m), some (.int (iI (sumF t.tax i))), some (.int (iI i))] [] w (z, 0, 0) := by
    intro k
    induction k with
    | zero =>
      intro i hi
      refine x_iload_n hM dX7_taxes_4 rfl rfl ?_
      refine x_aload_n hM dX7_taxes_5 rfl rfl ?_
      refine x_get hM wf_X7_7 wl_X7 (by first | assumption | exact md_o (by assumption)) rfl dX7_taxes_6 ?_
      refine x_bipush hM dX7_taxes_9 rfl ?_
      refine x_iald hM (by first | assumption | exact row_c (by first | assumption | exact sr1 (by assumption) | exact sr2 (by assumption) | exact sr3 (by assumption) | exact sr4 (by assumption) | exact sr5 (by assumption) | exact rg1 (by assumption) | exact rg2 (by assumption) | exact rg3 (by assumption))) (by omega) dX7_taxes_11 ?_
      rw [np_own hp]
      refine x_icmp_ge (tgt := 35) hM dX7_taxes_12 (by decide) (by omega) (by omega) (fun c_12 => ?_) (fun c_12 => ?_)
      · refine x_iload_n hM dX7_taxes_35 rfl rfl ?_
        refine hR.i dX7_taxes_36 (Nat.zero_le _) (Nat.zero_le _) ?_
        exact p_rI (by rw [← hi]; rfl)
      · exfalso; omega
    | succ k ih =>
      intro i hi
      refine x_iload_n hM dX7_taxes_4 rfl rfl ?_
      refine x_aload_n hM dX7_taxes_5 rfl rfl ?_
      refine x_get hM wf_X7_7 wl_X7 (by first | assumption | exact md_o (by assumption)) rfl dX7_taxes_6 ?_
      refine x_bipush hM dX7_taxes_9 rfl ?_
      refine x_iald hM (by first | assumption | exact row_c (by first | assumption | exact sr1 (by assumption) | exact sr2 (by assumption) | exact sr3 (by assumption) | exact sr4 (by assumption) | exact sr5 (by assumption) | exact rg1 (by assumption) | exact rg2 (by assumption) | exact rg3 (by assumption))) (by omega) dX7_taxes_11 ?_
      rw [np_own hp]
      refine x_icmp_ge (tgt := 35) hM dX7_taxes_12 (by decide) (by omega) (by omega) (fun c_12 => ?_) (fun c_12 => ?_)
      · exfalso; omega
      · refine x_iload_n hM dX7_taxes_15 rfl rfl ?_
        refine x_aload_n hM dX7_taxes_16 rfl rfl ?_
        refine x_get hM wf_X7_7 wl_X7 (by first | assumption | exact md_o (by assumption)) rfl dX7_taxes_17 ?_
        refine x_bipush hM dX7_taxes_20 rfl ?_
        refine x_iconst hM dX7_taxes_22 ?_
        refine x_iload_n hM dX7_taxes_23 rfl rfl ?_
        refine x_imul hM dX7_taxes_24 ?_
        refine x_iadd hM dX7_taxes_25 ?_
        refine x_iald hM (by first | assumption | exact row_c (by first | assumption | exact sr1 (by assumption) | exact sr2 (by assumption) | exact sr3 (by assumption) | exact sr4 (by assumption) | exact sr5 (by assumption) | exact rg1 (by assumption) | exact rg2 (by assumption) | exact rg3 (by assumption))) (by omega) dX7_taxes_26 ?_
        rw [np_tax hp (by omega) (by omega)]
        refine x_iadd hM dX7_taxes_27 ?_
        refine x_istore_n hM dX7_taxes_28 rfl rfl (Nat.le_of_ble_eq_true rfl) rfl ?_
        refine x_iinc hM dX7_taxes_29 rfl rfl rfl ?_
        refine x_goto (tgt := 4) hM dX7_taxes_32 (by decide) ?_
        exact ih (i + 1) (by omega)
  refine x_iconst hM dX7_taxes_0 ?_
  refine x_istore_n hM dX7_taxes_1 rfl rfl (Nat.le_of_ble_eq_true rfl) rfl ?_
  refine x_iconst hM dX7_taxes_2 ?_
  refine x_istore_n hM dX7_taxes_3 rfl rfl (Nat.le_of_ble_eq_true rfl) rfl ?_
  exact K _ 0 (Nat.zero_add _)
def cntR (t : St) (np nh : Int) (k : Int) : Int := if 12 ≤ k ∧ k ≤ 16 then t.set (k - 12) else
  if k = 0 then t.day else if k = 1 then t.own else if k = 2 then rnF t.L else if k = 3 then 10000 - mtsO t.L (-6) else if k = 4 then cntO t.L (-6) else if k = 5 then lonF t.L (-6) else if k = 6 then t.D.length else if k = 7 then t.clo else if k = 8 then t.fee else if k = 9 then sumF t.tax t.own.toNat else if k = 10 then np else if k = 11 then nh else -2
theorem m_X7_count {l : Launch} {G : xG} {w : Wd} {z m : Nat} {f : Int → Int} {t : St} {k un sg it rw' mn pl wr : Int} (h : rdA G w m f t) (hh : w m = some (hdV m un sg it rw' mn pl wr)) (hk : iR k) : xMet l G yX7_count cX7_count 2 (some .int) ({ frames := 4, cells := 0, slots := 0, locals := 90 } : Room) [.ref m, .int (iI k)] w z (rI (cntR t sg un k) w z) := by
  obtain ⟨-, hn, hp⟩ := id h
  refine xMet_of RX7 rfl (by decide +kernel) false (by decide +kernel) (Nat.le_of_ble_eq_true rfl) rfl ?_
  intro P hM hR
  refine x_iload_n hM dX7_count_0 rfl rfl ?_
  refine x_bipush hM dX7_count_1 rfl ?_
  refine x_bipush hM dX7_count_3 rfl ?_
  refine x_callS hM ws_X7_62 (m_X7_in (by omega) (by omega) (by omega)) ⟨Nat.le_of_ble_eq_true rfl, Nat.le_of_ble_eq_true rfl⟩ rfl rfl (Nat.le_of_ble_eq_true rfl) ⟨Nat.le_of_ble_eq_true rfl, Nat.le_of_ble_eq_true rfl⟩ dX7_count_5 (k_rI ?_)
  by_cases c1 : 12 ≤ k ∧ k ≤ 16
  · rw [if_pos c1]
    refine x_if_eq (tgt := 21) hM dX7_count_8 (by decide) (by omega) (fun q => absurd q (by decide)) (fun _ => ?_)
    refine x_aload_n hM dX7_count_11 rfl rfl ?_
    refine x_get hM wf_X7_7 wl_X7 (by first | assumption | exact md_o (by assumption)) rfl dX7_count_12 ?_
    refine x_iload_n hM dX7_count_15 rfl rfl ?_
    refine x_bipush hM dX7_count_16 rfl ?_
    refine x_isub hM dX7_count_18 ?_
    refine x_iald hM (by first | assumption | exact row_c (by first | assumption | exact sr1 (by assumption) | exact sr2 (by assumption) | exact sr3 (by assumption) | exact sr4 (by assumption) | exact sr5 (by assumption) | exact rg1 (by assumption) | exact rg2 (by assumption) | exact rg3 (by assumption))) (by omega) dX7_count_19 ?_
    rw [np_set hp (by omega) (by omega)]
    refine hR.i dX7_count_20 (Nat.zero_le _) (Nat.zero_le _) ?_
    exact p_rI (if_pos c1).symm
  · rw [if_neg c1]
    refine x_if_eq (tgt := 21) hM dX7_count_8 (by decide) (by omega) (fun _ => ?_) (fun q => absurd rfl q)
    refine x_iload_n hM dX7_count_21 rfl rfl ?_
    by_cases sO_22 : k < 0 ∨ 10 < k
    · refine x_tableOut (tgt := 159) hM dX7_count_22 (by omega) sO_22 (by decide) ?_
      refine x_iload_n hM dX7_count_159 rfl rfl ?_
      refine x_bipush hM dX7_count_160 rfl ?_
      refine x_icmp_ne (tgt := 172) hM dX7_count_162 (by decide) (by omega) (by omega) (fun c_162 => ?_) (fun c_162 => ?_)
      · refine x_bipush hM dX7_count_172 rfl ?_
        refine hR.i dX7_count_174 (Nat.zero_le _) (Nat.zero_le _) ?_
        unfold cntR
        rw [if_neg c1]
        iterate 11 rw [if_neg (by omega)]
        first | exact p_rI (if_pos (by assumption)).symm | exact p_rI (if_neg (by omega)).symm
      · refine x_aload_n hM dX7_count_165 rfl rfl ?_
        refine x_get hM wf_X7_58 wl_X7 (by first | assumption | exact md_o (by assumption)) rfl dX7_count_166 ?_
        refine x_goto (tgt := 174) hM dX7_count_169 (by decide) ?_
        refine hR.i dX7_count_174 (Nat.zero_le _) (Nat.zero_le _) ?_
        unfold cntR
        rw [if_neg c1]
        iterate 11 rw [if_neg (by omega)]
        first | exact p_rI (if_pos (by assumption)).symm | exact p_rI (if_neg (by omega)).symm
    rcases (by omega : k = 0 ∨ k = 1 ∨ k = 2 ∨ k = 3 ∨ k = 4 ∨ k = 5 ∨ k = 6 ∨ k = 7 ∨ k = 8 ∨ k = 9 ∨ k = 10) with rfl | rfl | rfl | rfl | rfl | rfl | rfl | rfl | rfl | rfl | rfl
    · refine x_tableIn (tgt := 80) hM dX7_count_22 (by omega) (by omega) (by omega) rfl (by decide) ?_
      refine x_aload_n hM dX7_count_80 rfl rfl ?_
      refine x_get hM wf_X7_7 wl_X7 (by first | assumption | exact md_o (by assumption)) rfl dX7_count_81 ?_
      refine x_iconst hM dX7_count_84 ?_
      refine x_iald hM (by first | assumption | exact row_c (by first | assumption | exact sr1 (by assumption) | exact sr2 (by assumption) | exact sr3 (by assumption) | exact sr4 (by assumption) | exact sr5 (by assumption) | exact rg1 (by assumption) | exact rg2 (by assumption) | exact rg3 (by assumption))) (by omega) dX7_count_85 ?_
      rw [np_day hp]
      refine hR.i dX7_count_86 (Nat.zero_le _) (Nat.zero_le _) ?_
      exact p_rI (if_neg c1).symm
    · refine x_tableIn (tgt := 87) hM dX7_count_22 (by omega) (by omega) (by omega) rfl (by decide) ?_
      refine x_aload_n hM dX7_count_87 rfl rfl ?_
      refine x_get hM wf_X7_7 wl_X7 (by first | assumption | exact md_o (by assumption)) rfl dX7_count_88 ?_
      refine x_bipush hM dX7_count_91 rfl ?_
      refine x_iald hM (by first | assumption | exact row_c (by first | assumption | exact sr1 (by assumption) | exact sr2 (by assumption) | exact sr3 (by assumption) | exact sr4 (by assumption) | exact sr5 (by assumption) | exact rg1 (by assumption) | exact rg2 (by assumption) | exact rg3 (by assumption))) (by omega) dX7_count_93 ?_
      rw [np_own hp]
      refine hR.i dX7_count_94 (Nat.zero_le _) (Nat.zero_le _) ?_
      exact p_rI (if_neg c1).symm
    · refine x_tableIn (tgt := 95) hM dX7_count_22 (by omega) (by omega) (by omega) rfl (by decide) ?_
      refine x_aload_n hM dX7_count_95 rfl rfl ?_
      refine x_callV hM wv_X7_121 (m_X7_rangesNow (by assumption)) ⟨Nat.le_of_ble_eq_true rfl, Nat.le_of_ble_eq_true rfl⟩ (by first | assumption | exact md_o (by assumption)) rfl rfl rfl rfl (Nat.le_of_ble_eq_true rfl) ⟨Nat.le_of_ble_eq_true rfl, Nat.le_of_ble_eq_true rfl⟩ dX7_count_96 (k_rI ?_)
      refine hR.i dX7_count_99 (Nat.zero_le _) (Nat.zero_le _) ?_
      exact p_rI (if_neg c1).symm
    · refine x_tableIn (tgt := 100) hM dX7_count_22 (by omega) (by omega) (by omega) rfl (by decide) ?_
      refine x_sipush hM dX7_count_100 rfl ?_
      refine x_aload_n hM dX7_count_103 rfl rfl ?_
      refine x_bipush hM dX7_count_104 rfl ?_
      refine x_callV hM wv_X7_101 (m_X7_metersOf (by assumption) (by omega)) ⟨Nat.le_of_ble_eq_true rfl, Nat.le_of_ble_eq_true rfl⟩ (by first | assumption | exact md_o (by assumption)) rfl rfl rfl rfl (Nat.le_of_ble_eq_true rfl) ⟨Nat.le_of_ble_eq_true rfl, Nat.le_of_ble_eq_true rfl⟩ dX7_count_106 (k_rI ?_)
      refine x_isub hM dX7_count_109 ?_
      refine hR.i dX7_count_110 (Nat.zero_le _) (Nat.zero_le _) ?_
      exact p_rI (if_neg c1).symm
    · refine x_tableIn (tgt := 111) hM dX7_count_22 (by omega) (by omega) (by omega) rfl (by decide) ?_
      refine x_aload_n hM dX7_count_111 rfl rfl ?_
      refine x_bipush hM dX7_count_112 rfl ?_
      refine x_callV hM wv_X7_153 (m_X7_manyOf (by assumption) (by omega)) ⟨Nat.le_of_ble_eq_true rfl, Nat.le_of_ble_eq_true rfl⟩ (by first | assumption | exact md_o (by assumption)) rfl rfl rfl rfl (Nat.le_of_ble_eq_true rfl) ⟨Nat.le_of_ble_eq_true rfl, Nat.le_of_ble_eq_true rfl⟩ dX7_count_114 (k_rI ?_)
      refine hR.i dX7_count_117 (Nat.zero_le _) (Nat.zero_le _) ?_
      exact p_rI (if_neg c1).symm
    · refine x_tableIn (tgt := 118) hM dX7_count_22 (by omega) (by omega) (by omega) rfl (by decide) ?_
      refine x_aload_n hM dX7_count_118 rfl rfl ?_
      refine x_bipush hM dX7_count_119 rfl ?_
      refine x_callV hM wv_X7_171 (m_X7_longestOf (by assumption) (by omega)) ⟨Nat.le_of_ble_eq_true rfl, Nat.le_of_ble_eq_true rfl⟩ (by first | assumption | exact md_o (by assumption)) rfl rfl rfl rfl (Nat.le_of_ble_eq_true rfl) ⟨Nat.le_of_ble_eq_true rfl, Nat.le_of_ble_eq_true rfl⟩ dX7_count_121 (k_rI ?_)
      refine hR.i dX7_count_124 (Nat.zero_le _) (Nat.zero_le _) ?_
      exact p_rI (if_neg c1).symm
    · refine x_tableIn (tgt := 125) hM dX7_count_22 (by omega) (by omega) (by omega) rfl (by decide) ?_
      refine x_aload_n hM dX7_count_125 rfl rfl ?_
      refine x_get hM wf_X7_7 wl_X7 (by first | assumption | exact md_o (by assumption)) rfl dX7_count_126 ?_
      refine x_bipush hM dX7_count_129 rfl ?_
      refine x_iald hM (by first | assumption | exact row_c (by first | assumption | exact sr1 (by assumption) | exact sr2 (by assumption) | exact sr3 (by assumption) | exact sr4 (by assumption) | exact sr5 (by assumption) | exact rg1 (by assumption) | exact rg2 (by assumption) | exact rg3 (by assumption))) (by omega) dX7_count_131 ?_
      rw [np_m hp]
      refine hR.i dX7_count_132 (Nat.zero_le _) (Nat.zero_le _) ?_
      exact p_rI (if_neg c1).symm
    · refine x_tableIn (tgt := 133) hM dX7_count_22 (by omega) (by omega) (by omega) rfl (by decide) ?_
      refine x_aload_n hM dX7_count_133 rfl rfl ?_
      refine x_get hM wf_X7_7 wl_X7 (by first | assumption | exact md_o (by assumption)) rfl dX7_count_134 ?_
      refine x_bipush hM dX7_count_137 rfl ?_
      refine x_iald hM (by first | assumption | exact row_c (by first | assumption | exact sr1 (by assumption) | exact sr2 (by assumption) | exact sr3 (by assumption) | exact sr4 (by assumption) | exact sr5 (by assumption) | exact rg1 (by assumption) | exact rg2 (by assumption) | exact rg3 (by assumption))) (by omega) dX7_count_139 ?_
      rw [np_clo hp]
      refine hR.i dX7_count_140 (Nat.zero_le _) (Nat.zero_le _) ?_
      exact p_rI (if_neg c1).symm
    · refine x_tableIn (tgt := 141) hM dX7_count_22 (by omega) (by omega) (by omega) rfl (by decide) ?_
      refine x_aload_n hM dX7_count_141 rfl rfl ?_
      refine x_get hM wf_X7_7 wl_X7 (by first | assumption | exact md_o (by assumption)) rfl dX7_count_142 ?_
      refine x_bipush hM dX7_count_145 rfl ?_
      refine x_iald hM (by first | assumption | exact row_c (by first | assumption | exact sr1 (by assumption) | exact sr2 (by assumption) | exact sr3 (by assumption) | exact sr4 (by assumption) | exact sr5 (by assumption) | exact rg1 (by assumption) | exact rg2 (by assumption) | exact rg3 (by assumption))) (by omega) dX7_count_147 ?_
      rw [np_fee hp]
      refine hR.i dX7_count_148 (Nat.zero_le _) (Nat.zero_le _) ?_
      exact p_rI (if_neg c1).symm
    · refine x_tableIn (tgt := 149) hM dX7_count_22 (by omega) (by omega) (by omega) rfl (by decide) ?_
      refine x_aload_n hM dX7_count_149 rfl rfl ?_
      refine x_callV hM wv_X7_179 (m_X7_taxes (by assumption)) ⟨Nat.le_of_ble_eq_true rfl, Nat.le_of_ble_eq_true rfl⟩ (by first | assumption | exact md_o (by assumption)) rfl rfl rfl rfl (Nat.le_of_ble_eq_true rfl) ⟨Nat.le_of_ble_eq_true rfl, Nat.le_of_ble_eq_true rfl⟩ dX7_count_150 (k_rI ?_)
      refine hR.i dX7_count_153 (Nat.zero_le _) (Nat.zero_le _) ?_
      exact p_rI (if_neg c1).symm
    · refine x_tableIn (tgt := 154) hM dX7_count_22 (by omega) (by omega) (by omega) rfl (by decide) ?_
      refine x_aload_n hM dX7_count_154 rfl rfl ?_
      refine x_get hM wf_X7_182 wl_X7 (by first | assumption | exact md_o (by assumption)) rfl dX7_count_155 ?_
      refine hR.i dX7_count_158 (Nat.zero_le _) (Nat.zero_le _) ?_
      exact p_rI (if_neg c1).symm
theorem m_X7_isLong {l : Launch} {G : xG} {w : Wd} {z m : Nat} {f : Int → Int} {t : St} {o : Int} (h : rdA G w m f t) (ho : iR o) : xMet l G yX7_isLong cX7_isLong 3 (some .boolean) ({ frames := 3, cells := 0, slots := 0, locals := 63 } : Room) [.ref m, .int (iI o)] w z (rI (if shoB t.L o (t.set 3) = true then 0 else 1) w z) := by
  obtain ⟨⟨un, sg, it, rw', mn, pl, wr, hh⟩, hn, hp⟩ := id h
  have hl := (np_w hp).1
  have hr := np_r hp
  obtain ⟨r1, r2, r3, r4, r5, r6, r7⟩ := id hr
  refine xMet_of RX7 rfl (by decide +kernel) false (by decide +kernel) (Nat.le_of_ble_eq_true rfl) rfl ?_
  intro P hM hR
  have K : ∀ (k i : Nat), t.L.length - i < k → i ≤ t.L.length → shoB (t.L.drop i) o (t.set 3) = shoB t.L o (t.set 3) → P 2 [some (.ref m), some (.int (iI o)), some (.int (iI i))] [] w (z, 0, 0) := by
    intro k
    induction k with
    | zero => intro i hk; omega
    | succ k ih =>
      intro i hk hi hinv
      by_cases hlt : i < t.L.length
      · have hg := np_at hp hlt
        refine x_iload_n hM dX7_isLong_2 rfl rfl ?_
        refine x_aload_n hM dX7_isLong_3 rfl rfl ?_
        refine x_get hM wf_X7_7 wl_X7 (by first | assumption | exact md_o (by assumption)) rfl dX7_isLong_4 ?_
        refine x_bipush hM dX7_isLong_7 rfl ?_
        refine x_iald hM (by first | assumption | exact row_c (by first | assumption | exact sr1 (by assumption) | exact sr2 (by assumption) | exact sr3 (by assumption) | exact sr4 (by assumption) | exact sr5 (by assumption) | exact rg1 (by assumption) | exact rg2 (by assumption) | exact rg3 (by assumption))) (by omega) dX7_isLong_9 ?_
        rw [np_n hp]
        refine x_icmp_ge (tgt := 44) hM dX7_isLong_10 (by decide) (by omega) (by omega) (fun c_10 => ?_) (fun c_10 => ?_)
        · exfalso; omega
        · refine x_aload_n hM dX7_isLong_13 rfl rfl ?_
          refine x_iload_n hM dX7_isLong_14 rfl rfl ?_
          refine x_callV hM wv_X7_87 (m_X7_ownerOf (by assumption) (by omega)) ⟨Nat.le_of_ble_eq_true rfl, Nat.le_of_ble_eq_true rfl⟩ (by first | assumption | exact md_o (by assumption)) rfl rfl rfl rfl (Nat.le_of_ble_eq_true rfl) ⟨Nat.le_of_ble_eq_true rfl, Nat.le_of_ble_eq_true rfl⟩ dX7_isLong_15 (k_rI ?_)
          refine x_iload_n hM dX7_isLong_18 rfl rfl ?_
          refine x_icmp_ne (tgt := 38) hM dX7_isLong_19 (by decide) (by omega) (by omega) (fun c_19 => ?_) (fun c_19 => ?_)
          · refine x_iinc hM dX7_isLong_38 rfl rfl rfl ?_
            refine x_goto (tgt := 2) hM dX7_isLong_41 (by decide) ?_
            exact ih (i + 1) (by omega) (by omega) (by rw [← hinv, List.drop_eq_getElem_cons hlt]; unfold shoB; rw [List.any_cons]; rw [show (decide (t.L[i].1 = o) && decide (t.L[i].2.2 - t.L[i].2.1 < t.set 3)) = false from by rw [Bool.and_eq_false_iff, decide_eq_false_iff_not, decide_eq_false_iff_not]; omega, Bool.false_or])
          · refine x_aload_n hM dX7_isLong_22 rfl rfl ?_
            refine x_iload_n hM dX7_isLong_23 rfl rfl ?_
            refine x_callV hM wv_X7_124 (m_X7_length (by assumption) (by omega)) ⟨Nat.le_of_ble_eq_true rfl, Nat.le_of_ble_eq_true rfl⟩ (by first | assumption | exact md_o (by assumption)) rfl rfl rfl rfl (Nat.le_of_ble_eq_true rfl) ⟨Nat.le_of_ble_eq_true rfl, Nat.le_of_ble_eq_true rfl⟩ dX7_isLong_24 (k_rI ?_)
            refine x_aload_n hM dX7_isLong_27 rfl rfl ?_
            refine x_get hM wf_X7_7 wl_X7 (by first | assumption | exact md_o (by assumption)) rfl dX7_isLong_28 ?_
            refine x_iconst hM dX7_isLong_31 ?_
            refine x_iald hM (by first | assumption | exact row_c (by first | assumption | exact sr1 (by assumption) | exact sr2 (by assumption) | exact sr3 (by assumption) | exact sr4 (by assumption) | exact sr5 (by assumption) | exact rg1 (by assumption) | exact rg2 (by assumption) | exact rg3 (by assumption))) (by omega) dX7_isLong_32 ?_
            rw [np_set hp (by decide) (by decide)]
            refine x_icmp_ge (tgt := 38) hM dX7_isLong_33 (by decide) (by omega) (by omega) (fun c_33 => ?_) (fun c_33 => ?_)
            · refine x_iinc hM dX7_isLong_38 rfl rfl rfl ?_
              refine x_goto (tgt := 2) hM dX7_isLong_41 (by decide) ?_
              exact ih (i + 1) (by omega) (by omega) (by rw [← hinv, List.drop_eq_getElem_cons hlt]; unfold shoB; rw [List.any_cons]; rw [show (decide (t.L[i].1 = o) && decide (t.L[i].2.2 - t.L[i].2.1 < t.set 3)) = false from by rw [Bool.and_eq_false_iff, decide_eq_false_iff_not, decide_eq_false_iff_not]; omega, Bool.false_or])
            · refine x_iconst hM dX7_isLong_36 ?_
              refine hR.b dX7_isLong_37 rfl (Nat.zero_le _) (Nat.zero_le _) ?_
              have e9 : shoB t.L o (t.set 3) = true := by rw [← hinv, List.drop_eq_getElem_cons hlt]; unfold shoB; rw [List.any_cons]; simp only [Bool.or_eq_true, Bool.and_eq_true, decide_eq_true_eq]; exact Or.inl ⟨by omega, by omega⟩
              rw [if_pos e9]
              exact p_rI rfl
      · skip
        refine x_iload_n hM dX7_isLong_2 rfl rfl ?_
        refine x_aload_n hM dX7_isLong_3 rfl rfl ?_
        refine x_get hM wf_X7_7 wl_X7 (by first | assumption | exact md_o (by assumption)) rfl dX7_isLong_4 ?_
        refine x_bipush hM dX7_isLong_7 rfl ?_
        refine x_iald hM (by first | assumption | exact row_c (by first | assumption | exact sr1 (by assumption) | exact sr2 (by assumption) | exact sr3 (by assumption) | exact sr4 (by assumption) | exact sr5 (by assumption) | exact rg1 (by assumption) | exact rg2 (by assumption) | exact rg3 (by assumption))) (by omega) dX7_isLong_9 ?_
        rw [np_n hp]
        refine x_icmp_ge (tgt := 44) hM dX7_isLong_10 (by decide) (by omega) (by omega) (fun c_10 => ?_) (fun c_10 => ?_)
        · refine x_iconst hM dX7_isLong_44 ?_
          refine hR.b dX7_isLong_45 rfl (Nat.zero_le _) (Nat.zero_le _) ?_
          have e9 : shoB t.L o (t.set 3) = false := by rw [← hinv, List.drop_of_length_le (by omega)]; rfl
          rw [e9]
          exact p_rI rfl
        · exfalso; omega
  refine x_iconst hM dX7_isLong_0 ?_
  refine x_istore_n hM dX7_isLong_1 rfl rfl (Nat.le_of_ble_eq_true rfl) rfl ?_
  exact K _ 0 (Nat.lt_succ_self _) (Nat.zero_le _) rfl
