/-! The reference: what it reads -/
def rnS (c : Int) (s : Sg) : Int := if 0 ≤ s.1 then c + 1 else c
def rnF (L : List Sg) : Int := L.foldl rnS 0
theorem m_X7_rangesNow {l : Launch} {G : xG} {w : Wd} {z m : Nat} {f : Int → Int} {t : St} (h : rdA G w m f t) : xMet l G yX7_rangesNow cX7_rangesNow 3 (some .int) ({ frames := 1, cells := 0, slots := 0, locals := 21 } : Room) [.ref m] w z (rI (rnF t.L) w z) := by
  obtain ⟨⟨un, sg, it, rw', mn, pl, wr, hh⟩, hn, hp⟩ := id h
  have hl := (np_w hp).1
  refine xMet_of RX7 rfl (by decide +kernel) false (by decide +kernel) (Nat.le_of_ble_eq_true rfl) rfl ?_
  intro P hM hR
  have K : ∀ (k i : Nat) (c : Int), t.L.length - i < k → i ≤ t.L.length → (t.L.drop i).foldl rnS c = rnF t.L → P 4 [some (.ref m), some (.int (iI c)), some (.int (iI i))] [] w (z, 0, 0) := by
    intro k
    induction k with
    | zero => intro i c hk; omega
    | succ k ih =>
      intro i c hk hi hinv
      by_cases hlt : i < t.L.length
      · have hg := np_at hp hlt
        refine x_iload_n hM dX7_rangesNow_4 rfl rfl ?_
        refine x_aload_n hM dX7_rangesNow_5 rfl rfl ?_
        refine x_get hM wf_X7_7 wl_X7 (by first | assumption | exact md_o (by assumption)) rfl dX7_rangesNow_6 ?_
        refine x_bipush hM dX7_rangesNow_9 rfl ?_
        refine x_iald hM (by first | assumption | exact row_c (by first | assumption | exact sr1 (by assumption) | exact sr2 (by assumption) | exact sr3 (by assumption) | exact sr4 (by assumption) | exact sr5 (by assumption) | exact rg1 (by assumption) | exact rg2 (by assumption) | exact rg3 (by assumption))) (by omega) dX7_rangesNow_11 ?_
        rw [np_n hp]
        refine x_icmp_ge (tgt := 37) hM dX7_rangesNow_12 (by decide) (by omega) (by omega) (fun c_12 => ?_) (fun c_12 => ?_)
        · exfalso; omega
        · refine x_iload_n hM dX7_rangesNow_15 rfl rfl ?_
          refine x_aload_n hM dX7_rangesNow_16 rfl rfl ?_
          refine x_iload_n hM dX7_rangesNow_17 rfl rfl ?_
          refine x_callV hM wv_X7_87 (m_X7_ownerOf (by assumption) (by omega)) ⟨Nat.le_of_ble_eq_true rfl, Nat.le_of_ble_eq_true rfl⟩ (by first | assumption | exact md_o (by assumption)) rfl rfl rfl rfl (Nat.le_of_ble_eq_true rfl) ⟨Nat.le_of_ble_eq_true rfl, Nat.le_of_ble_eq_true rfl⟩ dX7_rangesNow_18 (k_rI ?_)
          refine x_if_lt (tgt := 28) hM dX7_rangesNow_21 (by decide) (by omega) (fun c_21 => ?_) (fun c_21 => ?_)
          · refine x_iconst hM dX7_rangesNow_28 ?_
            refine x_iadd hM dX7_rangesNow_29 ?_
            refine x_istore_n hM dX7_rangesNow_30 rfl rfl (Nat.le_of_ble_eq_true rfl) rfl ?_
            refine x_iinc hM dX7_rangesNow_31 rfl rfl rfl ?_
            refine x_goto (tgt := 4) hM dX7_rangesNow_34 (by decide) ?_
            exact ih (i + 1) _ (by omega) (by omega) (by rw [drop_fold _ _ hlt] at hinv; first | (rw [show rnS c t.L[i] = _ from if_pos (by omega)] at hinv; exact hinv) | (rw [show rnS c t.L[i] = _ from if_neg (by omega)] at hinv; rw [Int.add_zero]; exact hinv))
          · refine x_iconst hM dX7_rangesNow_24 ?_
            refine x_goto (tgt := 29) hM dX7_rangesNow_25 (by decide) ?_
            refine x_iadd hM dX7_rangesNow_29 ?_
            refine x_istore_n hM dX7_rangesNow_30 rfl rfl (Nat.le_of_ble_eq_true rfl) rfl ?_
            refine x_iinc hM dX7_rangesNow_31 rfl rfl rfl ?_
            refine x_goto (tgt := 4) hM dX7_rangesNow_34 (by decide) ?_
            exact ih (i + 1) _ (by omega) (by omega) (by rw [drop_fold _ _ hlt] at hinv; first | (rw [show rnS c t.L[i] = _ from if_pos (by omega)] at hinv; exact hinv) | (rw [show rnS c t.L[i] = _ from if_neg (by omega)] at hinv; rw [Int.add_zero]; exact hinv))
      · skip
        refine x_iload_n hM dX7_rangesNow_4 rfl rfl ?_
        refine x_aload_n hM dX7_rangesNow_5 rfl rfl ?_
        refine x_get hM wf_X7_7 wl_X7 (by first | assumption | exact md_o (by assumption)) rfl dX7_rangesNow_6 ?_
        refine x_bipush hM dX7_rangesNow_9 rfl ?_
        refine x_iald hM (by first | assumption | exact row_c (by first | assumption | exact sr1 (by assumption) | exact sr2 (by assumption) | exact sr3 (by assumption) | exact sr4 (by assumption) | exact sr5 (by assumption) | exact rg1 (by assumption) | exact rg2 (by assumption) | exact rg3 (by assumption))) (by omega) dX7_rangesNow_11 ?_
        rw [np_n hp]
        refine x_icmp_ge (tgt := 37) hM dX7_rangesNow_12 (by decide) (by omega) (by omega) (fun c_12 => ?_) (fun c_12 => ?_)
        · refine x_iload_n hM dX7_rangesNow_37 rfl rfl ?_
          refine hR.i dX7_rangesNow_38 (Nat.zero_le _) (Nat.zero_le _) ?_
          exact p_rI ((drop_foldE _ _ (by omega) c).symm.trans hinv)
        · exfalso; omega
  refine x_iconst hM dX7_rangesNow_0 ?_
  refine x_istore_n hM dX7_rangesNow_1 rfl rfl (Nat.le_of_ble_eq_true rfl) rfl ?_
  refine x_iconst hM dX7_rangesNow_2 ?_
  refine x_istore_n hM dX7_rangesNow_3 rfl rfl (Nat.le_of_ble_eq_true rfl) rfl ?_
  exact K _ 0 0 (Nat.lt_succ_self _) (Nat.zero_le _) rfl
theorem m_X7_isPiece {l : Launch} {G : xG} {w : Wd} {z : Nat} {f n : Int} (hf : iR f) (hn : iR n) : xMet l G yX7_isPiece cX7_isPiece 2 (some .boolean) ({ frames := 1, cells := 0, slots := 0, locals := 22 } : Room) [.int (iI f), .int (iI n)] w z (rI (if isP f n then 1 else 0) w z) := by
  refine xMet_of RX7 rfl (by decide +kernel) false (by decide +kernel) (Nat.le_of_ble_eq_true rfl) rfl ?_
  intro P hM hR
  refine x_iload_n hM dX7_isPiece_0 rfl rfl ?_
  refine x_iconst hM dX7_isPiece_1 ?_
  refine x_sipush hM dX7_isPiece_2 rfl ?_
  refine x_callS hM ws_X7_62 (m_X7_in (by omega) (by omega) (by omega)) ⟨Nat.le_of_ble_eq_true rfl, Nat.le_of_ble_eq_true rfl⟩ rfl rfl (Nat.le_of_ble_eq_true rfl) ⟨Nat.le_of_ble_eq_true rfl, Nat.le_of_ble_eq_true rfl⟩ dX7_isPiece_5 (k_rI ?_)
  by_cases c1 : 0 ≤ f ∧ f ≤ 9999
  · rw [if_pos c1]
    refine x_if_eq (tgt := 35) hM dX7_isPiece_8 (by decide) (by omega) (fun q => absurd q (by decide)) (fun _ => ?_)
    refine x_iload_n hM dX7_isPiece_11 rfl rfl ?_
    refine x_iconst hM dX7_isPiece_12 ?_
    refine x_sipush hM dX7_isPiece_13 rfl ?_
    refine x_callS hM ws_X7_62 (m_X7_in (by omega) (by omega) (by omega)) ⟨Nat.le_of_ble_eq_true rfl, Nat.le_of_ble_eq_true rfl⟩ rfl rfl (Nat.le_of_ble_eq_true rfl) ⟨Nat.le_of_ble_eq_true rfl, Nat.le_of_ble_eq_true rfl⟩ dX7_isPiece_16 (k_rI ?_)
    by_cases c2 : 1 ≤ n ∧ n ≤ 10000
    · rw [if_pos c2]
      refine x_if_eq (tgt := 35) hM dX7_isPiece_19 (by decide) (by omega) (fun q => absurd q (by decide)) (fun _ => ?_)
      refine x_iload_n hM dX7_isPiece_22 rfl rfl ?_
      refine x_sipush hM dX7_isPiece_23 rfl ?_
      refine x_iload_n hM dX7_isPiece_26 rfl rfl ?_
      refine x_isub hM dX7_isPiece_27 ?_
      refine x_icmp_gt (tgt := 35) hM dX7_isPiece_28 (by decide) (by omega) (by omega) (fun c_28 => ?_) (fun c_28 => ?_)
      · refine x_iconst hM dX7_isPiece_35 ?_
        refine hR.b dX7_isPiece_36 rfl (Nat.zero_le _) (Nat.zero_le _) ?_
        exact p_rI (by first | rw [if_pos (by omega)] | rw [if_neg (by omega)])
      · refine x_iconst hM dX7_isPiece_31 ?_
        refine x_goto (tgt := 36) hM dX7_isPiece_32 (by decide) ?_
        refine hR.b dX7_isPiece_36 rfl (Nat.zero_le _) (Nat.zero_le _) ?_
        exact p_rI (by first | rw [if_pos (by omega)] | rw [if_neg (by omega)])
    · rw [if_neg c2]
      refine x_if_eq (tgt := 35) hM dX7_isPiece_19 (by decide) (by omega) (fun _ => ?_) (fun q => absurd rfl q)
      refine x_iconst hM dX7_isPiece_35 ?_
      refine hR.b dX7_isPiece_36 rfl (Nat.zero_le _) (Nat.zero_le _) ?_
      exact p_rI (by first | rw [if_pos (by omega)] | rw [if_neg (by omega)])
  · rw [if_neg c1]
    refine x_if_eq (tgt := 35) hM dX7_isPiece_8 (by decide) (by omega) (fun _ => ?_) (fun q => absurd rfl q)
    refine x_iconst hM dX7_isPiece_35 ?_
    refine hR.b dX7_isPiece_36 rfl (Nat.zero_le _) (Nat.zero_le _) ?_
    exact p_rI (by first | rw [if_pos (by omega)] | rw [if_neg (by omega)])
theorem m_X7_metersIn {l : Launch} {G : xG} {w : Wd} {z m : Nat} {f : Int → Int} {t : St} {a b o : Int} (h : rdA G w m f t) (ha : 0 ≤ a ∧ a ≤ 10000) (hb : 0 ≤ b ∧ b ≤ 20000) (ho : iR o) : xMet l G yX7_metersIn cX7_metersIn 8 (some .int) ({ frames := 2, cells := 0, slots := 0, locals := 42 } : Room) [.ref m, .int (iI a), .int (iI b), .int (iI o)] w z (rI (mtwF t.L o a (b - a)) w z) := by
  obtain ⟨⟨un, sg, it, rw', mn, pl, wr, hh⟩, hn, hp⟩ := id h
  have hl := (np_w hp).1
  refine xMet_of RX7 rfl (by decide +kernel) false (by decide +kernel) (Nat.le_of_ble_eq_true rfl) rfl ?_
  intro P hM hR
  have K : ∀ (k i : Nat) (c : Int) (x6 x7 : Option Value), t.L.length - i < k → i ≤ t.L.length → (t.L.drop i).foldl (mtwS o a (b - a)) c = mtwF t.L o a (b - a) → P 6 [some (.ref m), some (.int (iI a)), some (.int (iI b)), some (.int (iI o)), some (.int (iI c)), some (.int (iI i)), x6, x7] [] w (z, 0, 0) := by
    intro k
    induction k with
    | zero => intro i c x6 x7 hk; omega
    | succ k ih =>
      intro i c x6 x7 hk hi hinv
      by_cases hlt : i < t.L.length
      · have hg := np_at hp hlt
        refine x_iload hM dX7_metersIn_6 rfl ?_
        refine x_aload_n hM dX7_metersIn_8 rfl rfl ?_
        refine x_get hM wf_X7_7 wl_X7 (by first | assumption | exact md_o (by assumption)) rfl dX7_metersIn_9 ?_
        refine x_bipush hM dX7_metersIn_12 rfl ?_
        refine x_iald hM (by first | assumption | exact row_c (by first | assumption | exact sr1 (by assumption) | exact sr2 (by assumption) | exact sr3 (by assumption) | exact sr4 (by assumption) | exact sr5 (by assumption) | exact rg1 (by assumption) | exact rg2 (by assumption) | exact rg3 (by assumption))) (by omega) dX7_metersIn_14 ?_
        rw [np_n hp]
        refine x_icmp_ge (tgt := 99) hM dX7_metersIn_15 (by decide) (by omega) (by omega) (fun c_15 => ?_) (fun c_15 => ?_)
        · exfalso; omega
        · refine x_aload_n hM dX7_metersIn_18 rfl rfl ?_
          refine x_iload hM dX7_metersIn_19 rfl ?_
          refine x_callV hM wv_X7_81 (m_X7_first (by assumption) (by omega)) ⟨Nat.le_of_ble_eq_true rfl, Nat.le_of_ble_eq_true rfl⟩ (by first | assumption | exact md_o (by assumption)) rfl rfl rfl rfl (Nat.le_of_ble_eq_true rfl) ⟨Nat.le_of_ble_eq_true rfl, Nat.le_of_ble_eq_true rfl⟩ dX7_metersIn_21 (k_rI ?_)
          refine x_iload_n hM dX7_metersIn_24 rfl rfl ?_
          refine x_icmp_le (tgt := 37) hM dX7_metersIn_25 (by decide) (by omega) (by omega) (fun c_25 => ?_) (fun c_25 => ?_)
          · refine x_iload_n hM dX7_metersIn_37 rfl rfl ?_
            refine x_istore hM dX7_metersIn_38 rfl (Nat.le_of_ble_eq_true rfl) rfl ?_
            refine x_aload_n hM dX7_metersIn_40 rfl rfl ?_
            refine x_iload hM dX7_metersIn_41 rfl ?_
            refine x_callV hM wv_X7_84 (m_X7_behind (by assumption) (by omega)) ⟨Nat.le_of_ble_eq_true rfl, Nat.le_of_ble_eq_true rfl⟩ (by first | assumption | exact md_o (by assumption)) rfl rfl rfl rfl (Nat.le_of_ble_eq_true rfl) ⟨Nat.le_of_ble_eq_true rfl, Nat.le_of_ble_eq_true rfl⟩ dX7_metersIn_43 (k_rI ?_)
            refine x_iload_n hM dX7_metersIn_46 rfl rfl ?_
            refine x_icmp_ge (tgt := 59) hM dX7_metersIn_47 (by decide) (by omega) (by omega) (fun c_47 => ?_) (fun c_47 => ?_)
            · refine x_iload_n hM dX7_metersIn_59 rfl rfl ?_
              refine x_istore hM dX7_metersIn_60 rfl (Nat.le_of_ble_eq_true rfl) rfl ?_
              refine x_iload hM dX7_metersIn_62 rfl ?_
              refine x_aload_n hM dX7_metersIn_64 rfl rfl ?_
              refine x_iload hM dX7_metersIn_65 rfl ?_
              refine x_callV hM wv_X7_87 (m_X7_ownerOf (by assumption) (by omega)) ⟨Nat.le_of_ble_eq_true rfl, Nat.le_of_ble_eq_true rfl⟩ (by first | assumption | exact md_o (by assumption)) rfl rfl rfl rfl (Nat.le_of_ble_eq_true rfl) ⟨Nat.le_of_ble_eq_true rfl, Nat.le_of_ble_eq_true rfl⟩ dX7_metersIn_67 (k_rI ?_)
              refine x_iload_n hM dX7_metersIn_70 rfl rfl ?_
              refine x_icmp_ne (tgt := 89) hM dX7_metersIn_71 (by decide) (by omega) (by omega) (fun c_71 => ?_) (fun c_71 => ?_)
              · refine x_iconst hM dX7_metersIn_89 ?_
                refine x_iadd hM dX7_metersIn_90 ?_
                refine x_istore hM dX7_metersIn_91 rfl (Nat.le_of_ble_eq_true rfl) rfl ?_
                refine x_iinc hM dX7_metersIn_93 rfl rfl rfl ?_
                refine x_goto (tgt := 6) hM dX7_metersIn_96 (by decide) ?_
                exact ih (i + 1) _ _ _ (by omega) (by omega) (by rw [drop_fold _ _ hlt] at hinv; rw [← hinv]; congr 1; unfold mtwS ovF; split <;> omega)
              · refine x_iload hM dX7_metersIn_74 rfl ?_
                refine x_iload hM dX7_metersIn_76 rfl ?_
                refine x_icmp_le (tgt := 89) hM dX7_metersIn_78 (by decide) (by omega) (by omega) (fun c_78 => ?_) (fun c_78 => ?_)
                · refine x_iconst hM dX7_metersIn_89 ?_
                  refine x_iadd hM dX7_metersIn_90 ?_
                  refine x_istore hM dX7_metersIn_91 rfl (Nat.le_of_ble_eq_true rfl) rfl ?_
                  refine x_iinc hM dX7_metersIn_93 rfl rfl rfl ?_
                  refine x_goto (tgt := 6) hM dX7_metersIn_96 (by decide) ?_
                  exact ih (i + 1) _ _ _ (by omega) (by omega) (by rw [drop_fold _ _ hlt] at hinv; rw [← hinv]; congr 1; unfold mtwS ovF; split <;> omega)
                · refine x_iload hM dX7_metersIn_81 rfl ?_
                  refine x_iload hM dX7_metersIn_83 rfl ?_
                  refine x_isub hM dX7_metersIn_85 ?_
                  refine x_goto (tgt := 90) hM dX7_metersIn_86 (by decide) ?_
                  refine x_iadd hM dX7_metersIn_90 ?_
                  refine x_istore hM dX7_metersIn_91 rfl (Nat.le_of_ble_eq_true rfl) rfl ?_
                  refine x_iinc hM dX7_metersIn_93 rfl rfl rfl ?_
                  refine x_goto (tgt := 6) hM dX7_metersIn_96 (by decide) ?_
                  exact ih (i + 1) _ _ _ (by omega) (by omega) (by rw [drop_fold _ _ hlt] at hinv; rw [← hinv]; congr 1; unfold mtwS ovF; split <;> omega)
            · refine x_aload_n hM dX7_metersIn_50 rfl rfl ?_
              refine x_iload hM dX7_metersIn_51 rfl ?_
              refine x_callV hM wv_X7_84 (m_X7_behind (by assumption) (by omega)) ⟨Nat.le_of_ble_eq_true rfl, Nat.le_of_ble_eq_true rfl⟩ (by first | assumption | exact md_o (by assumption)) rfl rfl rfl rfl (Nat.le_of_ble_eq_true rfl) ⟨Nat.le_of_ble_eq_true rfl, Nat.le_of_ble_eq_true rfl⟩ dX7_metersIn_53 (k_rI ?_)
              refine x_goto (tgt := 60) hM dX7_metersIn_56 (by decide) ?_
              refine x_istore hM dX7_metersIn_60 rfl (Nat.le_of_ble_eq_true rfl) rfl ?_
              refine x_iload hM dX7_metersIn_62 rfl ?_
              refine x_aload_n hM dX7_metersIn_64 rfl rfl ?_
              refine x_iload hM dX7_metersIn_65 rfl ?_
              refine x_callV hM wv_X7_87 (m_X7_ownerOf (by assumption) (by omega)) ⟨Nat.le_of_ble_eq_true rfl, Nat.le_of_ble_eq_true rfl⟩ (by first | assumption | exact md_o (by assumption)) rfl rfl rfl rfl (Nat.le_of_ble_eq_true rfl) ⟨Nat.le_of_ble_eq_true rfl, Nat.le_of_ble_eq_true rfl⟩ dX7_metersIn_67 (k_rI ?_)
              refine x_iload_n hM dX7_metersIn_70 rfl rfl ?_
              refine x_icmp_ne (tgt := 89) hM dX7_metersIn_71 (by decide) (by omega) (by omega) (fun c_71 => ?_) (fun c_71 => ?_)
              · refine x_iconst hM dX7_metersIn_89 ?_
                refine x_iadd hM dX7_metersIn_90 ?_
                refine x_istore hM dX7_metersIn_91 rfl (Nat.le_of_ble_eq_true rfl) rfl ?_
                refine x_iinc hM dX7_metersIn_93 rfl rfl rfl ?_
                refine x_goto (tgt := 6) hM dX7_metersIn_96 (by decide) ?_
                exact ih (i + 1) _ _ _ (by omega) (by omega) (by rw [drop_fold _ _ hlt] at hinv; rw [← hinv]; congr 1; unfold mtwS ovF; split <;> omega)
              · refine x_iload hM dX7_metersIn_74 rfl ?_
                refine x_iload hM dX7_metersIn_76 rfl ?_
                refine x_icmp_le (tgt := 89) hM dX7_metersIn_78 (by decide) (by omega) (by omega) (fun c_78 => ?_) (fun c_78 => ?_)
                · refine x_iconst hM dX7_metersIn_89 ?_
                  refine x_iadd hM dX7_metersIn_90 ?_
                  refine x_istore hM dX7_metersIn_91 rfl (Nat.le_of_ble_eq_true rfl) rfl ?_
                  refine x_iinc hM dX7_metersIn_93 rfl rfl rfl ?_
                  refine x_goto (tgt := 6) hM dX7_metersIn_96 (by decide) ?_
                  exact ih (i + 1) _ _ _ (by omega) (by omega) (by rw [drop_fold _ _ hlt] at hinv; rw [← hinv]; congr 1; unfold mtwS ovF; split <;> omega)
                · refine x_iload hM dX7_metersIn_81 rfl ?_
                  refine x_iload hM dX7_metersIn_83 rfl ?_
                  refine x_isub hM dX7_metersIn_85 ?_
                  refine x_goto (tgt := 90) hM dX7_metersIn_86 (by decide) ?_
                  refine x_iadd hM dX7_metersIn_90 ?_
                  refine x_istore hM dX7_metersIn_91 rfl (Nat.le_of_ble_eq_true rfl) rfl ?_
                  refine x_iinc hM dX7_metersIn_93 rfl rfl rfl ?_
                  refine x_goto (tgt := 6) hM dX7_metersIn_96 (by decide) ?_
                  exact ih (i + 1) _ _ _ (by omega) (by omega) (by rw [drop_fold _ _ hlt] at hinv; rw [← hinv]; congr 1; unfold mtwS ovF; split <;> omega)
          · refine x_aload_n hM dX7_metersIn_28 rfl rfl ?_
            refine x_iload hM dX7_metersIn_29 rfl ?_
            refine x_callV hM wv_X7_81 (m_X7_first (by assumption) (by omega)) ⟨Nat.le_of_ble_eq_true rfl, Nat.le_of_ble_eq_true rfl⟩ (by first | assumption | exact md_o (by assumption)) rfl rfl rfl rfl (Nat.le_of_ble_eq_true rfl) ⟨Nat.le_of_ble_eq_true rfl, Nat.le_of_ble_eq_true rfl⟩ dX7_metersIn_31 (k_rI ?_)
            refine x_goto (tgt := 38) hM dX7_metersIn_34 (by decide) ?_
            refine x_istore hM dX7_metersIn_38 rfl (Nat.le_of_ble_eq_true rfl) rfl ?_
            refine x_aload_n hM dX7_metersIn_40 rfl rfl ?_
            refine x_iload hM dX7_metersIn_41 rfl ?_
            refine x_callV hM wv_X7_84 (m_X7_behind (by assumption) (by omega)) ⟨Nat.le_of_ble_eq_true rfl, Nat.le_of_ble_eq_true rfl⟩ (by first | assumption | exact md_o (by assumption)) rfl rfl rfl rfl (Nat.le_of_ble_eq_true rfl) ⟨Nat.le_of_ble_eq_true rfl, Nat.le_of_ble_eq_true rfl⟩ dX7_metersIn_43 (k_rI ?_)
            refine x_iload_n hM dX7_metersIn_46 rfl rfl ?_
            refine x_icmp_ge (tgt := 59) hM dX7_metersIn_47 (by decide) (by omega) (by omega) (fun c_47 => ?_) (fun c_47 => ?_)
            · refine x_iload_n hM dX7_metersIn_59 rfl rfl ?_
              refine x_istore hM dX7_metersIn_60 rfl (Nat.le_of_ble_eq_true rfl) rfl ?_
              refine x_iload hM dX7_metersIn_62 rfl ?_
              refine x_aload_n hM dX7_metersIn_64 rfl rfl ?_
              refine x_iload hM dX7_metersIn_65 rfl ?_
              refine x_callV hM wv_X7_87 (m_X7_ownerOf (by assumption) (by omega)) ⟨Nat.le_of_ble_eq_true rfl, Nat.le_of_ble_eq_true rfl⟩ (by first | assumption | exact md_o (by assumption)) rfl rfl rfl rfl (Nat.le_of_ble_eq_true rfl) ⟨Nat.le_of_ble_eq_true rfl, Nat.le_of_ble_eq_true rfl⟩ dX7_metersIn_67 (k_rI ?_)
              refine x_iload_n hM dX7_metersIn_70 rfl rfl ?_
              refine x_icmp_ne (tgt := 89) hM dX7_metersIn_71 (by decide) (by omega) (by omega) (fun c_71 => ?_) (fun c_71 => ?_)
              · refine x_iconst hM dX7_metersIn_89 ?_
                refine x_iadd hM dX7_metersIn_90 ?_
                refine x_istore hM dX7_metersIn_91 rfl (Nat.le_of_ble_eq_true rfl) rfl ?_
                refine x_iinc hM dX7_metersIn_93 rfl rfl rfl ?_
                refine x_goto (tgt := 6) hM dX7_metersIn_96 (by decide) ?_
                exact ih (i + 1) _ _ _ (by omega) (by omega) (by rw [drop_fold _ _ hlt] at hinv; rw [← hinv]; congr 1; unfold mtwS ovF; split <;> omega)
              · refine x_iload hM dX7_metersIn_74 rfl ?_
                refine x_iload hM dX7_metersIn_76 rfl ?_
                refine x_icmp_le (tgt := 89) hM dX7_metersIn_78 (by decide) (by omega) (by omega) (fun c_78 => ?_) (fun c_78 => ?_)
                · refine x_iconst hM dX7_metersIn_89 ?_
                  refine x_iadd hM dX7_metersIn_90 ?_
                  refine x_istore hM dX7_metersIn_91 rfl (Nat.le_of_ble_eq_true rfl) rfl ?_
                  refine x_iinc hM dX7_metersIn_93 rfl rfl rfl ?_
                  refine x_goto (tgt := 6) hM dX7_metersIn_96 (by decide) ?_
                  exact ih (i + 1) _ _ _ (by omega) (by omega) (by rw [drop_fold _ _ hlt] at hinv; rw [← hinv]; congr 1; unfold mtwS ovF; split <;> omega)
                · refine x_iload hM dX7_metersIn_81 rfl ?_
                  refine x_iload hM dX7_metersIn_83 rfl ?_
                  refine x_isub hM dX7_metersIn_85 ?_
                  refine x_goto (tgt := 90) hM dX7_metersIn_86 (by decide) ?_
                  refine x_iadd hM dX7_metersIn_90 ?_
                  refine x_istore hM dX7_metersIn_91 rfl (Nat.le_of_ble_eq_true rfl) rfl ?_
                  refine x_iinc hM dX7_metersIn_93 rfl rfl rfl ?_
                  refine x_goto (tgt := 6) hM dX7_metersIn_96 (by decide) ?_
                  exact ih (i + 1) _ _ _ (by omega) (by omega) (by rw [drop_fold _ _ hlt] at hinv; rw [← hinv]; congr 1; unfold mtwS ovF; split <;> omega)
            · refine x_aload_n hM dX7_metersIn_50 rfl rfl ?_
              refine x_iload hM dX7_metersIn_51 rfl ?_
              refine x_callV hM wv_X7_84 (m_X7_behind (by assumption) (by omega)) ⟨Nat.le_of_ble_eq_true rfl, Nat.le_of_ble_eq_true rfl⟩ (by first | assumption | exact md_o (by assumption)) rfl rfl rfl rfl (Nat.le_of_ble_eq_true rfl) ⟨Nat.le_of_ble_eq_true rfl, Nat.le_of_ble_eq_true rfl⟩ dX7_metersIn_53 (k_rI ?_)
              refine x_goto (tgt := 60) hM dX7_metersIn_56 (by decide) ?_
              refine x_istore hM dX7_metersIn_60 rfl (Nat.le_of_ble_eq_true rfl) rfl ?_
              refine x_iload hM dX7_metersIn_62 rfl ?_
              refine x_aload_n hM dX7_metersIn_64 rfl rfl ?_
              refine x_iload hM dX7_metersIn_65 rfl ?_
              refine x_callV hM wv_X7_87 (m_X7_ownerOf (by assumption) (by omega)) ⟨Nat.le_of_ble_eq_true rfl, Nat.le_of_ble_eq_true rfl⟩ (by first | assumption | exact md_o (by assumption)) rfl rfl rfl rfl (Nat.le_of_ble_eq_true rfl) ⟨Nat.le_of_ble_eq_true rfl, Nat.le_of_ble_eq_true rfl⟩ dX7_metersIn_67 (k_rI ?_)
              refine x_iload_n hM dX7_metersIn_70 rfl rfl ?_
              refine x_icmp_ne (tgt := 89) hM dX7_metersIn_71 (by decide) (by omega) (by omega) (fun c_71 => ?_) (fun c_71 => ?_)
              · refine x_iconst hM dX7_metersIn_89 ?_
                refine x_iadd hM dX7_metersIn_90 ?_
                refine x_istore hM dX7_metersIn_91 rfl (Nat.le_of_ble_eq_true rfl) rfl ?_
                refine x_iinc hM dX7_metersIn_93 rfl rfl rfl ?_
                refine x_goto (tgt := 6) hM dX7_metersIn_96 (by decide) ?_
                exact ih (i + 1) _ _ _ (by omega) (by omega) (by rw [drop_fold _ _ hlt] at hinv; rw [← hinv]; congr 1; unfold mtwS ovF; split <;> omega)
              · refine x_iload hM dX7_metersIn_74 rfl ?_
                refine x_iload hM dX7_metersIn_76 rfl ?_
                refine x_icmp_le (tgt := 89) hM dX7_metersIn_78 (by decide) (by omega) (by omega) (fun c_78 => ?_) (fun c_78 => ?_)
                · refine x_iconst hM dX7_metersIn_89 ?_
                  refine x_iadd hM dX7_metersIn_90 ?_
                  refine x_istore hM dX7_metersIn_91 rfl (Nat.le_of_ble_eq_true rfl) rfl ?_
                  refine x_iinc hM dX7_metersIn_93 rfl rfl rfl ?_
                  refine x_goto (tgt := 6) hM dX7_metersIn_96 (by decide) ?_
                  exact ih (i + 1) _ _ _ (by omega) (by omega) (by rw [drop_fold _ _ hlt] at hinv; rw [← hinv]; congr 1; unfold mtwS ovF; split <;> omega)
                · refine x_iload hM dX7_metersIn_81 rfl ?_
                  refine x_iload hM dX7_metersIn_83 rfl ?_
                  refine x_isub hM dX7_metersIn_85 ?_
                  refine x_goto (tgt := 90) hM dX7_metersIn_86 (by decide) ?_
                  refine x_iadd hM dX7_metersIn_90 ?_
                  refine x_istore hM dX7_metersIn_91 rfl (Nat.le_of_ble_eq_true rfl) rfl ?_
                  refine x_iinc hM dX7_metersIn_93 rfl rfl rfl ?_
                  refine x_goto (tgt := 6) hM dX7_metersIn_96 (by decide) ?_
                  exact ih (i + 1) _ _ _ (by omega) (by omega) (by rw [drop_fold _ _ hlt] at hinv; rw [← hinv]; congr 1; unfold mtwS ovF; split <;> omega)
      · skip
        refine x_iload hM dX7_metersIn_6 rfl ?_
        refine x_aload_n hM dX7_metersIn_8 rfl rfl ?_
        refine x_get hM wf_X7_7 wl_X7 (by first | assumption | exact md_o (by assumption)) rfl dX7_metersIn_9 ?_
        refine x_bipush hM dX7_metersIn_12 rfl ?_
        refine x_iald hM (by first | assumption | exact row_c (by first | assumption | exact sr1 (by assumption) | exact sr2 (by assumption) | exact sr3 (by assumption) | exact sr4 (by assumption) | exact sr5 (by assumption) | exact rg1 (by assumption) | exact rg2 (by assumption) | exact rg3 (by assumption))) (by omega) dX7_metersIn_14 ?_
        rw [np_n hp]
        refine x_icmp_ge (tgt := 99) hM dX7_metersIn_15 (by decide) (by omega) (by omega) (fun c_15 => ?_) (fun c_15 => ?_)
        · refine x_iload hM dX7_metersIn_99 rfl ?_
          refine hR.i dX7_metersIn_101 (Nat.zero_le _) (Nat.zero_le _) ?_
          exact p_rI ((drop_foldE _ _ (by omega) c).symm.trans hinv)
        · exfalso; omega
  refine x_iconst hM dX7_metersIn_0 ?_
  refine x_istore hM dX7_metersIn_1 rfl (Nat.le_of_ble_eq_true rfl) rfl ?_
  refine x_iconst hM dX7_metersIn_3 ?_
  refine x_istore hM dX7_metersIn_4 rfl (Nat.le_of_ble_eq_true rfl) rfl ?_
  exact K _ 0 0 _ _ (Nat.lt_succ_self _) (Nat.zero_le _) rfl
theorem mts_mtw {L : List Sg} (o : Int) (h : ∀ s ∈ L, okG s) : mtwF L o 0 10000 = mtsO L o := by
  have gen : ∀ (M : List Sg) (c : Int), (∀ s ∈ M, okG s) → M.foldl (mtwS o 0 10000) c = c + mtsO M o := by
    intro M
    induction M with
    | nil => intro c _; show c = c + 0; omega
    | cons x M ih =>
      intro c hx
      have h1 := hx x List.mem_cons_self
      have e : mtwS o 0 10000 c x = c + (if x.1 = o then x.2.2 - x.2.1 else 0) := by unfold mtwS ovF; split <;> omega
      rw [List.foldl_cons, ih _ (fun y hy => hx y (List.mem_cons_of_mem _ hy)), e, mtsO_cons]
      omega
  rw [mtwF, gen L 0 h, Int.zero_add]
theorem np_all {f : Int → Int} {t : St} (h : nowP f t) : ∀ s ∈ t.L, okG s := by
  intro s hs
  obtain ⟨i, hi, rfl⟩ := List.getElem_of_mem hs
  exact np_at h hi
theorem mts_gb {L : List Sg} (o : Int) (h : ∀ s ∈ L, okG s) : 0 ≤ mtsO L o ∧ mtsO L o ≤ 10000 * L.length := by
  induction L with
  | nil => exact ⟨Int.le_refl 0, Int.le_refl 0⟩
  | cons x M ih =>
    have h1 := h x List.mem_cons_self
    have h2 := ih fun y hy => h y (List.mem_cons_of_mem _ hy)
    rw [mtsO_cons, List.length_cons]
    split <;> omega
theorem cnt_gb (L : List Sg) (o : Int) : 0 ≤ cntO L o ∧ cntO L o ≤ L.length := by
  induction L with
  | nil => exact ⟨Int.le_refl 0, Int.le_refl 0⟩
  | cons x M ih =>
    rw [List.length_cons]
    show 0 ≤ (if x.1 = o then 1 else 0) + cntO M o ∧ _
    show _ ∧ (if x.1 = o then 1 else 0) + cntO M o ≤ _
    split <;> omega
theorem m_X7_metersOf {l : Launch} {G : xG} {w : Wd} {z m : Nat} {f : Int → Int} {t : St} {o : Int} (h : rdA G w m f t) (ho : iR o) : xMet l G yX7_metersOf cX7_metersOf 2 (some .int) ({ frames := 3, cells := 0, slots := 0, locals := 69 } : Room) [.ref m, .int (iI o)] w z (rI (mtsO t.L o) w z) := by
  obtain ⟨⟨un, sg, it, rw', mn, pl, wr, hh⟩, hn, hp⟩ := id h
  have hl := (np_w hp).1
  refine xMet_of RX7 rfl (by decide +kernel) false (by decide +kernel) (Nat.le_of_ble_eq_true rfl) rfl ?_
  intro P hM hR
  refine x_aload_n hM dX7_metersOf_0 rfl rfl ?_
  refine x_iconst hM dX7_metersOf_1 ?_
  refine x_sipush hM dX7_metersOf_2 rfl ?_
  refine x_iload_n hM dX7_metersOf_5 rfl rfl ?_
  refine x_callV hM wv_X7_97 (m_X7_metersIn (by assumption) (by omega) (by omega) (by omega)) ⟨Nat.le_of_ble_eq_true rfl, Nat.le_of_ble_eq_true rfl⟩ (by first | assumption | exact md_o (by assumption)) rfl rfl rfl rfl (Nat.le_of_ble_eq_true rfl) ⟨Nat.le_of_ble_eq_true rfl, Nat.le_of_ble_eq_true rfl⟩ dX7_metersOf_6 (k_rI ?_)
  refine hR.i dX7_metersOf_9 (Nat.zero_le _) (Nat.zero_le _) ?_
  exact p_rI (mts_mtw o (np_all hp))
theorem m_X7_mayGet {l : Launch} {G : xG} {w : Wd} {z m : Nat} {f : Int → Int} {t : St} {o n : Int} (h : rdA G w m f t) (ho : iR o) (hn0 : -10000000 ≤ n ∧ n ≤ 10000000) : xMet l G yX7_mayGet cX7_mayGet 3 (some .boolean) ({ frames := 4, cells := 0, slots := 0, locals := 90 } : Room) [.ref m, .int (iI o), .int (iI n)] w z (rI (if n = 0 ∨ mtsO t.L o + n ≤ t.set 4 then 1 else 0) w z) := by
  obtain ⟨⟨un, sg, it, rw', mn, pl, wr, hh⟩, hn, hp⟩ := id h
  have hl := (np_w hp).1
  have hr := np_r hp
  obtain ⟨r1, r2, r3, r4, r5, r6, r7⟩ := id hr
  have hb := mts_gb o (np_all hp)
  refine xMet_of RX7 rfl (by decide +kernel) false (by decide +kernel) (Nat.le_of_ble_eq_true rfl) rfl ?_
  intro P hM hR
  refine x_iload_n hM dX7_mayGet_0 rfl rfl ?_
  refine x_if_eq (tgt := 20) hM dX7_mayGet_1 (by decide) (by omega) (fun c_1 => ?_) (fun c_1 => ?_)
  · refine x_iconst hM dX7_mayGet_20 ?_
    refine x_goto (tgt := 25) hM dX7_mayGet_21 (by decide) ?_
    refine hR.b dX7_mayGet_25 rfl (Nat.zero_le _) (Nat.zero_le _) ?_
    exact p_rI (by first | rw [if_pos (by omega)] | rw [if_neg (by omega)])
  · refine x_aload_n hM dX7_mayGet_4 rfl rfl ?_
    refine x_iload_n hM dX7_mayGet_5 rfl rfl ?_
    refine x_callV hM wv_X7_101 (m_X7_metersOf (by assumption) (by omega)) ⟨Nat.le_of_ble_eq_true rfl, Nat.le_of_ble_eq_true rfl⟩ (by first | assumption | exact md_o (by assumption)) rfl rfl rfl rfl (Nat.le_of_ble_eq_true rfl) ⟨Nat.le_of_ble_eq_true rfl, Nat.le_of_ble_eq_true rfl⟩ dX7_mayGet_6 (k_rI ?_)
    refine x_iload_n hM dX7_mayGet_9 rfl rfl ?_
    refine x_iadd hM dX7_mayGet_10 ?_
    refine x_aload_n hM dX7_mayGet_11 rfl rfl ?_
    refine x_get hM wf_X7_7 wl_X7 (by first | assumption | exact md_o (by assumption)) rfl dX7_mayGet_12 ?_
    refine x_iconst hM dX7_mayGet_15 ?_
    refine x_iald hM (by first | assumption | exact row_c (by first | assumption | exact sr1 (by assumption) | exact sr2 (by assumption) | exact sr3 (by assumption) | exact sr4 (by assumption) | exact sr5 (by assumption) | exact rg1 (by assumption) | exact rg2 (by assumption) | exact rg3 (by assumption))) (by omega) dX7_mayGet_16 ?_
    rw [np_set hp (by decide) (by decide)]
    refine x_icmp_gt (tgt := 24) hM dX7_mayGet_17 (by decide) (by omega) (by omega) (fun c_17 => ?_) (fun c_17 => ?_)
    · refine x_iconst hM dX7_mayGet_24 ?_
      refine hR.b dX7_mayGet_25 rfl (Nat.zero_le _) (Nat.zero_le _) ?_
      exact p_rI (by first | rw [if_pos (by omega)] | rw [if_neg (by omega)])
    · refine x_iconst hM dX7_mayGet_20 ?_
      refine x_goto (tgt := 25) hM dX7_mayGet_21 (by decide) ?_
      refine hR.b dX7_mayGet_25 rfl (Nat.zero_le _) (Nat.zero_le _) ?_
      exact p_rI (by first | rw [if_pos (by omega)] | rw [if_neg (by omega)])
theorem m_X7_lengthTax {l : Launch} {G : xG} {w : Wd} {z m : Nat} {f : Int → Int} {t : St} {n : Int} (h : rdA G w m f t) (hn0 : 0 ≤ n ∧ n ≤ 10000000) : xMet l G yX7_lengthTax cX7_lengthTax 2 (some .int) ({ frames := 0, cells := 0, slots := 0, locals := 0 } : Room) [.ref m, .int (iI n)] w z (rI ((n + 9) / 10 * t.set 0) w z) := by
  obtain ⟨⟨un, sg, it, rw', mn, pl, wr, hh⟩, hn, hp⟩ := id h
  have hl := (np_w hp).1
  refine xMet_of RX7 rfl (by decide +kernel) false (by decide +kernel) (Nat.le_of_ble_eq_true rfl) rfl ?_
  intro P hM hR
  refine x_iload_n hM dX7_lengthTax_0 rfl rfl ?_
  refine x_bipush hM dX7_lengthTax_1 rfl ?_
  refine x_iadd hM dX7_lengthTax_3 ?_
  refine x_bipush hM dX7_lengthTax_4 rfl ?_
  refine x_idiv hM dX7_lengthTax_6 (by omega) (by omega) (by omega) (by omega) ?_
  refine x_aload_n hM dX7_lengthTax_7 rfl rfl ?_
  refine x_get hM wf_X7_7 wl_X7 (by first | assumption | exact md_o (by assumption)) rfl dX7_lengthTax_8 ?_
  refine x_iconst hM dX7_lengthTax_11 ?_
  refine x_iald hM (by first | assumption | exact row_c (by first | assumption | exact sr1 (by assumption) | exact sr2 (by assumption) | exact sr3 (by assumption) | exact sr4 (by assumption) | exact sr5 (by assumption) | exact rg1 (by assumption) | exact rg2 (by assumption) | exact rg3 (by assumption))) (by omega) dX7_lengthTax_12 ?_
  rw [np_set hp (by decide) (by decide)]
  refine x_imul hM dX7_lengthTax_13 ?_
  refine hR.i dX7_lengthTax_14 (Nat.zero_le _) (Nat.zero_le _) ?_
  exact p_rI rfl
theorem m_X7_manyOf {l : Launch} {G : xG} {w : Wd} {z m : Nat} {f : Int → Int} {t : St} {o : Int} (h : rdA G w m f t) (ho : iR o) : xMet l G yX7_manyOf cX7_manyOf 4 (some .int) ({ frames := 1, cells := 0, slots := 0, locals := 21 } : Room) [.ref m, .int (iI o)] w z (rI (cntO t.L o) w z) := by
  obtain ⟨⟨un, sg, it, rw', mn, pl, wr, hh⟩, hn, hp⟩ := id h
  have hl := (np_w hp).1
  refine xMet_of RX7 rfl (by decide +kernel) false (by decide +kernel) (Nat.le_of_ble_eq_true rfl) rfl ?_
  intro P hM hR
  have K : ∀ (k i : Nat) (c : Int), t.L.length - i < k → i ≤ t.L.length → c + cntO (t.L.drop i) o = cntO t.L o → P 4 [some (.ref m), some (.int (iI o)), some (.int (iI c)), some (.int (iI i))] [] w (z, 0, 0) := by
    intro k
    induction k with
    | zero => intro i c hk; omega
    | succ k ih =>
      intro i c hk hi hinv
      by_cases hlt : i < t.L.length
      · have hg := np_at hp hlt
        refine x_iload_n hM dX7_manyOf_4 rfl rfl ?_
        refine x_aload_n hM dX7_manyOf_5 rfl rfl ?_
        refine x_get hM wf_X7_7 wl_X7 (by first | assumption | exact md_o (by assumption)) rfl dX7_manyOf_6 ?_
        refine x_bipush hM dX7_manyOf_9 rfl ?_
        refine x_iald hM (by first | assumption | exact row_c (by first | assumption | exact sr1 (by assumption) | exact sr2 (by assumption) | exact sr3 (by assumption) | exact sr4 (by assumption) | exact sr5 (by assumption) | exact rg1 (by assumption) | exact rg2 (by assumption) | exact rg3 (by assumption))) (by omega) dX7_manyOf_11 ?_
        rw [np_n hp]
        refine x_icmp_ge (tgt := 38) hM dX7_manyOf_12 (by decide) (by omega) (by omega) (fun c_12 => ?_) (fun c_12 => ?_)
        · exfalso; omega
        · refine x_iload_n hM dX7_manyOf_15 rfl rfl ?_
          refine x_aload_n hM dX7_manyOf_16 rfl rfl ?_
          refine x_iload_n hM dX7_manyOf_17 rfl rfl ?_
          refine x_callV hM wv_X7_87 (m_X7_ownerOf (by assumption) (by omega)) ⟨Nat.le_of_ble_eq_true rfl, Nat.le_of_ble_eq_true rfl⟩ (by first | assumption | exact md_o (by assumption)) rfl rfl rfl rfl (Nat.le_of_ble_eq_true rfl) ⟨Nat.le_of_ble_eq_true rfl, Nat.le_of_ble_eq_true rfl⟩ dX7_manyOf_18 (k_rI ?_)
          refine x_iload_n hM dX7_manyOf_21 rfl rfl ?_
          refine x_icmp_ne (tgt := 29) hM dX7_manyOf_22 (by decide) (by omega) (by omega) (fun c_22 => ?_) (fun c_22 => ?_)
          · refine x_iconst hM dX7_manyOf_29 ?_
            refine x_iadd hM dX7_manyOf_30 ?_
            refine x_istore_n hM dX7_manyOf_31 rfl rfl (Nat.le_of_ble_eq_true rfl) rfl ?_
            refine x_iinc hM dX7_manyOf_32 rfl rfl rfl ?_
            refine x_goto (tgt := 4) hM dX7_manyOf_35 (by decide) ?_
            exact ih (i + 1) _ (by omega) (by omega) (by rw [List.drop_eq_getElem_cons hlt] at hinv; rw [← hinv]; show _ = c + ((if t.L[i].1 = o then 1 else 0) + cntO (t.L.drop (i + 1)) o); split <;> omega)
          · refine x_iconst hM dX7_manyOf_25 ?_
            refine x_goto (tgt := 30) hM dX7_manyOf_26 (by decide) ?_
            refine x_iadd hM dX7_manyOf_30 ?_
            refine x_istore_n hM dX7_manyOf_31 rfl rfl (Nat.le_of_ble_eq_true rfl) rfl ?_
            refine x_iinc hM dX7_manyOf_32 rfl rfl rfl ?_
            refine x_goto (tgt := 4) hM dX7_manyOf_35 (by decide) ?_
            exact ih (i + 1) _ (by omega) (by omega) (by rw [List.drop_eq_getElem_cons hlt] at hinv; rw [← hinv]; show _ = c + ((if t.L[i].1 = o then 1 else 0) + cntO (t.L.drop (i + 1)) o); split <;> omega)
      · skip
        refine x_iload_n hM dX7_manyOf_4 rfl rfl ?_
        refine x_aload_n hM dX7_manyOf_5 rfl rfl ?_
        refine x_get hM wf_X7_7 wl_X7 (by first | assumption | exact md_o (by assumption)) rfl dX7_manyOf_6 ?_
        refine x_bipush hM dX7_manyOf_9 rfl ?_
        refine x_iald hM (by first | assumption | exact row_c (by first | assumption | exact sr1 (by assumption) | exact sr2 (by assumption) | exact sr3 (by assumption) | exact sr4 (by assumption) | exact sr5 (by assumption) | exact rg1 (by assumption) | exact rg2 (by assumption) | exact rg3 (by assumption))) (by omega) dX7_manyOf_11 ?_
        rw [np_n hp]
        refine x_icmp_ge (tgt := 38) hM dX7_manyOf_12 (by decide) (by omega) (by omega) (fun c_12 => ?_) (fun c_12 => ?_)
        · refine x_iload_n hM dX7_manyOf_38 rfl rfl ?_
          refine hR.i dX7_manyOf_39 (Nat.zero_le _) (Nat.zero_le _) ?_
          exact p_rI (by rw [List.drop_of_length_le (by omega)] at hinv; rw [← hinv]; exact (Int.add_zero c).symm)
        · exfalso; omega
  refine x_iconst hM dX7_manyOf_0 ?_
  refine x_istore_n hM dX7_manyOf_1 rfl rfl (Nat.le_of_ble_eq_true rfl) rfl ?_
  refine x_iconst hM dX7_manyOf_2 ?_
  refine x_istore_n hM dX7_manyOf_3 rfl rfl (Nat.le_of_ble_eq_true rfl) rfl ?_
  exact K _ 0 0 (Nat.lt_succ_self _) (Nat.zero_le _) (Int.zero_add _)
theorem m_X7_taxOf {l : Launch} {G : xG} {w : Wd} {z m : Nat} {f : Int → Int} {t : St} {o : Int} (h : rdA G w m f t) (ho : iR o) : xMet l G yX7_taxOf cX7_taxOf 2 (some .int) ({ frames := 4, cells := 0, slots := 0, locals := 90 } : Room) [.ref m, .int (iI o)] w z (rI (taxV t o) w z) := by
  obtain ⟨⟨un, sg, it, rw', mn, pl, wr, hh⟩, hn, hp⟩ := id h
  have hl := (np_w hp).1
  have hb := mts_gb o (np_all hp)
  refine xMet_of RX7 rfl (by decide +kernel) false (by decide +kernel) (Nat.le_of_ble_eq_true rfl) rfl ?_
  intro P hM hR
  refine x_aload_n hM dX7_taxOf_0 rfl rfl ?_
  refine x_iload_n hM dX7_taxOf_1 rfl rfl ?_
  refine x_callV hM wv_X7_153 (m_X7_manyOf (by assumption) (by omega)) ⟨Nat.le_of_ble_eq_true rfl, Nat.le_of_ble_eq_true rfl⟩ (by first | assumption | exact md_o (by assumption)) rfl rfl rfl rfl (Nat.le_of_ble_eq_true rfl) ⟨Nat.le_of_ble_eq_true rfl, Nat.le_of_ble_eq_true rfl⟩ dX7_taxOf_2 (k_rI ?_)
  refine x_aload_n hM dX7_taxOf_5 rfl rfl ?_
  refine x_get hM wf_X7_7 wl_X7 (by first | assumption | exact md_o (by assumption)) rfl dX7_taxOf_6 ?_
  refine x_iconst hM dX7_taxOf_9 ?_
  refine x_iald hM (by first | assumption | exact row_c (by first | assumption | exact sr1 (by assumption) | exact sr2 (by assumption) | exact sr3 (by assumption) | exact sr4 (by assumption) | exact sr5 (by assumption) | exact rg1 (by assumption) | exact rg2 (by assumption) | exact rg3 (by assumption))) (by omega) dX7_taxOf_10 ?_
  rw [np_set hp (by decide) (by decide)]
  refine x_imul hM dX7_taxOf_11 ?_
  refine x_aload_n hM dX7_taxOf_12 rfl rfl ?_
  refine x_aload_n hM dX7_taxOf_13 rfl rfl ?_
  refine x_iload_n hM dX7_taxOf_14 rfl rfl ?_
  refine x_callV hM wv_X7_101 (m_X7_metersOf (by assumption) (by omega)) ⟨Nat.le_of_ble_eq_true rfl, Nat.le_of_ble_eq_true rfl⟩ (by first | assumption | exact md_o (by assumption)) rfl rfl rfl rfl (Nat.le_of_ble_eq_true rfl) ⟨Nat.le_of_ble_eq_true rfl, Nat.le_of_ble_eq_true rfl⟩ dX7_taxOf_15 (k_rI ?_)
  refine x_callV hM wv_X7_156 (m_X7_lengthTax (by assumption) (by omega)) ⟨Nat.le_of_ble_eq_true rfl, Nat.le_of_ble_eq_true rfl⟩ (by first | assumption | exact md_o (by assumption)) rfl rfl rfl rfl (Nat.le_of_ble_eq_true rfl) ⟨Nat.le_of_ble_eq_true rfl, Nat.le_of_ble_eq_true rfl⟩ dX7_taxOf_18 (k_rI ?_)
  refine x_iadd hM dX7_taxOf_21 ?_
  refine hR.i dX7_taxOf_22 (Nat.zero_le _) (Nat.zero_le _) ?_
  exact p_rI rfl
theorem m_X7_shortestOf {l : Launch} {G : xG} {w : Wd} {z m : Nat} {f : Int → Int} {t : St} {o : Int} (h : rdA G w m f t) (ho : iR o) : xMet l G yX7_shortestOf cX7_shortestOf 4 (some .int) ({ frames := 3, cells := 0, slots := 0, locals := 63 } : Room) [.ref m, .int (iI o)] w z (rI (srtF t.L o) w z) := by
  obtain ⟨⟨un, sg, it, rw', mn, pl, wr, hh⟩, hn, hp⟩ := id h
  have hl := (np_w hp).1
  refine xMet_of RX7 rfl (by decide +kernel) false (by decide +kernel) (Nat.le_of_ble_eq_true rfl) rfl ?_
  intro P hM hR
  have K : ∀ (k i : Nat) (b bl : Int), t.L.length - i < k → i ≤ t.L.length → (b = -6 ∨ ∃ (n : Nat) (h : n < t.L.length), b = n ∧ t.L[n].2.2 - t.L[n].2.1 = bl) → ((t.L.drop i).foldl (srtS o) ((i : Int), b, bl)).2.1 = srtF t.L o → P 5 [some (.ref m), some (.int (iI o)), some (.int (iI b)), some (.int (iI i))] [] w (z, 0, 0) := by
    intro k
    induction k with
    | zero => intro i b bl hk; omega
    | succ k ih =>
      intro i b bl hk hi hb hinv
      by_cases hlt : i < t.L.length
      · have hg := np_at hp hlt
        have a1 : t.L.length - (i + 1) < k := by clear hb; omega
        have a2 : i + 1 ≤ t.L.length := hlt
        have yes : (t.L[i].1 = o ∧ (b = -6 ∨ t.L[i].2.2 - t.L[i].2.1 ≤ bl)) → P 5 [some (.ref m), some (.int (iI o)), some (.int (iI i)), some (.int (iI (i + 1)))] [] w (z, 0, 0) := fun q => ih (i + 1) _ (t.L[i].2.2 - t.L[i].2.1) a1 a2 (Or.inr ⟨i, hlt, rfl, rfl⟩) (by rw [drop_fold _ _ hlt] at hinv; rw [← hinv, show srtS o ((i : Int), b, bl) t.L[i] = ((i : Int) + 1, (i : Int), t.L[i].2.2 - t.L[i].2.1) from if_pos q]; rfl)
        have no : ¬ (t.L[i].1 = o ∧ (b = -6 ∨ t.L[i].2.2 - t.L[i].2.1 ≤ bl)) → P 5 [some (.ref m), some (.int (iI o)), some (.int (iI b)), some (.int (iI (i + 1)))] [] w (z, 0, 0) := fun q => ih (i + 1) _ bl a1 a2 hb (by rw [drop_fold _ _ hlt] at hinv; rw [← hinv, show srtS o ((i : Int), b, bl) t.L[i] = ((i : Int) + 1, b, bl) from if_neg q]; rfl)
        rcases hb with hb | ⟨n, hn1, hn3, hn2⟩
        · skip
          refine x_iload_n hM dX7_shortestOf_5 rfl rfl ?_
          refine x_aload_n hM dX7_shortestOf_6 rfl rfl ?_
          refine x_get hM wf_X7_7 wl_X7 (by first | assumption | exact md_o (by assumption)) rfl dX7_shortestOf_7 ?_
          refine x_bipush hM dX7_shortestOf_10 rfl ?_
          refine x_iald hM (by first | assumption | exact row_c (by first | assumption | exact sr1 (by assumption) | exact sr2 (by assumption) | exact sr3 (by assumption) | exact sr4 (by assumption) | exact sr5 (by assumption) | exact rg1 (by assumption) | exact rg2 (by assumption) | exact rg3 (by assumption))) (by omega) dX7_shortestOf_12 ?_
          rw [np_n hp]
          refine x_icmp_ge (tgt := 54) hM dX7_shortestOf_13 (by decide) (by omega) (by omega) (fun c_13 => ?_) (fun c_13 => ?_)
          · exfalso; omega
          · refine x_aload_n hM dX7_shortestOf_16 rfl rfl ?_
            refine x_iload_n hM dX7_shortestOf_17 rfl rfl ?_
            refine x_callV hM wv_X7_87 (m_X7_ownerOf (by assumption) (by omega)) ⟨Nat.le_of_ble_eq_true rfl, Nat.le_of_ble_eq_true rfl⟩ (by first | assumption | exact md_o (by assumption)) rfl rfl rfl rfl (Nat.le_of_ble_eq_true rfl) ⟨Nat.le_of_ble_eq_true rfl, Nat.le_of_ble_eq_true rfl⟩ dX7_shortestOf_18 (k_rI ?_)
            refine x_iload_n hM dX7_shortestOf_21 rfl rfl ?_
            refine x_icmp_ne (tgt := 46) hM dX7_shortestOf_22 (by decide) (by omega) (by omega) (fun c_22 => ?_) (fun c_22 => ?_)
            · refine x_iload_n hM dX7_shortestOf_46 rfl rfl ?_
              refine x_istore_n hM dX7_shortestOf_47 rfl rfl (Nat.le_of_ble_eq_true rfl) rfl ?_
              refine x_iinc hM dX7_shortestOf_48 rfl rfl rfl ?_
              refine x_goto (tgt := 5) hM dX7_shortestOf_51 (by decide) ?_
              first | exact yes (by omega) | exact no (by omega)
            · refine x_iload_n hM dX7_shortestOf_25 rfl rfl ?_
              refine x_if_lt (tgt := 42) hM dX7_shortestOf_26 (by decide) (by omega) (fun c_26 => ?_) (fun c_26 => ?_)
              · refine x_iload_n hM dX7_shortestOf_42 rfl rfl ?_
                refine x_goto (tgt := 47) hM dX7_shortestOf_43 (by decide) ?_
                refine x_istore_n hM dX7_shortestOf_47 rfl rfl (Nat.le_of_ble_eq_true rfl) rfl ?_
                refine x_iinc hM dX7_shortestOf_48 rfl rfl rfl ?_
                refine x_goto (tgt := 5) hM dX7_shortestOf_51 (by decide) ?_
                first | exact yes (by omega) | exact no (by omega)
              · exfalso; omega
        · subst hn3
          have hg2 := np_at hp hn1
          refine x_iload_n hM dX7_shortestOf_5 rfl rfl ?_
          refine x_aload_n hM dX7_shortestOf_6 rfl rfl ?_
          refine x_get hM wf_X7_7 wl_X7 (by first | assumption | exact md_o (by assumption)) rfl dX7_shortestOf_7 ?_
          refine x_bipush hM dX7_shortestOf_10 rfl ?_
          refine x_iald hM (by first | assumption | exact row_c (by first | assumption | exact sr1 (by assumption) | exact sr2 (by assumption) | exact sr3 (by assumption) | exact sr4 (by assumption) | exact sr5 (by assumption) | exact rg1 (by assumption) | exact rg2 (by assumption) | exact rg3 (by assumption))) (by omega) dX7_shortestOf_12 ?_
          rw [np_n hp]
          refine x_icmp_ge (tgt := 54) hM dX7_shortestOf_13 (by decide) (by omega) (by omega) (fun c_13 => ?_) (fun c_13 => ?_)
          · exfalso; omega
          · refine x_aload_n hM dX7_shortestOf_16 rfl rfl ?_
            refine x_iload_n hM dX7_shortestOf_17 rfl rfl ?_
            refine x_callV hM wv_X7_87 (m_X7_ownerOf (by assumption) (by omega)) ⟨Nat.le_of_ble_eq_true rfl, Nat.le_of_ble_eq_true rfl⟩ (by first | assumption | exact md_o (by assumption)) rfl rfl rfl rfl (Nat.le_of_ble_eq_true rfl) ⟨Nat.le_of_ble_eq_true rfl, Nat.le_of_ble_eq_true rfl⟩ dX7_shortestOf_18 (k_rI ?_)
            refine x_iload_n hM dX7_shortestOf_21 rfl rfl ?_
            refine x_icmp_ne (tgt := 46) hM dX7_shortestOf_22 (by decide) (by omega) (by omega) (fun c_22 => ?_) (fun c_22 => ?_)
            · refine x_iload_n hM dX7_shortestOf_46 rfl rfl ?_
              refine x_istore_n hM dX7_shortestOf_47 rfl rfl (Nat.le_of_ble_eq_true rfl) rfl ?_
              refine x_iinc hM dX7_shortestOf_48 rfl rfl rfl ?_
              refine x_goto (tgt := 5) hM dX7_shortestOf_51 (by decide) ?_
              first | exact yes (by omega) | exact no (by omega)
            · refine x_iload_n hM dX7_shortestOf_25 rfl rfl ?_
              refine x_if_lt (tgt := 42) hM dX7_shortestOf_26 (by decide) (by omega) (fun c_26 => ?_) (fun c_26 => ?_)
              · exfalso; omega
              · refine x_aload_n hM dX7_shortestOf_29 rfl rfl ?_
                refine x_iload_n hM dX7_shortestOf_30 rfl rfl ?_
                refine x_callV hM wv_X7_124 (m_X7_length (by assumption) (by omega)) ⟨Nat.le_of_ble_eq_true rfl, Nat.le_of_ble_eq_true rfl⟩ (by first | assumption | exact md_o (by assumption)) rfl rfl rfl rfl (Nat.le_of_ble_eq_true rfl) ⟨Nat.le_of_ble_eq_true rfl, Nat.le_of_ble_eq_true rfl⟩ dX7_shortestOf_31 (k_rI ?_)
                refine x_aload_n hM dX7_shortestOf_34 rfl rfl ?_
                refine x_iload_n hM dX7_shortestOf_35 rfl rfl ?_
                refine x_callV hM wv_X7_124 (m_X7_length (i := n) h hn1) ⟨Nat.le_of_ble_eq_true rfl, Nat.le_of_ble_eq_true rfl⟩ (by first | assumption | exact md_o (by assumption)) rfl rfl rfl rfl (Nat.le_of_ble_eq_true rfl) ⟨Nat.le_of_ble_eq_true rfl, Nat.le_of_ble_eq_true rfl⟩ dX7_shortestOf_36 (k_rI ?_)
                rw [hn2]
                refine x_icmp_gt (tgt := 46) hM dX7_shortestOf_39 (by decide) (by omega) (by omega) (fun c_39 => ?_) (fun c_39 => ?_)
                · refine x_iload_n hM dX7_shortestOf_46 rfl rfl ?_
                  refine x_istore_n hM dX7_shortestOf_47 rfl rfl (Nat.le_of_ble_eq_true rfl) rfl ?_
                  refine x_iinc hM dX7_shortestOf_48 rfl rfl rfl ?_
                  refine x_goto (tgt := 5) hM dX7_shortestOf_51 (by decide) ?_
                  first | exact yes (by omega) | exact no (by omega)
                · refine x_iload_n hM dX7_shortestOf_42 rfl rfl ?_
                  refine x_goto (tgt := 47) hM dX7_shortestOf_43 (by decide) ?_
                  refine x_istore_n hM dX7_shortestOf_47 rfl rfl (Nat.le_of_ble_eq_true rfl) rfl ?_
                  refine x_iinc hM dX7_shortestOf_48 rfl rfl rfl ?_
                  refine x_goto (tgt := 5) hM dX7_shortestOf_51 (by decide) ?_
                  first | exact yes (by omega) | exact no (by omega)
      · skip
        refine x_iload_n hM dX7_shortestOf_5 rfl rfl ?_
        refine x_aload_n hM dX7_shortestOf_6 rfl rfl ?_
        refine x_get hM wf_X7_7 wl_X7 (by first | assumption | exact md_o (by assumption)) rfl dX7_shortestOf_7 ?_
        refine x_bipush hM dX7_shortestOf_10 rfl ?_
        refine x_iald hM (by first | assumption | exact row_c (by first | assumption | exact sr1 (by assumption) | exact sr2 (by assumption) | exact sr3 (by assumption) | exact sr4 (by assumption) | exact sr5 (by assumption) | exact rg1 (by assumption) | exact rg2 (by assumption) | exact rg3 (by assumption))) (by omega) dX7_shortestOf_12 ?_
        rw [np_n hp]
        refine x_icmp_ge (tgt := 54) hM dX7_shortestOf_13 (by decide) (by omega) (by omega) (fun c_13 => ?_) (fun c_13 => ?_)
        · refine x_iload_n hM dX7_shortestOf_54 rfl rfl ?_
          refine hR.i dX7_shortestOf_55 (Nat.zero_le _) (Nat.zero_le _) ?_
          exact p_rI (by rw [drop_foldE _ _ (by omega)] at hinv; exact hinv)
        · exfalso; omega
  refine x_bipush hM dX7_shortestOf_0 rfl ?_
  refine x_istore_n hM dX7_shortestOf_2 rfl rfl (Nat.le_of_ble_eq_true rfl) rfl ?_
  refine x_iconst hM dX7_shortestOf_3 ?_
  refine x_istore_n hM dX7_shortestOf_4 rfl rfl (Nat.le_of_ble_eq_true rfl) rfl ?_
  exact K _ 0 (-6) 0 (Nat.lt_succ_self _) (Nat.zero_le _) (Or.inl rfl) rfl
