/-! The reference: holes, owners of some meters, the quietest piece, gaps -/
def hfS (n h : Int) (c : Int × Int × Int × Int) (s : Sg) : Int × Int × Int × Int := if (s.1 < 0 ∧ n ≤ s.2.2 - s.2.1) ∧ (c.2.1 = -6 ∨ (h = 1 ∧ s.2.2 - s.2.1 < c.2.2.1) ∨ (h = 2 ∧ c.2.2.1 < s.2.2 - s.2.1)) then (c.1 + 1, c.1, s.2.2 - s.2.1, s.2.1) else (c.1 + 1, c.2)
def hfF (L : List Sg) (n h : Int) : Int := if (L.foldl (hfS n h) (0, -6, 0, 0)).2.1 < 0 then -6 else (L.foldl (hfS n h) (0, -6, 0, 0)).2.2.2
theorem m_X7_holeFor {l : Launch} {G : xG} {w : Wd} {z m : Nat} {f : Int → Int} {t : St} {n h0 : Int} (h : rdA G w m f t) (hn0 : iR n) (hh0 : iR h0) : xMet l G yX7_holeFor cX7_holeFor 7 (some .int) ({ frames := 3, cells := 0, slots := 0, locals := 63 } : Room) [.ref m, .int (iI n), .int (iI h0)] w z (rI (hfF t.L n h0) w z) := by
  obtain ⟨⟨un, sg, it, rw', mn, pl, wr, hh⟩, hn, hp⟩ := id h
  have hl := (np_w hp).1
  refine xMet_of RX7 rfl (by decide +kernel) false (by decide +kernel) (Nat.le_of_ble_eq_true rfl) rfl ?_
  intro P hM hR
  have K : ∀ (k i : Nat) (b bl bf : Int) (x5 x6 : Option Value), t.L.length - i < k → i ≤ t.L.length → (b = -6 ∨ ∃ (j : Nat) (h : j < t.L.length), b = j ∧ t.L[j].2.2 - t.L[j].2.1 = bl ∧ t.L[j].2.1 = bf) → (t.L.drop i).foldl (hfS n h0) ((i : Int), b, bl, bf) = t.L.foldl (hfS n h0) (0, -6, 0, 0) → P 6 [some (.ref m), some (.int (iI n)), some (.int (iI h0)), some (.int (iI b)), some (.int (iI i)), x5, x6] [] w (z, 0, 0) := by
    intro k
    induction k with
    | zero => intro i b bl bf x5 x6 hk; omega
    | succ k ih =>
      intro i b bl bf x5 x6 hk hi hb hinv
      by_cases hlt : i < t.L.length
      · have hg := np_at hp hlt
        have a1 : t.L.length - (i + 1) < k := by clear hb; omega
        have a2 : i + 1 ≤ t.L.length := hlt
        have yes : ∀ x5 x6 : Option Value, ((t.L[i].1 < 0 ∧ n ≤ t.L[i].2.2 - t.L[i].2.1) ∧ (b = -6 ∨ (h0 = 1 ∧ t.L[i].2.2 - t.L[i].2.1 < bl) ∨ (h0 = 2 ∧ bl < t.L[i].2.2 - t.L[i].2.1))) → P 6 [some (.ref m), some (.int (iI n)), some (.int (iI h0)), some (.int (iI i)), some (.int (iI (i + 1))), x5, x6] [] w (z, 0, 0) := fun x5 x6 q => ih (i + 1) _ (t.L[i].2.2 - t.L[i].2.1) t.L[i].2.1 _ _ a1 a2 (Or.inr ⟨i, hlt, rfl, rfl, rfl⟩) (by rw [drop_fold _ _ hlt] at hinv; rw [← hinv, show hfS n h0 ((i : Int), b, bl, bf) t.L[i] = ((i : Int) + 1, (i : Int), t.L[i].2.2 - t.L[i].2.1, t.L[i].2.1) from if_pos q]; rfl)
        have no : ∀ x5 x6 : Option Value, ¬ ((t.L[i].1 < 0 ∧ n ≤ t.L[i].2.2 - t.L[i].2.1) ∧ (b = -6 ∨ (h0 = 1 ∧ t.L[i].2.2 - t.L[i].2.1 < bl) ∨ (h0 = 2 ∧ bl < t.L[i].2.2 - t.L[i].2.1))) → P 6 [some (.ref m), some (.int (iI n)), some (.int (iI h0)), some (.int (iI b)), some (.int (iI (i + 1))), x5, x6] [] w (z, 0, 0) := fun x5 x6 q => ih (i + 1) _ bl bf _ _ a1 a2 hb (by rw [drop_fold _ _ hlt] at hinv; rw [← hinv, show hfS n h0 ((i : Int), b, bl, bf) t.L[i] = ((i : Int) + 1, b, bl, bf) from if_neg q]; rfl)
        rcases hb with hb | ⟨j, hn1, hn3, hn2, hn4⟩
        · skip
          refine x_iload hM dX7_holeFor_6 rfl ?_
          refine x_aload_n hM dX7_holeFor_8 rfl rfl ?_
          refine x_get hM wf_X7_7 wl_X7 (by first | assumption | exact md_o (by assumption)) rfl dX7_holeFor_9 ?_
          refine x_bipush hM dX7_holeFor_12 rfl ?_
          refine x_iald hM (by first | assumption | exact row_c (by first | assumption | exact sr1 (by assumption) | exact sr2 (by assumption) | exact sr3 (by assumption) | exact sr4 (by assumption) | exact sr5 (by assumption) | exact rg1 (by assumption) | exact rg2 (by assumption) | exact rg3 (by assumption))) (by omega) dX7_holeFor_14 ?_
          rw [np_n hp]
          refine x_icmp_ge (tgt := 116) hM dX7_holeFor_15 (by decide) (by omega) (by omega) (fun c_15 => ?_) (fun c_15 => ?_)
          · exfalso; omega
          · refine x_aload_n hM dX7_holeFor_18 rfl rfl ?_
            refine x_iload hM dX7_holeFor_19 rfl ?_
            refine x_callV hM wv_X7_87 (m_X7_ownerOf (by assumption) (by omega)) ⟨Nat.le_of_ble_eq_true rfl, Nat.le_of_ble_eq_true rfl⟩ (by first | assumption | exact md_o (by assumption)) rfl rfl rfl rfl (Nat.le_of_ble_eq_true rfl) ⟨Nat.le_of_ble_eq_true rfl, Nat.le_of_ble_eq_true rfl⟩ dX7_holeFor_21 (k_rI ?_)
            refine x_if_ge (tgt := 41) hM dX7_holeFor_24 (by decide) (by omega) (fun c_24 => ?_) (fun c_24 => ?_)
            · refine x_iconst hM dX7_holeFor_41 ?_
              refine x_istore hM dX7_holeFor_42 rfl (Nat.le_of_ble_eq_true rfl) rfl ?_
              refine x_iload_n hM dX7_holeFor_44 rfl rfl ?_
              refine x_if_lt (tgt := 86) hM dX7_holeFor_45 (by decide) (by omega) (fun c_45 => ?_) (fun c_45 => ?_)
              · refine x_iconst hM dX7_holeFor_86 ?_
                refine x_goto (tgt := 91) hM dX7_holeFor_87 (by decide) ?_
                refine x_istore hM dX7_holeFor_91 rfl (Nat.le_of_ble_eq_true rfl) rfl ?_
                refine x_iload hM dX7_holeFor_93 rfl ?_
                refine x_if_eq (tgt := 108) hM dX7_holeFor_95 (by decide) (by omega) (fun c_95 => ?_) (fun c_95 => ?_)
                · refine x_iload_n hM dX7_holeFor_108 rfl rfl ?_
                  refine x_istore_n hM dX7_holeFor_109 rfl rfl (Nat.le_of_ble_eq_true rfl) rfl ?_
                  refine x_iinc hM dX7_holeFor_110 rfl rfl rfl ?_
                  refine x_goto (tgt := 6) hM dX7_holeFor_113 (by decide) ?_
                  first | exact yes _ _ (by omega) | exact no _ _ (by omega)
                · refine x_iload hM dX7_holeFor_98 rfl ?_
                  refine x_if_eq (tgt := 108) hM dX7_holeFor_100 (by decide) (by omega) (fun c_100 => ?_) (fun c_100 => ?_)
                  · refine x_iload_n hM dX7_holeFor_108 rfl rfl ?_
                    refine x_istore_n hM dX7_holeFor_109 rfl rfl (Nat.le_of_ble_eq_true rfl) rfl ?_
                    refine x_iinc hM dX7_holeFor_110 rfl rfl rfl ?_
                    refine x_goto (tgt := 6) hM dX7_holeFor_113 (by decide) ?_
                    first | exact yes _ _ (by omega) | exact no _ _ (by omega)
                  · refine x_iload hM dX7_holeFor_103 rfl ?_
                    refine x_goto (tgt := 109) hM dX7_holeFor_105 (by decide) ?_
                    refine x_istore_n hM dX7_holeFor_109 rfl rfl (Nat.le_of_ble_eq_true rfl) rfl ?_
                    refine x_iinc hM dX7_holeFor_110 rfl rfl rfl ?_
                    refine x_goto (tgt := 6) hM dX7_holeFor_113 (by decide) ?_
                    first | exact yes _ _ (by omega) | exact no _ _ (by omega)
              · exfalso; omega
            · refine x_aload_n hM dX7_holeFor_27 rfl rfl ?_
              refine x_iload hM dX7_holeFor_28 rfl ?_
              refine x_callV hM wv_X7_124 (m_X7_length (by assumption) (by omega)) ⟨Nat.le_of_ble_eq_true rfl, Nat.le_of_ble_eq_true rfl⟩ (by first | assumption | exact md_o (by assumption)) rfl rfl rfl rfl (Nat.le_of_ble_eq_true rfl) ⟨Nat.le_of_ble_eq_true rfl, Nat.le_of_ble_eq_true rfl⟩ dX7_holeFor_30 (k_rI ?_)
              refine x_iload_n hM dX7_holeFor_33 rfl rfl ?_
              refine x_icmp_lt (tgt := 41) hM dX7_holeFor_34 (by decide) (by omega) (by omega) (fun c_34 => ?_) (fun c_34 => ?_)
              · refine x_iconst hM dX7_holeFor_41 ?_
                refine x_istore hM dX7_holeFor_42 rfl (Nat.le_of_ble_eq_true rfl) rfl ?_
                refine x_iload_n hM dX7_holeFor_44 rfl rfl ?_
                refine x_if_lt (tgt := 86) hM dX7_holeFor_45 (by decide) (by omega) (fun c_45 => ?_) (fun c_45 => ?_)
                · refine x_iconst hM dX7_holeFor_86 ?_
                  refine x_goto (tgt := 91) hM dX7_holeFor_87 (by decide) ?_
                  refine x_istore hM dX7_holeFor_91 rfl (Nat.le_of_ble_eq_true rfl) rfl ?_
                  refine x_iload hM dX7_holeFor_93 rfl ?_
                  refine x_if_eq (tgt := 108) hM dX7_holeFor_95 (by decide) (by omega) (fun c_95 => ?_) (fun c_95 => ?_)
                  · refine x_iload_n hM dX7_holeFor_108 rfl rfl ?_
                    refine x_istore_n hM dX7_holeFor_109 rfl rfl (Nat.le_of_ble_eq_true rfl) rfl ?_
                    refine x_iinc hM dX7_holeFor_110 rfl rfl rfl ?_
                    refine x_goto (tgt := 6) hM dX7_holeFor_113 (by decide) ?_
                    first | exact yes _ _ (by omega) | exact no _ _ (by omega)
                  · refine x_iload hM dX7_holeFor_98 rfl ?_
                    refine x_if_eq (tgt := 108) hM dX7_holeFor_100 (by decide) (by omega) (fun c_100 => ?_) (fun c_100 => ?_)
                    · refine x_iload_n hM dX7_holeFor_108 rfl rfl ?_
                      refine x_istore_n hM dX7_holeFor_109 rfl rfl (Nat.le_of_ble_eq_true rfl) rfl ?_
                      refine x_iinc hM dX7_holeFor_110 rfl rfl rfl ?_
                      refine x_goto (tgt := 6) hM dX7_holeFor_113 (by decide) ?_
                      first | exact yes _ _ (by omega) | exact no _ _ (by omega)
                    · refine x_iload hM dX7_holeFor_103 rfl ?_
                      refine x_goto (tgt := 109) hM dX7_holeFor_105 (by decide) ?_
                      refine x_istore_n hM dX7_holeFor_109 rfl rfl (Nat.le_of_ble_eq_true rfl) rfl ?_
                      refine x_iinc hM dX7_holeFor_110 rfl rfl rfl ?_
                      refine x_goto (tgt := 6) hM dX7_holeFor_113 (by decide) ?_
                      first | exact yes _ _ (by omega) | exact no _ _ (by omega)
                · exfalso; omega
              · refine x_iconst hM dX7_holeFor_37 ?_
                refine x_goto (tgt := 42) hM dX7_holeFor_38 (by decide) ?_
                refine x_istore hM dX7_holeFor_42 rfl (Nat.le_of_ble_eq_true rfl) rfl ?_
                refine x_iload_n hM dX7_holeFor_44 rfl rfl ?_
                refine x_if_lt (tgt := 86) hM dX7_holeFor_45 (by decide) (by omega) (fun c_45 => ?_) (fun c_45 => ?_)
                · refine x_iconst hM dX7_holeFor_86 ?_
                  refine x_goto (tgt := 91) hM dX7_holeFor_87 (by decide) ?_
                  refine x_istore hM dX7_holeFor_91 rfl (Nat.le_of_ble_eq_true rfl) rfl ?_
                  refine x_iload hM dX7_holeFor_93 rfl ?_
                  refine x_if_eq (tgt := 108) hM dX7_holeFor_95 (by decide) (by omega) (fun c_95 => ?_) (fun c_95 => ?_)
                  · refine x_iload_n hM dX7_holeFor_108 rfl rfl ?_
                    refine x_istore_n hM dX7_holeFor_109 rfl rfl (Nat.le_of_ble_eq_true rfl) rfl ?_
                    refine x_iinc hM dX7_holeFor_110 rfl rfl rfl ?_
                    refine x_goto (tgt := 6) hM dX7_holeFor_113 (by decide) ?_
                    first | exact yes _ _ (by omega) | exact no _ _ (by omega)
                  · refine x_iload hM dX7_holeFor_98 rfl ?_
                    refine x_if_eq (tgt := 108) hM dX7_holeFor_100 (by decide) (by omega) (fun c_100 => ?_) (fun c_100 => ?_)
                    · refine x_iload_n hM dX7_holeFor_108 rfl rfl ?_
                      refine x_istore_n hM dX7_holeFor_109 rfl rfl (Nat.le_of_ble_eq_true rfl) rfl ?_
                      refine x_iinc hM dX7_holeFor_110 rfl rfl rfl ?_
                      refine x_goto (tgt := 6) hM dX7_holeFor_113 (by decide) ?_
                      first | exact yes _ _ (by omega) | exact no _ _ (by omega)
                    · refine x_iload hM dX7_holeFor_103 rfl ?_
                      refine x_goto (tgt := 109) hM dX7_holeFor_105 (by decide) ?_
                      refine x_istore_n hM dX7_holeFor_109 rfl rfl (Nat.le_of_ble_eq_true rfl) rfl ?_
                      refine x_iinc hM dX7_holeFor_110 rfl rfl rfl ?_
                      refine x_goto (tgt := 6) hM dX7_holeFor_113 (by decide) ?_
                      first | exact yes _ _ (by omega) | exact no _ _ (by omega)
                · exfalso; omega
        · subst hn3
          have hg2 := np_at hp hn1
          refine x_iload hM dX7_holeFor_6 rfl ?_
          refine x_aload_n hM dX7_holeFor_8 rfl rfl ?_
          refine x_get hM wf_X7_7 wl_X7 (by first | assumption | exact md_o (by assumption)) rfl dX7_holeFor_9 ?_
          refine x_bipush hM dX7_holeFor_12 rfl ?_
          refine x_iald hM (by first | assumption | exact row_c (by first | assumption | exact sr1 (by assumption) | exact sr2 (by assumption) | exact sr3 (by assumption) | exact sr4 (by assumption) | exact sr5 (by assumption) | exact rg1 (by assumption) | exact rg2 (by assumption) | exact rg3 (by assumption))) (by omega) dX7_holeFor_14 ?_
          rw [np_n hp]
          refine x_icmp_ge (tgt := 116) hM dX7_holeFor_15 (by decide) (by omega) (by omega) (fun c_15 => ?_) (fun c_15 => ?_)
          · exfalso; omega
          · refine x_aload_n hM dX7_holeFor_18 rfl rfl ?_
            refine x_iload hM dX7_holeFor_19 rfl ?_
            refine x_callV hM wv_X7_87 (m_X7_ownerOf (by assumption) (by omega)) ⟨Nat.le_of_ble_eq_true rfl, Nat.le_of_ble_eq_true rfl⟩ (by first | assumption | exact md_o (by assumption)) rfl rfl rfl rfl (Nat.le_of_ble_eq_true rfl) ⟨Nat.le_of_ble_eq_true rfl, Nat.le_of_ble_eq_true rfl⟩ dX7_holeFor_21 (k_rI ?_)
            refine x_if_ge (tgt := 41) hM dX7_holeFor_24 (by decide) (by omega) (fun c_24 => ?_) (fun c_24 => ?_)
            · refine x_iconst hM dX7_holeFor_41 ?_
              refine x_istore hM dX7_holeFor_42 rfl (Nat.le_of_ble_eq_true rfl) rfl ?_
              refine x_iload_n hM dX7_holeFor_44 rfl rfl ?_
              refine x_if_lt (tgt := 86) hM dX7_holeFor_45 (by decide) (by omega) (fun c_45 => ?_) (fun c_45 => ?_)
              · exfalso; omega
              · refine x_iload_n hM dX7_holeFor_48 rfl rfl ?_
                refine x_iconst hM dX7_holeFor_49 ?_
                refine x_icmp_ne (tgt := 67) hM dX7_holeFor_50 (by decide) (by omega) (by omega) (fun c_50 => ?_) (fun c_50 => ?_)
                · refine x_iload_n hM dX7_holeFor_67 rfl rfl ?_
                  refine x_iconst hM dX7_holeFor_68 ?_
                  refine x_icmp_ne (tgt := 90) hM dX7_holeFor_69 (by decide) (by omega) (by omega) (fun c_69 => ?_) (fun c_69 => ?_)
                  · refine x_iconst hM dX7_holeFor_90 ?_
                    refine x_istore hM dX7_holeFor_91 rfl (Nat.le_of_ble_eq_true rfl) rfl ?_
                    refine x_iload hM dX7_holeFor_93 rfl ?_
                    refine x_if_eq (tgt := 108) hM dX7_holeFor_95 (by decide) (by omega) (fun c_95 => ?_) (fun c_95 => ?_)
                    · refine x_iload_n hM dX7_holeFor_108 rfl rfl ?_
                      refine x_istore_n hM dX7_holeFor_109 rfl rfl (Nat.le_of_ble_eq_true rfl) rfl ?_
                      refine x_iinc hM dX7_holeFor_110 rfl rfl rfl ?_
                      refine x_goto (tgt := 6) hM dX7_holeFor_113 (by decide) ?_
                      first | exact yes _ _ (by omega) | exact no _ _ (by omega)
                    · refine x_iload hM dX7_holeFor_98 rfl ?_
                      refine x_if_eq (tgt := 108) hM dX7_holeFor_100 (by decide) (by omega) (fun c_100 => ?_) (fun c_100 => ?_)
                      · refine x_iload_n hM dX7_holeFor_108 rfl rfl ?_
                        refine x_istore_n hM dX7_holeFor_109 rfl rfl (Nat.le_of_ble_eq_true rfl) rfl ?_
                        refine x_iinc hM dX7_holeFor_110 rfl rfl rfl ?_
                        refine x_goto (tgt := 6) hM dX7_holeFor_113 (by decide) ?_
                        first | exact yes _ _ (by omega) | exact no _ _ (by omega)
                      · refine x_iload hM dX7_holeFor_103 rfl ?_
                        refine x_goto (tgt := 109) hM dX7_holeFor_105 (by decide) ?_
                        refine x_istore_n hM dX7_holeFor_109 rfl rfl (Nat.le_of_ble_eq_true rfl) rfl ?_
                        refine x_iinc hM dX7_holeFor_110 rfl rfl rfl ?_
                        refine x_goto (tgt := 6) hM dX7_holeFor_113 (by decide) ?_
                        first | exact yes _ _ (by omega) | exact no _ _ (by omega)
                  · refine x_aload_n hM dX7_holeFor_72 rfl rfl ?_
                    refine x_iload hM dX7_holeFor_73 rfl ?_
                    refine x_callV hM wv_X7_124 (m_X7_length (by assumption) (by omega)) ⟨Nat.le_of_ble_eq_true rfl, Nat.le_of_ble_eq_true rfl⟩ (by first | assumption | exact md_o (by assumption)) rfl rfl rfl rfl (Nat.le_of_ble_eq_true rfl) ⟨Nat.le_of_ble_eq_true rfl, Nat.le_of_ble_eq_true rfl⟩ dX7_holeFor_75 (k_rI ?_)
                    refine x_aload_n hM dX7_holeFor_78 rfl rfl ?_
                    refine x_iload_n hM dX7_holeFor_79 rfl rfl ?_
                    refine x_callV hM wv_X7_124 (m_X7_length (i := j) h hn1) ⟨Nat.le_of_ble_eq_true rfl, Nat.le_of_ble_eq_true rfl⟩ (by first | assumption | exact md_o (by assumption)) rfl rfl rfl rfl (Nat.le_of_ble_eq_true rfl) ⟨Nat.le_of_ble_eq_true rfl, Nat.le_of_ble_eq_true rfl⟩ dX7_holeFor_80 (k_rI ?_)
                    rw [hn2]
                    refine x_icmp_le (tgt := 90) hM dX7_holeFor_83 (by decide) (by omega) (by omega) (fun c_83 => ?_) (fun c_83 => ?_)
                    · refine x_iconst hM dX7_holeFor_90 ?_
                      refine x_istore hM dX7_holeFor_91 rfl (Nat.le_of_ble_eq_true rfl) rfl ?_
                      refine x_iload hM dX7_holeFor_93 rfl ?_
                      refine x_if_eq (tgt := 108) hM dX7_holeFor_95 (by decide) (by omega) (fun c_95 => ?_) (fun c_95 => ?_)
                      · refine x_iload_n hM dX7_holeFor_108 rfl rfl ?_
                        refine x_istore_n hM dX7_holeFor_109 rfl rfl (Nat.le_of_ble_eq_true rfl) rfl ?_
                        refine x_iinc hM dX7_holeFor_110 rfl rfl rfl ?_
                        refine x_goto (tgt := 6) hM dX7_holeFor_113 (by decide) ?_
                        first | exact yes _ _ (by omega) | exact no _ _ (by omega)
                      · refine x_iload hM dX7_holeFor_98 rfl ?_
                        refine x_if_eq (tgt := 108) hM dX7_holeFor_100 (by decide) (by omega) (fun c_100 => ?_) (fun c_100 => ?_)
                        · refine x_iload_n hM dX7_holeFor_108 rfl rfl ?_
                          refine x_istore_n hM dX7_holeFor_109 rfl rfl (Nat.le_of_ble_eq_true rfl) rfl ?_
                          refine x_iinc hM dX7_holeFor_110 rfl rfl rfl ?_
                          refine x_goto (tgt := 6) hM dX7_holeFor_113 (by decide) ?_
                          first | exact yes _ _ (by omega) | exact no _ _ (by omega)
                        · refine x_iload hM dX7_holeFor_103 rfl ?_
                          refine x_goto (tgt := 109) hM dX7_holeFor_105 (by decide) ?_
                          refine x_istore_n hM dX7_holeFor_109 rfl rfl (Nat.le_of_ble_eq_true rfl) rfl ?_
                          refine x_iinc hM dX7_holeFor_110 rfl rfl rfl ?_
                          refine x_goto (tgt := 6) hM dX7_holeFor_113 (by decide) ?_
                          first | exact yes _ _ (by omega) | exact no _ _ (by omega)
                    · refine x_iconst hM dX7_holeFor_86 ?_
                      refine x_goto (tgt := 91) hM dX7_holeFor_87 (by decide) ?_
                      refine x_istore hM dX7_holeFor_91 rfl (Nat.le_of_ble_eq_true rfl) rfl ?_
                      refine x_iload hM dX7_holeFor_93 rfl ?_
                      refine x_if_eq (tgt := 108) hM dX7_holeFor_95 (by decide) (by omega) (fun c_95 => ?_) (fun c_95 => ?_)
                      · refine x_iload_n hM dX7_holeFor_108 rfl rfl ?_
                        refine x_istore_n hM dX7_holeFor_109 rfl rfl (Nat.le_of_ble_eq_true rfl) rfl ?_
                        refine x_iinc hM dX7_holeFor_110 rfl rfl rfl ?_
                        refine x_goto (tgt := 6) hM dX7_holeFor_113 (by decide) ?_
                        first | exact yes _ _ (by omega) | exact no _ _ (by omega)
                      · refine x_iload hM dX7_holeFor_98 rfl ?_
                        refine x_if_eq (tgt := 108) hM dX7_holeFor_100 (by decide) (by omega) (fun c_100 => ?_) (fun c_100 => ?_)
                        · refine x_iload_n hM dX7_holeFor_108 rfl rfl ?_
                          refine x_istore_n hM dX7_holeFor_109 rfl rfl (Nat.le_of_ble_eq_true rfl) rfl ?_
                          refine x_iinc hM dX7_holeFor_110 rfl rfl rfl ?_
                          refine x_goto (tgt := 6) hM dX7_holeFor_113 (by decide) ?_
                          first | exact yes _ _ (by omega) | exact no _ _ (by omega)
                        · refine x_iload hM dX7_holeFor_103 rfl ?_
                          refine x_goto (tgt := 109) hM dX7_holeFor_105 (by decide) ?_
                          refine x_istore_n hM dX7_holeFor_109 rfl rfl (Nat.le_of_ble_eq_true rfl) rfl ?_
                          refine x_iinc hM dX7_holeFor_110 rfl rfl rfl ?_
                          refine x_goto (tgt := 6) hM dX7_holeFor_113 (by decide) ?_
                          first | exact yes _ _ (by omega) | exact no _ _ (by omega)
                · refine x_aload_n hM dX7_holeFor_53 rfl rfl ?_
                  refine x_iload hM dX7_holeFor_54 rfl ?_
                  refine x_callV hM wv_X7_124 (m_X7_length (by assumption) (by omega)) ⟨Nat.le_of_ble_eq_true rfl, Nat.le_of_ble_eq_true rfl⟩ (by first | assumption | exact md_o (by assumption)) rfl rfl rfl rfl (Nat.le_of_ble_eq_true rfl) ⟨Nat.le_of_ble_eq_true rfl, Nat.le_of_ble_eq_true rfl⟩ dX7_holeFor_56 (k_rI ?_)
                  refine x_aload_n hM dX7_holeFor_59 rfl rfl ?_
                  refine x_iload_n hM dX7_holeFor_60 rfl rfl ?_
                  refine x_callV hM wv_X7_124 (m_X7_length (i := j) h hn1) ⟨Nat.le_of_ble_eq_true rfl, Nat.le_of_ble_eq_true rfl⟩ (by first | assumption | exact md_o (by assumption)) rfl rfl rfl rfl (Nat.le_of_ble_eq_true rfl) ⟨Nat.le_of_ble_eq_true rfl, Nat.le_of_ble_eq_true rfl⟩ dX7_holeFor_61 (k_rI ?_)
                  rw [hn2]
                  refine x_icmp_lt (tgt := 86) hM dX7_holeFor_64 (by decide) (by omega) (by omega) (fun c_64 => ?_) (fun c_64 => ?_)
                  · refine x_iconst hM dX7_holeFor_86 ?_
                    refine x_goto (tgt := 91) hM dX7_holeFor_87 (by decide) ?_
                    refine x_istore hM dX7_holeFor_91 rfl (Nat.le_of_ble_eq_true rfl) rfl ?_
                    refine x_iload hM dX7_holeFor_93 rfl ?_
                    refine x_if_eq (tgt := 108) hM dX7_holeFor_95 (by decide) (by omega) (fun c_95 => ?_) (fun c_95 => ?_)
                    · refine x_iload_n hM dX7_holeFor_108 rfl rfl ?_
                      refine x_istore_n hM dX7_holeFor_109 rfl rfl (Nat.le_of_ble_eq_true rfl) rfl ?_
                      refine x_iinc hM dX7_holeFor_110 rfl rfl rfl ?_
                      refine x_goto (tgt := 6) hM dX7_holeFor_113 (by decide) ?_
                      first | exact yes _ _ (by omega) | exact no _ _ (by omega)
                    · refine x_iload hM dX7_holeFor_98 rfl ?_
                      refine x_if_eq (tgt := 108) hM dX7_holeFor_100 (by decide) (by omega) (fun c_100 => ?_) (fun c_100 => ?_)
                      · refine x_iload_n hM dX7_holeFor_108 rfl rfl ?_
                        refine x_istore_n hM dX7_holeFor_109 rfl rfl (Nat.le_of_ble_eq_true rfl) rfl ?_
                        refine x_iinc hM dX7_holeFor_110 rfl rfl rfl ?_
                        refine x_goto (tgt := 6) hM dX7_holeFor_113 (by decide) ?_
                        first | exact yes _ _ (by omega) | exact no _ _ (by omega)
                      · refine x_iload hM dX7_holeFor_103 rfl ?_
                        refine x_goto (tgt := 109) hM dX7_holeFor_105 (by decide) ?_
                        refine x_istore_n hM dX7_holeFor_109 rfl rfl (Nat.le_of_ble_eq_true rfl) rfl ?_
                        refine x_iinc hM dX7_holeFor_110 rfl rfl rfl ?_
                        refine x_goto (tgt := 6) hM dX7_holeFor_113 (by decide) ?_
                        first | exact yes _ _ (by omega) | exact no _ _ (by omega)
                  · refine x_iload_n hM dX7_holeFor_67 rfl rfl ?_
                    refine x_iconst hM dX7_holeFor_68 ?_
                    refine x_icmp_ne (tgt := 90) hM dX7_holeFor_69 (by decide) (by omega) (by omega) (fun c_69 => ?_) (fun c_69 => ?_)
                    · refine x_iconst hM dX7_holeFor_90 ?_
                      refine x_istore hM dX7_holeFor_91 rfl (Nat.le_of_ble_eq_true rfl) rfl ?_
                      refine x_iload hM dX7_holeFor_93 rfl ?_
                      refine x_if_eq (tgt := 108) hM dX7_holeFor_95 (by decide) (by omega) (fun c_95 => ?_) (fun c_95 => ?_)
                      · refine x_iload_n hM dX7_holeFor_108 rfl rfl ?_
                        refine x_istore_n hM dX7_holeFor_109 rfl rfl (Nat.le_of_ble_eq_true rfl) rfl ?_
                        refine x_iinc hM dX7_holeFor_110 rfl rfl rfl ?_
                        refine x_goto (tgt := 6) hM dX7_holeFor_113 (by decide) ?_
                        first | exact yes _ _ (by omega) | exact no _ _ (by omega)
                      · refine x_iload hM dX7_holeFor_98 rfl ?_
                        refine x_if_eq (tgt := 108) hM dX7_holeFor_100 (by decide) (by omega) (fun c_100 => ?_) (fun c_100 => ?_)
                        · refine x_iload_n hM dX7_holeFor_108 rfl rfl ?_
                          refine x_istore_n hM dX7_holeFor_109 rfl rfl (Nat.le_of_ble_eq_true rfl) rfl ?_
                          refine x_iinc hM dX7_holeFor_110 rfl rfl rfl ?_
                          refine x_goto (tgt := 6) hM dX7_holeFor_113 (by decide) ?_
                          first | exact yes _ _ (by omega) | exact no _ _ (by omega)
                        · refine x_iload hM dX7_holeFor_103 rfl ?_
                          refine x_goto (tgt := 109) hM dX7_holeFor_105 (by decide) ?_
                          refine x_istore_n hM dX7_holeFor_109 rfl rfl (Nat.le_of_ble_eq_true rfl) rfl ?_
                          refine x_iinc hM dX7_holeFor_110 rfl rfl rfl ?_
                          refine x_goto (tgt := 6) hM dX7_holeFor_113 (by decide) ?_
                          first | exact yes _ _ (by omega) | exact no _ _ (by omega)
                    · refine x_aload_n hM dX7_holeFor_72 rfl rfl ?_
                      refine x_iload hM dX7_holeFor_73 rfl ?_
                      refine x_callV hM wv_X7_124 (m_X7_length (by assumption) (by omega)) ⟨Nat.le_of_ble_eq_true rfl, Nat.le_of_ble_eq_true rfl⟩ (by first | assumption | exact md_o (by assumption)) rfl rfl rfl rfl (Nat.le_of_ble_eq_true rfl) ⟨Nat.le_of_ble_eq_true rfl, Nat.le_of_ble_eq_true rfl⟩ dX7_holeFor_75 (k_rI ?_)
                      refine x_aload_n hM dX7_holeFor_78 rfl rfl ?_
                      refine x_iload_n hM dX7_holeFor_79 rfl rfl ?_
                      refine x_callV hM wv_X7_124 (m_X7_length (i := j) h hn1) ⟨Nat.le_of_ble_eq_true rfl, Nat.le_of_ble_eq_true rfl⟩ (by first | assumption | exact md_o (by assumption)) rfl rfl rfl rfl (Nat.le_of_ble_eq_true rfl) ⟨Nat.le_of_ble_eq_true rfl, Nat.le_of_ble_eq_true rfl⟩ dX7_holeFor_80 (k_rI ?_)
                      rw [hn2]
                      refine x_icmp_le (tgt := 90) hM dX7_holeFor_83 (by decide) (by omega) (by omega) (fun c_83 => ?_) (fun c_83 => ?_)
                      · refine x_iconst hM dX7_holeFor_90 ?_
                        refine x_istore hM dX7_holeFor_91 rfl (Nat.le_of_ble_eq_true rfl) rfl ?_
                        refine x_iload hM dX7_holeFor_93 rfl ?_
                        refine x_if_eq (tgt := 108) hM dX7_holeFor_95 (by decide) (by omega) (fun c_95 => ?_) (fun c_95 => ?_)
                        · refine x_iload_n hM dX7_holeFor_108 rfl rfl ?_
                          refine x_istore_n hM dX7_holeFor_109 rfl rfl (Nat.le_of_ble_eq_true rfl) rfl ?_
                          refine x_iinc hM dX7_holeFor_110 rfl rfl rfl ?_
                          refine x_goto (tgt := 6) hM dX7_holeFor_113 (by decide) ?_
                          first | exact yes _ _ (by omega) | exact no _ _ (by omega)
                        · refine x_iload hM dX7_holeFor_98 rfl ?_
                          refine x_if_eq (tgt := 108) hM dX7_holeFor_100 (by decide) (by omega) (fun c_100 => ?_) (fun c_100 => ?_)
                          · refine x_iload_n hM dX7_holeFor_108 rfl rfl ?_
                            refine x_istore_n hM dX7_holeFor_109 rfl rfl (Nat.le_of_ble_eq_true rfl) rfl ?_
                            refine x_iinc hM dX7_holeFor_110 rfl rfl rfl ?_
                            refine x_goto (tgt := 6) hM dX7_holeFor_113 (by decide) ?_
                            first | exact yes _ _ (by omega) | exact no _ _ (by omega)
                          · refine x_iload hM dX7_holeFor_103 rfl ?_
                            refine x_goto (tgt := 109) hM dX7_holeFor_105 (by decide) ?_
                            refine x_istore_n hM dX7_holeFor_109 rfl rfl (Nat.le_of_ble_eq_true rfl) rfl ?_
                            refine x_iinc hM dX7_holeFor_110 rfl rfl rfl ?_
                            refine x_goto (tgt := 6) hM dX7_holeFor_113 (by decide) ?_
                            first | exact yes _ _ (by omega) | exact no _ _ (by omega)
                      · refine x_iconst hM dX7_holeFor_86 ?_
                        refine x_goto (tgt := 91) hM dX7_holeFor_87 (by decide) ?_
                        refine x_istore hM dX7_holeFor_91 rfl (Nat.le_of_ble_eq_true rfl) rfl ?_
                        refine x_iload hM dX7_holeFor_93 rfl ?_
                        refine x_if_eq (tgt := 108) hM dX7_holeFor_95 (by decide) (by omega) (fun c_95 => ?_) (fun c_95 => ?_)
                        · refine x_iload_n hM dX7_holeFor_108 rfl rfl ?_
                          refine x_istore_n hM dX7_holeFor_109 rfl rfl (Nat.le_of_ble_eq_true rfl) rfl ?_
                          refine x_iinc hM dX7_holeFor_110 rfl rfl rfl ?_
                          refine x_goto (tgt := 6) hM dX7_holeFor_113 (by decide) ?_
                          first | exact yes _ _ (by omega) | exact no _ _ (by omega)
                        · refine x_iload hM dX7_holeFor_98 rfl ?_
                          refine x_if_eq (tgt := 108) hM dX7_holeFor_100 (by decide) (by omega) (fun c_100 => ?_) (fun c_100 => ?_)
                          · refine x_iload_n hM dX7_holeFor_108 rfl rfl ?_
                            refine x_istore_n hM dX7_holeFor_109 rfl rfl (Nat.le_of_ble_eq_true rfl) rfl ?_
                            refine x_iinc hM dX7_holeFor_110 rfl rfl rfl ?_
                            refine x_goto (tgt := 6) hM dX7_holeFor_113 (by decide) ?_
                            first | exact yes _ _ (by omega) | exact no _ _ (by omega)
                          · refine x_iload hM dX7_holeFor_103 rfl ?_
                            refine x_goto (tgt := 109) hM dX7_holeFor_105 (by decide) ?_
                            refine x_istore_n hM dX7_holeFor_109 rfl rfl (Nat.le_of_ble_eq_true rfl) rfl ?_
                            refine x_iinc hM dX7_holeFor_110 rfl rfl rfl ?_
                            refine x_goto (tgt := 6) hM dX7_holeFor_113 (by decide) ?_
                            first | exact yes _ _ (by omega) | exact no _ _ (by omega)
            · refine x_aload_n hM dX7_holeFor_27 rfl rfl ?_
              refine x_iload hM dX7_holeFor_28 rfl ?_
              refine x_callV hM wv_X7_124 (m_X7_length (by assumption) (by omega)) ⟨Nat.le_of_ble_eq_true rfl, Nat.le_of_ble_eq_true rfl⟩ (by first | assumption | exact md_o (by assumption)) rfl rfl rfl rfl (Nat.le_of_ble_eq_true rfl) ⟨Nat.le_of_ble_eq_true rfl, Nat.le_of_ble_eq_true rfl⟩ dX7_holeFor_30 (k_rI ?_)
              refine x_iload_n hM dX7_holeFor_33 rfl rfl ?_
              refine x_icmp_lt (tgt := 41) hM dX7_holeFor_34 (by decide) (by omega) (by omega) (fun c_34 => ?_) (fun c_34 => ?_)
              · refine x_iconst hM dX7_holeFor_41 ?_
                refine x_istore hM dX7_holeFor_42 rfl (Nat.le_of_ble_eq_true rfl) rfl ?_
                refine x_iload_n hM dX7_holeFor_44 rfl rfl ?_
                refine x_if_lt (tgt := 86) hM dX7_holeFor_45 (by decide) (by omega) (fun c_45 => ?_) (fun c_45 => ?_)
                · exfalso; omega
                · refine x_iload_n hM dX7_holeFor_48 rfl rfl ?_
                  refine x_iconst hM dX7_holeFor_49 ?_
                  refine x_icmp_ne (tgt := 67) hM dX7_holeFor_50 (by decide) (by omega) (by omega) (fun c_50 => ?_) (fun c_50 => ?_)
                  · refine x_iload_n hM dX7_holeFor_67 rfl rfl ?_
                    refine x_iconst hM dX7_holeFor_68 ?_
                    refine x_icmp_ne (tgt := 90) hM dX7_holeFor_69 (by decide) (by omega) (by omega) (fun c_69 => ?_) (fun c_69 => ?_)
                    · refine x_iconst hM dX7_holeFor_90 ?_
                      refine x_istore hM dX7_holeFor_91 rfl (Nat.le_of_ble_eq_true rfl) rfl ?_
                      refine x_iload hM dX7_holeFor_93 rfl ?_
                      refine x_if_eq (tgt := 108) hM dX7_holeFor_95 (by decide) (by omega) (fun c_95 => ?_) (fun c_95 => ?_)
                      · refine x_iload_n hM dX7_holeFor_108 rfl rfl ?_
                        refine x_istore_n hM dX7_holeFor_109 rfl rfl (Nat.le_of_ble_eq_true rfl) rfl ?_
                        refine x_iinc hM dX7_holeFor_110 rfl rfl rfl ?_
                        refine x_goto (tgt := 6) hM dX7_holeFor_113 (by decide) ?_
                        first | exact yes _ _ (by omega) | exact no _ _ (by omega)
                      · refine x_iload hM dX7_holeFor_98 rfl ?_
                        refine x_if_eq (tgt := 108) hM dX7_holeFor_100 (by decide) (by omega) (fun c_100 => ?_) (fun c_100 => ?_)
                        · refine x_iload_n hM dX7_holeFor_108 rfl rfl ?_
                          refine x_istore_n hM dX7_holeFor_109 rfl rfl (Nat.le_of_ble_eq_true rfl) rfl ?_
                          refine x_iinc hM dX7_holeFor_110 rfl rfl rfl ?_
                          refine x_goto (tgt := 6) hM dX7_holeFor_113 (by decide) ?_
                          first | exact yes _ _ (by omega) | exact no _ _ (by omega)
                        · refine x_iload hM dX7_holeFor_103 rfl ?_
                          refine x_goto (tgt := 109) hM dX7_holeFor_105 (by decide) ?_
                          refine x_istore_n hM dX7_holeFor_109 rfl rfl (Nat.le_of_ble_eq_true rfl) rfl ?_
                          refine x_iinc hM dX7_holeFor_110 rfl rfl rfl ?_
                          refine x_goto (tgt := 6) hM dX7_holeFor_113 (by decide) ?_
                          first | exact yes _ _ (by omega) | exact no _ _ (by omega)
                    · refine x_aload_n hM dX7_holeFor_72 rfl rfl ?_
                      refine x_iload hM dX7_holeFor_73 rfl ?_
                      refine x_callV hM wv_X7_124 (m_X7_length (by assumption) (by omega)) ⟨Nat.le_of_ble_eq_true rfl, Nat.le_of_ble_eq_true rfl⟩ (by first | assumption | exact md_o (by assumption)) rfl rfl rfl rfl (Nat.le_of_ble_eq_true rfl) ⟨Nat.le_of_ble_eq_true rfl, Nat.le_of_ble_eq_true rfl⟩ dX7_holeFor_75 (k_rI ?_)
                      refine x_aload_n hM dX7_holeFor_78 rfl rfl ?_
                      refine x_iload_n hM dX7_holeFor_79 rfl rfl ?_
                      refine x_callV hM wv_X7_124 (m_X7_length (i := j) h hn1) ⟨Nat.le_of_ble_eq_true rfl, Nat.le_of_ble_eq_true rfl⟩ (by first | assumption | exact md_o (by assumption)) rfl rfl rfl rfl (Nat.le_of_ble_eq_true rfl) ⟨Nat.le_of_ble_eq_true rfl, Nat.le_of_ble_eq_true rfl⟩ dX7_holeFor_80 (k_rI ?_)
                      rw [hn2]
                      refine x_icmp_le (tgt := 90) hM dX7_holeFor_83 (by decide) (by omega) (by omega) (fun c_83 => ?_) (fun c_83 => ?_)
                      · refine x_iconst hM dX7_holeFor_90 ?_
                        refine x_istore hM dX7_holeFor_91 rfl (Nat.le_of_ble_eq_true rfl) rfl ?_
                        refine x_iload hM dX7_holeFor_93 rfl ?_
                        refine x_if_eq (tgt := 108) hM dX7_holeFor_95 (by decide) (by omega) (fun c_95 => ?_) (fun c_95 => ?_)
                        · refine x_iload_n hM dX7_holeFor_108 rfl rfl ?_
                          refine x_istore_n hM dX7_holeFor_109 rfl rfl (Nat.le_of_ble_eq_true rfl) rfl ?_
                          refine x_iinc hM dX7_holeFor_110 rfl rfl rfl ?_
                          refine x_goto (tgt := 6) hM dX7_holeFor_113 (by decide) ?_
                          first | exact yes _ _ (by omega) | exact no _ _ (by omega)
                        · refine x_iload hM dX7_holeFor_98 rfl ?_
                          refine x_if_eq (tgt := 108) hM dX7_holeFor_100 (by decide) (by omega) (fun c_100 => ?_) (fun c_100 => ?_)
                          · refine x_iload_n hM dX7_holeFor_108 rfl rfl ?_
                            refine x_istore_n hM dX7_holeFor_109 rfl rfl (Nat.le_of_ble_eq_true rfl) rfl ?_
                            refine x_iinc hM dX7_holeFor_110 rfl rfl rfl ?_
                            refine x_goto (tgt := 6) hM dX7_holeFor_113 (by decide) ?_
                            first | exact yes _ _ (by omega) | exact no _ _ (by omega)
                          · refine x_iload hM dX7_holeFor_103 rfl ?_
                            refine x_goto (tgt := 109) hM dX7_holeFor_105 (by decide) ?_
                            refine x_istore_n hM dX7_holeFor_109 rfl rfl (Nat.le_of_ble_eq_true rfl) rfl ?_
                            refine x_iinc hM dX7_holeFor_110 rfl rfl rfl ?_
                            refine x_goto (tgt := 6) hM dX7_holeFor_113 (by decide) ?_
                            first | exact yes _ _ (by omega) | exact no _ _ (by omega)
                      · refine x_iconst hM dX7_holeFor_86 ?_
                        refine x_goto (tgt := 91) hM dX7_holeFor_87 (by decide) ?_
                        refine x_istore hM dX7_holeFor_91 rfl (Nat.le_of_ble_eq_true rfl) rfl ?_
                        refine x_iload hM dX7_holeFor_93 rfl ?_
                        refine x_if_eq (tgt := 108) hM dX7_holeFor_95 (by decide) (by omega) (fun c_95 => ?_) (fun c_95 => ?_)
                        · refine x_iload_n hM dX7_holeFor_108 rfl rfl ?_
                          refine x_istore_n hM dX7_holeFor_109 rfl rfl (Nat.le_of_ble_eq_true rfl) rfl ?_
                          refine x_iinc hM dX7_holeFor_110 rfl rfl rfl ?_
                          refine x_goto (tgt := 6) hM dX7_holeFor_113 (by decide) ?_
                          first | exact yes _ _ (by omega) | exact no _ _ (by omega)
                        · refine x_iload hM dX7_holeFor_98 rfl ?_
                          refine x_if_eq (tgt := 108) hM dX7_holeFor_100 (by decide) (by omega) (fun c_100 => ?_) (fun c_100 => ?_)
                          · refine x_iload_n hM dX7_holeFor_108 rfl rfl ?_
                            refine x_istore_n hM dX7_holeFor_109 rfl rfl (Nat.le_of_ble_eq_true rfl) rfl ?_
                            refine x_iinc hM dX7_holeFor_110 rfl rfl rfl ?_
                            refine x_goto (tgt := 6) hM dX7_holeFor_113 (by decide) ?_
                            first | exact yes _ _ (by omega) | exact no _ _ (by omega)
                          · refine x_iload hM dX7_holeFor_103 rfl ?_
                            refine x_goto (tgt := 109) hM dX7_holeFor_105 (by decide) ?_
                            refine x_istore_n hM dX7_holeFor_109 rfl rfl (Nat.le_of_ble_eq_true rfl) rfl ?_
                            refine x_iinc hM dX7_holeFor_110 rfl rfl rfl ?_
                            refine x_goto (tgt := 6) hM dX7_holeFor_113 (by decide) ?_
                            first | exact yes _ _ (by omega) | exact no _ _ (by omega)
                  · refine x_aload_n hM dX7_holeFor_53 rfl rfl ?_
                    refine x_iload hM dX7_holeFor_54 rfl ?_
                    refine x_callV hM wv_X7_124 (m_X7_length (by assumption) (by omega)) ⟨Nat.le_of_ble_eq_true rfl, Nat.le_of_ble_eq_true rfl⟩ (by first | assumption | exact md_o (by assumption)) rfl rfl rfl rfl (Nat.le_of_ble_eq_true rfl) ⟨Nat.le_of_ble_eq_true rfl, Nat.le_of_ble_eq_true rfl⟩ dX7_holeFor_56 (k_rI ?_)
                    refine x_aload_n hM dX7_holeFor_59 rfl rfl ?_
                    refine x_iload_n hM dX7_holeFor_60 rfl rfl ?_
                    refine x_callV hM wv_X7_124 (m_X7_length (i := j) h hn1) ⟨Nat.le_of_ble_eq_true rfl, Nat.le_of_ble_eq_true rfl⟩ (by first | assumption | exact md_o (by assumption)) rfl rfl rfl rfl (Nat.le_of_ble_eq_true rfl) ⟨Nat.le_of_ble_eq_true rfl, Nat.le_of_ble_eq_true rfl⟩ dX7_holeFor_61 (k_rI ?_)
                    rw [hn2]
                    refine x_icmp_lt (tgt := 86) hM dX7_holeFor_64 (by decide) (by omega) (by omega) (fun c_64 => ?_) (fun c_64 => ?_)
                    · refine x_iconst hM dX7_holeFor_86 ?_
                      refine x_goto (tgt := 91) hM dX7_holeFor_87 (by decide) ?_
                      refine x_istore hM dX7_holeFor_91 rfl (Nat.le_of_ble_eq_true rfl) rfl ?_
                      refine x_iload hM dX7_holeFor_93 rfl ?_
                      refine x_if_eq (tgt := 108) hM dX7_holeFor_95 (by decide) (by omega) (fun c_95 => ?_) (fun c_95 => ?_)
                      · refine x_iload_n hM dX7_holeFor_108 rfl rfl ?_
                        refine x_istore_n hM dX7_holeFor_109 rfl rfl (Nat.le_of_ble_eq_true rfl) rfl ?_
                        refine x_iinc hM dX7_holeFor_110 rfl rfl rfl ?_
                        refine x_goto (tgt := 6) hM dX7_holeFor_113 (by decide) ?_
                        first | exact yes _ _ (by omega) | exact no _ _ (by omega)
                      · refine x_iload hM dX7_holeFor_98 rfl ?_
                        refine x_if_eq (tgt := 108) hM dX7_holeFor_100 (by decide) (by omega) (fun c_100 => ?_) (fun c_100 => ?_)
                        · refine x_iload_n hM dX7_holeFor_108 rfl rfl ?_
                          refine x_istore_n hM dX7_holeFor_109 rfl rfl (Nat.le_of_ble_eq_true rfl) rfl ?_
                          refine x_iinc hM dX7_holeFor_110 rfl rfl rfl ?_
                          refine x_goto (tgt := 6) hM dX7_holeFor_113 (by decide) ?_
                          first | exact yes _ _ (by omega) | exact no _ _ (by omega)
                        · refine x_iload hM dX7_holeFor_103 rfl ?_
                          refine x_goto (tgt := 109) hM dX7_holeFor_105 (by decide) ?_
                          refine x_istore_n hM dX7_holeFor_109 rfl rfl (Nat.le_of_ble_eq_true rfl) rfl ?_
                          refine x_iinc hM dX7_holeFor_110 rfl rfl rfl ?_
                          refine x_goto (tgt := 6) hM dX7_holeFor_113 (by decide) ?_
                          first | exact yes _ _ (by omega) | exact no _ _ (by omega)
                    · refine x_iload_n hM dX7_holeFor_67 rfl rfl ?_
                      refine x_iconst hM dX7_holeFor_68 ?_
                      refine x_icmp_ne (tgt := 90) hM dX7_holeFor_69 (by decide) (by omega) (by omega) (fun c_69 => ?_) (fun c_69 => ?_)
                      · refine x_iconst hM dX7_holeFor_90 ?_
                        refine x_istore hM dX7_holeFor_91 rfl (Nat.le_of_ble_eq_true rfl) rfl ?_
                        refine x_iload hM dX7_holeFor_93 rfl ?_
                        refine x_if_eq (tgt := 108) hM dX7_holeFor_95 (by decide) (by omega) (fun c_95 => ?_) (fun c_95 => ?_)
                        · refine x_iload_n hM dX7_holeFor_108 rfl rfl ?_
                          refine x_istore_n hM dX7_holeFor_109 rfl rfl (Nat.le_of_ble_eq_true rfl) rfl ?_
                          refine x_iinc hM dX7_holeFor_110 rfl rfl rfl ?_
                          refine x_goto (tgt := 6) hM dX7_holeFor_113 (by decide) ?_
                          first | exact yes _ _ (by omega) | exact no _ _ (by omega)
                        · refine x_iload hM dX7_holeFor_98 rfl ?_
                          refine x_if_eq (tgt := 108) hM dX7_holeFor_100 (by decide) (by omega) (fun c_100 => ?_) (fun c_100 => ?_)
                          · refine x_iload_n hM dX7_holeFor_108 rfl rfl ?_
                            refine x_istore_n hM dX7_holeFor_109 rfl rfl (Nat.le_of_ble_eq_true rfl) rfl ?_
                            refine x_iinc hM dX7_holeFor_110 rfl rfl rfl ?_
                            refine x_goto (tgt := 6) hM dX7_holeFor_113 (by decide) ?_
                            first | exact yes _ _ (by omega) | exact no _ _ (by omega)
                          · refine x_iload hM dX7_holeFor_103 rfl ?_
                            refine x_goto (tgt := 109) hM dX7_holeFor_105 (by decide) ?_
                            refine x_istore_n hM dX7_holeFor_109 rfl rfl (Nat.le_of_ble_eq_true rfl) rfl ?_
                            refine x_iinc hM dX7_holeFor_110 rfl rfl rfl ?_
                            refine x_goto (tgt := 6) hM dX7_holeFor_113 (by decide) ?_
                            first | exact yes _ _ (by omega) | exact no _ _ (by omega)
                      · refine x_aload_n hM dX7_holeFor_72 rfl rfl ?_
                        refine x_iload hM dX7_holeFor_73 rfl ?_
                        refine x_callV hM wv_X7_124 (m_X7_length (by assumption) (by omega)) ⟨Nat.le_of_ble_eq_true rfl, Nat.le_of_ble_eq_true rfl⟩ (by first | assumption | exact md_o (by assumption)) rfl rfl rfl rfl (Nat.le_of_ble_eq_true rfl) ⟨Nat.le_of_ble_eq_true rfl, Nat.le_of_ble_eq_true rfl⟩ dX7_holeFor_75 (k_rI ?_)
                        refine x_aload_n hM dX7_holeFor_78 rfl rfl ?_
                        refine x_iload_n hM dX7_holeFor_79 rfl rfl ?_
                        refine x_callV hM wv_X7_124 (m_X7_length (i := j) h hn1) ⟨Nat.le_of_ble_eq_true rfl, Nat.le_of_ble_eq_true rfl⟩ (by first | assumption | exact md_o (by assumption)) rfl rfl rfl rfl (Nat.le_of_ble_eq_true rfl) ⟨Nat.le_of_ble_eq_true rfl, Nat.le_of_ble_eq_true rfl⟩ dX7_holeFor_80 (k_rI ?_)
                        rw [hn2]
                        refine x_icmp_le (tgt := 90) hM dX7_holeFor_83 (by decide) (by omega) (by omega) (fun c_83 => ?_) (fun c_83 => ?_)
                        · refine x_iconst hM dX7_holeFor_90 ?_
                          refine x_istore hM dX7_holeFor_91 rfl (Nat.le_of_ble_eq_true rfl) rfl ?_
                          refine x_iload hM dX7_holeFor_93 rfl ?_
                          refine x_if_eq (tgt := 108) hM dX7_holeFor_95 (by decide) (by omega) (fun c_95 => ?_) (fun c_95 => ?_)
                          · refine x_iload_n hM dX7_holeFor_108 rfl rfl ?_
                            refine x_istore_n hM dX7_holeFor_109 rfl rfl (Nat.le_of_ble_eq_true rfl) rfl ?_
                            refine x_iinc hM dX7_holeFor_110 rfl rfl rfl ?_
                            refine x_goto (tgt := 6) hM dX7_holeFor_113 (by decide) ?_
                            first | exact yes _ _ (by omega) | exact no _ _ (by omega)
                          · refine x_iload hM dX7_holeFor_98 rfl ?_
                            refine x_if_eq (tgt := 108) hM dX7_holeFor_100 (by decide) (by omega) (fun c_100 => ?_) (fun c_100 => ?_)
                            · refine x_iload_n hM dX7_holeFor_108 rfl rfl ?_
                              refine x_istore_n hM dX7_holeFor_109 rfl rfl (Nat.le_of_ble_eq_true rfl) rfl ?_
                              refine x_iinc hM dX7_holeFor_110 rfl rfl rfl ?_
                              refine x_goto (tgt := 6) hM dX7_holeFor_113 (by decide) ?_
                              first | exact yes _ _ (by omega) | exact no _ _ (by omega)
                            · refine x_iload hM dX7_holeFor_103 rfl ?_
                              refine x_goto (tgt := 109) hM dX7_holeFor_105 (by decide) ?_
                              refine x_istore_n hM dX7_holeFor_109 rfl rfl (Nat.le_of_ble_eq_true rfl) rfl ?_
                              refine x_iinc hM dX7_holeFor_110 rfl rfl rfl ?_
                              refine x_goto (tgt := 6) hM dX7_holeFor_113 (by decide) ?_
                              first | exact yes _ _ (by omega) | exact no _ _ (by omega)
                        · refine x_iconst hM dX7_holeFor_86 ?_
                          refine x_goto (tgt := 91) hM dX7_holeFor_87 (by decide) ?_
                          refine x_istore hM dX7_holeFor_91 rfl (Nat.le_of_ble_eq_true rfl) rfl ?_
                          refine x_iload hM dX7_holeFor_93 rfl ?_
                          refine x_if_eq (tgt := 108) hM dX7_holeFor_95 (by decide) (by omega) (fun c_95 => ?_) (fun c_95 => ?_)
                          · refine x_iload_n hM dX7_holeFor_108 rfl rfl ?_
                            refine x_istore_n hM dX7_holeFor_109 rfl rfl (Nat.le_of_ble_eq_true rfl) rfl ?_
                            refine x_iinc hM dX7_holeFor_110 rfl rfl rfl ?_
                            refine x_goto (tgt := 6) hM dX7_holeFor_113 (by decide) ?_
                            first | exact yes _ _ (by omega) | exact no _ _ (by omega)
                          · refine x_iload hM dX7_holeFor_98 rfl ?_
                            refine x_if_eq (tgt := 108) hM dX7_holeFor_100 (by decide) (by omega) (fun c_100 => ?_) (fun c_100 => ?_)
                            · refine x_iload_n hM dX7_holeFor_108 rfl rfl ?_
                              refine x_istore_n hM dX7_holeFor_109 rfl rfl (Nat.le_of_ble_eq_true rfl) rfl ?_
                              refine x_iinc hM dX7_holeFor_110 rfl rfl rfl ?_
                              refine x_goto (tgt := 6) hM dX7_holeFor_113 (by decide) ?_
                              first | exact yes _ _ (by omega) | exact no _ _ (by omega)
                            · refine x_iload hM dX7_holeFor_103 rfl ?_
                              refine x_goto (tgt := 109) hM dX7_holeFor_105 (by decide) ?_
                              refine x_istore_n hM dX7_holeFor_109 rfl rfl (Nat.le_of_ble_eq_true rfl) rfl ?_
                              refine x_iinc hM dX7_holeFor_110 rfl rfl rfl ?_
                              refine x_goto (tgt := 6) hM dX7_holeFor_113 (by decide) ?_
                              first | exact yes _ _ (by omega) | exact no _ _ (by omega)
              · refine x_iconst hM dX7_holeFor_37 ?_
                refine x_goto (tgt := 42) hM dX7_holeFor_38 (by decide) ?_
                refine x_istore hM dX7_holeFor_42 rfl (Nat.le_of_ble_eq_true rfl) rfl ?_
                refine x_iload_n hM dX7_holeFor_44 rfl rfl ?_
                refine x_if_lt (tgt := 86) hM dX7_holeFor_45 (by decide) (by omega) (fun c_45 => ?_) (fun c_45 => ?_)
                · exfalso; omega
                · refine x_iload_n hM dX7_holeFor_48 rfl rfl ?_
                  refine x_iconst hM dX7_holeFor_49 ?_
                  refine x_icmp_ne (tgt := 67) hM dX7_holeFor_50 (by decide) (by omega) (by omega) (fun c_50 => ?_) (fun c_50 => ?_)
                  · refine x_iload_n hM dX7_holeFor_67 rfl rfl ?_
                    refine x_iconst hM dX7_holeFor_68 ?_
                    refine x_icmp_ne (tgt := 90) hM dX7_holeFor_69 (by decide) (by omega) (by omega) (fun c_69 => ?_) (fun c_69 => ?_)
                    · refine x_iconst hM dX7_holeFor_90 ?_
                      refine x_istore hM dX7_holeFor_91 rfl (Nat.le_of_ble_eq_true rfl) rfl ?_
                      refine x_iload hM dX7_holeFor_93 rfl ?_
                      refine x_if_eq (tgt := 108) hM dX7_holeFor_95 (by decide) (by omega) (fun c_95 => ?_) (fun c_95 => ?_)
                      · refine x_iload_n hM dX7_holeFor_108 rfl rfl ?_
                        refine x_istore_n hM dX7_holeFor_109 rfl rfl (Nat.le_of_ble_eq_true rfl) rfl ?_
                        refine x_iinc hM dX7_holeFor_110 rfl rfl rfl ?_
                        refine x_goto (tgt := 6) hM dX7_holeFor_113 (by decide) ?_
                        first | exact yes _ _ (by omega) | exact no _ _ (by omega)
                      · refine x_iload hM dX7_holeFor_98 rfl ?_
                        refine x_if_eq (tgt := 108) hM dX7_holeFor_100 (by decide) (by omega) (fun c_100 => ?_) (fun c_100 => ?_)
                        · refine x_iload_n hM dX7_holeFor_108 rfl rfl ?_
                          refine x_istore_n hM dX7_holeFor_109 rfl rfl (Nat.le_of_ble_eq_true rfl) rfl ?_
                          refine x_iinc hM dX7_holeFor_110 rfl rfl rfl ?_
                          refine x_goto (tgt := 6) hM dX7_holeFor_113 (by decide) ?_
                          first | exact yes _ _ (by omega) | exact no _ _ (by omega)
                        · refine x_iload hM dX7_holeFor_103 rfl ?_
                          refine x_goto (tgt := 109) hM dX7_holeFor_105 (by decide) ?_
                          refine x_istore_n hM dX7_holeFor_109 rfl rfl (Nat.le_of_ble_eq_true rfl) rfl ?_
                          refine x_iinc hM dX7_holeFor_110 rfl rfl rfl ?_
                          refine x_goto (tgt := 6) hM dX7_holeFor_113 (by decide) ?_
                          first | exact yes _ _ (by omega) | exact no _ _ (by omega)
                    · refine x_aload_n hM dX7_holeFor_72 rfl rfl ?_
                      refine x_iload hM dX7_holeFor_73 rfl ?_
                      refine x_callV hM wv_X7_124 (m_X7_length (by assumption) (by omega)) ⟨Nat.le_of_ble_eq_true rfl, Nat.le_of_ble_eq_true rfl⟩ (by first | assumption | exact md_o (by assumption)) rfl rfl rfl rfl (Nat.le_of_ble_eq_true rfl) ⟨Nat.le_of_ble_eq_true rfl, Nat.le_of_ble_eq_true rfl⟩ dX7_holeFor_75 (k_rI ?_)
                      refine x_aload_n hM dX7_holeFor_78 rfl rfl ?_
                      refine x_iload_n hM dX7_holeFor_79 rfl rfl ?_
                      refine x_callV hM wv_X7_124 (m_X7_length (i := j) h hn1) ⟨Nat.le_of_ble_eq_true rfl, Nat.le_of_ble_eq_true rfl⟩ (by first | assumption | exact md_o (by assumption)) rfl rfl rfl rfl (Nat.le_of_ble_eq_true rfl) ⟨Nat.le_of_ble_eq_true rfl, Nat.le_of_ble_eq_true rfl⟩ dX7_holeFor_80 (k_rI ?_)
                      rw [hn2]
                      refine x_icmp_le (tgt := 90) hM dX7_holeFor_83 (by decide) (by omega) (by omega) (fun c_83 => ?_) (fun c_83 => ?_)
                      · refine x_iconst hM dX7_holeFor_90 ?_
                        refine x_istore hM dX7_holeFor_91 rfl (Nat.le_of_ble_eq_true rfl) rfl ?_
                        refine x_iload hM dX7_holeFor_93 rfl ?_
                        refine x_if_eq (tgt := 108) hM dX7_holeFor_95 (by decide) (by omega) (fun c_95 => ?_) (fun c_95 => ?_)
                        · refine x_iload_n hM dX7_holeFor_108 rfl rfl ?_
                          refine x_istore_n hM dX7_holeFor_109 rfl rfl (Nat.le_of_ble_eq_true rfl) rfl ?_
                          refine x_iinc hM dX7_holeFor_110 rfl rfl rfl ?_
                          refine x_goto (tgt := 6) hM dX7_holeFor_113 (by decide) ?_
                          first | exact yes _ _ (by omega) | exact no _ _ (by omega)
                        · refine x_iload hM dX7_holeFor_98 rfl ?_
                          refine x_if_eq (tgt := 108) hM dX7_holeFor_100 (by decide) (by omega) (fun c_100 => ?_) (fun c_100 => ?_)
                          · refine x_iload_n hM dX7_holeFor_108 rfl rfl ?_
                            refine x_istore_n hM dX7_holeFor_109 rfl rfl (Nat.le_of_ble_eq_true rfl) rfl ?_
                            refine x_iinc hM dX7_holeFor_110 rfl rfl rfl ?_
                            refine x_goto (tgt := 6) hM dX7_holeFor_113 (by decide) ?_
                            first | exact yes _ _ (by omega) | exact no _ _ (by omega)
                          · refine x_iload hM dX7_holeFor_103 rfl ?_
                            refine x_goto (tgt := 109) hM dX7_holeFor_105 (by decide) ?_
                            refine x_istore_n hM dX7_holeFor_109 rfl rfl (Nat.le_of_ble_eq_true rfl) rfl ?_
                            refine x_iinc hM dX7_holeFor_110 rfl rfl rfl ?_
                            refine x_goto (tgt := 6) hM dX7_holeFor_113 (by decide) ?_
                            first | exact yes _ _ (by omega) | exact no _ _ (by omega)
                      · refine x_iconst hM dX7_holeFor_86 ?_
                        refine x_goto (tgt := 91) hM dX7_holeFor_87 (by decide) ?_
                        refine x_istore hM dX7_holeFor_91 rfl (Nat.le_of_ble_eq_true rfl) rfl ?_
                        refine x_iload hM dX7_holeFor_93 rfl ?_
                        refine x_if_eq (tgt := 108) hM dX7_holeFor_95 (by decide) (by omega) (fun c_95 => ?_) (fun c_95 => ?_)
                        · refine x_iload_n hM dX7_holeFor_108 rfl rfl ?_
                          refine x_istore_n hM dX7_holeFor_109 rfl rfl (Nat.le_of_ble_eq_true rfl) rfl ?_
                          refine x_iinc hM dX7_holeFor_110 rfl rfl rfl ?_
                          refine x_goto (tgt := 6) hM dX7_holeFor_113 (by decide) ?_
                          first | exact yes _ _ (by omega) | exact no _ _ (by omega)
                        · refine x_iload hM dX7_holeFor_98 rfl ?_
                          refine x_if_eq (tgt := 108) hM dX7_holeFor_100 (by decide) (by omega) (fun c_100 => ?_) (fun c_100 => ?_)
                          · refine x_iload_n hM dX7_holeFor_108 rfl rfl ?_
                            refine x_istore_n hM dX7_holeFor_109 rfl rfl (Nat.le_of_ble_eq_true rfl) rfl ?_
                            refine x_iinc hM dX7_holeFor_110 rfl rfl rfl ?_
                            refine x_goto (tgt := 6) hM dX7_holeFor_113 (by decide) ?_
                            first | exact yes _ _ (by omega) | exact no _ _ (by omega)
                          · refine x_iload hM dX7_holeFor_103 rfl ?_
                            refine x_goto (tgt := 109) hM dX7_holeFor_105 (by decide) ?_
                            refine x_istore_n hM dX7_holeFor_109 rfl rfl (Nat.le_of_ble_eq_true rfl) rfl ?_
                            refine x_iinc hM dX7_holeFor_110 rfl rfl rfl ?_
                            refine x_goto (tgt := 6) hM dX7_holeFor_113 (by decide) ?_
                            first | exact yes _ _ (by omega) | exact no _ _ (by omega)
                  · refine x_aload_n hM dX7_holeFor_53 rfl rfl ?_
                    refine x_iload hM dX7_holeFor_54 rfl ?_
                    refine x_callV hM wv_X7_124 (m_X7_length (by assumption) (by omega)) ⟨Nat.le_of_ble_eq_true rfl, Nat.le_of_ble_eq_true rfl⟩ (by first | assumption | exact md_o (by assumption)) rfl rfl rfl rfl (Nat.le_of_ble_eq_true rfl) ⟨Nat.le_of_ble_eq_true rfl, Nat.le_of_ble_eq_true rfl⟩ dX7_holeFor_56 (k_rI ?_)
                    refine x_aload_n hM dX7_holeFor_59 rfl rfl ?_
                    refine x_iload_n hM dX7_holeFor_60 rfl rfl ?_
                    refine x_callV hM wv_X7_124 (m_X7_length (i := j) h hn1) ⟨Nat.le_of_ble_eq_true rfl, Nat.le_of_ble_eq_true rfl⟩ (by first | assumption | exact md_o (by assumption)) rfl rfl rfl rfl (Nat.le_of_ble_eq_true rfl) ⟨Nat.le_of_ble_eq_true rfl, Nat.le_of_ble_eq_true rfl⟩ dX7_holeFor_61 (k_rI ?_)
                    rw [hn2]
                    refine x_icmp_lt (tgt := 86) hM dX7_holeFor_64 (by decide) (by omega) (by omega) (fun c_64 => ?_) (fun c_64 => ?_)
                    · refine x_iconst hM dX7_holeFor_86 ?_
                      refine x_goto (tgt := 91) hM dX7_holeFor_87 (by decide) ?_
                      refine x_istore hM dX7_holeFor_91 rfl (Nat.le_of_ble_eq_true rfl) rfl ?_
                      refine x_iload hM dX7_holeFor_93 rfl ?_
                      refine x_if_eq (tgt := 108) hM dX7_holeFor_95 (by decide) (by omega) (fun c_95 => ?_) (fun c_95 => ?_)
                      · refine x_iload_n hM dX7_holeFor_108 rfl rfl ?_
                        refine x_istore_n hM dX7_holeFor_109 rfl rfl (Nat.le_of_ble_eq_true rfl) rfl ?_
                        refine x_iinc hM dX7_holeFor_110 rfl rfl rfl ?_
                        refine x_goto (tgt := 6) hM dX7_holeFor_113 (by decide) ?_
                        first | exact yes _ _ (by omega) | exact no _ _ (by omega)
                      · refine x_iload hM dX7_holeFor_98 rfl ?_
                        refine x_if_eq (tgt := 108) hM dX7_holeFor_100 (by decide) (by omega) (fun c_100 => ?_) (fun c_100 => ?_)
                        · refine x_iload_n hM dX7_holeFor_108 rfl rfl ?_
                          refine x_istore_n hM dX7_holeFor_109 rfl rfl (Nat.le_of_ble_eq_true rfl) rfl ?_
                          refine x_iinc hM dX7_holeFor_110 rfl rfl rfl ?_
                          refine x_goto (tgt := 6) hM dX7_holeFor_113 (by decide) ?_
                          first | exact yes _ _ (by omega) | exact no _ _ (by omega)
                        · refine x_iload hM dX7_holeFor_103 rfl ?_
                          refine x_goto (tgt := 109) hM dX7_holeFor_105 (by decide) ?_
                          refine x_istore_n hM dX7_holeFor_109 rfl rfl (Nat.le_of_ble_eq_true rfl) rfl ?_
                          refine x_iinc hM dX7_holeFor_110 rfl rfl rfl ?_
                          refine x_goto (tgt := 6) hM dX7_holeFor_113 (by decide) ?_
                          first | exact yes _ _ (by omega) | exact no _ _ (by omega)
                    · refine x_iload_n hM dX7_holeFor_67 rfl rfl ?_
                      refine x_iconst hM dX7_holeFor_68 ?_
                      refine x_icmp_ne (tgt := 90) hM dX7_holeFor_69 (by decide) (by omega) (by omega) (fun c_69 => ?_) (fun c_69 => ?_)
                      · refine x_iconst hM dX7_holeFor_90 ?_
                        refine x_istore hM dX7_holeFor_91 rfl (Nat.le_of_ble_eq_true rfl) rfl ?_
                        refine x_iload hM dX7_holeFor_93 rfl ?_
                        refine x_if_eq (tgt := 108) hM dX7_holeFor_95 (by decide) (by omega) (fun c_95 => ?_) (fun c_95 => ?_)
                        · refine x_iload_n hM dX7_holeFor_108 rfl rfl ?_
                          refine x_istore_n hM dX7_holeFor_109 rfl rfl (Nat.le_of_ble_eq_true rfl) rfl ?_
                          refine x_iinc hM dX7_holeFor_110 rfl rfl rfl ?_
                          refine x_goto (tgt := 6) hM dX7_holeFor_113 (by decide) ?_
                          first | exact yes _ _ (by omega) | exact no _ _ (by omega)
                        · refine x_iload hM dX7_holeFor_98 rfl ?_
                          refine x_if_eq (tgt := 108) hM dX7_holeFor_100 (by decide) (by omega) (fun c_100 => ?_) (fun c_100 => ?_)
                          · refine x_iload_n hM dX7_holeFor_108 rfl rfl ?_
                            refine x_istore_n hM dX7_holeFor_109 rfl rfl (Nat.le_of_ble_eq_true rfl) rfl ?_
                            refine x_iinc hM dX7_holeFor_110 rfl rfl rfl ?_
                            refine x_goto (tgt := 6) hM dX7_holeFor_113 (by decide) ?_
                            first | exact yes _ _ (by omega) | exact no _ _ (by omega)
                          · refine x_iload hM dX7_holeFor_103 rfl ?_
                            refine x_goto (tgt := 109) hM dX7_holeFor_105 (by decide) ?_
                            refine x_istore_n hM dX7_holeFor_109 rfl rfl (Nat.le_of_ble_eq_true rfl) rfl ?_
                            refine x_iinc hM dX7_holeFor_110 rfl rfl rfl ?_
                            refine x_goto (tgt := 6) hM dX7_holeFor_113 (by decide) ?_
                            first | exact yes _ _ (by omega) | exact no _ _ (by omega)
                      · refine x_aload_n hM dX7_holeFor_72 rfl rfl ?_
                        refine x_iload hM dX7_holeFor_73 rfl ?_
                        refine x_callV hM wv_X7_124 (m_X7_length (by assumption) (by omega)) ⟨Nat.le_of_ble_eq_true rfl, Nat.le_of_ble_eq_true rfl⟩ (by first | assumption | exact md_o (by assumption)) rfl rfl rfl rfl (Nat.le_of_ble_eq_true rfl) ⟨Nat.le_of_ble_eq_true rfl, Nat.le_of_ble_eq_true rfl⟩ dX7_holeFor_75 (k_rI ?_)
                        refine x_aload_n hM dX7_holeFor_78 rfl rfl ?_
                        refine x_iload_n hM dX7_holeFor_79 rfl rfl ?_
                        refine x_callV hM wv_X7_124 (m_X7_length (i := j) h hn1) ⟨Nat.le_of_ble_eq_true rfl, Nat.le_of_ble_eq_true rfl⟩ (by first | assumption | exact md_o (by assumption)) rfl rfl rfl rfl (Nat.le_of_ble_eq_true rfl) ⟨Nat.le_of_ble_eq_true rfl, Nat.le_of_ble_eq_true rfl⟩ dX7_holeFor_80 (k_rI ?_)
                        rw [hn2]
                        refine x_icmp_le (tgt := 90) hM dX7_holeFor_83 (by decide) (by omega) (by omega) (fun c_83 => ?_) (fun c_83 => ?_)
                        · refine x_iconst hM dX7_holeFor_90 ?_
                          refine x_istore hM dX7_holeFor_91 rfl (Nat.le_of_ble_eq_true rfl) rfl ?_
                          refine x_iload hM dX7_holeFor_93 rfl ?_
                          refine x_if_eq (tgt := 108) hM dX7_holeFor_95 (by decide) (by omega) (fun c_95 => ?_) (fun c_95 => ?_)
                          · refine x_iload_n hM dX7_holeFor_108 rfl rfl ?_
                            refine x_istore_n hM dX7_holeFor_109 rfl rfl (Nat.le_of_ble_eq_true rfl) rfl ?_
                            refine x_iinc hM dX7_holeFor_110 rfl rfl rfl ?_
                            refine x_goto (tgt := 6) hM dX7_holeFor_113 (by decide) ?_
                            first | exact yes _ _ (by omega) | exact no _ _ (by omega)
                          · refine x_iload hM dX7_holeFor_98 rfl ?_
                            refine x_if_eq (tgt := 108) hM dX7_holeFor_100 (by decide) (by omega) (fun c_100 => ?_) (fun c_100 => ?_)
                            · refine x_iload_n hM dX7_holeFor_108 rfl rfl ?_
                              refine x_istore_n hM dX7_holeFor_109 rfl rfl (Nat.le_of_ble_eq_true rfl) rfl ?_
                              refine x_iinc hM dX7_holeFor_110 rfl rfl rfl ?_
                              refine x_goto (tgt := 6) hM dX7_holeFor_113 (by decide) ?_
                              first | exact yes _ _ (by omega) | exact no _ _ (by omega)
                            · refine x_iload hM dX7_holeFor_103 rfl ?_
                              refine x_goto (tgt := 109) hM dX7_holeFor_105 (by decide) ?_
                              refine x_istore_n hM dX7_holeFor_109 rfl rfl (Nat.le_of_ble_eq_true rfl) rfl ?_
                              refine x_iinc hM dX7_holeFor_110 rfl rfl rfl ?_
                              refine x_goto (tgt := 6) hM dX7_holeFor_113 (by decide) ?_
                              first | exact yes _ _ (by omega) | exact no _ _ (by omega)
                        · refine x_iconst hM dX7_holeFor_86 ?_
                          refine x_goto (tgt := 91) hM dX7_holeFor_87 (by decide) ?_
                          refine x_istore hM dX7_holeFor_91 rfl (Nat.le_of_ble_eq_true rfl) rfl ?_
                          refine x_iload hM dX7_holeFor_93 rfl ?_
                          refine x_if_eq (tgt := 108) hM dX7_holeFor_95 (by decide) (by omega) (fun c_95 => ?_) (fun c_95 => ?_)
                          · refine x_iload_n hM dX7_holeFor_108 rfl rfl ?_
                            refine x_istore_n hM dX7_holeFor_109 rfl rfl (Nat.le_of_ble_eq_true rfl) rfl ?_
                            refine x_iinc hM dX7_holeFor_110 rfl rfl rfl ?_
                            refine x_goto (tgt := 6) hM dX7_holeFor_113 (by decide) ?_
                            first | exact yes _ _ (by omega) | exact no _ _ (by omega)
                          · refine x_iload hM dX7_holeFor_98 rfl ?_
                            refine x_if_eq (tgt := 108) hM dX7_holeFor_100 (by decide) (by omega) (fun c_100 => ?_) (fun c_100 => ?_)
                            · refine x_iload_n hM dX7_holeFor_108 rfl rfl ?_
                              refine x_istore_n hM dX7_holeFor_109 rfl rfl (Nat.le_of_ble_eq_true rfl) rfl ?_
                              refine x_iinc hM dX7_holeFor_110 rfl rfl rfl ?_
                              refine x_goto (tgt := 6) hM dX7_holeFor_113 (by decide) ?_
                              first | exact yes _ _ (by omega) | exact no _ _ (by omega)
                            · refine x_iload hM dX7_holeFor_103 rfl ?_
                              refine x_goto (tgt := 109) hM dX7_holeFor_105 (by decide) ?_
                              refine x_istore_n hM dX7_holeFor_109 rfl rfl (Nat.le_of_ble_eq_true rfl) rfl ?_
                              refine x_iinc hM dX7_holeFor_110 rfl rfl rfl ?_
                              refine x_goto (tgt := 6) hM dX7_holeFor_113 (by decide) ?_
                              first | exact yes _ _ (by omega) | exact no _ _ (by omega)
      · rw [drop_foldE _ _ (by clear hb; omega)] at hinv
        rcases hb with hb | ⟨j, hn1, hn3, hn2, hn4⟩
        · skip
          refine x_iload hM dX7_holeFor_6 rfl ?_
          refine x_aload_n hM dX7_holeFor_8 rfl rfl ?_
          refine x_get hM wf_X7_7 wl_X7 (by first | assumption | exact md_o (by assumption)) rfl dX7_holeFor_9 ?_
          refine x_bipush hM dX7_holeFor_12 rfl ?_
          refine x_iald hM (by first | assumption | exact row_c (by first | assumption | exact sr1 (by assumption) | exact sr2 (by assumption) | exact sr3 (by assumption) | exact sr4 (by assumption) | exact sr5 (by assumption) | exact rg1 (by assumption) | exact rg2 (by assumption) | exact rg3 (by assumption))) (by omega) dX7_holeFor_14 ?_
          rw [np_n hp]
          refine x_icmp_ge (tgt := 116) hM dX7_holeFor_15 (by decide) (by omega) (by omega) (fun c_15 => ?_) (fun c_15 => ?_)
          · refine x_iload_n hM dX7_holeFor_116 rfl rfl ?_
            refine x_if_ge (tgt := 125) hM dX7_holeFor_117 (by decide) (by omega) (fun c_117 => ?_) (fun c_117 => ?_)
            · exfalso; omega
            · refine x_bipush hM dX7_holeFor_120 rfl ?_
              refine x_goto (tgt := 130) hM dX7_holeFor_122 (by decide) ?_
              refine hR.i dX7_holeFor_130 (Nat.zero_le _) (Nat.zero_le _) ?_
              exact p_rI (by unfold hfF; rw [← hinv]; exact (if_pos (by show b < 0; omega)).symm)
          · exfalso; omega
        · subst hn3
          refine x_iload hM dX7_holeFor_6 rfl ?_
          refine x_aload_n hM dX7_holeFor_8 rfl rfl ?_
          refine x_get hM wf_X7_7 wl_X7 (by first | assumption | exact md_o (by assumption)) rfl dX7_holeFor_9 ?_
          refine x_bipush hM dX7_holeFor_12 rfl ?_
          refine x_iald hM (by first | assumption | exact row_c (by first | assumption | exact sr1 (by assumption) | exact sr2 (by assumption) | exact sr3 (by assumption) | exact sr4 (by assumption) | exact sr5 (by assumption) | exact rg1 (by assumption) | exact rg2 (by assumption) | exact rg3 (by assumption))) (by omega) dX7_holeFor_14 ?_
          rw [np_n hp]
          refine x_icmp_ge (tgt := 116) hM dX7_holeFor_15 (by decide) (by omega) (by omega) (fun c_15 => ?_) (fun c_15 => ?_)
          · refine x_iload_n hM dX7_holeFor_116 rfl rfl ?_
            refine x_if_ge (tgt := 125) hM dX7_holeFor_117 (by decide) (by omega) (fun c_117 => ?_) (fun c_117 => ?_)
            · refine x_aload_n hM dX7_holeFor_125 rfl rfl ?_
              refine x_iload_n hM dX7_holeFor_126 rfl rfl ?_
              refine x_callV hM wv_X7_81 (m_X7_first (i := j) h hn1) ⟨Nat.le_of_ble_eq_true rfl, Nat.le_of_ble_eq_true rfl⟩ (by first | assumption | exact md_o (by assumption)) rfl rfl rfl rfl (Nat.le_of_ble_eq_true rfl) ⟨Nat.le_of_ble_eq_true rfl, Nat.le_of_ble_eq_true rfl⟩ dX7_holeFor_127 (k_rI ?_)
              refine hR.i dX7_holeFor_130 (Nat.zero_le _) (Nat.zero_le _) ?_
              exact p_rI (by unfold hfF; rw [← hinv, hn4]; exact (if_neg (by show ¬ (j : Int) < 0; omega)).symm)
            · exfalso; omega
          · exfalso; omega
  refine x_bipush hM dX7_holeFor_0 rfl ?_
  refine x_istore_n hM dX7_holeFor_2 rfl rfl (Nat.le_of_ble_eq_true rfl) rfl ?_
  refine x_iconst hM dX7_holeFor_3 ?_
  refine x_istore hM dX7_holeFor_4 rfl (Nat.le_of_ble_eq_true rfl) rfl ?_
  exact K _ 0 (-6) 0 0 _ _ (Nat.lt_succ_self _) (Nat.zero_le _) (Or.inl rfl) rfl
def holR (L : List Sg) (n h : Int) : Int := if (1 ≤ n ∧ n ≤ 10000) ∧ 0 ≤ h ∧ h ≤ 2 then hfF L n h else -2
theorem m_X7_hole {l : Launch} {G : xG} {w : Wd} {z m : Nat} {f : Int → Int} {t : St} {n h0 : Int} (h : rdA G w m f t) (hn0 : iR n) (hh0 : iR h0) : xMet l G yX7_hole cX7_hole 3 (some .int) ({ frames := 4, cells := 0, slots := 0, locals := 89 } : Room) [.ref m, .int (iI n), .int (iI h0)] w z (rI (holR t.L n h0) w z) := by
  obtain ⟨⟨un, sg, it, rw', mn, pl, wr, hh⟩, hn, hp⟩ := id h
  have hl := (np_w hp).1
  refine xMet_of RX7 rfl (by decide +kernel) false (by decide +kernel) (Nat.le_of_ble_eq_true rfl) rfl ?_
  intro P hM hR
  refine x_iload_n hM dX7_hole_0 rfl rfl ?_
  refine x_iconst hM dX7_hole_1 ?_
  refine x_sipush hM dX7_hole_2 rfl ?_
  refine x_callS hM ws_X7_62 (m_X7_in (by omega) (by omega) (by omega)) ⟨Nat.le_of_ble_eq_true rfl, Nat.le_of_ble_eq_true rfl⟩ rfl rfl (Nat.le_of_ble_eq_true rfl) ⟨Nat.le_of_ble_eq_true rfl, Nat.le_of_ble_eq_true rfl⟩ dX7_hole_5 (k_rI ?_)
  by_cases c1 : 1 ≤ n ∧ n ≤ 10000
  · rw [if_pos c1]
    refine x_if_eq (tgt := 29) hM dX7_hole_8 (by decide) (by omega) (fun q => absurd q (by decide)) (fun _ => ?_)
    refine x_iload_n hM dX7_hole_11 rfl rfl ?_
    refine x_iconst hM dX7_hole_12 ?_
    refine x_iconst hM dX7_hole_13 ?_
    refine x_callS hM ws_X7_62 (m_X7_in (by omega) (by omega) (by omega)) ⟨Nat.le_of_ble_eq_true rfl, Nat.le_of_ble_eq_true rfl⟩ rfl rfl (Nat.le_of_ble_eq_true rfl) ⟨Nat.le_of_ble_eq_true rfl, Nat.le_of_ble_eq_true rfl⟩ dX7_hole_14 (k_rI ?_)
    by_cases c2 : 0 ≤ h0 ∧ h0 ≤ 2
    · rw [if_pos c2]
      refine x_if_eq (tgt := 29) hM dX7_hole_17 (by decide) (by omega) (fun q => absurd q (by decide)) (fun _ => ?_)
      refine x_aload_n hM dX7_hole_20 rfl rfl ?_
      refine x_iload_n hM dX7_hole_21 rfl rfl ?_
      refine x_iload_n hM dX7_hole_22 rfl rfl ?_
      refine x_callV hM wv_X7_127 (m_X7_holeFor (by assumption) (by omega) (by omega)) ⟨Nat.le_of_ble_eq_true rfl, Nat.le_of_ble_eq_true rfl⟩ (by first | assumption | exact md_o (by assumption)) rfl rfl rfl rfl (Nat.le_of_ble_eq_true rfl) ⟨Nat.le_of_ble_eq_true rfl, Nat.le_of_ble_eq_true rfl⟩ dX7_hole_23 (k_rI ?_)
      refine x_goto (tgt := 31) hM dX7_hole_26 (by decide) ?_
      refine hR.i dX7_hole_31 (Nat.zero_le _) (Nat.zero_le _) ?_
      first | exact p_rI (if_pos ⟨c1, c2⟩).symm | exact p_rI (if_neg (by omega)).symm
    · rw [if_neg c2]
      refine x_if_eq (tgt := 29) hM dX7_hole_17 (by decide) (by omega) (fun _ => ?_) (fun q => absurd rfl q)
      refine x_bipush hM dX7_hole_29 rfl ?_
      refine hR.i dX7_hole_31 (Nat.zero_le _) (Nat.zero_le _) ?_
      first | exact p_rI (if_pos ⟨c1, c2⟩).symm | exact p_rI (if_neg (by omega)).symm
  · rw [if_neg c1]
    refine x_if_eq (tgt := 29) hM dX7_hole_8 (by decide) (by omega) (fun _ => ?_) (fun q => absurd rfl q)
    refine x_bipush hM dX7_hole_29 rfl ?_
    refine hR.i dX7_hole_31 (Nat.zero_le _) (Nat.zero_le _) ?_
    first | exact p_rI (if_pos ⟨c1, c2⟩).symm | exact p_rI (if_neg (by omega)).symm
def moS (a b : Int) (c : Nat) (s : Sg) : Nat := if 0 ≤ s.1 ∧ s.2.1 < b ∧ a < s.2.2 then c ||| 2 ^ s.1.toNat else c
def moF (L : List Sg) (a b : Int) : Nat := L.foldl (moS a b) 0
theorem mo_lt (a b : Int) (L : List Sg) (h : ∀ s ∈ L, okG s) (c : Nat) (hc : c < 1024) : L.foldl (moS a b) c < 1024 := by
  induction L generalizing c with
  | nil => exact hc
  | cons s L ih =>
    have h1 := h s List.mem_cons_self
    refine ih (fun x hx => h x (List.mem_cons_of_mem _ hx)) _ ?_
    unfold moS
    split
    · exact or_lt hc (two_lt (by omega))
    · exact hc
def pcK (m : Nat) : Nat → Nat
  | 0 => 0
  | k + 1 => pcK m k + m / 2 ^ k % 2
theorem pcK_M (m : Nat) : pcK m 10 = pcM m := by
  simp [pcK, pcM]
theorem shr_all : ∀ k : Nat, k < 10 → ∀ m : Nat, m < 1024 → (iI m >>> (iI k &&& 31)) &&& iI 1 = iI (m / 2 ^ k % 2 : Nat) := by decide +kernel
theorem m_X7_ownersIn {l : Launch} {G : xG} {w : Wd} {z m : Nat} {f : Int → Int} {t : St} {a b : Int} (h : rdA G w m f t) (ha : iR a) (hb : iR b) : xMet l G yX7_ownersIn cX7_ownersIn 6 (some .int) ({ frames := 2, cells := 0, slots := 0, locals := 42 } : Room) [.ref m, .int (iI a), .int (iI b)] w z (rI (pcM (moF t.L a b)) w z) := by
  obtain ⟨⟨un, sg, it, rw', mn, pl, wr, hh⟩, hn, hp⟩ := id h
  have hl := (np_w hp).1
  have hlast := mo_lt a b t.L (np_all hp) 0 (by omega)
  refine xMet_of RX7 rfl (by decide +kernel) false (by decide +kernel) (Nat.le_of_ble_eq_true rfl) rfl ?_
  intro P hM hR
  have K2 : ∀ (k i : Nat) (c : Nat), c < 1024 → c = moF t.L a b → i + k = 10 → P 73 [some (.ref m), some (.int (iI a)), some (.int (iI b)), some (.int (iI c)), some (.int (iI (pcK c i))), some (.int (iI i))] [] w (z, 0, 0) := by
    intro k
    induction k with
    | zero =>
      intro i c hc hce hi
      refine x_iload hM dX7_ownersIn_73 rfl ?_
      refine x_bipush hM dX7_ownersIn_75 rfl ?_
      refine x_icmp_ge (tgt := 97) hM dX7_ownersIn_77 (by decide) (by omega) (by omega) (fun c_77 => ?_) (fun c_77 => ?_)
      · refine x_iload hM dX7_ownersIn_97 rfl ?_
        refine hR.i dX7_ownersIn_99 (Nat.zero_le _) (Nat.zero_le _) ?_
        exact p_rI (by rw [show i = 10 by omega, pcK_M, hce])
      · exfalso; omega
    | succ k ih =>
      intro i c hc hce hi
      refine x_iload hM dX7_ownersIn_73 rfl ?_
      refine x_bipush hM dX7_ownersIn_75 rfl ?_
      refine x_icmp_ge (tgt := 97) hM dX7_ownersIn_77 (by decide) (by omega) (by omega) (fun c_77 => ?_) (fun c_77 => ?_)
      · exfalso; omega
      · refine x_iload hM dX7_ownersIn_80 rfl ?_
        refine x_iload_n hM dX7_ownersIn_82 rfl rfl ?_
        refine x_iload hM dX7_ownersIn_83 rfl ?_
        refine x_ishr hM dX7_ownersIn_85 rfl ?_
        refine x_iconst hM dX7_ownersIn_86 ?_
        refine x_iand hM dX7_ownersIn_87 ?_
        rw [shr_all i (by omega) c hc]
        refine x_iadd hM dX7_ownersIn_88 ?_
        refine x_istore hM dX7_ownersIn_89 rfl (Nat.le_of_ble_eq_true rfl) rfl ?_
        refine x_iinc hM dX7_ownersIn_91 rfl rfl rfl ?_
        refine x_goto (tgt := 73) hM dX7_ownersIn_94 (by decide) ?_
        exact ih (i + 1) c hc hce (by omega)
  have K : ∀ (k i : Nat) (c : Nat) (x5 : Option Value), t.L.length - i < k → i ≤ t.L.length → c < 1024 → (t.L.drop i).foldl (moS a b) c = moF t.L a b → P 5 [some (.ref m), some (.int (iI a)), some (.int (iI b)), some (.int (iI c)), some (.int (iI i)), x5] [] w (z, 0, 0) := by
    intro k
    induction k with
    | zero => intro i c x5 hk; omega
    | succ k ih =>
      intro i c x5 hk hi hc hinv
      by_cases hlt : i < t.L.length
      · have hg := np_at hp hlt
        rw [drop_fold _ _ hlt] at hinv
        refine x_iload hM dX7_ownersIn_5 rfl ?_
        refine x_aload_n hM dX7_ownersIn_7 rfl rfl ?_
        refine x_get hM wf_X7_7 wl_X7 (by first | assumption | exact md_o (by assumption)) rfl dX7_ownersIn_8 ?_
        refine x_bipush hM dX7_ownersIn_11 rfl ?_
        refine x_iald hM (by first | assumption | exact row_c (by first | assumption | exact sr1 (by assumption) | exact sr2 (by assumption) | exact sr3 (by assumption) | exact sr4 (by assumption) | exact sr5 (by assumption) | exact rg1 (by assumption) | exact rg2 (by assumption) | exact rg3 (by assumption))) (by omega) dX7_ownersIn_13 ?_
        rw [np_n hp]
        refine x_icmp_ge (tgt := 67) hM dX7_ownersIn_14 (by decide) (by omega) (by omega) (fun c_14 => ?_) (fun c_14 => ?_)
        · exfalso; omega
        · refine x_iload_n hM dX7_ownersIn_17 rfl rfl ?_
          refine x_aload_n hM dX7_ownersIn_18 rfl rfl ?_
          refine x_iload hM dX7_ownersIn_19 rfl ?_
          refine x_callV hM wv_X7_87 (m_X7_ownerOf (by assumption) (by omega)) ⟨Nat.le_of_ble_eq_true rfl, Nat.le_of_ble_eq_true rfl⟩ (by first | assumption | exact md_o (by assumption)) rfl rfl rfl rfl (Nat.le_of_ble_eq_true rfl) ⟨Nat.le_of_ble_eq_true rfl, Nat.le_of_ble_eq_true rfl⟩ dX7_ownersIn_21 (k_rI ?_)
          refine x_if_lt (tgt := 58) hM dX7_ownersIn_24 (by decide) (by omega) (fun c_24 => ?_) (fun c_24 => ?_)
          · refine x_iconst hM dX7_ownersIn_58 ?_
            refine x_ior hM dX7_ownersIn_59 ?_
            first | rw [or_iI] | rw [show iI (c : Nat) ||| iI 0 = iI ((c ||| 0 : Nat) : Int) from or_iI c 0, Nat.or_zero]
            refine x_istore_n hM dX7_ownersIn_60 rfl rfl (Nat.le_of_ble_eq_true rfl) rfl ?_
            refine x_iinc hM dX7_ownersIn_61 rfl rfl rfl ?_
            refine x_goto (tgt := 5) hM dX7_ownersIn_64 (by decide) ?_
            first | (rw [show moS a b c t.L[i] = c ||| 2 ^ t.L[i].1.toNat from if_pos (by omega)] at hinv; exact ih (i + 1) _ _ (by omega) (by omega) (or_lt hc (two_lt (by omega))) hinv) | (rw [show moS a b c t.L[i] = c from if_neg (by omega)] at hinv; exact ih (i + 1) _ _ (by omega) (by omega) hc hinv)
          · refine x_aload_n hM dX7_ownersIn_27 rfl rfl ?_
            refine x_iload hM dX7_ownersIn_28 rfl ?_
            refine x_callV hM wv_X7_81 (m_X7_first (by assumption) (by omega)) ⟨Nat.le_of_ble_eq_true rfl, Nat.le_of_ble_eq_true rfl⟩ (by first | assumption | exact md_o (by assumption)) rfl rfl rfl rfl (Nat.le_of_ble_eq_true rfl) ⟨Nat.le_of_ble_eq_true rfl, Nat.le_of_ble_eq_true rfl⟩ dX7_ownersIn_30 (k_rI ?_)
            refine x_iload_n hM dX7_ownersIn_33 rfl rfl ?_
            refine x_icmp_ge (tgt := 58) hM dX7_ownersIn_34 (by decide) (by omega) (by omega) (fun c_34 => ?_) (fun c_34 => ?_)
            · refine x_iconst hM dX7_ownersIn_58 ?_
              refine x_ior hM dX7_ownersIn_59 ?_
              first | rw [or_iI] | rw [show iI (c : Nat) ||| iI 0 = iI ((c ||| 0 : Nat) : Int) from or_iI c 0, Nat.or_zero]
              refine x_istore_n hM dX7_ownersIn_60 rfl rfl (Nat.le_of_ble_eq_true rfl) rfl ?_
              refine x_iinc hM dX7_ownersIn_61 rfl rfl rfl ?_
              refine x_goto (tgt := 5) hM dX7_ownersIn_64 (by decide) ?_
              first | (rw [show moS a b c t.L[i] = c ||| 2 ^ t.L[i].1.toNat from if_pos (by omega)] at hinv; exact ih (i + 1) _ _ (by omega) (by omega) (or_lt hc (two_lt (by omega))) hinv) | (rw [show moS a b c t.L[i] = c from if_neg (by omega)] at hinv; exact ih (i + 1) _ _ (by omega) (by omega) hc hinv)
            · refine x_aload_n hM dX7_ownersIn_37 rfl rfl ?_
              refine x_iload hM dX7_ownersIn_38 rfl ?_
              refine x_callV hM wv_X7_84 (m_X7_behind (by assumption) (by omega)) ⟨Nat.le_of_ble_eq_true rfl, Nat.le_of_ble_eq_true rfl⟩ (by first | assumption | exact md_o (by assumption)) rfl rfl rfl rfl (Nat.le_of_ble_eq_true rfl) ⟨Nat.le_of_ble_eq_true rfl, Nat.le_of_ble_eq_true rfl⟩ dX7_ownersIn_40 (k_rI ?_)
              refine x_iload_n hM dX7_ownersIn_43 rfl rfl ?_
              refine x_icmp_le (tgt := 58) hM dX7_ownersIn_44 (by decide) (by omega) (by omega) (fun c_44 => ?_) (fun c_44 => ?_)
              · refine x_iconst hM dX7_ownersIn_58 ?_
                refine x_ior hM dX7_ownersIn_59 ?_
                first | rw [or_iI] | rw [show iI (c : Nat) ||| iI 0 = iI ((c ||| 0 : Nat) : Int) from or_iI c 0, Nat.or_zero]
                refine x_istore_n hM dX7_ownersIn_60 rfl rfl (Nat.le_of_ble_eq_true rfl) rfl ?_
                refine x_iinc hM dX7_ownersIn_61 rfl rfl rfl ?_
                refine x_goto (tgt := 5) hM dX7_ownersIn_64 (by decide) ?_
                first | (rw [show moS a b c t.L[i] = c ||| 2 ^ t.L[i].1.toNat from if_pos (by omega)] at hinv; exact ih (i + 1) _ _ (by omega) (by omega) (or_lt hc (two_lt (by omega))) hinv) | (rw [show moS a b c t.L[i] = c from if_neg (by omega)] at hinv; exact ih (i + 1) _ _ (by omega) (by omega) hc hinv)
              · refine x_iconst hM dX7_ownersIn_47 ?_
                refine x_aload_n hM dX7_ownersIn_48 rfl rfl ?_
                refine x_iload hM dX7_ownersIn_49 rfl ?_
                refine x_callV hM wv_X7_87 (m_X7_ownerOf (by assumption) (by omega)) ⟨Nat.le_of_ble_eq_true rfl, Nat.le_of_ble_eq_true rfl⟩ (by first | assumption | exact md_o (by assumption)) rfl rfl rfl rfl (Nat.le_of_ble_eq_true rfl) ⟨Nat.le_of_ble_eq_true rfl, Nat.le_of_ble_eq_true rfl⟩ dX7_ownersIn_51 (k_rI ?_)
                refine x_ishl hM dX7_ownersIn_54 (shl_iI (by omega)) ?_
                refine x_goto (tgt := 59) hM dX7_ownersIn_55 (by decide) ?_
                refine x_ior hM dX7_ownersIn_59 ?_
                first | rw [or_iI] | rw [show iI (c : Nat) ||| iI 0 = iI ((c ||| 0 : Nat) : Int) from or_iI c 0, Nat.or_zero]
                refine x_istore_n hM dX7_ownersIn_60 rfl rfl (Nat.le_of_ble_eq_true rfl) rfl ?_
                refine x_iinc hM dX7_ownersIn_61 rfl rfl rfl ?_
                refine x_goto (tgt := 5) hM dX7_ownersIn_64 (by decide) ?_
                first | (rw [show moS a b c t.L[i] = c ||| 2 ^ t.L[i].1.toNat from if_pos (by omega)] at hinv; exact ih (i + 1) _ _ (by omega) (by omega) (or_lt hc (two_lt (by omega))) hinv) | (rw [show moS a b c t.L[i] = c from if_neg (by omega)] at hinv; exact ih (i + 1) _ _ (by omega) (by omega) hc hinv)
      · skip
        refine x_iload hM dX7_ownersIn_5 rfl ?_
        refine x_aload_n hM dX7_ownersIn_7 rfl rfl ?_
        refine x_get hM wf_X7_7 wl_X7 (by first | assumption | exact md_o (by assumption)) rfl dX7_ownersIn_8 ?_
        refine x_bipush hM dX7_ownersIn_11 rfl ?_
        refine x_iald hM (by first | assumption | exact row_c (by first | assumption | exact sr1 (by assumption) | exact sr2 (by assumption) | exact sr3 (by assumption) | exact sr4 (by assumption) | exact sr5 (by assumption) | exact rg1 (by assumption) | exact rg2 (by assumption) | exact rg3 (by assumption))) (by omega) dX7_ownersIn_13 ?_
        rw [np_n hp]
        refine x_icmp_ge (tgt := 67) hM dX7_ownersIn_14 (by decide) (by omega) (by omega) (fun c_14 => ?_) (fun c_14 => ?_)
        · refine x_iconst hM dX7_ownersIn_67 ?_
          refine x_istore hM dX7_ownersIn_68 rfl (Nat.le_of_ble_eq_true rfl) rfl ?_
          refine x_iconst hM dX7_ownersIn_70 ?_
          refine x_istore hM dX7_ownersIn_71 rfl (Nat.le_of_ble_eq_true rfl) rfl ?_
          exact K2 10 0 c hc (by rw [← hinv, drop_foldE _ _ (by omega)]) rfl
        · exfalso; omega
  refine x_iconst hM dX7_ownersIn_0 ?_
  refine x_istore_n hM dX7_ownersIn_1 rfl rfl (Nat.le_of_ble_eq_true rfl) rfl ?_
  refine x_iconst hM dX7_ownersIn_2 ?_
  refine x_istore hM dX7_ownersIn_3 rfl (Nat.le_of_ble_eq_true rfl) rfl ?_
  exact K _ 0 0 _ (Nat.lt_succ_self _) (Nat.zero_le _) (by omega) rfl
/-- from a first meter on: the best one, the fewest owners -/
def quL (L : List Sg) (n : Int) : Nat → Int → Int → Int → Int × Int
  | 0, _, b, fw => (b, fw)
  | k + 1, a, b, fw => if a + n ≤ 10000 ∧ 0 < fw then quL L n k (a + 1) (if (pcM (moF L a (a + n)) : Int) < fw then a else b) (if (pcM (moF L a (a + n)) : Int) < fw then pcM (moF L a (a + n)) else fw) else (b, fw)
def quV (L : List Sg) (n k : Int) : Int := if (1 ≤ n ∧ n ≤ 10000) ∧ 0 ≤ k ∧ k ≤ 1 then (if k = 0 then (quL L n 10001 0 0 99).1 else (quL L n 10001 0 0 99).2) else -2
theorem m_X7_quietest {l : Launch} {G : xG} {w : Wd} {z m : Nat} {f : Int → Int} {t : St} {n k0 : Int} (h : rdA G w m f t) (hn0 : iR n) (hk0 : iR k0) : xMet l G yX7_quietest cX7_quietest 7 (some .int) ({ frames := 3, cells := 0, slots := 0, locals := 67 } : Room) [.ref m, .int (iI n), .int (iI k0)] w z (rI (quV t.L n k0) w z) := by
  obtain ⟨⟨un, sg, it, rw', mn, pl, wr, hh⟩, hn, hp⟩ := id h
  have hl := (np_w hp).1
  refine xMet_of RX7 rfl (by decide +kernel) false (by decide +kernel) (Nat.le_of_ble_eq_true rfl) rfl ?_
  intro P hM hR
  by_cases c3 : (1 ≤ n ∧ n ≤ 10000) ∧ 0 ≤ k0 ∧ k0 ≤ 1
  · have E : ∀ (a b fw : Int) (x6 : Option Value), (b, fw) = quL t.L n 10001 0 0 99 → P 95 [some (.ref m), some (.int (iI n)), some (.int (iI k0)), some (.int (iI b)), some (.int (iI fw)), some (.int (iI a)), x6] [] w (z, 0, 0) := by
      intro a b fw x6 hinv
      refine x_iload_n hM dX7_quietest_95 rfl rfl ?_
      refine x_if_ne (tgt := 103) hM dX7_quietest_96 (by decide) (by omega) (fun c_96 => ?_) (fun c_96 => ?_)
      · refine x_iload hM dX7_quietest_103 rfl ?_
        refine hR.i dX7_quietest_105 (Nat.zero_le _) (Nat.zero_le _) ?_
        first | exact p_rI (by unfold quV; rw [if_pos c3, if_pos (by assumption), ← hinv]) | exact p_rI (by unfold quV; rw [if_pos c3, if_neg (by omega), ← hinv])
      · refine x_iload_n hM dX7_quietest_99 rfl rfl ?_
        refine x_goto (tgt := 105) hM dX7_quietest_100 (by decide) ?_
        refine hR.i dX7_quietest_105 (Nat.zero_le _) (Nat.zero_le _) ?_
        first | exact p_rI (by unfold quV; rw [if_pos c3, if_pos (by assumption), ← hinv]) | exact p_rI (by unfold quV; rw [if_pos c3, if_neg (by omega), ← hinv])
    have K : ∀ (k : Nat) (a b fw : Int) (x6 : Option Value), 10001 ≤ a + k → 0 ≤ a ∧ a ≤ 10001 → 0 ≤ fw ∧ fw ≤ 99 → quL t.L n k a b fw = quL t.L n 10001 0 0 99 → P 32 [some (.ref m), some (.int (iI n)), some (.int (iI k0)), some (.int (iI b)), some (.int (iI fw)), some (.int (iI a)), x6] [] w (z, 0, 0) := by
      intro k
      induction k with
      | zero =>
        intro a b fw x6 hk ha hf hinv
        refine x_iload hM dX7_quietest_32 rfl ?_
        refine x_iload_n hM dX7_quietest_34 rfl rfl ?_
        refine x_iadd hM dX7_quietest_35 ?_
        refine x_sipush hM dX7_quietest_36 rfl ?_
        refine x_icmp_gt (tgt := 95) hM dX7_quietest_39 (by decide) (by omega) (by omega) (fun c_39 => ?_) (fun c_39 => ?_)
        · exact E a b fw x6 hinv
        · exfalso; omega
      | succ k ih =>
        intro a b fw x6 hk ha hf hinv
        have hb := pcM_b (moF t.L a (a + n))
        refine x_iload hM dX7_quietest_32 rfl ?_
        refine x_iload_n hM dX7_quietest_34 rfl rfl ?_
        refine x_iadd hM dX7_quietest_35 ?_
        refine x_sipush hM dX7_quietest_36 rfl ?_
        refine x_icmp_gt (tgt := 95) hM dX7_quietest_39 (by decide) (by omega) (by omega) (fun c_39 => ?_) (fun c_39 => ?_)
        · exact E a b fw x6 ((if_neg (by omega)).symm.trans hinv)
        · refine x_iload hM dX7_quietest_42 rfl ?_
          refine x_if_le (tgt := 95) hM dX7_quietest_44 (by decide) (by omega) (fun c_44 => ?_) (fun c_44 => ?_)
          · exact E a b fw x6 ((if_neg (by omega)).symm.trans hinv)
          · refine x_aload_n hM dX7_quietest_47 rfl rfl ?_
            refine x_iload hM dX7_quietest_48 rfl ?_
            refine x_iload hM dX7_quietest_50 rfl ?_
            refine x_iload_n hM dX7_quietest_52 rfl rfl ?_
            refine x_iadd hM dX7_quietest_53 ?_
            refine x_callV hM wv_X7_191 (m_X7_ownersIn (by assumption) (by omega) (by omega)) ⟨Nat.le_of_ble_eq_true rfl, Nat.le_of_ble_eq_true rfl⟩ (by first | assumption | exact md_o (by assumption)) rfl rfl rfl rfl (Nat.le_of_ble_eq_true rfl) ⟨Nat.le_of_ble_eq_true rfl, Nat.le_of_ble_eq_true rfl⟩ dX7_quietest_54 (k_rI ?_)
            have e1 : quL t.L n (k + 1) a b fw = _ := if_pos (by omega)
            refine x_istore hM dX7_quietest_57 rfl (Nat.le_of_ble_eq_true rfl) rfl ?_
            refine x_iload hM dX7_quietest_59 rfl ?_
            refine x_iload hM dX7_quietest_61 rfl ?_
            refine x_icmp_ge (tgt := 71) hM dX7_quietest_63 (by decide) (by omega) (by omega) (fun c_63 => ?_) (fun c_63 => ?_)
            · refine x_iload_n hM dX7_quietest_71 rfl rfl ?_
              refine x_istore_n hM dX7_quietest_72 rfl rfl (Nat.le_of_ble_eq_true rfl) rfl ?_
              refine x_iload hM dX7_quietest_73 rfl ?_
              refine x_iload hM dX7_quietest_75 rfl ?_
              refine x_icmp_ge (tgt := 85) hM dX7_quietest_77 (by decide) (by omega) (by omega) (fun c_77 => ?_) (fun c_77 => ?_)
              · refine x_iload hM dX7_quietest_85 rfl ?_
                refine x_istore hM dX7_quietest_87 rfl (Nat.le_of_ble_eq_true rfl) rfl ?_
                refine x_iinc hM dX7_quietest_89 rfl rfl rfl ?_
                refine x_goto (tgt := 32) hM dX7_quietest_92 (by decide) ?_
                rw [e1] at hinv
                exact ih (a + 1) _ _ _ (by omega) (by omega) (by omega) (by rw [← hinv]; congr 1 <;> split <;> omega)
              · refine x_iload hM dX7_quietest_80 rfl ?_
                refine x_goto (tgt := 87) hM dX7_quietest_82 (by decide) ?_
                refine x_istore hM dX7_quietest_87 rfl (Nat.le_of_ble_eq_true rfl) rfl ?_
                refine x_iinc hM dX7_quietest_89 rfl rfl rfl ?_
                refine x_goto (tgt := 32) hM dX7_quietest_92 (by decide) ?_
                rw [e1] at hinv
                exact ih (a + 1) _ _ _ (by omega) (by omega) (by omega) (by rw [← hinv]; congr 1 <;> split <;> omega)
            · refine x_iload hM dX7_quietest_66 rfl ?_
              refine x_goto (tgt := 72) hM dX7_quietest_68 (by decide) ?_
              refine x_istore_n hM dX7_quietest_72 rfl rfl (Nat.le_of_ble_eq_true rfl) rfl ?_
              refine x_iload hM dX7_quietest_73 rfl ?_
              refine x_iload hM dX7_quietest_75 rfl ?_
              refine x_icmp_ge (tgt := 85) hM dX7_quietest_77 (by decide) (by omega) (by omega) (fun c_77 => ?_) (fun c_77 => ?_)
              · refine x_iload hM dX7_quietest_85 rfl ?_
                refine x_istore hM dX7_quietest_87 rfl (Nat.le_of_ble_eq_true rfl) rfl ?_
                refine x_iinc hM dX7_quietest_89 rfl rfl rfl ?_
                refine x_goto (tgt := 32) hM dX7_quietest_92 (by decide) ?_
                rw [e1] at hinv
                exact ih (a + 1) _ _ _ (by omega) (by omega) (by omega) (by rw [← hinv]; congr 1 <;> split <;> omega)
              · refine x_iload hM dX7_quietest_80 rfl ?_
                refine x_goto (tgt := 87) hM dX7_quietest_82 (by decide) ?_
                refine x_istore hM dX7_quietest_87 rfl (Nat.le_of_ble_eq_true rfl) rfl ?_
                refine x_iinc hM dX7_quietest_89 rfl rfl rfl ?_
                refine x_goto (tgt := 32) hM dX7_quietest_92 (by decide) ?_
                rw [e1] at hinv
                exact ih (a + 1) _ _ _ (by omega) (by omega) (by omega) (by rw [← hinv]; congr 1 <;> split <;> omega)
    refine x_iload_n hM dX7_quietest_0 rfl rfl ?_
    refine x_iconst hM dX7_quietest_1 ?_
    refine x_sipush hM dX7_quietest_2 rfl ?_
    refine x_callS hM ws_X7_62 (m_X7_in (by omega) (by omega) (by omega)) ⟨Nat.le_of_ble_eq_true rfl, Nat.le_of_ble_eq_true rfl⟩ rfl rfl (Nat.le_of_ble_eq_true rfl) ⟨Nat.le_of_ble_eq_true rfl, Nat.le_of_ble_eq_true rfl⟩ dX7_quietest_5 (k_rI ?_)
    rw [if_pos (by omega)]
    refine x_if_eq (tgt := 20) hM dX7_quietest_8 (by decide) (by omega) (fun c_8 => ?_) (fun c_8 => ?_)
    · refine x_bipush hM dX7_quietest_20 rfl ?_
      exfalso; omega
    · refine x_iload_n hM dX7_quietest_11 rfl rfl ?_
      refine x_iconst hM dX7_quietest_12 ?_
      refine x_iconst hM dX7_quietest_13 ?_
      refine x_callS hM ws_X7_62 (m_X7_in (by omega) (by omega) (by omega)) ⟨Nat.le_of_ble_eq_true rfl, Nat.le_of_ble_eq_true rfl⟩ rfl rfl (Nat.le_of_ble_eq_true rfl) ⟨Nat.le_of_ble_eq_true rfl, Nat.le_of_ble_eq_true rfl⟩ dX7_quietest_14 (k_rI ?_)
      rw [if_pos (by omega)]
      refine x_if_ne (tgt := 23) hM dX7_quietest_17 (by decide) (by omega) (fun c_17 => ?_) (fun c_17 => ?_)
      · refine x_iconst hM dX7_quietest_23 ?_
        refine x_istore_n hM dX7_quietest_24 rfl rfl (Nat.le_of_ble_eq_true rfl) rfl ?_
        refine x_bipush hM dX7_quietest_25 rfl ?_
        refine x_istore hM dX7_quietest_27 rfl (Nat.le_of_ble_eq_true rfl) rfl ?_
        refine x_iconst hM dX7_quietest_29 ?_
        refine x_istore hM dX7_quietest_30 rfl (Nat.le_of_ble_eq_true rfl) rfl ?_
        exact K 10001 0 0 99 _ (by omega) (by omega) (by omega) rfl
      · refine x_bipush hM dX7_quietest_20 rfl ?_
        exfalso; omega
  · skip
    refine x_iload_n hM dX7_quietest_0 rfl rfl ?_
    refine x_iconst hM dX7_quietest_1 ?_
    refine x_sipush hM dX7_quietest_2 rfl ?_
    refine x_callS hM ws_X7_62 (m_X7_in (by omega) (by omega) (by omega)) ⟨Nat.le_of_ble_eq_true rfl, Nat.le_of_ble_eq_true rfl⟩ rfl rfl (Nat.le_of_ble_eq_true rfl) ⟨Nat.le_of_ble_eq_true rfl, Nat.le_of_ble_eq_true rfl⟩ dX7_quietest_5 (k_rI ?_)
    by_cases c1 : 1 ≤ n ∧ n ≤ 10000
    · rw [if_pos c1]
      refine x_if_eq (tgt := 20) hM dX7_quietest_8 (by decide) (by omega) (fun q => absurd q (by decide)) (fun _ => ?_)
      refine x_iload_n hM dX7_quietest_11 rfl rfl ?_
      refine x_iconst hM dX7_quietest_12 ?_
      refine x_iconst hM dX7_quietest_13 ?_
      refine x_callS hM ws_X7_62 (m_X7_in (by omega) (by omega) (by omega)) ⟨Nat.le_of_ble_eq_true rfl, Nat.le_of_ble_eq_true rfl⟩ rfl rfl (Nat.le_of_ble_eq_true rfl) ⟨Nat.le_of_ble_eq_true rfl, Nat.le_of_ble_eq_true rfl⟩ dX7_quietest_14 (k_rI ?_)
      by_cases c2 : 0 ≤ k0 ∧ k0 ≤ 1
      · rw [if_pos c2]
        refine x_if_ne (tgt := 23) hM dX7_quietest_17 (by decide) (by omega) (fun _ => ?_) (fun q => absurd q (by decide))
        exact absurd ⟨c1, c2⟩ c3
      · rw [if_neg c2]
        refine x_if_ne (tgt := 23) hM dX7_quietest_17 (by decide) (by omega) (fun q => absurd rfl q) (fun _ => ?_)
        refine x_bipush hM dX7_quietest_20 rfl ?_
        refine hR.i dX7_quietest_22 (Nat.zero_le _) (Nat.zero_le _) ?_
        exact p_rI (if_neg c3).symm
    · rw [if_neg c1]
      refine x_if_eq (tgt := 20) hM dX7_quietest_8 (by decide) (by omega) (fun _ => ?_) (fun q => absurd rfl q)
      refine x_bipush hM dX7_quietest_20 rfl ?_
      refine hR.i dX7_quietest_22 (Nat.zero_le _) (Nat.zero_le _) ?_
      exact p_rI (if_neg c3).symm
theorem m_X7_gaps {l : Launch} {G : xG} {w : Wd} {z m : Nat} {f : Int → Int} {t : St} {o : Int} (h : rdA G w m f t) (ho : iR o) : xMet l G yX7_gaps cX7_gaps 5 (some .int) ({ frames := 4, cells := 0, slots := 0, locals := 90 } : Room) [.ref m, .int (iI o)] w z (rI (gpsV t o) w z) := by
  obtain ⟨⟨un, sg, it, rw', mn, pl, wr, hh⟩, hn, hp⟩ := id h
  have hl := (np_w hp).1
  refine xMet_of RX7 rfl (by decide +kernel) false (by decide +kernel) (Nat.le_of_ble_eq_true rfl) rfl ?_
  intro P hM hR
  by_cases c1 : 0 ≤ o ∧ o < t.own
  · skip
    have K : ∀ (k i : Nat) (a b : Int), t.L.length - i < k → i ≤ t.L.length → (a = -6 ∨ (0 ≤ a ∧ a ≤ 10000)) → (t.L.drop i).foldl (mbtS o) (a, b) = t.L.foldl (mbtS o) (-6, 0) → P 18 [some (.ref m), some (.int (iI o)), some (.int (iI a)), some (.int (iI b)), some (.int (iI i))] [] w (z, 0, 0) := by
      intro k
      induction k with
      | zero => intro i a b hk; omega
      | succ k ih =>
        intro i a b hk hi ha hinv
        by_cases hlt : i < t.L.length
        · have hg := np_at hp hlt
          rw [drop_fold _ _ hlt] at hinv
          refine x_iload hM dX7_gaps_18 rfl ?_
          refine x_aload_n hM dX7_gaps_20 rfl rfl ?_
          refine x_get hM wf_X7_7 wl_X7 (by first | assumption | exact md_o (by assumption)) rfl dX7_gaps_21 ?_
          refine x_bipush hM dX7_gaps_24 rfl ?_
          refine x_iald hM (by first | assumption | exact row_c (by first | assumption | exact sr1 (by assumption) | exact sr2 (by assumption) | exact sr3 (by assumption) | exact sr4 (by assumption) | exact sr5 (by assumption) | exact rg1 (by assumption) | exact rg2 (by assumption) | exact rg3 (by assumption))) (by omega) dX7_gaps_26 ?_
          rw [np_n hp]
          refine x_icmp_ge (tgt := 82) hM dX7_gaps_27 (by decide) (by omega) (by omega) (fun c_27 => ?_) (fun c_27 => ?_)
          · exfalso; omega
          · refine x_aload_n hM dX7_gaps_30 rfl rfl ?_
            refine x_iload hM dX7_gaps_31 rfl ?_
            refine x_callV hM wv_X7_87 (m_X7_ownerOf (by assumption) (by omega)) ⟨Nat.le_of_ble_eq_true rfl, Nat.le_of_ble_eq_true rfl⟩ (by first | assumption | exact md_o (by assumption)) rfl rfl rfl rfl (Nat.le_of_ble_eq_true rfl) ⟨Nat.le_of_ble_eq_true rfl, Nat.le_of_ble_eq_true rfl⟩ dX7_gaps_33 (k_rI ?_)
            refine x_iload_n hM dX7_gaps_36 rfl rfl ?_
            refine x_icmp_ne (tgt := 53) hM dX7_gaps_37 (by decide) (by omega) (by omega) (fun c_37 => ?_) (fun c_37 => ?_)
            · refine x_iload_n hM dX7_gaps_53 rfl rfl ?_
              refine x_istore_n hM dX7_gaps_54 rfl rfl (Nat.le_of_ble_eq_true rfl) rfl ?_
              refine x_aload_n hM dX7_gaps_55 rfl rfl ?_
              refine x_iload hM dX7_gaps_56 rfl ?_
              refine x_callV hM wv_X7_87 (m_X7_ownerOf (by assumption) (by omega)) ⟨Nat.le_of_ble_eq_true rfl, Nat.le_of_ble_eq_true rfl⟩ (by first | assumption | exact md_o (by assumption)) rfl rfl rfl rfl (Nat.le_of_ble_eq_true rfl) ⟨Nat.le_of_ble_eq_true rfl, Nat.le_of_ble_eq_true rfl⟩ dX7_gaps_58 (k_rI ?_)
              refine x_iload_n hM dX7_gaps_61 rfl rfl ?_
              refine x_icmp_ne (tgt := 74) hM dX7_gaps_62 (by decide) (by omega) (by omega) (fun c_62 => ?_) (fun c_62 => ?_)
              · refine x_iload_n hM dX7_gaps_74 rfl rfl ?_
                refine x_istore_n hM dX7_gaps_75 rfl rfl (Nat.le_of_ble_eq_true rfl) rfl ?_
                refine x_iinc hM dX7_gaps_76 rfl rfl rfl ?_
                refine x_goto (tgt := 18) hM dX7_gaps_79 (by decide) ?_
                refine ih (i + 1) _ _ (by omega) (by omega) (by omega) (Eq.trans ?_ hinv)
                congr 1
                unfold mbtS
                split
                · refine Prod.ext ?_ ?_
                  · dsimp only
                    try split <;> omega
                  · dsimp only; try omega
                · refine Prod.ext ?_ ?_ <;> (dsimp only; try omega)
              · refine x_aload_n hM dX7_gaps_65 rfl rfl ?_
                refine x_iload hM dX7_gaps_66 rfl ?_
                refine x_callV hM wv_X7_84 (m_X7_behind (by assumption) (by omega)) ⟨Nat.le_of_ble_eq_true rfl, Nat.le_of_ble_eq_true rfl⟩ (by first | assumption | exact md_o (by assumption)) rfl rfl rfl rfl (Nat.le_of_ble_eq_true rfl) ⟨Nat.le_of_ble_eq_true rfl, Nat.le_of_ble_eq_true rfl⟩ dX7_gaps_68 (k_rI ?_)
                refine x_goto (tgt := 75) hM dX7_gaps_71 (by decide) ?_
                refine x_istore_n hM dX7_gaps_75 rfl rfl (Nat.le_of_ble_eq_true rfl) rfl ?_
                refine x_iinc hM dX7_gaps_76 rfl rfl rfl ?_
                refine x_goto (tgt := 18) hM dX7_gaps_79 (by decide) ?_
                refine ih (i + 1) _ _ (by omega) (by omega) (by omega) (Eq.trans ?_ hinv)
                congr 1
                unfold mbtS
                split
                · refine Prod.ext ?_ ?_
                  · dsimp only
                    try split <;> omega
                  · dsimp only; try omega
                · refine Prod.ext ?_ ?_ <;> (dsimp only; try omega)
            · refine x_iload_n hM dX7_gaps_40 rfl rfl ?_
              refine x_if_ge (tgt := 53) hM dX7_gaps_41 (by decide) (by omega) (fun c_41 => ?_) (fun c_41 => ?_)
              · refine x_iload_n hM dX7_gaps_53 rfl rfl ?_
                refine x_istore_n hM dX7_gaps_54 rfl rfl (Nat.le_of_ble_eq_true rfl) rfl ?_
                refine x_aload_n hM dX7_gaps_55 rfl rfl ?_
                refine x_iload hM dX7_gaps_56 rfl ?_
                refine x_callV hM wv_X7_87 (m_X7_ownerOf (by assumption) (by omega)) ⟨Nat.le_of_ble_eq_true rfl, Nat.le_of_ble_eq_true rfl⟩ (by first | assumption | exact md_o (by assumption)) rfl rfl rfl rfl (Nat.le_of_ble_eq_true rfl) ⟨Nat.le_of_ble_eq_true rfl, Nat.le_of_ble_eq_true rfl⟩ dX7_gaps_58 (k_rI ?_)
                refine x_iload_n hM dX7_gaps_61 rfl rfl ?_
                refine x_icmp_ne (tgt := 74) hM dX7_gaps_62 (by decide) (by omega) (by omega) (fun c_62 => ?_) (fun c_62 => ?_)
                · refine x_iload_n hM dX7_gaps_74 rfl rfl ?_
                  refine x_istore_n hM dX7_gaps_75 rfl rfl (Nat.le_of_ble_eq_true rfl) rfl ?_
                  refine x_iinc hM dX7_gaps_76 rfl rfl rfl ?_
                  refine x_goto (tgt := 18) hM dX7_gaps_79 (by decide) ?_
                  refine ih (i + 1) _ _ (by omega) (by omega) (by omega) (Eq.trans ?_ hinv)
                  congr 1
                  unfold mbtS
                  split
                  · refine Prod.ext ?_ ?_
                    · dsimp only
                      try split <;> omega
                    · dsimp only; try omega
                  · refine Prod.ext ?_ ?_ <;> (dsimp only; try omega)
                · refine x_aload_n hM dX7_gaps_65 rfl rfl ?_
                  refine x_iload hM dX7_gaps_66 rfl ?_
                  refine x_callV hM wv_X7_84 (m_X7_behind (by assumption) (by omega)) ⟨Nat.le_of_ble_eq_true rfl, Nat.le_of_ble_eq_true rfl⟩ (by first | assumption | exact md_o (by assumption)) rfl rfl rfl rfl (Nat.le_of_ble_eq_true rfl) ⟨Nat.le_of_ble_eq_true rfl, Nat.le_of_ble_eq_true rfl⟩ dX7_gaps_68 (k_rI ?_)
                  refine x_goto (tgt := 75) hM dX7_gaps_71 (by decide) ?_
                  refine x_istore_n hM dX7_gaps_75 rfl rfl (Nat.le_of_ble_eq_true rfl) rfl ?_
                  refine x_iinc hM dX7_gaps_76 rfl rfl rfl ?_
                  refine x_goto (tgt := 18) hM dX7_gaps_79 (by decide) ?_
                  refine ih (i + 1) _ _ (by omega) (by omega) (by omega) (Eq.trans ?_ hinv)
                  congr 1
                  unfold mbtS
                  split
                  · refine Prod.ext ?_ ?_
                    · dsimp only
                      try split <;> omega
                    · dsimp only; try omega
                  · refine Prod.ext ?_ ?_ <;> (dsimp only; try omega)
              · refine x_aload_n hM dX7_gaps_44 rfl rfl ?_
                refine x_iload hM dX7_gaps_45 rfl ?_
                refine x_callV hM wv_X7_81 (m_X7_first (by assumption) (by omega)) ⟨Nat.le_of_ble_eq_true rfl, Nat.le_of_ble_eq_true rfl⟩ (by first | assumption | exact md_o (by assumption)) rfl rfl rfl rfl (Nat.le_of_ble_eq_true rfl) ⟨Nat.le_of_ble_eq_true rfl, Nat.le_of_ble_eq_true rfl⟩ dX7_gaps_47 (k_rI ?_)
                refine x_goto (tgt := 54) hM dX7_gaps_50 (by decide) ?_
                refine x_istore_n hM dX7_gaps_54 rfl rfl (Nat.le_of_ble_eq_true rfl) rfl ?_
                refine x_aload_n hM dX7_gaps_55 rfl rfl ?_
                refine x_iload hM dX7_gaps_56 rfl ?_
                refine x_callV hM wv_X7_87 (m_X7_ownerOf (by assumption) (by omega)) ⟨Nat.le_of_ble_eq_true rfl, Nat.le_of_ble_eq_true rfl⟩ (by first | assumption | exact md_o (by assumption)) rfl rfl rfl rfl (Nat.le_of_ble_eq_true rfl) ⟨Nat.le_of_ble_eq_true rfl, Nat.le_of_ble_eq_true rfl⟩ dX7_gaps_58 (k_rI ?_)
                refine x_iload_n hM dX7_gaps_61 rfl rfl ?_
                refine x_icmp_ne (tgt := 74) hM dX7_gaps_62 (by decide) (by omega) (by omega) (fun c_62 => ?_) (fun c_62 => ?_)
                · refine x_iload_n hM dX7_gaps_74 rfl rfl ?_
                  refine x_istore_n hM dX7_gaps_75 rfl rfl (Nat.le_of_ble_eq_true rfl) rfl ?_
                  refine x_iinc hM dX7_gaps_76 rfl rfl rfl ?_
                  refine x_goto (tgt := 18) hM dX7_gaps_79 (by decide) ?_
                  refine ih (i + 1) _ _ (by omega) (by omega) (by omega) (Eq.trans ?_ hinv)
                  congr 1
                  unfold mbtS
                  split
                  · refine Prod.ext ?_ ?_
                    · dsimp only
                      try split <;> omega
                    · dsimp only; try omega
                  · refine Prod.ext ?_ ?_ <;> (dsimp only; try omega)
                · refine x_aload_n hM dX7_gaps_65 rfl rfl ?_
                  refine x_iload hM dX7_gaps_66 rfl ?_
                  refine x_callV hM wv_X7_84 (m_X7_behind (by assumption) (by omega)) ⟨Nat.le_of_ble_eq_true rfl, Nat.le_of_ble_eq_true rfl⟩ (by first | assumption | exact md_o (by assumption)) rfl rfl rfl rfl (Nat.le_of_ble_eq_true rfl) ⟨Nat.le_of_ble_eq_true rfl, Nat.le_of_ble_eq_true rfl⟩ dX7_gaps_68 (k_rI ?_)
                  refine x_goto (tgt := 75) hM dX7_gaps_71 (by decide) ?_
                  refine x_istore_n hM dX7_gaps_75 rfl rfl (Nat.le_of_ble_eq_true rfl) rfl ?_
                  refine x_iinc hM dX7_gaps_76 rfl rfl rfl ?_
                  refine x_goto (tgt := 18) hM dX7_gaps_79 (by decide) ?_
                  refine ih (i + 1) _ _ (by omega) (by omega) (by omega) (Eq.trans ?_ hinv)
                  congr 1
                  unfold mbtS
                  split
                  · refine Prod.ext ?_ ?_
                    · dsimp only
                      try split <;> omega
                    · dsimp only; try omega
                  · refine Prod.ext ?_ ?_ <;> (dsimp only; try omega)
        · skip
          refine x_iload hM dX7_gaps_18 rfl ?_
          refine x_aload_n hM dX7_gaps_20 rfl rfl ?_
          refine x_get hM wf_X7_7 wl_X7 (by first | assumption | exact md_o (by assumption)) rfl dX7_gaps_21 ?_
          refine x_bipush hM dX7_gaps_24 rfl ?_
          refine x_iald hM (by first | assumption | exact row_c (by first | assumption | exact sr1 (by assumption) | exact sr2 (by assumption) | exact sr3 (by assumption) | exact sr4 (by assumption) | exact sr5 (by assumption) | exact rg1 (by assumption) | exact rg2 (by assumption) | exact rg3 (by assumption))) (by omega) dX7_gaps_26 ?_
          rw [np_n hp]
          refine x_icmp_ge (tgt := 82) hM dX7_gaps_27 (by decide) (by omega) (by omega) (fun c_27 => ?_) (fun c_27 => ?_)
          · refine x_iload_n hM dX7_gaps_82 rfl rfl ?_
            refine x_if_ge (tgt := 90) hM dX7_gaps_83 (by decide) (by omega) (fun c_83 => ?_) (fun c_83 => ?_)
            · refine x_iload_n hM dX7_gaps_90 rfl rfl ?_
              refine x_iload_n hM dX7_gaps_91 rfl rfl ?_
              refine x_isub hM dX7_gaps_92 ?_
              refine x_aload_n hM dX7_gaps_93 rfl rfl ?_
              refine x_iload_n hM dX7_gaps_94 rfl rfl ?_
              refine x_callV hM wv_X7_101 (m_X7_metersOf (by assumption) (by omega)) ⟨Nat.le_of_ble_eq_true rfl, Nat.le_of_ble_eq_true rfl⟩ (by first | assumption | exact md_o (by assumption)) rfl rfl rfl rfl (Nat.le_of_ble_eq_true rfl) ⟨Nat.le_of_ble_eq_true rfl, Nat.le_of_ble_eq_true rfl⟩ dX7_gaps_95 (k_rI ?_)
              refine x_isub hM dX7_gaps_98 ?_
              refine hR.i dX7_gaps_99 (Nat.zero_le _) (Nat.zero_le _) ?_
              have e9 : gpsV t o = if a = -6 then 0 else b - a - mtsO t.L o := by unfold gpsV mbtF; rw [if_pos c1, ← hinv, drop_foldE _ _ (by omega)]
              rw [e9]
              first | exact p_rI (if_pos (by omega)).symm | exact p_rI (if_neg (by omega)).symm
            · refine x_iconst hM dX7_gaps_86 ?_
              refine x_goto (tgt := 99) hM dX7_gaps_87 (by decide) ?_
              refine hR.i dX7_gaps_99 (Nat.zero_le _) (Nat.zero_le _) ?_
              have e9 : gpsV t o = if a = -6 then 0 else b - a - mtsO t.L o := by unfold gpsV mbtF; rw [if_pos c1, ← hinv, drop_foldE _ _ (by omega)]
              rw [e9]
              first | exact p_rI (if_pos (by omega)).symm | exact p_rI (if_neg (by omega)).symm
          · exfalso; omega
    refine x_aload_n hM dX7_gaps_0 rfl rfl ?_
    refine x_iload_n hM dX7_gaps_1 rfl rfl ?_
    refine x_callV hM wv_X7_77 (m_X7_isOwner (by assumption) (by omega)) ⟨Nat.le_of_ble_eq_true rfl, Nat.le_of_ble_eq_true rfl⟩ (by first | assumption | exact md_o (by assumption)) rfl rfl rfl rfl (Nat.le_of_ble_eq_true rfl) ⟨Nat.le_of_ble_eq_true rfl, Nat.le_of_ble_eq_true rfl⟩ dX7_gaps_2 (k_rI ?_)
    rw [if_pos c1]
    refine x_if_ne (tgt := 10) hM dX7_gaps_5 (by decide) (by omega) (fun c_5 => ?_) (fun c_5 => ?_)
    · refine x_bipush hM dX7_gaps_10 rfl ?_
      refine x_istore_n hM dX7_gaps_12 rfl rfl (Nat.le_of_ble_eq_true rfl) rfl ?_
      refine x_iconst hM dX7_gaps_13 ?_
      refine x_istore_n hM dX7_gaps_14 rfl rfl (Nat.le_of_ble_eq_true rfl) rfl ?_
      refine x_iconst hM dX7_gaps_15 ?_
      refine x_istore hM dX7_gaps_16 rfl (Nat.le_of_ble_eq_true rfl) rfl ?_
      exact K _ 0 (-6) 0 (Nat.lt_succ_self _) (Nat.zero_le _) (Or.inl rfl) rfl
    · exfalso; omega
  · skip
    refine x_aload_n hM dX7_gaps_0 rfl rfl ?_
    refine x_iload_n hM dX7_gaps_1 rfl rfl ?_
    refine x_callV hM wv_X7_77 (m_X7_isOwner (by assumption) (by omega)) ⟨Nat.le_of_ble_eq_true rfl, Nat.le_of_ble_eq_true rfl⟩ (by first | assumption | exact md_o (by assumption)) rfl rfl rfl rfl (Nat.le_of_ble_eq_true rfl) ⟨Nat.le_of_ble_eq_true rfl, Nat.le_of_ble_eq_true rfl⟩ dX7_gaps_2 (k_rI ?_)
    rw [if_neg c1]
    refine x_if_ne (tgt := 10) hM dX7_gaps_5 (by decide) (by omega) (fun c_5 => ?_) (fun c_5 => ?_)
    · exfalso; omega
    · refine x_iconst hM dX7_gaps_8 ?_
      refine hR.i dX7_gaps_9 (Nat.zero_le _) (Nat.zero_le _) ?_
      exact p_rI (if_neg c1).symm
