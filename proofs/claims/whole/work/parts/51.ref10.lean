/-! The reference: transfers, what would be -/
theorem nowP_tr {f : Int → Int} {t : St} {a1 a2 a3 a4 a5 k : Int} (h : nowP f t) (hl : t.D.length < 8) (hv : okT (a1, a2, a3, a4, a5)) (hk : k = 50 + 5 * (t.D.length : Int)) : nowP (fU (fU (fU (fU (fU (fU f k a1) (k + 1) a2) (k + 2) a3) (k + 3) a4) (k + 4) a5) 8 ((t.D.length : Int) + 1)) (mkS t.L t.set t.mon t.tax t.los (t.D ++ [(a1, a2, a3, a4, a5)]) t.own t.day t.clo t.fee) := by
  obtain ⟨p1, p2, p3, p4, p5, p6, p7, p8, p9, p10, p11, p12, p13⟩ := h
  have e : ∀ j : Int, j ≠ 8 → (j < k ∨ k + 5 ≤ j) → (fU (fU (fU (fU (fU (fU f k a1) (k + 1) a2) (k + 2) a3) (k + 3) a4) (k + 4) a5) 8 ((t.D.length : Int) + 1)) j = f j := fun j h1 h2 => by
    rw [fU_ne h1, fU_ne (by omega), fU_ne (by omega), fU_ne (by omega), fU_ne (by omega), fU_ne (by omega)]
  refine ⟨p1, ⟨?_, fun v hv2 => ?_⟩, p3, fun j a b => (e j (by omega) (by omega)).trans (p4 j a b), (e 5 (by omega) (by omega)).trans p5, (e 6 (by omega) (by omega)).trans p6, (e 7 (by omega) (by omega)).trans p7, ?_, (e 9 (by omega) (by omega)).trans p9, (e 10 (by omega) (by omega)).trans p10, fun q a b => ?_, fun i hi q a b => ?_, fun i hi => ?_⟩
  · show (t.D ++ [(a1, a2, a3, a4, a5)]).length ≤ 8
    rw [List.length_append]; exact hl
  · rcases List.mem_append.mp hv2 with g | g
    · exact p2.2 v g
    · rw [List.mem_singleton] at g; rw [g]; exact hv
  · show _ = ((t.D ++ [(a1, a2, a3, a4, a5)]).length : Int)
    rw [fU_eq, List.length_append]; rfl
  · rw [e _ (by omega) (by omega), e _ (by omega) (by omega)]; exact p11 q a b
  · have hi2 : i < (t.D ++ [(a1, a2, a3, a4, a5)]).length := hi
    show _ = trAt (t.D ++ [(a1, a2, a3, a4, a5)])[i] q
    by_cases c : i < t.D.length
    · rw [List.getElem_append_left c, e _ (by omega) (by omega)]; exact p12 i c q a b
    · have hie : i = t.D.length := by rw [List.length_append] at hi2; simp only [List.length_cons, List.length_nil] at hi2; omega
      subst hie
      rw [List.getElem_append_right (Nat.le_refl _)]
      simp only [Nat.sub_self, List.getElem_cons_zero]
      rw [fU_ne (by omega)]
      rcases (show q = 0 ∨ q = 1 ∨ q = 2 ∨ q = 3 ∨ q = 4 by omega) with rfl | rfl | rfl | rfl | rfl
      · rw [fU_ne (by omega), fU_ne (by omega), fU_ne (by omega), fU_ne (by omega), show (50 + 5 * (t.D.length : Int) + 0) = k by omega, fU_eq]; rfl
      · rw [fU_ne (by omega), fU_ne (by omega), fU_ne (by omega), show (50 + 5 * (t.D.length : Int) + 1) = k + 1 by omega, fU_eq]; rfl
      · rw [fU_ne (by omega), fU_ne (by omega), show (50 + 5 * (t.D.length : Int) + 2) = k + 2 by omega, fU_eq]; rfl
      · rw [fU_ne (by omega), show (50 + 5 * (t.D.length : Int) + 3) = k + 3 by omega, fU_eq]; rfl
      · rw [show (50 + 5 * (t.D.length : Int) + 4) = k + 4 by omega, fU_eq]; rfl
  · have hl3 := p3.1
    have hi2 : i < t.L.length := hi
    rw [e _ (by omega) (by omega), e _ (by omega) (by omega)]; exact p13 i hi
theorem m_X7_transfer {l : Launch} {G : xG} {w : Wd} {z m : Nat} {it : Int} {t : St} {hs : List St} {sg mn pl wr a1 a2 a3 a4 a5 : Int} (h : muA G w m it t hs sg mn pl wr) (hit : it = 0 ∨ it = 1) (h1 : iR a1) (h2 : iR a2) (h3 : iR a3) (h4 : iR a4) (h5 : iR a5) : xMet l G yX7_transfer cX7_transfer 7 (some .int) ({ frames := 2, cells := 0, slots := 0, locals := 43 } : Room) [.ref m, .int (iI a1), .int (iI a2), .int (iI a3), .int (iI a4), .int (iI a5)] w z (mrP G w z m it t hs sg mn pl wr (trF t a1 a2 a3 a4 a5)) := by
  obtain ⟨R, hh, hn, hm, hr⟩ := id h
  obtain ⟨f, g, hn1, hp, hn2, hg⟩ := id hn
  have hrd := rd_mk hh hn1 hp
  have hW := np_r hp
  obtain ⟨r1, r2, r3⟩ := id hW
  have hdl := (np_d hp).1
  refine xMet_of RX7 rfl (by decide +kernel) false (by decide +kernel) (Nat.le_of_ble_eq_true rfl) rfl ?_
  intro P hM hR
  refine x_aload_n hM dX7_transfer_0 rfl rfl ?_
  refine x_iload_n hM dX7_transfer_1 rfl rfl ?_
  refine x_callV hM wv_X7_77 (m_X7_isOwner (by assumption) (by omega)) ⟨Nat.le_of_ble_eq_true rfl, Nat.le_of_ble_eq_true rfl⟩ (by first | assumption | exact md_o (by assumption)) rfl rfl rfl rfl (Nat.le_of_ble_eq_true rfl) ⟨Nat.le_of_ble_eq_true rfl, Nat.le_of_ble_eq_true rfl⟩ dX7_transfer_2 (k_rI ?_)
  by_cases c1 : 0 ≤ a1 ∧ a1 < t.own
  · rw [if_pos c1]
    refine x_if_eq (tgt := 21) hM dX7_transfer_5 (by decide) (by omega) (fun q => absurd q (by decide)) (fun _ => ?_)
    refine x_aload_n hM dX7_transfer_8 rfl rfl ?_
    refine x_iload_n hM dX7_transfer_9 rfl rfl ?_
    refine x_callV hM wv_X7_77 (m_X7_isOwner (by assumption) (by omega)) ⟨Nat.le_of_ble_eq_true rfl, Nat.le_of_ble_eq_true rfl⟩ (by first | assumption | exact md_o (by assumption)) rfl rfl rfl rfl (Nat.le_of_ble_eq_true rfl) ⟨Nat.le_of_ble_eq_true rfl, Nat.le_of_ble_eq_true rfl⟩ dX7_transfer_10 (k_rI ?_)
    by_cases c2 : 0 ≤ a2 ∧ a2 < t.own
    · rw [if_pos c2]
      refine x_if_eq (tgt := 21) hM dX7_transfer_13 (by decide) (by omega) (fun q => absurd q (by decide)) (fun _ => ?_)
      refine x_iload_n hM dX7_transfer_16 rfl rfl ?_
      refine x_iload_n hM dX7_transfer_17 rfl rfl ?_
      refine x_icmp_ne (tgt := 23) hM dX7_transfer_18 (by decide) (by omega) (by omega) (fun c_18 => ?_) (fun c_18 => ?_)
      · have c3 : (0 ≤ a1 ∧ a1 < t.own) ∧ (0 ≤ a2 ∧ a2 < t.own) ∧ a1 ≠ a2 := ⟨c1, c2, by assumption⟩
        refine x_iload_n hM dX7_transfer_23 rfl rfl ?_
        refine x_iload hM dX7_transfer_24 rfl ?_
        refine x_callS hM ws_X7_104 (m_X7_isPiece (by omega) (by omega)) ⟨Nat.le_of_ble_eq_true rfl, Nat.le_of_ble_eq_true rfl⟩ rfl rfl (Nat.le_of_ble_eq_true rfl) ⟨Nat.le_of_ble_eq_true rfl, Nat.le_of_ble_eq_true rfl⟩ dX7_transfer_26 (k_rI ?_)
        by_cases c4 : isP a3 a4
        · rw [if_pos c4]
          refine x_if_eq (tgt := 43) hM dX7_transfer_29 (by decide) (by omega) (fun q => absurd q (by decide)) (fun _ => ?_)
          refine x_iload hM dX7_transfer_32 rfl ?_
          refine x_iconst hM dX7_transfer_34 ?_
          refine x_ldc hM dX7_transfer_35 wc_X7_76 ?_
          refine x_callS hM ws_X7_62 (m_X7_in (by omega) (by omega) (by omega)) ⟨Nat.le_of_ble_eq_true rfl, Nat.le_of_ble_eq_true rfl⟩ rfl rfl (Nat.le_of_ble_eq_true rfl) ⟨Nat.le_of_ble_eq_true rfl, Nat.le_of_ble_eq_true rfl⟩ dX7_transfer_37 (k_rI ?_)
          by_cases c5 : 0 ≤ a5 ∧ a5 ≤ 1000000
          · rw [if_pos c5]
            refine x_if_ne (tgt := 46) hM dX7_transfer_40 (by decide) (by omega) (fun _ => ?_) (fun q => absurd q (by decide))
            refine x_aload_n hM dX7_transfer_46 rfl rfl ?_
            refine x_get hM wf_X7_7 wl_X7 hh rfl dX7_transfer_47 ?_
            refine x_bipush hM dX7_transfer_50 rfl ?_
            refine x_iald hM hn1 (by omega) dX7_transfer_52 ?_
            rw [np_m hp]
            refine x_bipush hM dX7_transfer_53 rfl ?_
            refine x_icmp_ne (tgt := 61) hM dX7_transfer_55 (by decide) (by omega) (by omega) (fun c_55 => ?_) (fun c_55 => ?_)
            · refine x_aload_n hM dX7_transfer_61 rfl rfl ?_
              refine x_callV hM wv_X7_73 (m_X7_record hh hn hm hit) ⟨Nat.le_of_ble_eq_true rfl, Nat.le_of_ble_eq_true rfl⟩ hh rfl rfl rfl rfl (Nat.le_of_ble_eq_true rfl) ⟨Nat.le_of_ble_eq_true rfl, Nat.le_of_ble_eq_true rfl⟩ dX7_transfer_62 (k_qV fun w_62 q_62 => ?_)
              obtain ⟨g1, g2, g3⟩ := q_62
              have hn1b := (g3 (m + 1) (by omega) (by omega)).trans hn1
              have hn2b := (g3 (m + 2) (by omega) (by omega)).trans hn2
              have hrb := hr.kpf (g3 (m + 12) (by omega) (by omega)) (g3 (m + 13) (by omega) (by omega))
              refine x_bipush hM dX7_transfer_65 rfl ?_
              refine x_iconst hM dX7_transfer_67 ?_
              refine x_aload_n hM dX7_transfer_68 rfl rfl ?_
              refine x_get hM wf_X7_7 wl_X7 g1 rfl dX7_transfer_69 ?_
              refine x_bipush hM dX7_transfer_72 rfl ?_
              refine x_iald hM hn1b (by omega) dX7_transfer_74 ?_
              rw [np_m hp]
              refine x_imul hM dX7_transfer_75 ?_
              refine x_iadd hM dX7_transfer_76 ?_
              refine x_istore hM dX7_transfer_77 rfl (Nat.le_of_ble_eq_true rfl) rfl ?_
              refine x_aload_n hM dX7_transfer_79 rfl rfl ?_
              refine x_get hM wf_X7_7 wl_X7 g1 rfl dX7_transfer_80 ?_
              refine x_iload hM dX7_transfer_83 rfl ?_
              refine x_iload_n hM dX7_transfer_85 rfl rfl ?_
              refine x_iast hM hn1b (by omega) dX7_transfer_86 ?_
              refine x_aload_n hM dX7_transfer_87 rfl rfl ?_
              refine x_get hM wf_X7_7 wl_X7 ((wS_ne (by omega)).trans g1) rfl dX7_transfer_88 ?_
              refine x_iload hM dX7_transfer_91 rfl ?_
              refine x_iconst hM dX7_transfer_93 ?_
              refine x_iadd hM dX7_transfer_94 ?_
              refine x_iload_n hM dX7_transfer_95 rfl rfl ?_
              refine x_iast hM wS_eq (by omega) dX7_transfer_96 ?_
              rw [wS_2]
              refine x_aload_n hM dX7_transfer_97 rfl rfl ?_
              refine x_get hM wf_X7_7 wl_X7 ((wS_ne (by omega)).trans g1) rfl dX7_transfer_98 ?_
              refine x_iload hM dX7_transfer_101 rfl ?_
              refine x_iconst hM dX7_transfer_103 ?_
              refine x_iadd hM dX7_transfer_104 ?_
              refine x_iload_n hM dX7_transfer_105 rfl rfl ?_
              refine x_iast hM wS_eq (by omega) dX7_transfer_106 ?_
              rw [wS_2]
              refine x_aload_n hM dX7_transfer_107 rfl rfl ?_
              refine x_get hM wf_X7_7 wl_X7 ((wS_ne (by omega)).trans g1) rfl dX7_transfer_108 ?_
              refine x_iload hM dX7_transfer_111 rfl ?_
              refine x_iconst hM dX7_transfer_113 ?_
              refine x_iadd hM dX7_transfer_114 ?_
              refine x_iload hM dX7_transfer_115 rfl ?_
              refine x_iast hM wS_eq (by omega) dX7_transfer_117 ?_
              rw [wS_2]
              refine x_aload_n hM dX7_transfer_118 rfl rfl ?_
              refine x_get hM wf_X7_7 wl_X7 ((wS_ne (by omega)).trans g1) rfl dX7_transfer_119 ?_
              refine x_iload hM dX7_transfer_122 rfl ?_
              refine x_iconst hM dX7_transfer_124 ?_
              refine x_iadd hM dX7_transfer_125 ?_
              refine x_iload hM dX7_transfer_126 rfl ?_
              refine x_iast hM wS_eq (by omega) dX7_transfer_128 ?_
              rw [wS_2]
              refine x_aload_n hM dX7_transfer_129 rfl rfl ?_
              refine x_get hM wf_X7_7 wl_X7 ((wS_ne (by omega)).trans g1) rfl dX7_transfer_130 ?_
              refine x_bipush hM dX7_transfer_133 rfl ?_
              refine x_dup2 hM dX7_transfer_135 rfl rfl ?_
              refine x_iald hM wS_eq (by omega) dX7_transfer_136 ?_
              rw [fU_ne (by omega), fU_ne (by omega), fU_ne (by omega), fU_ne (by omega), fU_ne (by omega), np_m hp]
              refine x_iconst hM dX7_transfer_137 ?_
              refine x_iadd hM dX7_transfer_138 ?_
              refine x_iast hM wS_eq (by omega) dX7_transfer_139 ?_
              rw [wS_2]
              refine x_aload_n hM dX7_transfer_140 rfl rfl ?_
              refine x_get hM wf_X7_7 wl_X7 ((wS_ne (by omega)).trans g1) rfl dX7_transfer_141 ?_
              refine x_bipush hM dX7_transfer_144 rfl ?_
              refine x_iald hM wS_eq (by omega) dX7_transfer_146 ?_
              rw [fU_eq]
              refine hR.i dX7_transfer_147 (Nat.zero_le _) (Nat.zero_le _) ?_
              have e1 : trF t a1 a2 a3 a4 a5 = ((t.D.length : Int) + 1, mkS t.L t.set t.mon t.tax t.los (t.D ++ [(a1, a2, a3, a4, a5)]) t.own t.day t.clo t.fee) := by unfold trF; rw [if_pos c3, if_pos ⟨c4, c5⟩, if_pos (by omega)]
              refine p_mr e1 (by omega) ⟨R, (wS_ne (by omega)).trans g1, ⟨_, g, wS_eq, nowP_tr hp (by omega) (by show 0 ≤ a1 ∧ a1 < 10 ∧ 0 ≤ a2 ∧ a2 < 10 ∧ a1 ≠ a2 ∧ 0 ≤ a3 ∧ 1 ≤ a4 ∧ a3 + a4 ≤ 10000 ∧ 0 ≤ a5 ∧ a5 ≤ 1000000; omega) rfl, (wS_ne (by omega)).trans hn2b, hg⟩, g2.kpf (wS_ne (by omega)) (wS_ne (by omega)), hrb.kpf (wS_ne (by omega)) (wS_ne (by omega))⟩ ((Fm.h g3).tr (Fm.n wF))
            · refine x_bipush hM dX7_transfer_58 rfl ?_
              refine hR.i dX7_transfer_60 (Nat.zero_le _) (Nat.zero_le _) ?_
              exact p_mr0 ((if_pos c3).trans ((if_pos ⟨c4, c5⟩).trans (if_neg (by omega)))) (by decide) h
          · rw [if_neg c5]
            refine x_if_ne (tgt := 46) hM dX7_transfer_40 (by decide) (by omega) (fun q => absurd rfl q) (fun _ => ?_)
            refine x_bipush hM dX7_transfer_43 rfl ?_
            refine hR.i dX7_transfer_45 (Nat.zero_le _) (Nat.zero_le _) ?_
            exact p_mr0 ((if_pos c3).trans (if_neg (fun q => by first | exact c4 q.1 | exact c5 q.2))) (by decide) h
        · rw [if_neg c4]
          refine x_if_eq (tgt := 43) hM dX7_transfer_29 (by decide) (by omega) (fun _ => ?_) (fun q => absurd rfl q)
          refine x_bipush hM dX7_transfer_43 rfl ?_
          refine hR.i dX7_transfer_45 (Nat.zero_le _) (Nat.zero_le _) ?_
          exact p_mr0 ((if_pos c3).trans (if_neg (fun q => by first | exact c4 q.1 | exact c5 q.2))) (by decide) h
      · refine x_iconst hM dX7_transfer_21 ?_
        refine hR.i dX7_transfer_22 (Nat.zero_le _) (Nat.zero_le _) ?_
        exact p_mr0 (if_neg (fun q => by first | exact c1 q.1 | exact c2 q.2.1 | exact q.2.2 (by assumption))) (by decide) h
    · rw [if_neg c2]
      refine x_if_eq (tgt := 21) hM dX7_transfer_13 (by decide) (by omega) (fun _ => ?_) (fun q => absurd rfl q)
      refine x_iconst hM dX7_transfer_21 ?_
      refine hR.i dX7_transfer_22 (Nat.zero_le _) (Nat.zero_le _) ?_
      exact p_mr0 (if_neg (fun q => by first | exact c1 q.1 | exact c2 q.2.1 | exact q.2.2 (by assumption))) (by decide) h
  · rw [if_neg c1]
    refine x_if_eq (tgt := 21) hM dX7_transfer_5 (by decide) (by omega) (fun _ => ?_) (fun q => absurd rfl q)
    refine x_iconst hM dX7_transfer_21 ?_
    refine hR.i dX7_transfer_22 (Nat.zero_le _) (Nat.zero_le _) ?_
    exact p_mr0 (if_neg (fun q => by first | exact c1 q.1 | exact c2 q.2.1 | exact q.2.2 (by assumption))) (by decide) h
theorem nowP_dr {f : Int → Int} {t : St} (h : nowP f t) (hl : 0 < t.D.length) : nowP (fU f 8 ((t.D.length : Int) - 1)) (mkS t.L t.set t.mon t.tax t.los t.D.dropLast t.own t.day t.clo t.fee) := by
  obtain ⟨p1, p2, p3, p4, p5, p6, p7, p8, p9, p10, p11, p12, p13⟩ := h
  have hd : t.D.dropLast.length = t.D.length - 1 := List.length_dropLast
  refine ⟨p1, ⟨by show t.D.dropLast.length ≤ 8; have := p2.1; omega, fun v hv2 => p2.2 v (List.dropLast_subset _ hv2)⟩, p3, fun j a b => (fU_ne (by omega)).trans (p4 j a b), (fU_ne (by omega)).trans p5, (fU_ne (by omega)).trans p6, (fU_ne (by omega)).trans p7, ?_, (fU_ne (by omega)).trans p9, (fU_ne (by omega)).trans p10, fun q a b => ?_, fun i hi q a b => ?_, fun i hi => ?_⟩
  · show _ = (t.D.dropLast.length : Int)
    rw [fU_eq, hd]; omega
  · rw [fU_ne (by omega), fU_ne (by omega)]; exact p11 q a b
  · have hi2 : i < t.D.dropLast.length := hi
    show _ = trAt t.D.dropLast[i] q
    rw [List.getElem_dropLast, fU_ne (by omega)]
    exact p12 i (by omega) q a b
  · rw [fU_ne (by omega), fU_ne (by omega)]; exact p13 i hi
theorem m_X7_drop {l : Launch} {G : xG} {w : Wd} {z m : Nat} {it : Int} {t : St} {hs : List St} {sg mn pl wr : Int} (h : muA G w m it t hs sg mn pl wr) (hit : it = 0 ∨ it = 1) : xMet l G yX7_drop cX7_drop 1 (some .int) ({ frames := 1, cells := 0, slots := 0, locals := 21 } : Room) [.ref m] w z (mrP G w z m it t hs sg mn pl wr (drF t)) := by
  obtain ⟨R, hh, hn, hm, hr⟩ := id h
  obtain ⟨f, g, hn1, hp, hn2, hg⟩ := id hn
  have hdl := (np_d hp).1
  refine xMet_of RX7 rfl (by decide +kernel) false (by decide +kernel) (Nat.le_of_ble_eq_true rfl) rfl ?_
  intro P hM hR
  refine x_aload_n hM dX7_drop_0 rfl rfl ?_
  refine x_get hM wf_X7_7 wl_X7 hh rfl dX7_drop_1 ?_
  refine x_bipush hM dX7_drop_4 rfl ?_
  refine x_iald hM hn1 (by omega) dX7_drop_6 ?_
  rw [np_m hp]
  refine x_if_ne (tgt := 13) hM dX7_drop_7 (by decide) (by omega) (fun c_7 => ?_) (fun c_7 => ?_)
  · refine x_aload_n hM dX7_drop_13 rfl rfl ?_
    refine x_callV hM wv_X7_73 (m_X7_record hh hn hm hit) ⟨Nat.le_of_ble_eq_true rfl, Nat.le_of_ble_eq_true rfl⟩ hh rfl rfl rfl rfl (Nat.le_of_ble_eq_true rfl) ⟨Nat.le_of_ble_eq_true rfl, Nat.le_of_ble_eq_true rfl⟩ dX7_drop_14 (k_qV fun w_14 q_14 => ?_)
    obtain ⟨g1, g2, g3⟩ := q_14
    have hn1b := (g3 (m + 1) (by omega) (by omega)).trans hn1
    have hn2b := (g3 (m + 2) (by omega) (by omega)).trans hn2
    have hrb := hr.kpf (g3 (m + 12) (by omega) (by omega)) (g3 (m + 13) (by omega) (by omega))
    refine x_aload_n hM dX7_drop_17 rfl rfl ?_
    refine x_get hM wf_X7_7 wl_X7 g1 rfl dX7_drop_18 ?_
    refine x_bipush hM dX7_drop_21 rfl ?_
    refine x_dup2 hM dX7_drop_23 rfl rfl ?_
    refine x_iald hM hn1b (by omega) dX7_drop_24 ?_
    rw [np_m hp]
    refine x_iconst hM dX7_drop_25 ?_
    refine x_isub hM dX7_drop_26 ?_
    refine x_iast hM hn1b (by omega) dX7_drop_27 ?_
    refine x_aload_n hM dX7_drop_28 rfl rfl ?_
    refine x_get hM wf_X7_7 wl_X7 ((wS_ne (by omega)).trans g1) rfl dX7_drop_29 ?_
    refine x_bipush hM dX7_drop_32 rfl ?_
    refine x_iald hM wS_eq (by omega) dX7_drop_34 ?_
    rw [fU_eq]
    refine hR.i dX7_drop_35 (Nat.zero_le _) (Nat.zero_le _) ?_
    have e1 : drF t = ((t.D.length : Int) - 1, mkS t.L t.set t.mon t.tax t.los t.D.dropLast t.own t.day t.clo t.fee) := by unfold drF; rw [if_neg (by omega)]
    refine p_mr e1 (by omega) ⟨R, (wS_ne (by omega)).trans g1, ⟨_, g, wS_eq, nowP_dr hp (by omega), (wS_ne (by omega)).trans hn2b, hg⟩, g2.kpf (wS_ne (by omega)) (wS_ne (by omega)), hrb.kpf (wS_ne (by omega)) (wS_ne (by omega))⟩ ((Fm.h g3).tr (Fm.n wF))
  · refine x_bipush hM dX7_drop_10 rfl ?_
    refine hR.i dX7_drop_12 (Nat.zero_le _) (Nat.zero_le _) ?_
    exact p_mr0 (if_pos (by omega)) (by decide) h
/-- a method that only lays rows -/
abbrev mqP (G : xG) (w : Wd) (z m : Nat) (it : Int) (t : St) (hs : List St) (sg mn pl wr v : Int) : xPo := qI z fun y w1 => y = v ∧ muA G w1 m it t hs sg mn pl wr ∧ Fm m w w1
def wbR (t : St) (o f n : Int) : Int := if 0 ≤ o ∧ o < t.own then (if isP f n then rnF (lrF t.L f (f + n) o) else -2) else -1
theorem m_X7_wouldBe {l : Launch} {G : xG} {w : Wd} {z m : Nat} {it : Int} {t : St} {hs : List St} {sg mn pl wr o f0 n : Int} (h : muA G w m it t hs sg mn pl wr) (ho : iR o) (hf0 : iR f0) (hn0 : iR n) : xMet l G yX7_wouldBe cX7_wouldBe 4 (some .int) ({ frames := 3, cells := 0, slots := 0, locals := 68 } : Room) [.ref m, .int (iI o), .int (iI f0), .int (iI n)] w z (mqP G w z m it t hs sg mn pl wr (wbR t o f0 n)) := by
  obtain ⟨R, hh, hn, hm, hr⟩ := id h
  obtain ⟨f, g, hn1, hp, hn2, hg⟩ := id hn
  have hrd := rd_mk hh hn1 hp
  have hW := np_r hp
  obtain ⟨r1, r2, r3⟩ := id hW
  refine xMet_of RX7 rfl (by decide +kernel) false (by decide +kernel) (Nat.le_of_ble_eq_true rfl) rfl ?_
  intro P hM hR
  refine x_aload_n hM dX7_wouldBe_0 rfl rfl ?_
  refine x_iload_n hM dX7_wouldBe_1 rfl rfl ?_
  refine x_callV hM wv_X7_77 (m_X7_isOwner (by assumption) (by omega)) ⟨Nat.le_of_ble_eq_true rfl, Nat.le_of_ble_eq_true rfl⟩ (by first | assumption | exact md_o (by assumption)) rfl rfl rfl rfl (Nat.le_of_ble_eq_true rfl) ⟨Nat.le_of_ble_eq_true rfl, Nat.le_of_ble_eq_true rfl⟩ dX7_wouldBe_2 (k_rI ?_)
  by_cases c1 : 0 ≤ o ∧ o < t.own
  · rw [if_pos c1]
    refine x_if_ne (tgt := 10) hM dX7_wouldBe_5 (by decide) (by omega) (fun _ => ?_) (fun q => absurd q (by decide))
    refine x_iload_n hM dX7_wouldBe_10 rfl rfl ?_
    refine x_iload_n hM dX7_wouldBe_11 rfl rfl ?_
    refine x_callS hM ws_X7_104 (m_X7_isPiece (by omega) (by omega)) ⟨Nat.le_of_ble_eq_true rfl, Nat.le_of_ble_eq_true rfl⟩ rfl rfl (Nat.le_of_ble_eq_true rfl) ⟨Nat.le_of_ble_eq_true rfl, Nat.le_of_ble_eq_true rfl⟩ dX7_wouldBe_12 (k_rI ?_)
    by_cases c2 : isP f0 n
    · rw [if_pos c2]
      refine x_if_ne (tgt := 21) hM dX7_wouldBe_15 (by decide) (by omega) (fun _ => ?_) (fun q => absurd q (by decide))
      refine x_aload_n hM dX7_wouldBe_21 rfl rfl ?_
      refine x_iload_n hM dX7_wouldBe_22 rfl rfl ?_
      refine x_iload_n hM dX7_wouldBe_23 rfl rfl ?_
      refine x_iload_n hM dX7_wouldBe_24 rfl rfl ?_
      refine x_iadd hM dX7_wouldBe_25 ?_
      refine x_iload_n hM dX7_wouldBe_26 rfl rfl ?_
      refine x_callV hM wv_X7_108 (m_X7_layRow hh hr hn1 hp (by omega) (by omega)) ⟨Nat.le_of_ble_eq_true rfl, Nat.le_of_ble_eq_true rfl⟩ hh rfl rfl rfl rfl (Nat.le_of_ble_eq_true rfl) ⟨Nat.le_of_ble_eq_true rfl, Nat.le_of_ble_eq_true rfl⟩ dX7_wouldBe_27 (k_qV fun w_27 q_27 => ?_)
      obtain ⟨q1, q2, q3⟩ := q_27
      refine x_aload_n hM dX7_wouldBe_30 rfl rfl ?_
      refine x_callV hM wv_X7_111 (m_X7_rangesInRow q1 q2) ⟨Nat.le_of_ble_eq_true rfl, Nat.le_of_ble_eq_true rfl⟩ q1 rfl rfl rfl rfl (Nat.le_of_ble_eq_true rfl) ⟨Nat.le_of_ble_eq_true rfl, Nat.le_of_ble_eq_true rfl⟩ dX7_wouldBe_31 (k_rI ?_)
      refine hR.i dX7_wouldBe_34 (Nat.zero_le _) (Nat.zero_le _) ?_
      exact p_qI ⟨((if_pos c1).trans (if_pos c2)).symm, mu_row hn hm q1 q2 q3, Fm.r q3⟩
    · rw [if_neg c2]
      refine x_if_ne (tgt := 21) hM dX7_wouldBe_15 (by decide) (by omega) (fun q => absurd rfl q) (fun _ => ?_)
      refine x_bipush hM dX7_wouldBe_18 rfl ?_
      refine hR.i dX7_wouldBe_20 (Nat.zero_le _) (Nat.zero_le _) ?_
      exact p_qI ⟨((if_pos c1).trans (if_neg c2)).symm, h, Fm.rf⟩
  · rw [if_neg c1]
    refine x_if_ne (tgt := 10) hM dX7_wouldBe_5 (by decide) (by omega) (fun q => absurd rfl q) (fun _ => ?_)
    refine x_iconst hM dX7_wouldBe_8 ?_
    refine hR.i dX7_wouldBe_9 (Nat.zero_le _) (Nat.zero_le _) ?_
    exact p_qI ⟨(if_neg c1).symm, h, Fm.rf⟩
