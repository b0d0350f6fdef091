theorem m_X7_give {l : Launch} {G : xG} {w : Wd} {z m : Nat} {it : Int} {t : St} {hs : List St} {sg mn pl wr o f0 n : Int} (h : muA G w m it t hs sg mn pl wr) (hit : it = 0 ∨ it = 1) (ho : iR o) (hf0 : iR f0) (hn0 : iR n) : xMet l G yX7_give cX7_give 4 (some .int) ({ frames := 5, cells := 0, slots := 0, locals := 112 } : Room) [.ref m, .int (iI o), .int (iI f0), .int (iI n)] w z (mrP G w z m it t hs sg mn pl wr (gvR t o f0 n)) := by
  obtain ⟨R, hh, hn, hm, hr⟩ := id h
  obtain ⟨f, g, hn1, hp, hn2, hg⟩ := id hn
  have hrd := rd_mk hh hn1 hp
  have hW := np_r hp
  obtain ⟨r1, r2, r3⟩ := id hW
  have hS := np_w hp
  refine xMet_of RX7 rfl (by decide +kernel) false (by decide +kernel) (Nat.le_of_ble_eq_true rfl) rfl ?_
  intro P hM hR
  by_cases c1 : 0 ≤ o ∧ o < t.own
  · by_cases c2 : isP f0 n
    · have hb := mtw_gb o f0 n (np_all hp) (by omega)
      have hl := hS.1
      refine x_aload_n hM dX7_give_0 rfl rfl ?_
      refine x_iload_n hM dX7_give_1 rfl rfl ?_
      refine x_callV hM wv_X7_77 (m_X7_isOwner (by assumption) (by omega)) ⟨Nat.le_of_ble_eq_true rfl, Nat.le_of_ble_eq_true rfl⟩ (by first | assumption | exact md_o (by assumption)) rfl rfl rfl rfl (Nat.le_of_ble_eq_true rfl) ⟨Nat.le_of_ble_eq_true rfl, Nat.le_of_ble_eq_true rfl⟩ dX7_give_2 (k_rI ?_)
      rw [if_pos c1]
      refine x_if_ne (tgt := 10) hM dX7_give_5 (by decide) (by omega) (fun c_5 => ?_) (fun c_5 => ?_)
      · refine x_iload_n hM dX7_give_10 rfl rfl ?_
        refine x_iload_n hM dX7_give_11 rfl rfl ?_
        refine x_callS hM ws_X7_104 (m_X7_isPiece (by omega) (by omega)) ⟨Nat.le_of_ble_eq_true rfl, Nat.le_of_ble_eq_true rfl⟩ rfl rfl (Nat.le_of_ble_eq_true rfl) ⟨Nat.le_of_ble_eq_true rfl, Nat.le_of_ble_eq_true rfl⟩ dX7_give_12 (k_rI ?_)
        rw [if_pos c2]
        refine x_if_ne (tgt := 21) hM dX7_give_15 (by decide) (by omega) (fun c_15 => ?_) (fun c_15 => ?_)
        · refine x_aload_n hM dX7_give_21 rfl rfl ?_
          refine x_iload_n hM dX7_give_22 rfl rfl ?_
          refine x_iload_n hM dX7_give_23 rfl rfl ?_
          refine x_iload_n hM dX7_give_24 rfl rfl ?_
          refine x_iadd hM dX7_give_25 ?_
          refine x_iload_n hM dX7_give_26 rfl rfl ?_
          refine x_callV hM wv_X7_108 (m_X7_layRow hh hr hn1 hp (by omega) (by omega)) ⟨Nat.le_of_ble_eq_true rfl, Nat.le_of_ble_eq_true rfl⟩ hh rfl rfl rfl rfl (Nat.le_of_ble_eq_true rfl) ⟨Nat.le_of_ble_eq_true rfl, Nat.le_of_ble_eq_true rfl⟩ dX7_give_27 (k_qV fun w_27 q_27 => ?_)
          obtain ⟨q1, q2, q3⟩ := q_27
          have hmu := mu_row hn hm q1 q2 q3
          have hn1b := (q3 (m + 1) (by omega) (by omega)).trans hn1
          have hrd2 := rd_mk q1 hn1b hp
          have hnb := hn.kpf (q3 (m + 1) (by omega) (by omega)) (q3 (m + 2) (by omega) (by omega))
          have hmb := hm.kpf (q3 (m + 6) (by omega) (by omega)) (q3 (m + 7) (by omega) (by omega))
          refine x_aload_n hM dX7_give_30 rfl rfl ?_
          refine x_callV hM wv_X7_111 (m_X7_rangesInRow q1 q2) ⟨Nat.le_of_ble_eq_true rfl, Nat.le_of_ble_eq_true rfl⟩ q1 rfl rfl rfl rfl (Nat.le_of_ble_eq_true rfl) ⟨Nat.le_of_ble_eq_true rfl, Nat.le_of_ble_eq_true rfl⟩ dX7_give_31 (k_rI ?_)
          have hrb := rnF_b (lrF t.L f0 (f0 + n) o)
          have hrl := q2
          obtain ⟨-, -, -, -, hrl, -⟩ := hrl
          refine x_bipush hM dX7_give_34 rfl ?_
          refine x_icmp_le (tgt := 42) hM dX7_give_36 (by decide) (by omega) (by omega) (fun c_36 => ?_) (fun c_36 => ?_)
          · refine x_aload_n hM dX7_give_42 rfl rfl ?_
            refine x_iload_n hM dX7_give_43 rfl rfl ?_
            refine x_iload_n hM dX7_give_44 rfl rfl ?_
            refine x_aload_n hM dX7_give_45 rfl rfl ?_
            refine x_iload_n hM dX7_give_46 rfl rfl ?_
            refine x_iload_n hM dX7_give_47 rfl rfl ?_
            refine x_iload_n hM dX7_give_48 rfl rfl ?_
            refine x_iadd hM dX7_give_49 ?_
            refine x_iload_n hM dX7_give_50 rfl rfl ?_
            refine x_callV hM wv_X7_97 (m_X7_metersIn hrd2 (by omega) (by omega) (by omega)) ⟨Nat.le_of_ble_eq_true rfl, Nat.le_of_ble_eq_true rfl⟩ q1 rfl rfl rfl rfl (Nat.le_of_ble_eq_true rfl) ⟨Nat.le_of_ble_eq_true rfl, Nat.le_of_ble_eq_true rfl⟩ dX7_give_51 (k_rI ?_)
            rw [show f0 + n - f0 = n by omega]
            refine x_isub hM dX7_give_54 ?_
            refine x_callV hM wv_X7_115 (m_X7_mayGet hrd2 (by omega) (by omega)) ⟨Nat.le_of_ble_eq_true rfl, Nat.le_of_ble_eq_true rfl⟩ q1 rfl rfl rfl rfl (Nat.le_of_ble_eq_true rfl) ⟨Nat.le_of_ble_eq_true rfl, Nat.le_of_ble_eq_true rfl⟩ dX7_give_55 (k_rI ?_)
            by_cases c4 : mayE t o (n - mtwF t.L o f0 n)
            · rw [if_pos c4]
              refine x_if_ne (tgt := 64) hM dX7_give_58 (by decide) (by omega) (fun _ => ?_) (fun q => absurd q (by decide))
              refine x_aload_n hM dX7_give_64 rfl rfl ?_
              refine x_callV hM wv_X7_73 (m_X7_record q1 hnb hmb hit) ⟨Nat.le_of_ble_eq_true rfl, Nat.le_of_ble_eq_true rfl⟩ q1 rfl rfl rfl rfl (Nat.le_of_ble_eq_true rfl) ⟨Nat.le_of_ble_eq_true rfl, Nat.le_of_ble_eq_true rfl⟩ dX7_give_65 (k_qV fun w_65 q_65 => ?_)
              obtain ⟨g1, g2, g3⟩ := q_65
              have hn1c := (g3 (m + 1) (by omega) (by omega)).trans hn1b
              have hn2c := (g3 (m + 2) (by omega) (by omega)).trans ((q3 (m + 2) (by omega) (by omega)).trans hn2)
              have hrc := q2.kpf (g3 (m + 12) (by omega) (by omega)) (g3 (m + 13) (by omega) (by omega))
              refine x_aload_n hM dX7_give_68 rfl rfl ?_
              refine x_callV hM wv_X7_118 (m_X7_takeRow g1 hrc hn1c hp (lr_W hp (by omega) (by omega) (by omega))) ⟨Nat.le_of_ble_eq_true rfl, Nat.le_of_ble_eq_true rfl⟩ g1 rfl rfl rfl rfl (Nat.le_of_ble_eq_true rfl) ⟨Nat.le_of_ble_eq_true rfl, Nat.le_of_ble_eq_true rfl⟩ dX7_give_69 (k_qV fun w_69 q_69 => ?_)
              obtain ⟨k1, k2⟩ := q_69
              have hmu2 := mu_take g1 hn2c hg g2 hrc k1 k2
              have hfm : Fm m w w_69 := ((Fm.r q3).tr (Fm.h g3)).tr (Fm.n k2)
              obtain ⟨fz, k3, k4⟩ := k1
              have hh4 := (k2 m (by omega)).trans g1
              refine x_aload_n hM dX7_give_72 rfl rfl ?_
              refine x_callV hM wv_X7_121 (m_X7_rangesNow (rd_mk hh4 k3 k4)) ⟨Nat.le_of_ble_eq_true rfl, Nat.le_of_ble_eq_true rfl⟩ hh4 rfl rfl rfl rfl (Nat.le_of_ble_eq_true rfl) ⟨Nat.le_of_ble_eq_true rfl, Nat.le_of_ble_eq_true rfl⟩ dX7_give_73 (k_rI ?_)
              refine hR.i dX7_give_76 (Nat.zero_le _) (Nat.zero_le _) ?_
              exact p_mr (by unfold gvR; rw [if_pos c1, if_pos c2, if_pos (by omega), if_pos c4]) hrb.1 hmu2 hfm
            · rw [if_neg c4]
              refine x_if_ne (tgt := 64) hM dX7_give_58 (by decide) (by omega) (fun q => absurd rfl q) (fun _ => ?_)
              refine x_bipush hM dX7_give_61 rfl ?_
              refine hR.i dX7_give_63 (Nat.zero_le _) (Nat.zero_le _) ?_
              exact p_mrk (by unfold gvR; rw [if_pos c1, if_pos c2, if_pos (by omega), if_neg c4]) (by decide) hmu (Fm.r q3)
          · refine x_bipush hM dX7_give_39 rfl ?_
            refine hR.i dX7_give_41 (Nat.zero_le _) (Nat.zero_le _) ?_
            exact p_mrk (by unfold gvR; rw [if_pos c1, if_pos c2, if_neg (by omega)]) (by decide) hmu (Fm.r q3)
        · exfalso; omega
      · exfalso; omega
    · have e1 : gvR t o f0 n = (-2, t) := by unfold gvR; rw [if_pos c1, if_neg c2]
      refine x_aload_n hM dX7_give_0 rfl rfl ?_
      refine x_iload_n hM dX7_give_1 rfl rfl ?_
      refine x_callV hM wv_X7_77 (m_X7_isOwner (by assumption) (by omega)) ⟨Nat.le_of_ble_eq_true rfl, Nat.le_of_ble_eq_true rfl⟩ (by first | assumption | exact md_o (by assumption)) rfl rfl rfl rfl (Nat.le_of_ble_eq_true rfl) ⟨Nat.le_of_ble_eq_true rfl, Nat.le_of_ble_eq_true rfl⟩ dX7_give_2 (k_rI ?_)
      rw [if_pos c1]
      refine x_if_ne (tgt := 10) hM dX7_give_5 (by decide) (by omega) (fun c_5 => ?_) (fun c_5 => ?_)
      · refine x_iload_n hM dX7_give_10 rfl rfl ?_
        refine x_iload_n hM dX7_give_11 rfl rfl ?_
        refine x_callS hM ws_X7_104 (m_X7_isPiece (by omega) (by omega)) ⟨Nat.le_of_ble_eq_true rfl, Nat.le_of_ble_eq_true rfl⟩ rfl rfl (Nat.le_of_ble_eq_true rfl) ⟨Nat.le_of_ble_eq_true rfl, Nat.le_of_ble_eq_true rfl⟩ dX7_give_12 (k_rI ?_)
        rw [if_neg c2]
        refine x_if_ne (tgt := 21) hM dX7_give_15 (by decide) (by omega) (fun c_15 => ?_) (fun c_15 => ?_)
        · exfalso; omega
        · refine x_bipush hM dX7_give_18 rfl ?_
          refine hR.i dX7_give_20 (Nat.zero_le _) (Nat.zero_le _) ?_
          exact p_mr0 e1 (by decide) h
      · exfalso; omega
  · have e1 : gvR t o f0 n = (-1, t) := if_neg c1
    refine x_aload_n hM dX7_give_0 rfl rfl ?_
    refine x_iload_n hM dX7_give_1 rfl rfl ?_
    refine x_callV hM wv_X7_77 (m_X7_isOwner (by assumption) (by omega)) ⟨Nat.le_of_ble_eq_true rfl, Nat.le_of_ble_eq_true rfl⟩ (by first | assumption | exact md_o (by assumption)) rfl rfl rfl rfl (Nat.le_of_ble_eq_true rfl) ⟨Nat.le_of_ble_eq_true rfl, Nat.le_of_ble_eq_true rfl⟩ dX7_give_2 (k_rI ?_)
    rw [if_neg c1]
    refine x_if_ne (tgt := 10) hM dX7_give_5 (by decide) (by omega) (fun c_5 => ?_) (fun c_5 => ?_)
    · exfalso; omega
    · refine x_iconst hM dX7_give_8 ?_
      refine hR.i dX7_give_9 (Nat.zero_le _) (Nat.zero_le _) ?_
      exact p_mr0 e1 (by decide) h
