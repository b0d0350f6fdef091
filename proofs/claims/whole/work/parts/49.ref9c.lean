def frR (t : St) (f n : Int) : Int × St := if isP f n then (if rnF (lrF t.L f (f + n) (-6)) ≤ 40 then (rnF (lrF t.L f (f + n) (-6)), stL t (lrF t.L f (f + n) (-6))) else (-4, t)) else (-2, t)
theorem m_X7_free {l : Launch} {G : xG} {w : Wd} {z m : Nat} {it : Int} {t : St} {hs : List St} {sg mn pl wr f0 n : Int} (h : muA G w m it t hs sg mn pl wr) (hit : it = 0 ∨ it = 1) (hf0 : iR f0) (hn0 : iR n) : xMet l G yX7_free cX7_free 3 (some .int) ({ frames := 3, cells := 0, slots := 0, locals := 68 } : Room) [.ref m, .int (iI f0), .int (iI n)] w z (mrP G w z m it t hs sg mn pl wr (frR t f0 n)) := by
  obtain ⟨R, hh, hn, hm, hr⟩ := id h
  obtain ⟨f, g, hn1, hp, hn2, hg⟩ := id hn
  have hrd := rd_mk hh hn1 hp
  have hW := np_r hp
  obtain ⟨r1, r2, r3⟩ := id hW
  have hS := np_w hp
  refine xMet_of RX7 rfl (by decide +kernel) false (by decide +kernel) (Nat.le_of_ble_eq_true rfl) rfl ?_
  intro P hM hR
  by_cases c2 : isP f0 n
  · skip
    refine x_iload_n hM dX7_free_0 rfl rfl ?_
    refine x_iload_n hM dX7_free_1 rfl rfl ?_
    refine x_callS hM ws_X7_104 (m_X7_isPiece (by omega) (by omega)) ⟨Nat.le_of_ble_eq_true rfl, Nat.le_of_ble_eq_true rfl⟩ rfl rfl (Nat.le_of_ble_eq_true rfl) ⟨Nat.le_of_ble_eq_true rfl, Nat.le_of_ble_eq_true rfl⟩ dX7_free_2 (k_rI ?_)
    rw [if_pos c2]
    refine x_if_ne (tgt := 11) hM dX7_free_5 (by decide) (by omega) (fun c_5 => ?_) (fun c_5 => ?_)
    · refine x_aload_n hM dX7_free_11 rfl rfl ?_
      refine x_iload_n hM dX7_free_12 rfl rfl ?_
      refine x_iload_n hM dX7_free_13 rfl rfl ?_
      refine x_iload_n hM dX7_free_14 rfl rfl ?_
      refine x_iadd hM dX7_free_15 ?_
      refine x_bipush hM dX7_free_16 rfl ?_
      refine x_callV hM wv_X7_108 (m_X7_layRow hh hr hn1 hp (by omega) (by omega)) ⟨Nat.le_of_ble_eq_true rfl, Nat.le_of_ble_eq_true rfl⟩ hh rfl rfl rfl rfl (Nat.le_of_ble_eq_true rfl) ⟨Nat.le_of_ble_eq_true rfl, Nat.le_of_ble_eq_true rfl⟩ dX7_free_18 (k_qV fun w_18 q_18 => ?_)
      obtain ⟨q1, q2, q3⟩ := q_18
      have hmu := mu_row hn hm q1 q2 q3
      have hn1b := (q3 (m + 1) (by omega) (by omega)).trans hn1
      have hrd2 := rd_mk q1 hn1b hp
      have hnb := hn.kpf (q3 (m + 1) (by omega) (by omega)) (q3 (m + 2) (by omega) (by omega))
      have hmb := hm.kpf (q3 (m + 6) (by omega) (by omega)) (q3 (m + 7) (by omega) (by omega))
      refine x_aload_n hM dX7_free_21 rfl rfl ?_
      refine x_callV hM wv_X7_111 (m_X7_rangesInRow q1 q2) ⟨Nat.le_of_ble_eq_true rfl, Nat.le_of_ble_eq_true rfl⟩ q1 rfl rfl rfl rfl (Nat.le_of_ble_eq_true rfl) ⟨Nat.le_of_ble_eq_true rfl, Nat.le_of_ble_eq_true rfl⟩ dX7_free_22 (k_rI ?_)
      have hrb := rnF_b (lrF t.L f0 (f0 + n) (-6))
      have hrl := q2
      obtain ⟨-, -, -, -, hrl, -⟩ := hrl
      refine x_bipush hM dX7_free_25 rfl ?_
      refine x_icmp_le (tgt := 33) hM dX7_free_27 (by decide) (by omega) (by omega) (fun c_27 => ?_) (fun c_27 => ?_)
      · refine x_aload_n hM dX7_free_33 rfl rfl ?_
        refine x_callV hM wv_X7_73 (m_X7_record q1 hnb hmb hit) ⟨Nat.le_of_ble_eq_true rfl, Nat.le_of_ble_eq_true rfl⟩ q1 rfl rfl rfl rfl (Nat.le_of_ble_eq_true rfl) ⟨Nat.le_of_ble_eq_true rfl, Nat.le_of_ble_eq_true rfl⟩ dX7_free_34 (k_qV fun w_34 q_34 => ?_)
        obtain ⟨g1, g2, g3⟩ := q_34
        have hn1c := (g3 (m + 1) (by omega) (by omega)).trans hn1b
        have hn2c := (g3 (m + 2) (by omega) (by omega)).trans ((q3 (m + 2) (by omega) (by omega)).trans hn2)
        have hrc := q2.kpf (g3 (m + 12) (by omega) (by omega)) (g3 (m + 13) (by omega) (by omega))
        refine x_aload_n hM dX7_free_37 rfl rfl ?_
        refine x_callV hM wv_X7_118 (m_X7_takeRow g1 hrc hn1c hp (lr_W hp (by omega) (by omega) (by omega))) ⟨Nat.le_of_ble_eq_true rfl, Nat.le_of_ble_eq_true rfl⟩ g1 rfl rfl rfl rfl (Nat.le_of_ble_eq_true rfl) ⟨Nat.le_of_ble_eq_true rfl, Nat.le_of_ble_eq_true rfl⟩ dX7_free_38 (k_qV fun w_38 q_38 => ?_)
        obtain ⟨k1, k2⟩ := q_38
        have hmu2 := mu_take g1 hn2c hg g2 hrc k1 k2
        have hfm : Fm m w w_38 := ((Fm.r q3).tr (Fm.h g3)).tr (Fm.n k2)
        obtain ⟨fz, k3, k4⟩ := k1
        have hh4 := (k2 m (by omega)).trans g1
        refine x_aload_n hM dX7_free_41 rfl rfl ?_
        refine x_callV hM wv_X7_121 (m_X7_rangesNow (rd_mk hh4 k3 k4)) ⟨Nat.le_of_ble_eq_true rfl, Nat.le_of_ble_eq_true rfl⟩ hh4 rfl rfl rfl rfl (Nat.le_of_ble_eq_true rfl) ⟨Nat.le_of_ble_eq_true rfl, Nat.le_of_ble_eq_true rfl⟩ dX7_free_42 (k_rI ?_)
        refine hR.i dX7_free_45 (Nat.zero_le _) (Nat.zero_le _) ?_
        exact p_mr (by unfold frR; rw [if_pos c2, if_pos (by omega)]) hrb.1 hmu2 hfm
      · refine x_bipush hM dX7_free_30 rfl ?_
        refine hR.i dX7_free_32 (Nat.zero_le _) (Nat.zero_le _) ?_
        exact p_mrk (by unfold frR; rw [if_pos c2, if_neg (by omega)]) (by decide) hmu (Fm.r q3)
    · exfalso; omega
  · have e1 : frR t f0 n = (-2, t) := if_neg c2
    refine x_iload_n hM dX7_free_0 rfl rfl ?_
    refine x_iload_n hM dX7_free_1 rfl rfl ?_
    refine x_callS hM ws_X7_104 (m_X7_isPiece (by omega) (by omega)) ⟨Nat.le_of_ble_eq_true rfl, Nat.le_of_ble_eq_true rfl⟩ rfl rfl (Nat.le_of_ble_eq_true rfl) ⟨Nat.le_of_ble_eq_true rfl, Nat.le_of_ble_eq_true rfl⟩ dX7_free_2 (k_rI ?_)
    rw [if_neg c2]
    refine x_if_ne (tgt := 11) hM dX7_free_5 (by decide) (by omega) (fun c_5 => ?_) (fun c_5 => ?_)
    · exfalso; omega
    · refine x_bipush hM dX7_free_8 rfl ?_
      refine hR.i dX7_free_10 (Nat.zero_le _) (Nat.zero_le _) ?_
      exact p_mr0 e1 (by decide) h
