theorem hf_b {L : List Sg} {n h : Int} (hL : ∀ s ∈ L, okG s) (hn : 1 ≤ n) : hfF L n h = -6 ∨ (0 ≤ hfF L n h ∧ hfF L n h + n ≤ 10000) := by
  have gen : ∀ (M : List Sg) (c : Int × Int × Int × Int), (∀ x ∈ M, okG x) → 0 ≤ c.1 → (c.2.1 < 0 ∨ (0 ≤ c.2.2.2 ∧ c.2.2.2 + n ≤ 10000)) → ((M.foldl (hfS n h) c).2.1 < 0 ∨ (0 ≤ (M.foldl (hfS n h) c).2.2.2 ∧ (M.foldl (hfS n h) c).2.2.2 + n ≤ 10000)) := by
    intro M
    induction M with
    | nil => intro c _ _ hc; exact hc
    | cons x M ih =>
      intro c hx h0 hc
      have h1 := hx x List.mem_cons_self
      refine ih (hfS n h c x) (fun y hy => hx y (List.mem_cons_of_mem _ hy)) ?_ ?_
      · unfold hfS; split <;> (dsimp only; omega)
      · unfold hfS
        split
        · next q => dsimp only; right; have := q.1.2; omega
        · exact hc
  unfold hfF
  have := gen L (0, -6, 0, 0) hL (by decide) (Or.inl (by decide))
  split
  · exact Or.inl rfl
  · next q => exact Or.inr (this.resolve_left q)
def grR (t : St) (o n : Int) : Int × St := if 0 ≤ o ∧ o < t.own then (if 1 ≤ n ∧ n ≤ 10000 then (if hfF t.L n 0 < 0 then (-5, t) else if rnF (lrF t.L (hfF t.L n 0) (hfF t.L n 0 + n) o) ≤ 40 then (if mayE t o n then (hfF t.L n 0, stL t (lrF t.L (hfF t.L n 0) (hfF t.L n 0 + n) o)) else (-5, t)) else (-4, t)) else (-2, t)) else (-1, t)
theorem m_X7_grab {l : Launch} {G : xG} {w : Wd} {z m : Nat} {it : Int} {t : St} {hs : List St} {sg mn pl wr o n : Int} (h : muA G w m it t hs sg mn pl wr) (hit : it = 0 ∨ it = 1) (ho : iR o) (hn0 : iR n) : xMet l G yX7_grab cX7_grab 4 (some .int) ({ frames := 5, cells := 0, slots := 0, locals := 112 } : Room) [.ref m, .int (iI o), .int (iI n)] w z (mrP G w z m it t hs sg mn pl wr (grR t o n)) := by
  obtain ⟨R, hh, hn, hm, hr⟩ := id h
  obtain ⟨f, g, hn1, hp, hn2, hg⟩ := id hn
  have hrd := rd_mk hh hn1 hp
  have hW := np_r hp
  obtain ⟨r1, r2, r3⟩ := id hW
  have hS := np_w hp
  refine xMet_of RX7 rfl (by decide +kernel) false (by decide +kernel) (Nat.le_of_ble_eq_true rfl) rfl ?_
  intro P hM hR
  by_cases c1 : 0 ≤ o ∧ o < t.own
  · by_cases c2 : 1 ≤ n ∧ n ≤ 10000
    · have hfb := hf_b (h := 0) (np_all hp) c2.1
      have hl := hS.1
      by_cases c3 : hfF t.L n 0 < 0
      · skip
        refine x_aload_n hM dX7_grab_0 rfl rfl ?_
        refine x_iload_n hM dX7_grab_1 rfl rfl ?_
        refine x_callV hM wv_X7_77 (m_X7_isOwner (by assumption) (by omega)) ⟨Nat.le_of_ble_eq_true rfl, Nat.le_of_ble_eq_true rfl⟩ (by first | assumption | exact md_o (by assumption)) rfl rfl rfl rfl (Nat.le_of_ble_eq_true rfl) ⟨Nat.le_of_ble_eq_true rfl, Nat.le_of_ble_eq_true rfl⟩ dX7_grab_2 (k_rI ?_)
        rw [if_pos c1]
        refine x_if_ne (tgt := 10) hM dX7_grab_5 (by decide) (by omega) (fun c_5 => ?_) (fun c_5 => ?_)
        · refine x_iload_n hM dX7_grab_10 rfl rfl ?_
          refine x_iconst hM dX7_grab_11 ?_
          refine x_sipush hM dX7_grab_12 rfl ?_
          refine x_callS hM ws_X7_62 (m_X7_in (by omega) (by omega) (by omega)) ⟨Nat.le_of_ble_eq_true rfl, Nat.le_of_ble_eq_true rfl⟩ rfl rfl (Nat.le_of_ble_eq_true rfl) ⟨Nat.le_of_ble_eq_true rfl, Nat.le_of_ble_eq_true rfl⟩ dX7_grab_15 (k_rI ?_)
          rw [if_pos c2]
          refine x_if_ne (tgt := 24) hM dX7_grab_18 (by decide) (by omega) (fun c_18 => ?_) (fun c_18 => ?_)
          · refine x_aload_n hM dX7_grab_24 rfl rfl ?_
            refine x_iload_n hM dX7_grab_25 rfl rfl ?_
            refine x_iconst hM dX7_grab_26 ?_
            refine x_callV hM wv_X7_127 (m_X7_holeFor (by assumption) (by omega) (by omega)) ⟨Nat.le_of_ble_eq_true rfl, Nat.le_of_ble_eq_true rfl⟩ (by first | assumption | exact md_o (by assumption)) rfl rfl rfl rfl (Nat.le_of_ble_eq_true rfl) ⟨Nat.le_of_ble_eq_true rfl, Nat.le_of_ble_eq_true rfl⟩ dX7_grab_27 (k_rI ?_)
            refine x_istore_n hM dX7_grab_30 rfl rfl (Nat.le_of_ble_eq_true rfl) rfl ?_
            refine x_iload_n hM dX7_grab_31 rfl rfl ?_
            refine x_if_lt (tgt := 56) hM dX7_grab_32 (by decide) (by omega) (fun c_32 => ?_) (fun c_32 => ?_)
            · refine x_iload_n hM dX7_grab_56 rfl rfl ?_
              refine x_if_lt (tgt := 69) hM dX7_grab_57 (by decide) (by omega) (fun c_57 => ?_) (fun c_57 => ?_)
              · refine x_bipush hM dX7_grab_69 rfl ?_
                refine hR.i dX7_grab_71 (Nat.zero_le _) (Nat.zero_le _) ?_
                exact p_mr0 (by unfold grR; rw [if_pos c1, if_pos c2, if_pos c3]) (by decide) h
              · exfalso; omega
            · exfalso; omega
          · exfalso; omega
        · exfalso; omega
      · skip
        refine x_aload_n hM dX7_grab_0 rfl rfl ?_
        refine x_iload_n hM dX7_grab_1 rfl rfl ?_
        refine x_callV hM wv_X7_77 (m_X7_isOwner (by assumption) (by omega)) ⟨Nat.le_of_ble_eq_true rfl, Nat.le_of_ble_eq_true rfl⟩ (by first | assumption | exact md_o (by assumption)) rfl rfl rfl rfl (Nat.le_of_ble_eq_true rfl) ⟨Nat.le_of_ble_eq_true rfl, Nat.le_of_ble_eq_true rfl⟩ dX7_grab_2 (k_rI ?_)
        rw [if_pos c1]
        refine x_if_ne (tgt := 10) hM dX7_grab_5 (by decide) (by omega) (fun c_5 => ?_) (fun c_5 => ?_)
        · refine x_iload_n hM dX7_grab_10 rfl rfl ?_
          refine x_iconst hM dX7_grab_11 ?_
          refine x_sipush hM dX7_grab_12 rfl ?_
          refine x_callS hM ws_X7_62 (m_X7_in (by omega) (by omega) (by omega)) ⟨Nat.le_of_ble_eq_true rfl, Nat.le_of_ble_eq_true rfl⟩ rfl rfl (Nat.le_of_ble_eq_true rfl) ⟨Nat.le_of_ble_eq_true rfl, Nat.le_of_ble_eq_true rfl⟩ dX7_grab_15 (k_rI ?_)
          rw [if_pos c2]
          refine x_if_ne (tgt := 24) hM dX7_grab_18 (by decide) (by omega) (fun c_18 => ?_) (fun c_18 => ?_)
          · refine x_aload_n hM dX7_grab_24 rfl rfl ?_
            refine x_iload_n hM dX7_grab_25 rfl rfl ?_
            refine x_iconst hM dX7_grab_26 ?_
            refine x_callV hM wv_X7_127 (m_X7_holeFor (by assumption) (by omega) (by omega)) ⟨Nat.le_of_ble_eq_true rfl, Nat.le_of_ble_eq_true rfl⟩ (by first | assumption | exact md_o (by assumption)) rfl rfl rfl rfl (Nat.le_of_ble_eq_true rfl) ⟨Nat.le_of_ble_eq_true rfl, Nat.le_of_ble_eq_true rfl⟩ dX7_grab_27 (k_rI ?_)
            refine x_istore_n hM dX7_grab_30 rfl rfl (Nat.le_of_ble_eq_true rfl) rfl ?_
            refine x_iload_n hM dX7_grab_31 rfl rfl ?_
            refine x_if_lt (tgt := 56) hM dX7_grab_32 (by decide) (by omega) (fun c_32 => ?_) (fun c_32 => ?_)
            · exfalso; omega
            · refine x_aload_n hM dX7_grab_35 rfl rfl ?_
              refine x_iload_n hM dX7_grab_36 rfl rfl ?_
              refine x_iload_n hM dX7_grab_37 rfl rfl ?_
              refine x_iload_n hM dX7_grab_38 rfl rfl ?_
              refine x_iadd hM dX7_grab_39 ?_
              refine x_iload_n hM dX7_grab_40 rfl rfl ?_
              refine x_callV hM wv_X7_108 (m_X7_layRow hh hr hn1 hp (by omega) (by omega)) ⟨Nat.le_of_ble_eq_true rfl, Nat.le_of_ble_eq_true rfl⟩ hh rfl rfl rfl rfl (Nat.le_of_ble_eq_true rfl) ⟨Nat.le_of_ble_eq_true rfl, Nat.le_of_ble_eq_true rfl⟩ dX7_grab_41 (k_qV fun w_41 q_41 => ?_)
              obtain ⟨q1, q2, q3⟩ := q_41
              have hmu := mu_row hn hm q1 q2 q3
              have hn1b := (q3 (m + 1) (by omega) (by omega)).trans hn1
              have hrd2 := rd_mk q1 hn1b hp
              have hnb := hn.kpf (q3 (m + 1) (by omega) (by omega)) (q3 (m + 2) (by omega) (by omega))
              have hmb := hm.kpf (q3 (m + 6) (by omega) (by omega)) (q3 (m + 7) (by omega) (by omega))
              refine x_aload_n hM dX7_grab_44 rfl rfl ?_
              refine x_callV hM wv_X7_111 (m_X7_rangesInRow q1 q2) ⟨Nat.le_of_ble_eq_true rfl, Nat.le_of_ble_eq_true rfl⟩ q1 rfl rfl rfl rfl (Nat.le_of_ble_eq_true rfl) ⟨Nat.le_of_ble_eq_true rfl, Nat.le_of_ble_eq_true rfl⟩ dX7_grab_45 (k_rI ?_)
              have hrb := rnF_b (lrF t.L (hfF t.L n 0) (hfF t.L n 0 + n) o)
              have hrl := q2
              obtain ⟨-, -, -, -, hrl, -⟩ := hrl
              refine x_bipush hM dX7_grab_48 rfl ?_
              refine x_icmp_le (tgt := 56) hM dX7_grab_50 (by decide) (by omega) (by omega) (fun c_50 => ?_) (fun c_50 => ?_)
              · refine x_iload_n hM dX7_grab_56 rfl rfl ?_
                refine x_if_lt (tgt := 69) hM dX7_grab_57 (by decide) (by omega) (fun c_57 => ?_) (fun c_57 => ?_)
                · exfalso; omega
                · refine x_aload_n hM dX7_grab_60 rfl rfl ?_
                  refine x_iload_n hM dX7_grab_61 rfl rfl ?_
                  refine x_iload_n hM dX7_grab_62 rfl rfl ?_
                  refine x_callV hM wv_X7_115 (m_X7_mayGet hrd2 (by omega) (by omega)) ⟨Nat.le_of_ble_eq_true rfl, Nat.le_of_ble_eq_true rfl⟩ q1 rfl rfl rfl rfl (Nat.le_of_ble_eq_true rfl) ⟨Nat.le_of_ble_eq_true rfl, Nat.le_of_ble_eq_true rfl⟩ dX7_grab_63 (k_rI ?_)
                  by_cases c4 : mayE t o n
                  · rw [if_pos c4]
                    refine x_if_ne (tgt := 72) hM dX7_grab_66 (by decide) (by omega) (fun _ => ?_) (fun q => absurd q (by decide))
                    refine x_aload_n hM dX7_grab_72 rfl rfl ?_
                    refine x_callV hM wv_X7_73 (m_X7_record q1 hnb hmb hit) ⟨Nat.le_of_ble_eq_true rfl, Nat.le_of_ble_eq_true rfl⟩ q1 rfl rfl rfl rfl (Nat.le_of_ble_eq_true rfl) ⟨Nat.le_of_ble_eq_true rfl, Nat.le_of_ble_eq_true rfl⟩ dX7_grab_73 (k_qV fun w_73 q_73 => ?_)
                    obtain ⟨g1, g2, g3⟩ := q_73
                    have hn1c := (g3 (m + 1) (by omega) (by omega)).trans hn1b
                    have hn2c := (g3 (m + 2) (by omega) (by omega)).trans ((q3 (m + 2) (by omega) (by omega)).trans hn2)
                    have hrc := q2.kpf (g3 (m + 12) (by omega) (by omega)) (g3 (m + 13) (by omega) (by omega))
                    refine x_aload_n hM dX7_grab_76 rfl rfl ?_
                    refine x_callV hM wv_X7_118 (m_X7_takeRow g1 hrc hn1c hp (lr_W hp (by omega) (by omega) (by omega))) ⟨Nat.le_of_ble_eq_true rfl, Nat.le_of_ble_eq_true rfl⟩ g1 rfl rfl rfl rfl (Nat.le_of_ble_eq_true rfl) ⟨Nat.le_of_ble_eq_true rfl, Nat.le_of_ble_eq_true rfl⟩ dX7_grab_77 (k_qV fun w_77 q_77 => ?_)
                    obtain ⟨k1, k2⟩ := q_77
                    have hmu2 := mu_take g1 hn2c hg g2 hrc k1 k2
                    have hfm : Fm m w w_77 := ((Fm.r q3).tr (Fm.h g3)).tr (Fm.n k2)
                    refine x_iload_n hM dX7_grab_80 rfl rfl ?_
                    refine hR.i dX7_grab_81 (Nat.zero_le _) (Nat.zero_le _) ?_
                    exact p_mr (by unfold grR; rw [if_pos c1, if_pos c2, if_neg (by omega), if_pos (by omega), if_pos c4]) (by omega) hmu2 hfm
                  · rw [if_neg c4]
                    refine x_if_ne (tgt := 72) hM dX7_grab_66 (by decide) (by omega) (fun q => absurd rfl q) (fun _ => ?_)
                    refine x_bipush hM dX7_grab_69 rfl ?_
                    refine hR.i dX7_grab_71 (Nat.zero_le _) (Nat.zero_le _) ?_
                    exact p_mrk (by unfold grR; rw [if_pos c1, if_pos c2, if_neg c3, if_pos (by omega), if_neg c4]) (by decide) hmu (Fm.r q3)
              · refine x_bipush hM dX7_grab_53 rfl ?_
                refine hR.i dX7_grab_55 (Nat.zero_le _) (Nat.zero_le _) ?_
                exact p_mrk (by unfold grR; rw [if_pos c1, if_pos c2, if_neg (by omega), if_neg (by omega)]) (by decide) hmu (Fm.r q3)
          · exfalso; omega
        · exfalso; omega
    · have e1 : grR t o n = (-2, t) := by unfold grR; rw [if_pos c1, if_neg c2]
      refine x_aload_n hM dX7_grab_0 rfl rfl ?_
      refine x_iload_n hM dX7_grab_1 rfl rfl ?_
      refine x_callV hM wv_X7_77 (m_X7_isOwner (by assumption) (by omega)) ⟨Nat.le_of_ble_eq_true rfl, Nat.le_of_ble_eq_true rfl⟩ (by first | assumption | exact md_o (by assumption)) rfl rfl rfl rfl (Nat.le_of_ble_eq_true rfl) ⟨Nat.le_of_ble_eq_true rfl, Nat.le_of_ble_eq_true rfl⟩ dX7_grab_2 (k_rI ?_)
      rw [if_pos c1]
      refine x_if_ne (tgt := 10) hM dX7_grab_5 (by decide) (by omega) (fun c_5 => ?_) (fun c_5 => ?_)
      · refine x_iload_n hM dX7_grab_10 rfl rfl ?_
        refine x_iconst hM dX7_grab_11 ?_
        refine x_sipush hM dX7_grab_12 rfl ?_
        refine x_callS hM ws_X7_62 (m_X7_in (by omega) (by omega) (by omega)) ⟨Nat.le_of_ble_eq_true rfl, Nat.le_of_ble_eq_true rfl⟩ rfl rfl (Nat.le_of_ble_eq_true rfl) ⟨Nat.le_of_ble_eq_true rfl, Nat.le_of_ble_eq_true rfl⟩ dX7_grab_15 (k_rI ?_)
        rw [if_neg c2]
        refine x_if_ne (tgt := 24) hM dX7_grab_18 (by decide) (by omega) (fun c_18 => ?_) (fun c_18 => ?_)
        · exfalso; omega
        · refine x_bipush hM dX7_grab_21 rfl ?_
          refine hR.i dX7_grab_23 (Nat.zero_le _) (Nat.zero_le _) ?_
          exact p_mr0 e1 (by decide) h
      · exfalso; omega
  · have e1 : grR t o n = (-1, t) := if_neg c1
    refine x_aload_n hM dX7_grab_0 rfl rfl ?_
    refine x_iload_n hM dX7_grab_1 rfl rfl ?_
    refine x_callV hM wv_X7_77 (m_X7_isOwner (by assumption) (by omega)) ⟨Nat.le_of_ble_eq_true rfl, Nat.le_of_ble_eq_true rfl⟩ (by first | assumption | exact md_o (by assumption)) rfl rfl rfl rfl (Nat.le_of_ble_eq_true rfl) ⟨Nat.le_of_ble_eq_true rfl, Nat.le_of_ble_eq_true rfl⟩ dX7_grab_2 (k_rI ?_)
    rw [if_neg c1]
    refine x_if_ne (tgt := 10) hM dX7_grab_5 (by decide) (by omega) (fun c_5 => ?_) (fun c_5 => ?_)
    · exfalso; omega
    · refine x_iconst hM dX7_grab_8 ?_
      refine hR.i dX7_grab_9 (Nat.zero_le _) (Nat.zero_le _) ?_
      exact p_mr0 e1 (by decide) h
