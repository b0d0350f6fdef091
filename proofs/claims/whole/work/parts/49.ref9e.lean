theorem la_len (o q : Int) : ∀ (S R : List Sg), (S.foldl (laS o q) R).length ≤ R.length + S.length := by
  intro S
  induction S with
  | nil => intro R; exact Nat.le_refl _
  | cons s S ih =>
    intro R
    have h1 := ih (laS o q R s)
    have h2 := layF_len R s.2.1 s.2.2 (if s.1 = o then q else s.1)
    rw [List.foldl_cons, List.length_cons]
    unfold laS at h1 ⊢
    omega
theorem la_W {f : Int → Int} {t : St} {o q : Int} (hp : nowP f t) (hq : okO q) : segW (laF t.L o q) := by
  obtain ⟨h1, h2⟩ := laF_cov (o := o) (np_w hp).2.1 hq
  have := la_len o q t.L []
  have := (np_w hp).1
  exact ⟨by unfold laF; simp at *; omega, h1, h2⟩
def inR (t : St) (o h : Int) : Int × St := if (0 ≤ o ∧ o < t.own) ∧ (0 ≤ h ∧ h < t.own) ∧ o ≠ h then (if mayE t h (mtsO t.L o) then (mtsO t.L o, stL t (laF t.L o h)) else (-5, t)) else (-1, t)
theorem m_X7_inherit {l : Launch} {G : xG} {w : Wd} {z m : Nat} {it : Int} {t : St} {hs : List St} {sg mn pl wr o h0 : Int} (h : muA G w m it t hs sg mn pl wr) (hit : it = 0 ∨ it = 1) (ho : iR o) (hh0 : iR h0) : xMet l G yX7_inherit cX7_inherit 4 (some .int) ({ frames := 5, cells := 0, slots := 0, locals := 112 } : Room) [.ref m, .int (iI o), .int (iI h0)] w z (mrP G w z m it t hs sg mn pl wr (inR t o h0)) := by
  obtain ⟨R, hh, hn, hm, hr⟩ := id h
  obtain ⟨f, g, hn1, hp, hn2, hg⟩ := id hn
  have hrd := rd_mk hh hn1 hp
  have hW := np_r hp
  obtain ⟨r1, r2, r3⟩ := id hW
  have hS := np_w hp
  have hmb0 := mts_gb o (np_all hp)
  have hl := hS.1
  refine xMet_of RX7 rfl (by decide +kernel) false (by decide +kernel) (Nat.le_of_ble_eq_true rfl) rfl ?_
  intro P hM hR
  refine x_aload_n hM dX7_inherit_0 rfl rfl ?_
  refine x_iload_n hM dX7_inherit_1 rfl rfl ?_
  refine x_callV hM wv_X7_77 (m_X7_isOwner (by assumption) (by omega)) ⟨Nat.le_of_ble_eq_true rfl, Nat.le_of_ble_eq_true rfl⟩ (by first | assumption | exact md_o (by assumption)) rfl rfl rfl rfl (Nat.le_of_ble_eq_true rfl) ⟨Nat.le_of_ble_eq_true rfl, Nat.le_of_ble_eq_true rfl⟩ dX7_inherit_2 (k_rI ?_)
  by_cases c1 : 0 ≤ o ∧ o < t.own
  · rw [if_pos c1]
    refine x_if_eq (tgt := 21) hM dX7_inherit_5 (by decide) (by omega) (fun q => absurd q (by decide)) (fun _ => ?_)
    refine x_aload_n hM dX7_inherit_8 rfl rfl ?_
    refine x_iload_n hM dX7_inherit_9 rfl rfl ?_
    refine x_callV hM wv_X7_77 (m_X7_isOwner (by assumption) (by omega)) ⟨Nat.le_of_ble_eq_true rfl, Nat.le_of_ble_eq_true rfl⟩ (by first | assumption | exact md_o (by assumption)) rfl rfl rfl rfl (Nat.le_of_ble_eq_true rfl) ⟨Nat.le_of_ble_eq_true rfl, Nat.le_of_ble_eq_true rfl⟩ dX7_inherit_10 (k_rI ?_)
    by_cases c2 : 0 ≤ h0 ∧ h0 < t.own
    · rw [if_pos c2]
      refine x_if_eq (tgt := 21) hM dX7_inherit_13 (by decide) (by omega) (fun q => absurd q (by decide)) (fun _ => ?_)
      refine x_iload_n hM dX7_inherit_16 rfl rfl ?_
      refine x_iload_n hM dX7_inherit_17 rfl rfl ?_
      refine x_icmp_ne (tgt := 23) hM dX7_inherit_18 (by decide) (by omega) (by omega) (fun c_18 => ?_) (fun c_18 => ?_)
      · refine x_aload_n hM dX7_inherit_23 rfl rfl ?_
        have c3 : (0 ≤ o ∧ o < t.own) ∧ (0 ≤ h0 ∧ h0 < t.own) ∧ o ≠ h0 := ⟨c1, c2, by assumption⟩
        refine x_iload_n hM dX7_inherit_24 rfl rfl ?_
        refine x_callV hM wv_X7_101 (m_X7_metersOf (by assumption) (by omega)) ⟨Nat.le_of_ble_eq_true rfl, Nat.le_of_ble_eq_true rfl⟩ (by first | assumption | exact md_o (by assumption)) rfl rfl rfl rfl (Nat.le_of_ble_eq_true rfl) ⟨Nat.le_of_ble_eq_true rfl, Nat.le_of_ble_eq_true rfl⟩ dX7_inherit_25 (k_rI ?_)
        refine x_istore_n hM dX7_inherit_28 rfl rfl (Nat.le_of_ble_eq_true rfl) rfl ?_
        refine x_aload_n hM dX7_inherit_29 rfl rfl ?_
        refine x_iload_n hM dX7_inherit_30 rfl rfl ?_
        refine x_iload_n hM dX7_inherit_31 rfl rfl ?_
        refine x_callV hM wv_X7_115 (m_X7_mayGet (by assumption) (by omega) (by omega)) ⟨Nat.le_of_ble_eq_true rfl, Nat.le_of_ble_eq_true rfl⟩ (by first | assumption | exact md_o (by assumption)) rfl rfl rfl rfl (Nat.le_of_ble_eq_true rfl) ⟨Nat.le_of_ble_eq_true rfl, Nat.le_of_ble_eq_true rfl⟩ dX7_inherit_32 (k_rI ?_)
        by_cases c4 : mayE t h0 (mtsO t.L o)
        · rw [if_pos c4]
          refine x_if_ne (tgt := 41) hM dX7_inherit_35 (by decide) (by omega) (fun _ => ?_) (fun q => absurd q (by decide))
          refine x_aload_n hM dX7_inherit_41 rfl rfl ?_
          refine x_callV hM wv_X7_73 (m_X7_record hh hn hm hit) ⟨Nat.le_of_ble_eq_true rfl, Nat.le_of_ble_eq_true rfl⟩ hh rfl rfl rfl rfl (Nat.le_of_ble_eq_true rfl) ⟨Nat.le_of_ble_eq_true rfl, Nat.le_of_ble_eq_true rfl⟩ dX7_inherit_42 (k_qV fun w_42 q_42 => ?_)
          obtain ⟨g1, g2, g3⟩ := q_42
          have hn1b := (g3 (m + 1) (by omega) (by omega)).trans hn1
          have hrb := hr.kpf (g3 (m + 12) (by omega) (by omega)) (g3 (m + 13) (by omega) (by omega))
          refine x_aload_n hM dX7_inherit_45 rfl rfl ?_
          refine x_iload_n hM dX7_inherit_46 rfl rfl ?_
          refine x_iload_n hM dX7_inherit_47 rfl rfl ?_
          refine x_callV hM wv_X7_131 (m_X7_layAll g1 hrb hn1b hp ho (by omega)) ⟨Nat.le_of_ble_eq_true rfl, Nat.le_of_ble_eq_true rfl⟩ g1 rfl rfl rfl rfl (Nat.le_of_ble_eq_true rfl) ⟨Nat.le_of_ble_eq_true rfl, Nat.le_of_ble_eq_true rfl⟩ dX7_inherit_48 (k_qV fun w_48 q_48 => ?_)
          obtain ⟨q1, q2, q3⟩ := q_48
          have hn1c := (q3 (m + 1) (by omega) (by omega)).trans hn1b
          have hn2c := (q3 (m + 2) (by omega) (by omega)).trans ((g3 (m + 2) (by omega) (by omega)).trans hn2)
          have hmc := g2.kpf (q3 (m + 6) (by omega) (by omega)) (q3 (m + 7) (by omega) (by omega))
          refine x_aload_n hM dX7_inherit_51 rfl rfl ?_
          refine x_callV hM wv_X7_118 (m_X7_takeRow q1 q2 hn1c hp (la_W hp (by omega))) ⟨Nat.le_of_ble_eq_true rfl, Nat.le_of_ble_eq_true rfl⟩ q1 rfl rfl rfl rfl (Nat.le_of_ble_eq_true rfl) ⟨Nat.le_of_ble_eq_true rfl, Nat.le_of_ble_eq_true rfl⟩ dX7_inherit_52 (k_qV fun w_52 q_52 => ?_)
          obtain ⟨k1, k2⟩ := q_52
          have hmu2 := mu_take q1 hn2c hg hmc q2 k1 k2
          refine x_iload_n hM dX7_inherit_55 rfl rfl ?_
          refine hR.i dX7_inherit_56 (Nat.zero_le _) (Nat.zero_le _) ?_
          exact p_mr ((if_pos c3).trans (if_pos c4)) hmb0.1 hmu2 (((Fm.h g3).tr (Fm.r q3)).tr (Fm.n k2))
        · rw [if_neg c4]
          refine x_if_ne (tgt := 41) hM dX7_inherit_35 (by decide) (by omega) (fun q => absurd rfl q) (fun _ => ?_)
          refine x_bipush hM dX7_inherit_38 rfl ?_
          refine hR.i dX7_inherit_40 (Nat.zero_le _) (Nat.zero_le _) ?_
          exact p_mr0 ((if_pos c3).trans (if_neg c4)) (by decide) h
      · refine x_iconst hM dX7_inherit_21 ?_
        refine hR.i dX7_inherit_22 (Nat.zero_le _) (Nat.zero_le _) ?_
        exact p_mr0 (if_neg (fun q => by first | exact c1 q.1 | exact c2 q.2.1 | exact q.2.2 (by assumption))) (by decide) h
    · rw [if_neg c2]
      refine x_if_eq (tgt := 21) hM dX7_inherit_13 (by decide) (by omega) (fun _ => ?_) (fun q => absurd rfl q)
      refine x_iconst hM dX7_inherit_21 ?_
      refine hR.i dX7_inherit_22 (Nat.zero_le _) (Nat.zero_le _) ?_
      exact p_mr0 (if_neg (fun q => by first | exact c1 q.1 | exact c2 q.2.1 | exact q.2.2 (by assumption))) (by decide) h
  · rw [if_neg c1]
    refine x_if_eq (tgt := 21) hM dX7_inherit_5 (by decide) (by omega) (fun _ => ?_) (fun q => absurd rfl q)
    refine x_iconst hM dX7_inherit_21 ?_
    refine hR.i dX7_inherit_22 (Nat.zero_le _) (Nat.zero_le _) ?_
    exact p_mr0 (if_neg (fun q => by first | exact c1 q.1 | exact c2 q.2.1 | exact q.2.2 (by assumption))) (by decide) h
