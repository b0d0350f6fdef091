/-! The reference: changes of pieces, transfers -/
theorem mu_row {G : xG} {w w1 : Wd} {m : Nat} {it : Int} {t : St} {hs : List St} {R : List Sg} {sg mn pl wr : Int} (hn : nowA G w m t) (hm : hmA G w m hs) (q1 : w1 m = some (hdV m hs.length sg it R.length mn pl wr)) (q2 : rwA G w1 m R) (q3 : Fr2 m (m + 1) (m + 12) (m + 14) w w1) : muA G w1 m it t hs sg mn pl wr :=
  ⟨R, q1, hn.kpf (q3 _ (by omega) (by omega)) (q3 _ (by omega) (by omega)), hm.kpf (q3 _ (by omega) (by omega)) (q3 _ (by omega) (by omega)), q2⟩
/-- after the row is taken -/
theorem mu_take {G : xG} {w w1 : Wd} {m : Nat} {it : Int} {t : St} {hs : List St} {R : List Sg} {sg mn pl wr : Int} {g : Int → Int64} (hh : w m = some (hdV m hs.length sg it R.length mn pl wr)) (hn2 : w (m + 2) = some (aJ G 10 g)) (hg : eqR 10 g t.mon) (hm : hmA G w m hs) (hr : rwA G w m R) (q : ∃ f, w1 (m + 1) = some (aI G 400 f) ∧ nowP f (stL t R)) (k : Fr (m + 1) (m + 2) w w1) : muA G w1 m it (stL t R) hs sg mn pl wr := by
  obtain ⟨f, q1, q2⟩ := q
  exact ⟨R, (k _ (by omega)).trans hh, ⟨f, g, q1, q2, (k _ (by omega)).trans hn2, hg⟩, hm.kpf (k _ (by omega)) (k _ (by omega)), hr.kpf (k _ (by omega)) (k _ (by omega))⟩
theorem p_mrk {G : xG} {w w1 : Wd} {z m : Nat} {it y : Int} {t : St} {hs : List St} {sg mn pl wr : Int} {r : Int × St} (e : r = (y, t)) (hy : y < 0) (h : muA G w1 m it t hs sg mn pl wr) (k : Fm m w w1) : mrP G w z m it t hs sg mn pl wr r (some (.int (iI y))) w1 z := by
  subst e
  exact p_qI ⟨rfl, by unfold hisR; rw [if_pos hy]; exact h, k⟩
abbrev mayE (t : St) (o n : Int) : Prop := n = 0 ∨ mtsO t.L o + n ≤ t.set 4
def gvR (t : St) (o f n : Int) : Int × St := if 0 ≤ o ∧ o < t.own then (if isP f n then (if rnF (lrF t.L f (f + n) o) ≤ 40 then (if mayE t o (n - mtwF t.L o f n) then (rnF (lrF t.L f (f + n) o), stL t (lrF t.L f (f + n) o)) else (-5, t)) else (-4, t)) else (-2, t)) else (-1, t)
theorem ovG_b {s : Sg} {a n : Int} (h : okG s) (ha : 0 ≤ a ∧ 0 ≤ n) : 0 ≤ ovF s a n ∧ ovF s a n ≤ 10000 := by
  obtain ⟨-, h1, h2, h3⟩ := h
  unfold ovF
  by_cases c1 : a + n < s.2.2
  · rw [if_pos c1]
    by_cases c2 : s.2.1 < a
    · rw [if_pos c2]; split <;> omega
    · rw [if_neg c2]; split <;> omega
  · rw [if_neg c1]
    by_cases c2 : s.2.1 < a
    · rw [if_pos c2]; split <;> omega
    · rw [if_neg c2]; split <;> omega
theorem mtw_gb {L : List Sg} (o a n : Int) (h : ∀ s ∈ L, okG s) (ha : 0 ≤ a ∧ 0 ≤ n) : 0 ≤ mtwF L o a n ∧ mtwF L o a n ≤ 10000 * L.length := by
  have gen : ∀ (M : List Sg) (c : Int), (∀ x ∈ M, okG x) → 0 ≤ c → 0 ≤ M.foldl (mtwS o a n) c ∧ M.foldl (mtwS o a n) c ≤ c + 10000 * M.length := by
    intro M
    induction M with
    | nil => intro c _ hc; simp only [List.foldl_nil, List.length_nil]; omega
    | cons x M ih =>
      intro c hx hc
      have h1 := ovG_b (hx x List.mem_cons_self) ha
      have h5 : 0 ≤ mtwS o a n c x ∧ mtwS o a n c x ≤ c + 10000 := by unfold mtwS; split <;> omega
      have := ih (mtwS o a n c x) (fun y hy => hx y (List.mem_cons_of_mem _ hy)) h5.1
      simp only [List.foldl_cons, List.length_cons]
      omega
  have := gen L 0 h (by omega)
  unfold mtwF
  omega
theorem lr_W {f : Int → Int} {t : St} {a b o : Int} (hp : nowP f t) (ho : okO o) (ha : 0 ≤ a ∧ a < b ∧ b ≤ 10000) (h : rnF (lrF t.L a b o) ≤ 40) : segW (lrF t.L a b o) := by
  obtain ⟨h1, h2⟩ := lrF_cov (np_w hp).2.1 ho ha
  exact segW_of h1 h2 h
theorem m_X7_give {l : Launch} {G : xG} {w : Wd} {z m : Nat} {it : Int} {t : St} {hs : List St} {sg mn pl wr o f0 n : Int} (h : muA G w m it t hs sg mn pl wr) (hit : it = 0 ∨ it = 1) (ho : iR o) (hf0 : iR f0) (hn0 : iR n) : xMet l G yX7_give cX7_give 4 (some .int) ({ frames := 5, cells := 0, slots := 0, locals := 112 } : Room) [.ref m, .int (iI o), .int (iI f0), .int (iI n)] w z (mrP G w z m it t hs sg mn pl wr (gvR t o f0 n)) := by
  obtain ⟨R, hh, hn, hm, hr⟩ := id h
  obtain ⟨f, g, hn1, hp, hn2, hg⟩ := id hn
  have hrd := rd_mk hh hn1 hp
  have hW := np_r hp
  obtain ⟨r1, r2, r3⟩ := id hW
  have hS := np_w hp
  refine xMet_of RX7 rfl (by decide +kernel) false (by decide +kernel) (Nat.le_of_ble_eq_true rfl) rfl ?_
  intro P hM hR
  by_cases c1 : 0 ≤ o ∧ o < t.own
  · by_cases c2 : isP f0 n
    · have hb := mtw_gb o f0 n (np_all hp) (by omega)
      have hl := hS.1
      refine x_aload_n hM dX7_give_0 rfl rfl ?_
      refine x_iload_n hM dX7_give_1 rfl rfl ?_
      refine x_callV hM wv_X7_77 (m_X7_isOwner (by assumption) (by omega)) ⟨Nat.le_of_ble_eq_true rfl, Nat.le_of_ble_eq_true rfl⟩ (by first | assumption | exact md_o (by assumption)) rfl rfl rfl rfl (Nat.le_of_ble_eq_true rfl) ⟨Nat.le_of_ble_eq_true rfl, Nat.le_of_ble_eq_true rfl⟩ dX7_give_2 (k_rI ?_)
      rw [if_pos c1]
      refine x_if_ne (tgt := 10) hM dX7_give_5 (by decide) (by omega) (fun c_5 => ?_) (fun c_5 => ?_)
      · refine x_iload_n hM dX7_give_10 rfl rfl ?_
        refine x_iload_n hM dX7_give_11 rfl rfl ?_
        refine x_callS hM ws_X7_104 (m_X7_isPiece (by omega) (by omega)) ⟨Nat.le_of_ble_eq_true rfl, Nat.le_of_ble_eq_true rfl⟩ rfl rfl (Nat.le_of_ble_eq_true rfl) ⟨Nat.le_of_ble_eq_true rfl, Nat.le_of_ble_eq_true rfl⟩ dX7_give_12 (k_rI ?_)
        rw [if_pos c2]
        refine x_if_ne (tgt := 21) hM dX7_give_15 (by decide) (by omega) (fun c_15 => ?_) (fun c_15 => ?_)
        · refine x_aload_n hM dX7_give_21 rfl rfl ?_
          refine x_iload_n hM dX7_give_22 rfl rfl ?_
          refine x_iload_n hM dX7_give_23 rfl rfl ?_
          refine x_iload_n hM dX7_give_24 rfl rfl ?_
          refine x_iadd hM dX7_give_25 ?_
          refine x_iload_n hM dX7_give_26 rfl rfl ?_
          refine x_callV hM wv_X7_108 (m_X7_layRow hh hr hn1 hp (by omega) (by omega)) ⟨Nat.le_of_ble_eq_true rfl, Nat.le_of_ble_eq_true rfl⟩ hh rfl rfl rfl rfl (Nat.le_of_ble_eq_true rfl) ⟨Nat.le_of_ble_eq_true rfl, Nat.le_of_ble_eq_true rfl⟩ dX7_give_27 (k_qV fun w_27 q_27 => ?_)
          obtain ⟨q1, q2, q3⟩ := q_27
          have hmu := mu_row hn hm q1 q2 q3
          have hn1b := (q3 (m + 1) (by omega) (by omega)).trans hn1
          have hrd2 := rd_mk q1 hn1b hp
          have hnb := hn.kpf (q3 (m + 1) (by omega) (by omega)) (q3 (m + 2) (by omega) (by omega))
          have hmb := hm.kpf (q3 (m + 6) (by omega) (by omega)) (q3 (m + 7) (by omega) (by omega))
          refine x_aload_n hM dX7_give_30 rfl rfl ?_
          refine x_callV hM wv_X7_111 (m_X7_rangesInRow q1 q2) ⟨Nat.le_of_ble_eq_true rfl, Nat.le_of_ble_eq_true rfl⟩ q1 rfl rfl rfl rfl (Nat.le_of_ble_eq_true rfl) ⟨Nat.le_of_ble_eq_true rfl, Nat.le_of_ble_eq_true rfl⟩ dX7_give_31 (k_rI ?_)
          have hrb := rnF_b (lrF t.L f0 (f0 + n) o)
          have hrl := q2
          obtain ⟨-, -, -, -, hrl, -⟩ := hrl
          refine x_bipush hM dX7_give_34 rfl ?_
          refine x_icmp_le (tgt := 42) hM dX7_give_36 (by decide) (by omega) (by omega) (fun c_36 => ?_) (fun c_36 => ?_)
          · refine x_aload_n hM dX7_give_42 rfl rfl ?_
            refine x_iload_n hM dX7_give_43 rfl rfl ?_
            refine x_iload_n hM dX7_give_44 rfl rfl ?_
            refine x_aload_n hM dX7_give_45 rfl rfl ?_
            refine x_iload_n hM dX7_give_46 rfl rfl ?_
            refine x_iload_n hM dX7_give_47 rfl rfl ?_
            refine x_iload_n hM dX7_give_48 rfl rfl ?_
            refine x_iadd hM dX7_give_49 ?_
            refine x_iload_n hM dX7_give_50 rfl rfl ?_
            refine x_callV hM wv_X7_97 (m_X7_metersIn hrd2 (by omega) (by omega) (by omega)) ⟨Nat.le_of_ble_eq_true rfl, Nat.le_of_ble_eq_true rfl⟩ q1 rfl rfl rfl rfl (Nat.le_of_ble_eq_true rfl) ⟨Nat.le_of_ble_eq_true rfl, Nat.le_of_ble_eq_true rfl⟩ dX7_give_51 (k_rI ?_)
            rw [show f0 + n - f0 = n by omega]
            refine x_isub hM dX7_give_54 ?_
            refine x_callV hM wv_X7_115 (m_X7_mayGet hrd2 (by omega) (by omega)) ⟨Nat.le_of_ble_eq_true rfl, Nat.le_of_ble_eq_true rfl⟩ q1 rfl rfl rfl rfl (Nat.le_of_ble_eq_true rfl) ⟨Nat.le_of_ble_eq_true rfl, Nat.le_of_ble_eq_true rfl⟩ dX7_give_55 (k_rI ?_)
            by_cases c4 : mayE t o (n - mtwF t.L o f0 n)
            · rw [if_pos c4]
              refine x_if_ne (tgt := 64) hM dX7_give_58 (by decide) (by omega) (fun _ => ?_) (fun q => absurd q (by decide))
              refine x_aload_n hM dX7_give_64 rfl rfl ?_
              refine x_callV hM wv_X7_73 (m_X7_record q1 hnb hmb hit) ⟨Nat.le_of_ble_eq_true rfl, Nat.le_of_ble_eq_true rfl⟩ q1 rfl rfl rfl rfl (Nat.le_of_ble_eq_true rfl) ⟨Nat.le_of_ble_eq_true rfl, Nat.le_of_ble_eq_true rfl⟩ dX7_give_65 (k_qV fun w_65 q_65 => ?_)
              obtain ⟨g1, g2, g3⟩ := q_65
              have hn1c := (g3 (m + 1) (by omega) (by omega)).trans hn1b
              have hn2c := (g3 (m + 2) (by omega) (by omega)).trans ((q3 (m + 2) (by omega) (by omega)).trans hn2)
              have hrc := q2.kpf (g3 (m + 12) (by omega) (by omega)) (g3 (m + 13) (by omega) (by omega))
              refine x_aload_n hM dX7_give_68 rfl rfl ?_
              refine x_callV hM wv_X7_118 (m_X7_takeRow g1 hrc hn1c hp (lr_W hp (by omega) (by omega) (by omega))) ⟨Nat.le_of_ble_eq_true rfl, Nat.le_of_ble_eq_true rfl⟩ g1 rfl rfl rfl rfl (Nat.le_of_ble_eq_true rfl) ⟨Nat.le_of_ble_eq_true rfl, Nat.le_of_ble_eq_true rfl⟩ dX7_give_69 (k_qV fun w_69 q_69 => ?_)
              obtain ⟨k1, k2⟩ := q_69
              have hmu2 := mu_take g1 hn2c hg g2 hrc k1 k2
              have hfm : Fm m w w_69 := ((Fm.r q3).tr (Fm.h g3)).tr (Fm.n k2)
              obtain ⟨fz, k3, k4⟩ := k1
              have hh4 := (k2 m (by omega)).trans g1
              refine x_aload_n hM dX7_give_72 rfl rfl ?_
              refine x_callV hM wv_X7_121 (m_X7_rangesNow (rd_mk hh4 k3 k4)) ⟨Nat.le_of_ble_eq_true rfl, Nat.le_of_ble_eq_true rfl⟩ hh4 rfl rfl rfl rfl (Nat.le_of_ble_eq_true rfl) ⟨Nat.le_of_ble_eq_true rfl, Nat.le_of_ble_eq_true rfl⟩ dX7_give_73 (k_rI ?_)
              refine hR.i dX7_give_76 (Nat.zero_le _) (Nat.zero_le _) ?_
              exact p_mr (by unfold gvR; rw [if_pos c1, if_pos c2, if_pos (by omega), if_pos c4]) hrb.1 hmu2 hfm
            · rw [if_neg c4]
              refine x_if_ne (tgt := 64) hM dX7_give_58 (by decide) (by omega) (fun q => absurd rfl q) (fun _ => ?_)
              refine x_bipush hM dX7_give_61 rfl ?_
              refine hR.i dX7_give_63 (Nat.zero_le _) (Nat.zero_le _) ?_
              exact p_mrk (by unfold gvR; rw [if_pos c1, if_pos c2, if_pos (by omega), if_neg c4]) (by decide) hmu (Fm.r q3)
          · refine x_bipush hM dX7_give_39 rfl ?_
            refine hR.i dX7_give_41 (Nat.zero_le _) (Nat.zero_le _) ?_
            exact p_mrk (by unfold gvR; rw [if_pos c1, if_pos c2, if_neg (by omega)]) (by decide) hmu (Fm.r q3)
        · exfalso; omega
      · exfalso; omega
    · have e1 : gvR t o f0 n = (-2, t) := by unfold gvR; rw [if_pos c1, if_neg c2]
      refine x_aload_n hM dX7_give_0 rfl rfl ?_
      refine x_iload_n hM dX7_give_1 rfl rfl ?_
      refine x_callV hM wv_X7_77 (m_X7_isOwner (by assumption) (by omega)) ⟨Nat.le_of_ble_eq_true rfl, Nat.le_of_ble_eq_true rfl⟩ (by first | assumption | exact md_o (by assumption)) rfl rfl rfl rfl (Nat.le_of_ble_eq_true rfl) ⟨Nat.le_of_ble_eq_true rfl, Nat.le_of_ble_eq_true rfl⟩ dX7_give_2 (k_rI ?_)
      rw [if_pos c1]
      refine x_if_ne (tgt := 10) hM dX7_give_5 (by decide) (by omega) (fun c_5 => ?_) (fun c_5 => ?_)
      · refine x_iload_n hM dX7_give_10 rfl rfl ?_
        refine x_iload_n hM dX7_give_11 rfl rfl ?_
        refine x_callS hM ws_X7_104 (m_X7_isPiece (by omega) (by omega)) ⟨Nat.le_of_ble_eq_true rfl, Nat.le_of_ble_eq_true rfl⟩ rfl rfl (Nat.le_of_ble_eq_true rfl) ⟨Nat.le_of_ble_eq_true rfl, Nat.le_of_ble_eq_true rfl⟩ dX7_give_12 (k_rI ?_)
        rw [if_neg c2]
        refine x_if_ne (tgt := 21) hM dX7_give_15 (by decide) (by omega) (fun c_15 => ?_) (fun c_15 => ?_)
        · exfalso; omega
        · refine x_bipush hM dX7_give_18 rfl ?_
          refine hR.i dX7_give_20 (Nat.zero_le _) (Nat.zero_le _) ?_
          exact p_mr0 e1 (by decide) h
      · exfalso; omega
  · have e1 : gvR t o f0 n = (-1, t) := if_neg c1
    refine x_aload_n hM dX7_give_0 rfl rfl ?_
    refine x_iload_n hM dX7_give_1 rfl rfl ?_
    refine x_callV hM wv_X7_77 (m_X7_isOwner (by assumption) (by omega)) ⟨Nat.le_of_ble_eq_true rfl, Nat.le_of_ble_eq_true rfl⟩ (by first | assumption | exact md_o (by assumption)) rfl rfl rfl rfl (Nat.le_of_ble_eq_true rfl) ⟨Nat.le_of_ble_eq_true rfl, Nat.le_of_ble_eq_true rfl⟩ dX7_give_2 (k_rI ?_)
    rw [if_neg c1]
    refine x_if_ne (tgt := 10) hM dX7_give_5 (by decide) (by omega) (fun c_5 => ?_) (fun c_5 => ?_)
    · exfalso; omega
    · refine x_iconst hM dX7_give_8 ?_
      refine hR.i dX7_give_9 (Nat.zero_le _) (Nat.zero_le _) ?_
      exact p_mr0 e1 (by decide) h
def frR (t : St) (f n : Int) : Int × St := if isP f n then (if rnF (lrF t.L f (f + n) (-6)) ≤ 40 then (rnF (lrF t.L f (f + n) (-6)), stL t (lrF t.L f (f + n) (-6))) else (-4, t)) else (-2, t)
theorem m_X7_free {l : Launch} {G : xG} {w : Wd} {z m : Nat} {it : Int} {t : St} {hs : List St} {sg mn pl wr f0 n : Int} (h : muA G w m it t hs sg mn pl wr) (hit : it = 0 ∨ it = 1) (hf0 : iR f0) (hn0 : iR n) : xMet l G yX7_free cX7_free 3 (some .int) ({ frames := 3, cells := 0, slots := 0, locals := 68 } : Room) [.ref m, .int (iI f0), .int (iI n)] w z (mrP G w z m it t hs sg mn pl wr (frR t f0 n)) := by
  obtain ⟨R, hh, hn, hm, hr⟩ := id h
  obtain ⟨f, g, hn1, hp, hn2, hg⟩ := id hn
  have hrd := rd_mk hh hn1 hp
  have hW := np_r hp
  obtain ⟨r1, r2, r3⟩ := id hW
  have hS := np_w hp
  refine xMet_of RX7 rfl (by decide +kernel) false (by decide +kernel) (Nat.le_of_ble_eq_true rfl) rfl ?_
  intro P hM hR
  by_cases c2 : isP f0 n
  · skip
    refine x_iload_n hM dX7_free_0 rfl rfl ?_
    refine x_iload_n hM dX7_free_1 rfl rfl ?_
    refine x_callS hM ws_X7_104 (m_X7_isPiece (by omega) (by omega)) ⟨Nat.le_of_ble_eq_true rfl, Nat.le_of_ble_eq_true rfl⟩ rfl rfl (Nat.le_of_ble_eq_true rfl) ⟨Nat.le_of_ble_eq_true rfl, Nat.le_of_ble_eq_true rfl⟩ dX7_free_2 (k_rI ?_)
    rw [if_pos c2]
    refine x_if_ne (tgt := 11) hM dX7_free_5 (by decide) (by omega) (fun c_5 => ?_) (fun c_5 => ?_)
    · refine x_aload_n hM dX7_free_11 rfl rfl ?_
      refine x_iload_n hM dX7_free_12 rfl rfl ?_
      refine x_iload_n hM dX7_free_13 rfl rfl ?_
      refine x_iload_n hM dX7_free_14 rfl rfl ?_
      refine x_iadd hM dX7_free_15 ?_
      refine x_bipush hM dX7_free_16 rfl ?_
      refine x_callV hM wv_X7_108 (m_X7_layRow hh hr hn1 hp (by omega) (by omega)) ⟨Nat.le_of_ble_eq_true rfl, Nat.le_of_ble_eq_true rfl⟩ hh rfl rfl rfl rfl (Nat.le_of_ble_eq_true rfl) ⟨Nat.le_of_ble_eq_true rfl, Nat.le_of_ble_eq_true rfl⟩ dX7_free_18 (k_qV fun w_18 q_18 => ?_)
      obtain ⟨q1, q2, q3⟩ := q_18
      have hmu := mu_row hn hm q1 q2 q3
      have hn1b := (q3 (m + 1) (by omega) (by omega)).trans hn1
      have hrd2 := rd_mk q1 hn1b hp
      have hnb := hn.kpf (q3 (m + 1) (by omega) (by omega)) (q3 (m + 2) (by omega) (by omega))
      have hmb := hm.kpf (q3 (m + 6) (by omega) (by omega)) (q3 (m + 7) (by omega) (by omega))
      refine x_aload_n hM dX7_free_21 rfl rfl ?_
      refine x_callV hM wv_X7_111 (m_X7_rangesInRow q1 q2) ⟨Nat.le_of_ble_eq_true rfl, Nat.le_of_ble_eq_true rfl⟩ q1 rfl rfl rfl rfl (Nat.le_of_ble_eq_true rfl) ⟨Nat.le_of_ble_eq_true rfl, Nat.le_of_ble_eq_true rfl⟩ dX7_free_22 (k_rI ?_)
      have hrb := rnF_b (lrF t.L f0 (f0 + n) (-6))
      have hrl := q2
      obtain ⟨-, -, -, -, hrl, -⟩ := hrl
      refine x_bipush hM dX7_free_25 rfl ?_
      refine x_icmp_le (tgt := 33) hM dX7_free_27 (by decide) (by omega) (by omega) (fun c_27 => ?_) (fun c_27 => ?_)
      · refine x_aload_n hM dX7_free_33 rfl rfl ?_
        refine x_callV hM wv_X7_73 (m_X7_record q1 hnb hmb hit) ⟨Nat.le_of_ble_eq_true rfl, Nat.le_of_ble_eq_true rfl⟩ q1 rfl rfl rfl rfl (Nat.le_of_ble_eq_true rfl) ⟨Nat.le_of_ble_eq_true rfl, Nat.le_of_ble_eq_true rfl⟩ dX7_free_34 (k_qV fun w_34 q_34 => ?_)
        obtain ⟨g1, g2, g3⟩ := q_34
        have hn1c := (g3 (m + 1) (by omega) (by omega)).trans hn1b
        have hn2c := (g3 (m + 2) (by omega) (by omega)).trans ((q3 (m + 2) (by omega) (by omega)).trans hn2)
        have hrc := q2.kpf (g3 (m + 12) (by omega) (by omega)) (g3 (m + 13) (by omega) (by omega))
        refine x_aload_n hM dX7_free_37 rfl rfl ?_
        refine x_callV hM wv_X7_118 (m_X7_takeRow g1 hrc hn1c hp (lr_W hp (by omega) (by omega) (by omega))) ⟨Nat.le_of_ble_eq_true rfl, Nat.le_of_ble_eq_true rfl⟩ g1 rfl rfl rfl rfl (Nat.le_of_ble_eq_true rfl) ⟨Nat.le_of_ble_eq_true rfl, Nat.le_of_ble_eq_true rfl⟩ dX7_free_38 (k_qV fun w_38 q_38 => ?_)
        obtain ⟨k1, k2⟩ := q_38
        have hmu2 := mu_take g1 hn2c hg g2 hrc k1 k2
        have hfm : Fm m w w_38 := ((Fm.r q3).tr (Fm.h g3)).tr (Fm.n k2)
        obtain ⟨fz, k3, k4⟩ := k1
        have hh4 := (k2 m (by omega)).trans g1
        refine x_aload_n hM dX7_free_41 rfl rfl ?_
        refine x_callV hM wv_X7_121 (m_X7_rangesNow (rd_mk hh4 k3 k4)) ⟨Nat.le_of_ble_eq_true rfl, Nat.le_of_ble_eq_true rfl⟩ hh4 rfl rfl rfl rfl (Nat.le_of_ble_eq_true rfl) ⟨Nat.le_of_ble_eq_true rfl, Nat.le_of_ble_eq_true rfl⟩ dX7_free_42 (k_rI ?_)
        refine hR.i dX7_free_45 (Nat.zero_le _) (Nat.zero_le _) ?_
        exact p_mr (by unfold frR; rw [if_pos c2, if_pos (by omega)]) hrb.1 hmu2 hfm
      · refine x_bipush hM dX7_free_30 rfl ?_
        refine hR.i dX7_free_32 (Nat.zero_le _) (Nat.zero_le _) ?_
        exact p_mrk (by unfold frR; rw [if_pos c2, if_neg (by omega)]) (by decide) hmu (Fm.r q3)
    · exfalso; omega
  · have e1 : frR t f0 n = (-2, t) := if_neg c2
    refine x_iload_n hM dX7_free_0 rfl rfl ?_
    refine x_iload_n hM dX7_free_1 rfl rfl ?_
    refine x_callS hM ws_X7_104 (m_X7_isPiece (by omega) (by omega)) ⟨Nat.le_of_ble_eq_true rfl, Nat.le_of_ble_eq_true rfl⟩ rfl rfl (Nat.le_of_ble_eq_true rfl) ⟨Nat.le_of_ble_eq_true rfl, Nat.le_of_ble_eq_true rfl⟩ dX7_free_2 (k_rI ?_)
    rw [if_neg c2]
    refine x_if_ne (tgt := 11) hM dX7_free_5 (by decide) (by omega) (fun c_5 => ?_) (fun c_5 => ?_)
    · exfalso; omega
    · refine x_bipush hM dX7_free_8 rfl ?_
      refine hR.i dX7_free_10 (Nat.zero_le _) (Nat.zero_le _) ?_
      exact p_mr0 e1 (by decide) h
theorem hf_b {L : List Sg} {n h : Int} (hL : ∀ s ∈ L, okG s) (hn : 1 ≤ n) : hfF L n h = -6 ∨ (0 ≤ hfF L n h ∧ hfF L n h + n ≤ 10000) := by
  have gen : ∀ (M : List Sg) (c : Int × Int × Int × Int), (∀ x ∈ M, okG x) → 0 ≤ c.1 → (c.2.1 < 0 ∨ (0 ≤ c.2.2.2 ∧ c.2.2.2 + n ≤ 10000)) → ((M.foldl (hfS n h) c).2.1 < 0 ∨ (0 ≤ (M.foldl (hfS n h) c).2.2.2 ∧ (M.foldl (hfS n h) c).2.2.2 + n ≤ 10000)) := by
    intro M
    induction M with
    | nil => intro c _ _ hc; exact hc
    | cons x M ih =>
      intro c hx h0 hc
      have h1 := hx x List.mem_cons_self
      refine ih (hfS n h c x) (fun y hy => hx y (List.mem_cons_of_mem _ hy)) ?_ ?_
      · unfold hfS; split <;> (dsimp only; omega)
      · unfold hfS
        split
        · next q => dsimp only; right; have := q.1.2; omega
        · exact hc
  unfold hfF
  have := gen L (0, -6, 0, 0) hL (by decide) (Or.inl (by decide))
  split
  · exact Or.inl rfl
  · next q => exact Or.inr (this.resolve_left q)
def grR (t : St) (o n : Int) : Int × St := if 0 ≤ o ∧ o < t.own then (if 1 ≤ n ∧ n ≤ 10000 then (if hfF t.L n 0 < 0 then (-5, t) else if rnF (lrF t.L (hfF t.L n 0) (hfF t.L n 0 + n) o) ≤ 40 then (if mayE t o n then (hfF t.L n 0, stL t (lrF t.L (hfF t.L n 0) (hfF t.L n 0 + n) o)) else (-5, t)) else (-4, t)) else (-2, t)) else (-1, t)
theorem m_X7_grab {l : Launch} {G : xG} {w : Wd} {z m : Nat} {it : Int} {t : St} {hs : List St} {sg mn pl wr o n : Int} (h : muA G w m it t hs sg mn pl wr) (hit : it = 0 ∨ it = 1) (ho : iR o) (hn0 : iR n) : xMet l G yX7_grab cX7_grab 4 (some .int) ({ frames := 5, cells := 0, slots := 0, locals := 112 } : Room) [.ref m, .int (iI o), .int (iI n)] w z (mrP G w z m it t hs sg mn pl wr (grR t o n)) := by
  obtain ⟨R, hh, hn, hm, hr⟩ := id h
  obtain ⟨f, g, hn1, hp, hn2, hg⟩ := id hn
  have hrd := rd_mk hh hn1 hp
  have hW := np_r hp
  obtain ⟨r1, r2, r3⟩ := id hW
  have hS := np_w hp
  refine xMet_of RX7 rfl (by decide +kernel) false (by decide +kernel) (Nat.le_of_ble_eq_true rfl) rfl ?_
  intro P hM hR
  by_cases c1 : 0 ≤ o ∧ o < t.own
  · by_cases c2 : 1 ≤ n ∧ n ≤ 10000
    · have hfb := hf_b (h := 0) (np_all hp) c2.1
      have hl := hS.1
      refine x_aload_n hM dX7_grab_0 rfl rfl ?_
      refine x_iload_n hM dX7_grab_1 rfl rfl ?_
      refine x_callV hM wv_X7_77 (m_X7_isOwner (by assumption) (by omega)) ⟨Nat.le_of_ble_eq_true rfl, Nat.le_of_ble_eq_true rfl⟩ (by first | assumption | exact md_o (by assumption)) rfl rfl rfl rfl (Nat.le_of_ble_eq_true rfl) ⟨Nat.le_of_ble_eq_true rfl, Nat.le_of_ble_eq_true rfl⟩ dX7_grab_2 (k_rI ?_)
      rw [if_pos c1]
      refine x_if_ne (tgt := 10) hM dX7_grab_5 (by decide) (by omega) (fun c_5 => ?_) (fun c_5 => ?_)
      · refine x_iload_n hM dX7_grab_10 rfl rfl ?_
        refine x_iconst hM dX7_grab_11 ?_
        refine x_sipush hM dX7_grab_12 rfl ?_
        refine x_callS hM ws_X7_62 (m_X7_in (by omega) (by omega) (by omega)) ⟨Nat.le_of_ble_eq_true rfl, Nat.le_of_ble_eq_true rfl⟩ rfl rfl (Nat.le_of_ble_eq_true rfl) ⟨Nat.le_of_ble_eq_true rfl, Nat.le_of_ble_eq_true rfl⟩ dX7_grab_15 (k_rI ?_)
        rw [if_pos c2]
        refine x_if_ne (tgt := 24) hM dX7_grab_18 (by decide) (by omega) (fun c_18 => ?_) (fun c_18 => ?_)
        · refine x_aload_n hM dX7_grab_24 rfl rfl ?_
          refine x_iload_n hM dX7_grab_25 rfl rfl ?_
          refine x_iconst hM dX7_grab_26 ?_
          refine x_callV hM wv_X7_127 (m_X7_holeFor (by assumption) (by omega) (by omega)) ⟨Nat.le_of_ble_eq_true rfl, Nat.le_of_ble_eq_true rfl⟩ (by first | assumption | exact md_o (by assumption)) rfl rfl rfl rfl (Nat.le_of_ble_eq_true rfl) ⟨Nat.le_of_ble_eq_true rfl, Nat.le_of_ble_eq_true rfl⟩ dX7_grab_27 (k_rI ?_)
          refine x_istore_n hM dX7_grab_30 rfl rfl (Nat.le_of_ble_eq_true rfl) rfl ?_
          refine x_iload_n hM dX7_grab_31 rfl rfl ?_
          refine x_if_lt (tgt := 56) hM dX7_grab_32 (by decide) (by omega) (fun c_32 => ?_) (fun c_32 => ?_)
          · refine x_iload_n hM dX7_grab_56 rfl rfl ?_
            refine x_if_lt (tgt := 69) hM dX7_grab_57 (by decide) (by omega) (fun c_57 => ?_) (fun c_57 => ?_)
            · refine x_bipush hM dX7_grab_69 rfl ?_
              refine hR.i dX7_grab_71 (Nat.zero_le _) (Nat.zero_le _) ?_
              first | exact p_mr0 (by unfold grR; rw [if_pos c1, if_pos c2, if_pos (by omega)]) (by decide) h | exact p_mrk (by unfold grR; rw [if_pos c1, if_pos c2, if_neg (by omega), if_pos (by omega), if_neg c4]) (by decide) hmu (Fm.r q3)
            · first | (exfalso; omega; done) | skip
              refine x_aload_n hM dX7_grab_60 rfl rfl ?_
              refine x_iload_n hM dX7_grab_61 rfl rfl ?_
              refine x_iload_n hM dX7_grab_62 rfl rfl ?_
              refine x_callV hM wv_X7_115 (m_X7_mayGet hrd2 (by omega) (by omega)) ⟨Nat.le_of_ble_eq_true rfl, Nat.le_of_ble_eq_true rfl⟩ q1 rfl rfl rfl rfl (Nat.le_of_ble_eq_true rfl) ⟨Nat.le_of_ble_eq_true rfl, Nat.le_of_ble_eq_true rfl⟩ dX7_grab_63 (k_rI ?_)
              by_cases c4 : mayE t o n
              · rw [if_pos c4]
                refine x_if_ne (tgt := 72) hM dX7_grab_66 (by decide) (by omega) (fun _ => ?_) (fun q => absurd q (by decide))
                refine x_aload_n hM dX7_grab_72 rfl rfl ?_
                refine x_callV hM wv_X7_73 (m_X7_record q1 hnb hmb hit) ⟨Nat.le_of_ble_eq_true rfl, Nat.le_of_ble_eq_true rfl⟩ q1 rfl rfl rfl rfl (Nat.le_of_ble_eq_true rfl) ⟨Nat.le_of_ble_eq_true rfl, Nat.le_of_ble_eq_true rfl⟩ dX7_grab_73 (k_qV fun w_73 q_73 => ?_)
                obtain ⟨g1, g2, g3⟩ := q_73
                have hn1c := (g3 (m + 1) (by omega) (by omega)).trans hn1b
                have hn2c := (g3 (m + 2) (by omega) (by omega)).trans ((q3 (m + 2) (by omega) (by omega)).trans hn2)
                have hrc := q2.kpf (g3 (m + 12) (by omega) (by omega)) (g3 (m + 13) (by omega) (by omega))
                refine x_aload_n hM dX7_grab_76 rfl rfl ?_
                refine x_callV hM wv_X7_118 (m_X7_takeRow g1 hrc hn1c hp (lr_W hp (by omega) (by omega) (by omega))) ⟨Nat.le_of_ble_eq_true rfl, Nat.le_of_ble_eq_true rfl⟩ g1 rfl rfl rfl rfl (Nat.le_of_ble_eq_true rfl) ⟨Nat.le_of_ble_eq_true rfl, Nat.le_of_ble_eq_true rfl⟩ dX7_grab_77 (k_qV fun w_77 q_77 => ?_)
                obtain ⟨k1, k2⟩ := q_77
                have hmu2 := mu_take g1 hn2c hg g2 hrc k1 k2
                have hfm : Fm m w w_77 := ((Fm.r q3).tr (Fm.h g3)).tr (Fm.n k2)
                refine x_iload_n hM dX7_grab_80 rfl rfl ?_
                refine hR.i dX7_grab_81 (Nat.zero_le _) (Nat.zero_le _) ?_
                exact p_mr (by unfold grR; rw [if_pos c1, if_pos c2, if_neg (by omega), if_pos (by omega), if_pos c4]) (by omega) hmu2 hfm
              · rw [if_neg c4]
                refine x_if_ne (tgt := 72) hM dX7_grab_66 (by decide) (by omega) (fun q => absurd rfl q) (fun _ => ?_)
                refine x_bipush hM dX7_grab_69 rfl ?_
                refine hR.i dX7_grab_71 (Nat.zero_le _) (Nat.zero_le _) ?_
                first | exact p_mr0 (by unfold grR; rw [if_pos c1, if_pos c2, if_pos (by omega)]) (by decide) h | exact p_mrk (by unfold grR; rw [if_pos c1, if_pos c2, if_neg (by omega), if_pos (by omega), if_neg c4]) (by decide) hmu (Fm.r q3)
          · refine x_aload_n hM dX7_grab_35 rfl rfl ?_
            refine x_iload_n hM dX7_grab_36 rfl rfl ?_
            refine x_iload_n hM dX7_grab_37 rfl rfl ?_
            refine x_iload_n hM dX7_grab_38 rfl rfl ?_
            refine x_iadd hM dX7_grab_39 ?_
            refine x_iload_n hM dX7_grab_40 rfl rfl ?_
            refine x_callV hM wv_X7_108 (m_X7_layRow hh hr hn1 hp (by omega) (by omega)) ⟨Nat.le_of_ble_eq_true rfl, Nat.le_of_ble_eq_true rfl⟩ hh rfl rfl rfl rfl (Nat.le_of_ble_eq_true rfl) ⟨Nat.le_of_ble_eq_true rfl, Nat.le_of_ble_eq_true rfl⟩ dX7_grab_41 (k_qV fun w_41 q_41 => ?_)
            obtain ⟨q1, q2, q3⟩ := q_41
            have hmu := mu_row hn hm q1 q2 q3
            have hn1b := (q3 (m + 1) (by omega) (by omega)).trans hn1
            have hrd2 := rd_mk q1 hn1b hp
            have hnb := hn.kpf (q3 (m + 1) (by omega) (by omega)) (q3 (m + 2) (by omega) (by omega))
            have hmb := hm.kpf (q3 (m + 6) (by omega) (by omega)) (q3 (m + 7) (by omega) (by omega))
            refine x_aload_n hM dX7_grab_44 rfl rfl ?_
            refine x_callV hM wv_X7_111 (m_X7_rangesInRow q1 q2) ⟨Nat.le_of_ble_eq_true rfl, Nat.le_of_ble_eq_true rfl⟩ q1 rfl rfl rfl rfl (Nat.le_of_ble_eq_true rfl) ⟨Nat.le_of_ble_eq_true rfl, Nat.le_of_ble_eq_true rfl⟩ dX7_grab_45 (k_rI ?_)
            have hrb := rnF_b (lrF t.L (hfF t.L n 0) (hfF t.L n 0 + n) o)
            have hrl := q2
            obtain ⟨-, -, -, -, hrl, -⟩ := hrl
            refine x_bipush hM dX7_grab_48 rfl ?_
            refine x_icmp_le (tgt := 56) hM dX7_grab_50 (by decide) (by omega) (by omega) (fun c_50 => ?_) (fun c_50 => ?_)
            · refine x_iload_n hM dX7_grab_56 rfl rfl ?_
              refine x_if_lt (tgt := 69) hM dX7_grab_57 (by decide) (by omega) (fun c_57 => ?_) (fun c_57 => ?_)
              · refine x_bipush hM dX7_grab_69 rfl ?_
                refine hR.i dX7_grab_71 (Nat.zero_le _) (Nat.zero_le _) ?_
                first | exact p_mr0 (by unfold grR; rw [if_pos c1, if_pos c2, if_pos (by omega)]) (by decide) h | exact p_mrk (by unfold grR; rw [if_pos c1, if_pos c2, if_neg (by omega), if_pos (by omega), if_neg c4]) (by decide) hmu (Fm.r q3)
              · first | (exfalso; omega; done) | skip
                refine x_aload_n hM dX7_grab_60 rfl rfl ?_
                refine x_iload_n hM dX7_grab_61 rfl rfl ?_
                refine x_iload_n hM dX7_grab_62 rfl rfl ?_
                refine x_callV hM wv_X7_115 (m_X7_mayGet hrd2 (by omega) (by omega)) ⟨Nat.le_of_ble_eq_true rfl, Nat.le_of_ble_eq_true rfl⟩ q1 rfl rfl rfl rfl (Nat.le_of_ble_eq_true rfl) ⟨Nat.le_of_ble_eq_true rfl, Nat.le_of_ble_eq_true rfl⟩ dX7_grab_63 (k_rI ?_)
                by_cases c4 : mayE t o n
                · rw [if_pos c4]
                  refine x_if_ne (tgt := 72) hM dX7_grab_66 (by decide) (by omega) (fun _ => ?_) (fun q => absurd q (by decide))
                  refine x_aload_n hM dX7_grab_72 rfl rfl ?_
                  refine x_callV hM wv_X7_73 (m_X7_record q1 hnb hmb hit) ⟨Nat.le_of_ble_eq_true rfl, Nat.le_of_ble_eq_true rfl⟩ q1 rfl rfl rfl rfl (Nat.le_of_ble_eq_true rfl) ⟨Nat.le_of_ble_eq_true rfl, Nat.le_of_ble_eq_true rfl⟩ dX7_grab_73 (k_qV fun w_73 q_73 => ?_)
                  obtain ⟨g1, g2, g3⟩ := q_73
                  have hn1c := (g3 (m + 1) (by omega) (by omega)).trans hn1b
                  have hn2c := (g3 (m + 2) (by omega) (by omega)).trans ((q3 (m + 2) (by omega) (by omega)).trans hn2)
                  have hrc := q2.kpf (g3 (m + 12) (by omega) (by omega)) (g3 (m + 13) (by omega) (by omega))
                  refine x_aload_n hM dX7_grab_76 rfl rfl ?_
                  refine x_callV hM wv_X7_118 (m_X7_takeRow g1 hrc hn1c hp (lr_W hp (by omega) (by omega) (by omega))) ⟨Nat.le_of_ble_eq_true rfl, Nat.le_of_ble_eq_true rfl⟩ g1 rfl rfl rfl rfl (Nat.le_of_ble_eq_true rfl) ⟨Nat.le_of_ble_eq_true rfl, Nat.le_of_ble_eq_true rfl⟩ dX7_grab_77 (k_qV fun w_77 q_77 => ?_)
                  obtain ⟨k1, k2⟩ := q_77
                  have hmu2 := mu_take g1 hn2c hg g2 hrc k1 k2
                  have hfm : Fm m w w_77 := ((Fm.r q3).tr (Fm.h g3)).tr (Fm.n k2)
                  refine x_iload_n hM dX7_grab_80 rfl rfl ?_
                  refine hR.i dX7_grab_81 (Nat.zero_le _) (Nat.zero_le _) ?_
                  exact p_mr (by unfold grR; rw [if_pos c1, if_pos c2, if_neg (by omega), if_pos (by omega), if_pos c4]) (by omega) hmu2 hfm
                · rw [if_neg c4]
                  refine x_if_ne (tgt := 72) hM dX7_grab_66 (by decide) (by omega) (fun q => absurd rfl q) (fun _ => ?_)
                  refine x_bipush hM dX7_grab_69 rfl ?_
                  refine hR.i dX7_grab_71 (Nat.zero_le _) (Nat.zero_le _) ?_
                  first | exact p_mr0 (by unfold grR; rw [if_pos c1, if_pos c2, if_pos (by omega)]) (by decide) h | exact p_mrk (by unfold grR; rw [if_pos c1, if_pos c2, if_neg (by omega), if_pos (by omega), if_neg c4]) (by decide) hmu (Fm.r q3)
            · refine x_bipush hM dX7_grab_53 rfl ?_
              refine hR.i dX7_grab_55 (Nat.zero_le _) (Nat.zero_le _) ?_
              exact p_mrk (by unfold grR; rw [if_pos c1, if_pos c2, if_neg (by omega), if_neg (by omega)]) (by decide) hmu (Fm.r q3)
        · exfalso; omega
      · exfalso; omega
    · have e1 : grR t o n = (-2, t) := by unfold grR; rw [if_pos c1, if_neg c2]
      refine x_aload_n hM dX7_grab_0 rfl rfl ?_
      refine x_iload_n hM dX7_grab_1 rfl rfl ?_
      refine x_callV hM wv_X7_77 (m_X7_isOwner (by assumption) (by omega)) ⟨Nat.le_of_ble_eq_true rfl, Nat.le_of_ble_eq_true rfl⟩ (by first | assumption | exact md_o (by assumption)) rfl rfl rfl rfl (Nat.le_of_ble_eq_true rfl) ⟨Nat.le_of_ble_eq_true rfl, Nat.le_of_ble_eq_true rfl⟩ dX7_grab_2 (k_rI ?_)
      rw [if_pos c1]
      refine x_if_ne (tgt := 10) hM dX7_grab_5 (by decide) (by omega) (fun c_5 => ?_) (fun c_5 => ?_)
      · refine x_iload_n hM dX7_grab_10 rfl rfl ?_
        refine x_iconst hM dX7_grab_11 ?_
        refine x_sipush hM dX7_grab_12 rfl ?_
        refine x_callS hM ws_X7_62 (m_X7_in (by omega) (by omega) (by omega)) ⟨Nat.le_of_ble_eq_true rfl, Nat.le_of_ble_eq_true rfl⟩ rfl rfl (Nat.le_of_ble_eq_true rfl) ⟨Nat.le_of_ble_eq_true rfl, Nat.le_of_ble_eq_true rfl⟩ dX7_grab_15 (k_rI ?_)
        rw [if_neg c2]
        refine x_if_ne (tgt := 24) hM dX7_grab_18 (by decide) (by omega) (fun c_18 => ?_) (fun c_18 => ?_)
        · exfalso; omega
        · refine x_bipush hM dX7_grab_21 rfl ?_
          refine hR.i dX7_grab_23 (Nat.zero_le _) (Nat.zero_le _) ?_
          exact p_mr0 e1 (by decide) h
      · exfalso; omega
  · have e1 : grR t o n = (-1, t) := if_neg c1
    refine x_aload_n hM dX7_grab_0 rfl rfl ?_
    refine x_iload_n hM dX7_grab_1 rfl rfl ?_
    refine x_callV hM wv_X7_77 (m_X7_isOwner (by assumption) (by omega)) ⟨Nat.le_of_ble_eq_true rfl, Nat.le_of_ble_eq_true rfl⟩ (by first | assumption | exact md_o (by assumption)) rfl rfl rfl rfl (Nat.le_of_ble_eq_true rfl) ⟨Nat.le_of_ble_eq_true rfl, Nat.le_of_ble_eq_true rfl⟩ dX7_grab_2 (k_rI ?_)
    rw [if_neg c1]
    refine x_if_ne (tgt := 10) hM dX7_grab_5 (by decide) (by omega) (fun c_5 => ?_) (fun c_5 => ?_)
    · exfalso; omega
    · refine x_iconst hM dX7_grab_8 ?_
      refine hR.i dX7_grab_9 (Nat.zero_le _) (Nat.zero_le _) ?_
      exact p_mr0 e1 (by decide) h
theorem la_len (o q : Int) : ∀ (S R : List Sg), (S.foldl (laS o q) R).length ≤ R.length + S.length := by
  intro S
  induction S with
  | nil => intro R; exact Nat.le_refl _
  | cons s S ih =>
    intro R
    have h1 := ih (laS o q R s)
    have h2 := layF_len R s.2.1 s.2.2 (if s.1 = o then q else s.1)
    rw [List.foldl_cons, List.length_cons]
    unfold laS at h1 ⊢
    omega
theorem la_W {f : Int → Int} {t : St} {o q : Int} (hp : nowP f t) (hq : okO q) : segW (laF t.L o q) := by
  obtain ⟨h1, h2⟩ := laF_cov (o := o) (np_w hp).2.1 hq
  have := la_len o q t.L []
  have := (np_w hp).1
  exact ⟨by unfold laF; simp at *; omega, h1, h2⟩
def inR (t : St) (o h : Int) : Int × St := if (0 ≤ o ∧ o < t.own) ∧ (0 ≤ h ∧ h < t.own) ∧ o ≠ h then (if mayE t h (mtsO t.L o) then (mtsO t.L o, stL t (laF t.L o h)) else (-5, t)) else (-1, t)
theorem m_X7_inherit {l : Launch} {G : xG} {w : Wd} {z m : Nat} {it : Int} {t : St} {hs : List St} {sg mn pl wr o h0 : Int} (h : muA G w m it t hs sg mn pl wr) (hit : it = 0 ∨ it = 1) (ho : iR o) (hh0 : iR h0) : xMet l G yX7_inherit cX7_inherit 4 (some .int) ({ frames := 5, cells := 0, slots := 0, locals := 112 } : Room) [.ref m, .int (iI o), .int (iI h0)] w z (mrP G w z m it t hs sg mn pl wr (inR t o h0)) := by
  obtain ⟨R, hh, hn, hm, hr⟩ := id h
  obtain ⟨f, g, hn1, hp, hn2, hg⟩ := id hn
  have hrd := rd_mk hh hn1 hp
  have hW := np_r hp
  obtain ⟨r1, r2, r3⟩ := id hW
  have hS := np_w hp
  have hmb0 := mts_gb o (np_all hp)
  have hl := hS.1
  refine xMet_of RX7 rfl (by decide +kernel) false (by decide +kernel) (Nat.le_of_ble_eq_true rfl) rfl ?_
  intro P hM hR
  refine x_aload_n hM dX7_inherit_0 rfl rfl ?_
  refine x_iload_n hM dX7_inherit_1 rfl rfl ?_
  refine x_callV hM wv_X7_77 (m_X7_isOwner (by assumption) (by omega)) ⟨Nat.le_of_ble_eq_true rfl, Nat.le_of_ble_eq_true rfl⟩ (by first | assumption | exact md_o (by assumption)) rfl rfl rfl rfl (Nat.le_of_ble_eq_true rfl) ⟨Nat.le_of_ble_eq_true rfl, Nat.le_of_ble_eq_true rfl⟩ dX7_inherit_2 (k_rI ?_)
  by_cases c1 : 0 ≤ o ∧ o < t.own
  · rw [if_pos c1]
    refine x_if_eq (tgt := 21) hM dX7_inherit_5 (by decide) (by omega) (fun q => absurd q (by decide)) (fun _ => ?_)
    refine x_aload_n hM dX7_inherit_8 rfl rfl ?_
    refine x_iload_n hM dX7_inherit_9 rfl rfl ?_
    refine x_callV hM wv_X7_77 (m_X7_isOwner (by assumption) (by omega)) ⟨Nat.le_of_ble_eq_true rfl, Nat.le_of_ble_eq_true rfl⟩ (by first | assumption | exact md_o (by assumption)) rfl rfl rfl rfl (Nat.le_of_ble_eq_true rfl) ⟨Nat.le_of_ble_eq_true rfl, Nat.le_of_ble_eq_true rfl⟩ dX7_inherit_10 (k_rI ?_)
    by_cases c2 : 0 ≤ h0 ∧ h0 < t.own
    · rw [if_pos c2]
      refine x_if_eq (tgt := 21) hM dX7_inherit_13 (by decide) (by omega) (fun q => absurd q (by decide)) (fun _ => ?_)
      refine x_iload_n hM dX7_inherit_16 rfl rfl ?_
      refine x_iload_n hM dX7_inherit_17 rfl rfl ?_
      refine x_icmp_ne (tgt := 23) hM dX7_inherit_18 (by decide) (by omega) (by omega) (fun c_18 => ?_) (fun c_18 => ?_)
      · refine x_aload_n hM dX7_inherit_23 rfl rfl ?_
        have c3 : (0 ≤ o ∧ o < t.own) ∧ (0 ≤ h0 ∧ h0 < t.own) ∧ o ≠ h0 := ⟨c1, c2, by assumption⟩
        refine x_iload_n hM dX7_inherit_24 rfl rfl ?_
        refine x_callV hM wv_X7_101 (m_X7_metersOf (by assumption) (by omega)) ⟨Nat.le_of_ble_eq_true rfl, Nat.le_of_ble_eq_true rfl⟩ (by first | assumption | exact md_o (by assumption)) rfl rfl rfl rfl (Nat.le_of_ble_eq_true rfl) ⟨Nat.le_of_ble_eq_true rfl, Nat.le_of_ble_eq_true rfl⟩ dX7_inherit_25 (k_rI ?_)
        refine x_istore_n hM dX7_inherit_28 rfl rfl (Nat.le_of_ble_eq_true rfl) rfl ?_
        refine x_aload_n hM dX7_inherit_29 rfl rfl ?_
        refine x_iload_n hM dX7_inherit_30 rfl rfl ?_
        refine x_iload_n hM dX7_inherit_31 rfl rfl ?_
        refine x_callV hM wv_X7_115 (m_X7_mayGet (by assumption) (by omega) (by omega)) ⟨Nat.le_of_ble_eq_true rfl, Nat.le_of_ble_eq_true rfl⟩ (by first | assumption | exact md_o (by assumption)) rfl rfl rfl rfl (Nat.le_of_ble_eq_true rfl) ⟨Nat.le_of_ble_eq_true rfl, Nat.le_of_ble_eq_true rfl⟩ dX7_inherit_32 (k_rI ?_)
        by_cases c4 : mayE t h0 (mtsO t.L o)
        · rw [if_pos c4]
          refine x_if_ne (tgt := 41) hM dX7_inherit_35 (by decide) (by omega) (fun _ => ?_) (fun q => absurd q (by decide))
          refine x_aload_n hM dX7_inherit_41 rfl rfl ?_
          refine x_callV hM wv_X7_73 (m_X7_record hh hn hm hit) ⟨Nat.le_of_ble_eq_true rfl, Nat.le_of_ble_eq_true rfl⟩ hh rfl rfl rfl rfl (Nat.le_of_ble_eq_true rfl) ⟨Nat.le_of_ble_eq_true rfl, Nat.le_of_ble_eq_true rfl⟩ dX7_inherit_42 (k_qV fun w_42 q_42 => ?_)
          obtain ⟨g1, g2, g3⟩ := q_42
          have hn1b := (g3 (m + 1) (by omega) (by omega)).trans hn1
          have hrb := hr.kpf (g3 (m + 12) (by omega) (by omega)) (g3 (m + 13) (by omega) (by omega))
          refine x_aload_n hM dX7_inherit_45 rfl rfl ?_
          refine x_iload_n hM dX7_inherit_46 rfl rfl ?_
          refine x_iload_n hM dX7_inherit_47 rfl rfl ?_
          refine x_callV hM wv_X7_131 (m_X7_layAll g1 hrb hn1b hp ho (by omega)) ⟨Nat.le_of_ble_eq_true rfl, Nat.le_of_ble_eq_true rfl⟩ g1 rfl rfl rfl rfl (Nat.le_of_ble_eq_true rfl) ⟨Nat.le_of_ble_eq_true rfl, Nat.le_of_ble_eq_true rfl⟩ dX7_inherit_48 (k_qV fun w_48 q_48 => ?_)
          obtain ⟨q1, q2, q3⟩ := q_48
          have hn1c := (q3 (m + 1) (by omega) (by omega)).trans hn1b
          have hn2c := (q3 (m + 2) (by omega) (by omega)).trans ((g3 (m + 2) (by omega) (by omega)).trans hn2)
          have hmc := g2.kpf (q3 (m + 6) (by omega) (by omega)) (q3 (m + 7) (by omega) (by omega))
          refine x_aload_n hM dX7_inherit_51 rfl rfl ?_
          refine x_callV hM wv_X7_118 (m_X7_takeRow q1 q2 hn1c hp (la_W hp (by omega))) ⟨Nat.le_of_ble_eq_true rfl, Nat.le_of_ble_eq_true rfl⟩ q1 rfl rfl rfl rfl (Nat.le_of_ble_eq_true rfl) ⟨Nat.le_of_ble_eq_true rfl, Nat.le_of_ble_eq_true rfl⟩ dX7_inherit_52 (k_qV fun w_52 q_52 => ?_)
          obtain ⟨k1, k2⟩ := q_52
          have hmu2 := mu_take q1 hn2c hg hmc q2 k1 k2
          refine x_iload_n hM dX7_inherit_55 rfl rfl ?_
          refine hR.i dX7_inherit_56 (Nat.zero_le _) (Nat.zero_le _) ?_
          exact p_mr ((if_pos c3).trans (if_pos c4)) hmb0.1 hmu2 (((Fm.h g3).tr (Fm.r q3)).tr (Fm.n k2))
        · rw [if_neg c4]
          refine x_if_ne (tgt := 41) hM dX7_inherit_35 (by decide) (by omega) (fun q => absurd rfl q) (fun _ => ?_)
          refine x_bipush hM dX7_inherit_38 rfl ?_
          refine hR.i dX7_inherit_40 (Nat.zero_le _) (Nat.zero_le _) ?_
          exact p_mr0 ((if_pos c3).trans (if_neg c4)) (by decide) h
      · refine x_iconst hM dX7_inherit_21 ?_
        refine hR.i dX7_inherit_22 (Nat.zero_le _) (Nat.zero_le _) ?_
        exact p_mr0 (if_neg (fun q => by first | exact c1 q.1 | exact c2 q.2.1 | exact q.2.2 (by assumption))) (by decide) h
    · rw [if_neg c2]
      refine x_if_eq (tgt := 21) hM dX7_inherit_13 (by decide) (by omega) (fun _ => ?_) (fun q => absurd rfl q)
      refine x_iconst hM dX7_inherit_21 ?_
      refine hR.i dX7_inherit_22 (Nat.zero_le _) (Nat.zero_le _) ?_
      exact p_mr0 (if_neg (fun q => by first | exact c1 q.1 | exact c2 q.2.1 | exact q.2.2 (by assumption))) (by decide) h
  · rw [if_neg c1]
    refine x_if_eq (tgt := 21) hM dX7_inherit_5 (by decide) (by omega) (fun _ => ?_) (fun q => absurd rfl q)
    refine x_iconst hM dX7_inherit_21 ?_
    refine hR.i dX7_inherit_22 (Nat.zero_le _) (Nat.zero_le _) ?_
    exact p_mr0 (if_neg (fun q => by first | exact c1 q.1 | exact c2 q.2.1 | exact q.2.2 (by assumption))) (by decide) h
