/-! The reference: days -/
theorem nowP_los {f : Int → Int} {t : St} {o v : Int} (h : nowP f t) (ho : 0 ≤ o ∧ o < 10) : nowP (fU f (20 + 2 * o + 1) v) (mkS t.L t.set t.mon t.tax (fU t.los o v) t.D t.own t.day t.clo t.fee) := by
  obtain ⟨p1, p2, p3, p4, p5, p6, p7, p8, p9, p10, p11, p12, p13⟩ := h
  refine ⟨p1, p2, p3, fun j a b => (fU_ne (by omega)).trans (p4 j a b), (fU_ne (by omega)).trans p5, (fU_ne (by omega)).trans p6, (fU_ne (by omega)).trans p7, (fU_ne (by omega)).trans p8, (fU_ne (by omega)).trans p9, (fU_ne (by omega)).trans p10, fun q a b => ⟨(fU_ne (by omega)).trans (p11 q a b).1, ?_⟩, fun j hj k a b => (fU_ne (by omega)).trans (p12 j hj k a b), fun j hj => ?_⟩
  · show _ = fU t.los o v q
    by_cases c : q = o
    · subst c; rw [fU_eq, fU_eq]
    · rw [fU_ne (by omega), fU_ne c]; exact (p11 q a b).2
  · rw [fU_ne (by omega), fU_ne (by omega)]; exact p13 j hj
theorem nowP_tax {f : Int → Int} {t : St} {o v : Int} (h : nowP f t) (ho : 0 ≤ o ∧ o < 10) (mo : Int → Int64) : nowP (fU f (20 + 2 * o) v) (mkS t.L t.set mo (fU t.tax o v) t.los t.D t.own t.day t.clo t.fee) := by
  obtain ⟨p1, p2, p3, p4, p5, p6, p7, p8, p9, p10, p11, p12, p13⟩ := h
  refine ⟨p1, p2, p3, fun j a b => (fU_ne (by omega)).trans (p4 j a b), (fU_ne (by omega)).trans p5, (fU_ne (by omega)).trans p6, (fU_ne (by omega)).trans p7, (fU_ne (by omega)).trans p8, (fU_ne (by omega)).trans p9, (fU_ne (by omega)).trans p10, fun q a b => ⟨?_, (fU_ne (by omega)).trans (p11 q a b).2⟩, fun j hj k a b => (fU_ne (by omega)).trans (p12 j hj k a b), fun j hj => ?_⟩
  · show _ = fU t.tax o v q
    by_cases c : q = o
    · subst c; rw [fU_eq, fU_eq]
    · rw [fU_ne (by omega), fU_ne c]; exact (p11 q a b).1
  · rw [fU_ne (by omega), fU_ne (by omega)]; exact p13 j hj
theorem nowP_day {f : Int → Int} {t : St} (h : nowP f t) : nowP (fU f 5 (t.day + 1)) (mkS t.L t.set t.mon t.tax t.los t.D t.own (t.day + 1) t.clo t.fee) := by
  obtain ⟨p1, p2, p3, p4, p5, p6, p7, p8, p9, p10, p11, p12, p13⟩ := h
  refine ⟨p1, p2, p3, fun j a b => (fU_ne (by omega)).trans (p4 j a b), fU_eq, (fU_ne (by omega)).trans p6, (fU_ne (by omega)).trans p7, (fU_ne (by omega)).trans p8, (fU_ne (by omega)).trans p9, (fU_ne (by omega)).trans p10, fun q a b => ?_, fun j hj k a b => (fU_ne (by omega)).trans (p12 j hj k a b), fun j hj => ?_⟩
  · rw [fU_ne (by omega), fU_ne (by omega)]; exact p11 q a b
  · rw [fU_ne (by omega), fU_ne (by omega)]; exact p13 j hj
/-- one of the reference's own numbers is another one -/
theorem muA.u1 {G : xG} {w : Wd} {m : Nat} {it : Int} {t2 : St} {hs : List St} {R : List Sg} {sg mn pl wr : Int} {g : Int → Int64} (hh : w m = some (hdV m hs.length sg it R.length mn pl wr)) (hm : hmA G w m hs) (hr : rwA G w m R) (hn2 : w (m + 2) = some (aJ G 10 g)) (f2 : Int → Int) (hp : nowP f2 t2) (hg : eqR 10 g t2.mon) : muA G (wS w (m + 1) (aI G 400 f2)) m it t2 hs sg mn pl wr :=
  ⟨R, (wS_ne (by omega)).trans hh, ⟨f2, g, wS_eq, hp, (wS_ne (by omega)).trans hn2, hg⟩, hm.kpf (wS_ne (by omega)) (wS_ne (by omega)), hr.kpf (wS_ne (by omega)) (wS_ne (by omega))⟩
theorem m_X7_passDay {l : Launch} {G : xG} {w : Wd} {z m : Nat} {it : Int} {t : St} {hs : List St} {sg mn pl wr : Int} (h : muA G w m it t hs sg mn pl wr) : xMet l G yX7_passDay cX7_passDay 6 none ({ frames := 5, cells := 0, slots := 0, locals := 111 } : Room) [.ref m] w z (qV z fun w1 => muA G w1 m it (dayRP t) hs sg mn pl wr ∧ Fm m w w1) := by
  have hw0 : 0 ≤ t.own ∧ t.own ≤ 10 := by obtain ⟨R, -, ⟨f, g, -, hp, -⟩, -⟩ := id h; exact ⟨(np_r hp).1, (np_r hp).2.1⟩
  refine xMet_of RX7 rfl (by decide +kernel) false (by decide +kernel) (Nat.le_of_ble_eq_true rfl) rfl ?_
  intro P hM hR
  have K : ∀ (k i : Nat) (w1 : Wd) (x2 x3 x4 x5 : Option Value), t.own.toNat - i < k → i ≤ t.own.toNat → muA G w1 m it (dayRF t i) hs sg mn pl wr → Fm m w w1 → P 2 [some (.ref m), some (.int (iI i)), x2, x3, x4, x5] [] w1 (z, 0, 0) := by
    intro k
    induction k with
    | zero => intro i w1 x2 x3 x4 x5 hk; omega
    | succ k ih =>
      intro i w1 x2 x3 x4 x5 hk hi hmu hF
      have ho := dayRF_own t i
      have ho1 := ho.1
      by_cases hlt : i < t.own.toNat
      · have hi9 : 0 ≤ (i : Int) ∧ (i : Int) < 10 := by omega
        have K2 : ∀ (k2 : Nat) (t1 : St) (w1 : Wd) (v2 : Int) (x4 x5 : Option Value), cntO t1.L i = k2 → losRF k2 t1 i = dayRF t (i + 1) → muA G w1 m it t1 hs sg mn pl wr → Fm m w w1 → P 51 [some (.ref m), some (.int (iI i)), some (.int (iI v2)), some (.int (iI (srtF t1.L i))), x4, x5] [] w1 (z, 0, 0) := by
          intro k2
          induction k2 with
          | zero =>
            intro t1 w1 v2 x4 x5 hc hinv hmu hF
            obtain ⟨R, hh, hn, hm, hr⟩ := id hmu
            obtain ⟨f, g, hn1, hp, hn2, hg⟩ := id hn
            have e0 := srt_none hc
            have hinv : t1 = dayRF t (i + 1) := hinv
            rw [e0]
            refine x_aload_n hM dX7_passDay_51 rfl rfl ?_
            refine x_get hM wf_X7_13 wl_X7 hh rfl dX7_passDay_52 ?_
            refine x_iload_n hM dX7_passDay_55 rfl rfl ?_
            refine x_lald hM hn2 (by omega) dX7_passDay_56 ?_
            refine x_lconst (z := 0) hM dX7_passDay_57 rfl ?_
            refine x_lcmp hM dX7_passDay_58 (fun z_58 z_58r z_58l z_58e => ?_)
            refine x_if_ge (tgt := 161) hM dX7_passDay_59 (by decide) (by omega) (fun c_59 => ?_) (fun c_59 => ?_)
            · refine x_iinc hM dX7_passDay_161 rfl rfl rfl ?_
              refine x_goto (tgt := 2) hM dX7_passDay_164 (by decide) ?_
              exact ih (i + 1) _ _ _ _ _ (by omega) (by omega) (hinv ▸ hmu) hF
            · refine x_iload_n hM dX7_passDay_62 rfl rfl ?_
              refine x_if_lt (tgt := 161) hM dX7_passDay_63 (by decide) (by omega) (fun c_63 => ?_) (fun c_63 => ?_)
              · refine x_iinc hM dX7_passDay_161 rfl rfl rfl ?_
                refine x_goto (tgt := 2) hM dX7_passDay_164 (by decide) ?_
                exact ih (i + 1) _ _ _ _ _ (by omega) (by omega) (hinv ▸ hmu) hF
              · exfalso; omega
          | succ k2 ih2 =>
            intro t1 w1 v2 x4 x5 hc hinv hmu hF
            obtain ⟨R, hh, hn, hm, hr⟩ := id hmu
            obtain ⟨f, g, hn1, hp, hn2, hg⟩ := id hn
            have hS := np_w hp
            have hSl := hS.1
            have hne : srtF t1.L i ≠ -6 := fun q => by have := cntO_pos.mp ((srt_ok t1.L i).1 q); omega
            obtain ⟨s1, s2, s3⟩ := losR_ok hi9.1 hS hne
            obtain ⟨n, en, hnl, hno⟩ := srt_some2 hne
            have ea := gO_at hnl
            have hgn := np_at hp hnl
            have hrd := rd_mk hh hn1 hp
            have tb1 := tax_gb i (np_r hp) hS
            have eL : losR1 t1 i = stL (mkS t1.L t1.set t1.mon t1.tax (fU t1.los i (t1.los i + (t1.L[n].2.2 - t1.L[n].2.1))) t1.D t1.own t1.day t1.clo t1.fee) (lrF t1.L t1.L[n].2.1 t1.L[n].2.2 (-6)) := by
              unfold losR1
              rw [en, Int.toNat_natCast, ea.2.1, ea.2.2]
            have hW1 := np_r hp
            have tb2 := tax_gb (t := losR1 t1 i) i hW1 (by rw [eL]; exact (lr_deln hnl hS).1)
            rw [en]
            have J161 : ∀ (w2 : Wd) (x2 x3 x4 x5 : Option Value), muA G w2 m it (dayRF t (i + 1)) hs sg mn pl wr → Fm m w w2 → P 161 [some (.ref m), some (.int (iI i)), x2, x3, x4, x5] [] w2 (z, 0, 0) := by
              intro w2 x2 x3 x4 x5 hmu2 hF3
              refine x_iinc hM dX7_passDay_161 rfl rfl rfl ?_
              refine x_goto (tgt := 2) hM dX7_passDay_164 (by decide) ?_
              exact ih (i + 1) _ _ _ _ _ (by omega) (by omega) hmu2 hF3
            refine x_aload_n hM dX7_passDay_51 rfl rfl ?_
            refine x_get hM wf_X7_13 wl_X7 hh rfl dX7_passDay_52 ?_
            refine x_iload_n hM dX7_passDay_55 rfl rfl ?_
            refine x_lald hM hn2 (by omega) dX7_passDay_56 ?_
            rw [hg i hi9.1 hi9.2]
            refine x_lconst (z := 0) hM dX7_passDay_57 rfl ?_
            refine x_lcmp hM dX7_passDay_58 (fun z_58 z_58r z_58l z_58e => ?_)
            refine x_if_ge (tgt := 161) hM dX7_passDay_59 (by decide) (by omega) (fun c_59 => ?_) (fun c_59 => ?_)
            · have hx : losRF (k2 + 1) t1 i = t1 := if_neg (fun q => absurd (z_58l.mpr q) (by omega))
              rw [hx] at hinv
              exact J161 _ _ _ _ _ (hinv ▸ hmu) hF
            · refine x_iload_n hM dX7_passDay_62 rfl rfl ?_
              refine x_if_lt (tgt := 161) hM dX7_passDay_63 (by decide) (by omega) (fun c_63 => ?_) (fun c_63 => ?_)
              · exfalso; omega
              · have hneg : t1.mon i < jJ 0 := z_58l.mp (by omega)
                refine x_aload_n hM dX7_passDay_66 rfl rfl ?_
                refine x_iload_n hM dX7_passDay_67 rfl rfl ?_
                refine x_callV hM wv_X7_159 (m_X7_taxOf hrd (by omega)) ⟨Nat.le_of_ble_eq_true rfl, Nat.le_of_ble_eq_true rfl⟩ hh rfl rfl rfl rfl (Nat.le_of_ble_eq_true rfl) ⟨Nat.le_of_ble_eq_true rfl, Nat.le_of_ble_eq_true rfl⟩ dX7_passDay_68 (k_rI ?_)
                refine x_istore hM dX7_passDay_71 rfl (Nat.le_of_ble_eq_true rfl) rfl ?_
                refine x_aload_n hM dX7_passDay_73 rfl rfl ?_
                refine x_get hM wf_X7_7 wl_X7 hh rfl dX7_passDay_74 ?_
                refine x_bipush hM dX7_passDay_77 rfl ?_
                refine x_iconst hM dX7_passDay_79 ?_
                refine x_iload_n hM dX7_passDay_80 rfl rfl ?_
                refine x_imul hM dX7_passDay_81 ?_
                refine x_iadd hM dX7_passDay_82 ?_
                refine x_iconst hM dX7_passDay_83 ?_
                refine x_iadd hM dX7_passDay_84 ?_
                refine x_dup2 hM dX7_passDay_85 rfl rfl ?_
                refine x_iald hM hn1 (by omega) dX7_passDay_86 ?_
                rw [np_los hp hi9.1 hi9.2]
                refine x_aload_n hM dX7_passDay_87 rfl rfl ?_
                refine x_iload_n hM dX7_passDay_88 rfl rfl ?_
                refine x_callV hM wv_X7_124 (m_X7_length (i := n) hrd hnl) ⟨Nat.le_of_ble_eq_true rfl, Nat.le_of_ble_eq_true rfl⟩ hh rfl rfl rfl rfl (Nat.le_of_ble_eq_true rfl) ⟨Nat.le_of_ble_eq_true rfl, Nat.le_of_ble_eq_true rfl⟩ dX7_passDay_89 (k_rI ?_)
                refine x_iadd hM dX7_passDay_92 ?_
                refine x_iast hM hn1 (by omega) dX7_passDay_93 ?_
                have hpA := nowP_los (v := t1.los i + (t1.L[n].2.2 - t1.L[n].2.1)) hp hi9
                have hhA : (wS w1 (m + 1) (aI G 400 (fU f (20 + 2 * (i : Int) + 1) (t1.los i + (t1.L[n].2.2 - t1.L[n].2.1))))) m = _ := (wS_ne (by omega)).trans hh
                have hrA := hr.kpf (w1 := wS w1 (m + 1) (aI G 400 (fU f (20 + 2 * (i : Int) + 1) (t1.los i + (t1.L[n].2.2 - t1.L[n].2.1))))) (wS_ne (by omega)) (wS_ne (by omega))
                have hrdA := rd_mk hhA wS_eq hpA
                refine x_aload_n hM dX7_passDay_94 rfl rfl ?_
                refine x_aload_n hM dX7_passDay_95 rfl rfl ?_
                refine x_iload_n hM dX7_passDay_96 rfl rfl ?_
                refine x_callV hM wv_X7_81 (m_X7_first (i := n) hrdA hnl) ⟨Nat.le_of_ble_eq_true rfl, Nat.le_of_ble_eq_true rfl⟩ hhA rfl rfl rfl rfl (Nat.le_of_ble_eq_true rfl) ⟨Nat.le_of_ble_eq_true rfl, Nat.le_of_ble_eq_true rfl⟩ dX7_passDay_97 (k_rI ?_)
                refine x_aload_n hM dX7_passDay_100 rfl rfl ?_
                refine x_iload_n hM dX7_passDay_101 rfl rfl ?_
                refine x_callV hM wv_X7_84 (m_X7_behind (i := n) hrdA hnl) ⟨Nat.le_of_ble_eq_true rfl, Nat.le_of_ble_eq_true rfl⟩ hhA rfl rfl rfl rfl (Nat.le_of_ble_eq_true rfl) ⟨Nat.le_of_ble_eq_true rfl, Nat.le_of_ble_eq_true rfl⟩ dX7_passDay_102 (k_rI ?_)
                refine x_bipush hM dX7_passDay_105 rfl ?_
                refine x_callV hM wv_X7_108 (m_X7_layRow hhA hrA wS_eq hpA (show 0 ≤ t1.L[n].2.1 ∧ t1.L[n].2.1 < t1.L[n].2.2 ∧ t1.L[n].2.2 ≤ 10000 by omega) (Or.inl rfl)) ⟨Nat.le_of_ble_eq_true rfl, Nat.le_of_ble_eq_true rfl⟩ hhA rfl rfl rfl rfl (Nat.le_of_ble_eq_true rfl) ⟨Nat.le_of_ble_eq_true rfl, Nat.le_of_ble_eq_true rfl⟩ dX7_passDay_107 (k_qV fun w_107 q_107 => ?_)
                obtain ⟨q1, q2, q3⟩ := q_107
                refine x_aload_n hM dX7_passDay_110 rfl rfl ?_
                refine x_callV hM wv_X7_118 (m_X7_takeRow q1 q2 ((q3 (m + 1) (by omega) (by omega)).trans wS_eq) hpA (lr_deln hnl hS).1) ⟨Nat.le_of_ble_eq_true rfl, Nat.le_of_ble_eq_true rfl⟩ q1 rfl rfl rfl rfl (Nat.le_of_ble_eq_true rfl) ⟨Nat.le_of_ble_eq_true rfl, Nat.le_of_ble_eq_true rfl⟩ dX7_passDay_111 (k_qV fun w_111 q_111 => ?_)
                obtain ⟨⟨fz, h3, h4⟩, h2⟩ := q_111
                have h4 : nowP fz (losR1 t1 i) := by rw [eL]; exact h4
                have hh2 := (h2 m (by omega)).trans q1
                have hn2c : w_111 (m + 2) = some (aJ G 10 g) := (h2 (m + 2) (by omega)).trans ((q3 (m + 2) (by omega) (by omega)).trans ((wS_ne (by omega)).trans hn2))
                have hm2 : hmA G w_111 m hs := ((hm.kpf (w1 := wS w1 (m + 1) (aI G 400 (fU f (20 + 2 * (i : Int) + 1) (t1.los i + (t1.L[n].2.2 - t1.L[n].2.1))))) (wS_ne (by omega)) (wS_ne (by omega))).kpf (q3 (m + 6) (by omega) (by omega)) (q3 (m + 7) (by omega) (by omega))).kpf (h2 (m + 6) (by omega)) (h2 (m + 7) (by omega))
                have hr2 := q2.kpf (h2 (m + 12) (by omega)) (h2 (m + 13) (by omega))
                have hF2 : Fm m w w_111 := ((hF.tr (Fm.n (wF (q := m + 1)))).tr (Fm.r q3)).tr (Fm.n h2)
                have ev : taxV t1 i - taxV (losR1 t1 i) i = -(taxV (losR1 t1 i) i - taxV t1 i) := by omega
                have hp9 : nowP (fU fz (20 + 2 * (i : Int)) (t1.tax i - (taxV t1 i - taxV (losR1 t1 i) i))) (losR t1 i) := by have := nowP_tax (v := t1.tax i + (taxV (losR1 t1 i) i - taxV t1 i)) h4 hi9 (losR t1 i).mon; rw [show t1.tax i - (taxV t1 i - taxV (losR1 t1 i) i) = t1.tax i + (taxV (losR1 t1 i) i - taxV t1 i) by omega]; exact this
                have hg9 : eqR 10 (fU g i (t1.mon i + jJ (taxV t1 i - taxV (losR1 t1 i) i))) (losR t1 i).mon := by rw [ev]; exact eqR_up hg _ _
                have hmu9 := mu_2 hh2 hm2 hr2 _ _ hp9 hg9
                have etx : fz (20 + 2 * (i : Int)) = t1.tax i := np_tax h4 hi9.1 hi9.2
                refine x_iload hM dX7_passDay_114 rfl ?_
                refine x_aload_n hM dX7_passDay_116 rfl rfl ?_
                refine x_iload_n hM dX7_passDay_117 rfl rfl ?_
                refine x_callV hM wv_X7_159 (m_X7_taxOf (rd_mk hh2 h3 h4) (by omega)) ⟨Nat.le_of_ble_eq_true rfl, Nat.le_of_ble_eq_true rfl⟩ hh2 rfl rfl rfl rfl (Nat.le_of_ble_eq_true rfl) ⟨Nat.le_of_ble_eq_true rfl, Nat.le_of_ble_eq_true rfl⟩ dX7_passDay_118 (k_rI ?_)
                refine x_isub hM dX7_passDay_121 ?_
                refine x_istore hM dX7_passDay_122 rfl (Nat.le_of_ble_eq_true rfl) rfl ?_
                refine x_aload_n hM dX7_passDay_124 rfl rfl ?_
                refine x_get hM wf_X7_13 wl_X7 hh2 rfl dX7_passDay_125 ?_
                refine x_iload_n hM dX7_passDay_128 rfl rfl ?_
                refine x_dup2 hM dX7_passDay_129 rfl rfl ?_
                refine x_lald hM hn2c (by omega) dX7_passDay_130 ?_
                rw [hg i hi9.1 hi9.2]
                refine x_iload hM dX7_passDay_131 rfl ?_
                refine x_i2l hM dX7_passDay_133 ?_
                rw [iI_long (by omega)]
                refine x_ladd hM dX7_passDay_134 ?_
                refine x_last hM hn2c (by omega) dX7_passDay_135 ?_
                refine x_aload_n hM dX7_passDay_136 rfl rfl ?_
                refine x_get hM wf_X7_7 wl_X7 ((wS_ne (by omega)).trans hh2) rfl dX7_passDay_137 ?_
                refine x_bipush hM dX7_passDay_140 rfl ?_
                refine x_iconst hM dX7_passDay_142 ?_
                refine x_iload_n hM dX7_passDay_143 rfl rfl ?_
                refine x_imul hM dX7_passDay_144 ?_
                refine x_iadd hM dX7_passDay_145 ?_
                refine x_dup2 hM dX7_passDay_146 rfl rfl ?_
                refine x_iald hM ((wS_ne (by omega)).trans h3) (by omega) dX7_passDay_147 ?_
                rw [etx]
                refine x_iload hM dX7_passDay_148 rfl ?_
                refine x_isub hM dX7_passDay_150 ?_
                refine x_iast hM ((wS_ne (by omega)).trans h3) (by omega) dX7_passDay_151 ?_
                refine x_aload_n hM dX7_passDay_152 rfl rfl ?_
                refine x_iload_n hM dX7_passDay_153 rfl rfl ?_
                refine x_callV hM wv_X7_162 (m_X7_shortestOf (rd_mk ((wS_ne (by omega)).trans ((wS_ne (by omega)).trans hh2)) wS_eq hp9) (by omega)) ⟨Nat.le_of_ble_eq_true rfl, Nat.le_of_ble_eq_true rfl⟩ ((wS_ne (by omega)).trans ((wS_ne (by omega)).trans hh2)) rfl rfl rfl rfl (Nat.le_of_ble_eq_true rfl) ⟨Nat.le_of_ble_eq_true rfl, Nat.le_of_ble_eq_true rfl⟩ dX7_passDay_154 (k_rI ?_)
                refine x_istore_n hM dX7_passDay_157 rfl rfl (Nat.le_of_ble_eq_true rfl) rfl ?_
                refine x_goto (tgt := 51) hM dX7_passDay_158 (by decide) ?_
                exact ih2 (losR t1 i) _ _ _ _ (by omega) ((if_pos hneg).symm.trans hinv) hmu9.1 (hF2.tr hmu9.2)
        obtain ⟨R, hh, hn, hm, hr⟩ := id hmu
        obtain ⟨f, g, hn1, hp, hn2, hg⟩ := id hn
        have hrd := rd_mk hh hn1 hp
        have hS := np_w hp
        have tb1 := tax_gb i (np_r hp) hS
        generalize hT : dayRF t i = T at *
        have hfin : dayRF t (i + 1) = dayRO T i := by rw [← hT]; rfl
        have cb := cnt_gb T.L i
        have hp9 : nowP (fU f (20 + 2 * (i : Int)) (T.tax i + taxV T i)) (chgF T i (taxV T i)) := nowP_tax hp hi9 _
        have hg9 : eqR 10 (fU g i (T.mon i - jJ (taxV T i))) (chgF T i (taxV T i)).mon := by rw [jJ_ns]; exact eqR_up hg _ _
        have hmu9 := mu_2 hh hm hr _ _ hp9 hg9
        refine x_iload_n hM dX7_passDay_2 rfl rfl ?_
        refine x_aload_n hM dX7_passDay_3 rfl rfl ?_
        refine x_get hM wf_X7_7 wl_X7 hh rfl dX7_passDay_4 ?_
        refine x_bipush hM dX7_passDay_7 rfl ?_
        refine x_iald hM hn1 (by omega) dX7_passDay_9 ?_
        rw [np_own hp]
        refine x_icmp_ge (tgt := 167) hM dX7_passDay_10 (by decide) (by omega) (by omega) (fun c_10 => ?_) (fun c_10 => ?_)
        · exfalso; omega
        · refine x_aload_n hM dX7_passDay_13 rfl rfl ?_
          refine x_iload_n hM dX7_passDay_14 rfl rfl ?_
          refine x_callV hM wv_X7_159 (m_X7_taxOf hrd (by omega)) ⟨Nat.le_of_ble_eq_true rfl, Nat.le_of_ble_eq_true rfl⟩ hh rfl rfl rfl rfl (Nat.le_of_ble_eq_true rfl) ⟨Nat.le_of_ble_eq_true rfl, Nat.le_of_ble_eq_true rfl⟩ dX7_passDay_15 (k_rI ?_)
          refine x_istore_n hM dX7_passDay_18 rfl rfl (Nat.le_of_ble_eq_true rfl) rfl ?_
          refine x_aload_n hM dX7_passDay_19 rfl rfl ?_
          refine x_get hM wf_X7_13 wl_X7 hh rfl dX7_passDay_20 ?_
          refine x_iload_n hM dX7_passDay_23 rfl rfl ?_
          refine x_dup2 hM dX7_passDay_24 rfl rfl ?_
          refine x_lald hM hn2 (by omega) dX7_passDay_25 ?_
          rw [hg i hi9.1 hi9.2]
          refine x_iload_n hM dX7_passDay_26 rfl rfl ?_
          refine x_i2l hM dX7_passDay_27 ?_
          rw [iI_long (by omega)]
          refine x_lsub hM dX7_passDay_28 ?_
          refine x_last hM hn2 (by omega) dX7_passDay_29 ?_
          refine x_aload_n hM dX7_passDay_30 rfl rfl ?_
          refine x_get hM wf_X7_7 wl_X7 ((wS_ne (by omega)).trans hh) rfl dX7_passDay_31 ?_
          refine x_bipush hM dX7_passDay_34 rfl ?_
          refine x_iconst hM dX7_passDay_36 ?_
          refine x_iload_n hM dX7_passDay_37 rfl rfl ?_
          refine x_imul hM dX7_passDay_38 ?_
          refine x_iadd hM dX7_passDay_39 ?_
          refine x_dup2 hM dX7_passDay_40 rfl rfl ?_
          refine x_iald hM ((wS_ne (by omega)).trans hn1) (by omega) dX7_passDay_41 ?_
          rw [np_tax hp hi9.1 hi9.2]
          refine x_iload_n hM dX7_passDay_42 rfl rfl ?_
          refine x_iadd hM dX7_passDay_43 ?_
          refine x_iast hM ((wS_ne (by omega)).trans hn1) (by omega) dX7_passDay_44 ?_
          refine x_aload_n hM dX7_passDay_45 rfl rfl ?_
          refine x_iload_n hM dX7_passDay_46 rfl rfl ?_
          refine x_callV hM wv_X7_162 (m_X7_shortestOf (rd_mk ((wS_ne (by omega)).trans ((wS_ne (by omega)).trans hh)) wS_eq hp9) (by omega)) ⟨Nat.le_of_ble_eq_true rfl, Nat.le_of_ble_eq_true rfl⟩ ((wS_ne (by omega)).trans ((wS_ne (by omega)).trans hh)) rfl rfl rfl rfl (Nat.le_of_ble_eq_true rfl) ⟨Nat.le_of_ble_eq_true rfl, Nat.le_of_ble_eq_true rfl⟩ dX7_passDay_47 (k_rI ?_)
          refine x_istore_n hM dX7_passDay_50 rfl rfl (Nat.le_of_ble_eq_true rfl) rfl ?_
          exact K2 (cntO T.L i).toNat (chgF T i (taxV T i)) _ _ _ _ (show cntO T.L i = _ by omega) hfin.symm hmu9.1 (hF.tr hmu9.2)
      · have hie : i = t.own.toNat := by omega
        obtain ⟨R, hh, hn, hm, hr⟩ := id hmu
        obtain ⟨f, g, hn1, hp, hn2, hg⟩ := id hn
        have hp9 : nowP (fU f 5 ((dayRF t i).day + 1)) (dayRP t) := by have := nowP_day hp; subst hie; exact this
        have hg9 : eqR 10 g (dayRP t).mon := by subst hie; exact hg
        refine x_iload_n hM dX7_passDay_2 rfl rfl ?_
        refine x_aload_n hM dX7_passDay_3 rfl rfl ?_
        refine x_get hM wf_X7_7 wl_X7 hh rfl dX7_passDay_4 ?_
        refine x_bipush hM dX7_passDay_7 rfl ?_
        refine x_iald hM hn1 (by omega) dX7_passDay_9 ?_
        rw [np_own hp]
        refine x_icmp_ge (tgt := 167) hM dX7_passDay_10 (by decide) (by omega) (by omega) (fun c_10 => ?_) (fun c_10 => ?_)
        · refine x_aload_n hM dX7_passDay_167 rfl rfl ?_
          refine x_get hM wf_X7_7 wl_X7 hh rfl dX7_passDay_168 ?_
          refine x_iconst hM dX7_passDay_171 ?_
          refine x_dup2 hM dX7_passDay_172 rfl rfl ?_
          refine x_iald hM hn1 (by omega) dX7_passDay_173 ?_
          rw [np_day hp]
          refine x_iconst hM dX7_passDay_174 ?_
          refine x_iadd hM dX7_passDay_175 ?_
          refine x_iast hM hn1 (by omega) dX7_passDay_176 ?_
          refine hR.v dX7_passDay_177 (Nat.zero_le _) (Nat.zero_le _) ?_
          exact p_qV ⟨muA.u1 hh hm hr hn2 _ hp9 hg9, hF.tr (Fm.n wF)⟩
        · exfalso; omega
  refine x_iconst hM dX7_passDay_0 ?_
  refine x_istore_n hM dX7_passDay_1 rfl rfl (Nat.le_of_ble_eq_true rfl) rfl ?_
  exact K (t.own.toNat + 1) 0 w _ _ _ _ (by omega) (by omega) h Fm.rf
def dnR (t : St) : Nat → St
  | 0 => t
  | n + 1 => dayRP (dnR t n)
theorem dnR_day (t : St) : ∀ n : Nat, (dnR t n).day = t.day + n ∧ (dnR t n).own = t.own := by
  intro n
  induction n with
  | zero => exact ⟨(Int.add_zero _).symm, rfl⟩
  | succ n ih =>
    have h := dayRF_own (dnR t n) (dnR t n).own.toNat
    constructor
    · show (dayRF (dnR t n) (dnR t n).own.toNat).day + 1 = _
      rw [h.2.2.2.1, ih.1]; omega
    · exact h.1.trans ih.2
def daR (t : St) (d : Int) : Int × St := if 1 ≤ d ∧ d ≤ 60 then ((dnR t d.toNat).day, dnR t d.toNat) else (-2, t)
theorem m_X7_days {l : Launch} {G : xG} {w : Wd} {z m : Nat} {it : Int} {t : St} {hs : List St} {sg mn pl wr d : Int} (h : muA G w m it t hs sg mn pl wr) (hit : it = 0 ∨ it = 1) (hday : 0 ≤ t.day) (hd : iR d) : xMet l G yX7_days cX7_days 3 (some .int) ({ frames := 6, cells := 0, slots := 0, locals := 136 } : Room) [.ref m, .int (iI d)] w z (mrP G w z m it t hs sg mn pl wr (daR t d)) := by
  obtain ⟨R, hh, hn, hm, hr⟩ := id h
  refine xMet_of RX7 rfl (by decide +kernel) false (by decide +kernel) (Nat.le_of_ble_eq_true rfl) rfl ?_
  intro P hM hR
  by_cases c1 : 1 ≤ d ∧ d ≤ 60
  · obtain ⟨n, hn9⟩ : ∃ n : Nat, d = n := ⟨d.toNat, by omega⟩
    subst hn9
    have e1 : daR t n = ((dnR t n).day, dnR t n) := if_pos c1
    have K : ∀ (k i : Nat) (w1 : Wd), i + k = n → muA G w1 m it (dnR t i) (recN it hs t) sg mn pl wr → Fm m w w1 → P 19 [some (.ref m), some (.int (iI n)), some (.int (iI i))] [] w1 (z, 0, 0) := by
      intro k
      induction k with
      | zero =>
        intro i w1 hi hmu hF
        have hin : i = n := by omega
        subst hin
        obtain ⟨R2, hh2, hnA, hm2, hr2⟩ := id hmu
        obtain ⟨f, g, hn1, hp, hn2, hg⟩ := id hnA
        have := (dnR_day t i).1
        refine x_iload_n hM dX7_days_19 rfl rfl ?_
        refine x_iload_n hM dX7_days_20 rfl rfl ?_
        refine x_icmp_ge (tgt := 34) hM dX7_days_21 (by decide) (by omega) (by omega) (fun c_21 => ?_) (fun c_21 => ?_)
        · refine x_aload_n hM dX7_days_34 rfl rfl ?_
          refine x_get hM wf_X7_7 wl_X7 hh2 rfl dX7_days_35 ?_
          refine x_iconst hM dX7_days_38 ?_
          refine x_iald hM hn1 (by omega) dX7_days_39 ?_
          rw [np_day hp]
          refine hR.i dX7_days_40 (Nat.zero_le _) (Nat.zero_le _) ?_
          exact p_mr e1 (by omega) hmu hF
        · exfalso; omega
      | succ k ih =>
        intro i w1 hi hmu hF
        obtain ⟨R2, hh2, hnA, hm2, hr2⟩ := id hmu
        refine x_iload_n hM dX7_days_19 rfl rfl ?_
        refine x_iload_n hM dX7_days_20 rfl rfl ?_
        refine x_icmp_ge (tgt := 34) hM dX7_days_21 (by decide) (by omega) (by omega) (fun c_21 => ?_) (fun c_21 => ?_)
        · exfalso; omega
        · refine x_aload_n hM dX7_days_24 rfl rfl ?_
          refine x_callV hM wv_X7_165 (m_X7_passDay hmu) ⟨Nat.le_of_ble_eq_true rfl, Nat.le_of_ble_eq_true rfl⟩ hh2 rfl rfl rfl rfl (Nat.le_of_ble_eq_true rfl) ⟨Nat.le_of_ble_eq_true rfl, Nat.le_of_ble_eq_true rfl⟩ dX7_days_25 (k_qV fun w_25 q_25 => ?_)
          obtain ⟨qa, qf⟩ := q_25
          refine x_iinc hM dX7_days_28 rfl rfl rfl ?_
          refine x_goto (tgt := 19) hM dX7_days_31 (by decide) ?_
          exact ih (i + 1) _ (by omega) qa (hF.tr qf)
    refine x_iload_n hM dX7_days_0 rfl rfl ?_
    refine x_iconst hM dX7_days_1 ?_
    refine x_bipush hM dX7_days_2 rfl ?_
    refine x_callS hM ws_X7_62 (m_X7_in (by omega) (by omega) (by omega)) ⟨Nat.le_of_ble_eq_true rfl, Nat.le_of_ble_eq_true rfl⟩ rfl rfl (Nat.le_of_ble_eq_true rfl) ⟨Nat.le_of_ble_eq_true rfl, Nat.le_of_ble_eq_true rfl⟩ dX7_days_4 (k_rI ?_)
    rw [if_pos c1]
    refine x_if_ne (tgt := 13) hM dX7_days_7 (by decide) (by omega) (fun c_7 => ?_) (fun c_7 => ?_)
    · refine x_aload_n hM dX7_days_13 rfl rfl ?_
      refine x_callV hM wv_X7_73 (m_X7_record hh hn hm hit) ⟨Nat.le_of_ble_eq_true rfl, Nat.le_of_ble_eq_true rfl⟩ hh rfl rfl rfl rfl (Nat.le_of_ble_eq_true rfl) ⟨Nat.le_of_ble_eq_true rfl, Nat.le_of_ble_eq_true rfl⟩ dX7_days_14 (k_qV fun w_14 q_14 => ?_)
      obtain ⟨g1, g2, g3⟩ := q_14
      refine x_iconst hM dX7_days_17 ?_
      refine x_istore_n hM dX7_days_18 rfl rfl (Nat.le_of_ble_eq_true rfl) rfl ?_
      exact K n 0 _ (by omega) (mu_rec (hs := hs) hn hr g1 g2 g3) (Fm.h g3)
    · exfalso; omega
  · skip
    refine x_iload_n hM dX7_days_0 rfl rfl ?_
    refine x_iconst hM dX7_days_1 ?_
    refine x_bipush hM dX7_days_2 rfl ?_
    refine x_callS hM ws_X7_62 (m_X7_in (by omega) (by omega) (by omega)) ⟨Nat.le_of_ble_eq_true rfl, Nat.le_of_ble_eq_true rfl⟩ rfl rfl (Nat.le_of_ble_eq_true rfl) ⟨Nat.le_of_ble_eq_true rfl, Nat.le_of_ble_eq_true rfl⟩ dX7_days_4 (k_rI ?_)
    rw [if_neg c1]
    refine x_if_ne (tgt := 13) hM dX7_days_7 (by decide) (by omega) (fun c_7 => ?_) (fun c_7 => ?_)
    · exfalso; omega
    · refine x_bipush hM dX7_days_10 rfl ?_
      refine hR.i dX7_days_12 (Nat.zero_le _) (Nat.zero_le _) ?_
      exact p_mr0 (if_neg c1) (by decide) h
/-- after how many days a range is lost -/
def lsR (o lost : Int) : Nat → Int → St → Int
  | 0, _, _ => -6
  | k + 1, i, t => if lost < (dayRP t).los o then i else lsR o lost k (i + 1) (dayRP t)
def lsV (t : St) (o : Int) : Int := if 0 ≤ o ∧ o < t.own then lsR o (t.los o) 300 1 t else -1
theorem m_X7_losesIn {l : Launch} {G : xG} {w : Wd} {z m : Nat} {it : Int} {t : St} {hs : List St} {sg mn pl wr o : Int} (h : muA G w m it t hs sg mn pl wr) (hk : kpA G w m) (ho : iR o) (hb : 0 ≤ o ∧ o < t.own → 0 ≤ t.los o ∧ t.los o + mtsO t.L o ≤ 2147483647) : xMet l G yX7_losesIn cX7_losesIn 5 (some .int) ({ frames := 6, cells := 0, slots := 0, locals := 136 } : Room) [.ref m, .int (iI o)] w z (mkP G w z m it t hs sg mn pl wr (lsV t o)) := by
  obtain ⟨R, hh, hn, hm, hr⟩ := id h
  obtain ⟨f, g, hn1, hp, hn2, hg⟩ := id hn
  have hrd := rd_mk hh hn1 hp
  have hW := np_r hp
  obtain ⟨r1, r2, r3⟩ := id hW
  refine xMet_of RX7 rfl (by decide +kernel) false (by decide +kernel) (Nat.le_of_ble_eq_true rfl) rfl ?_
  intro P hM hR
  by_cases c1 : 0 ≤ o ∧ o < t.own
  · have e1 : lsV t o = lsR o (t.los o) 300 1 t := if_pos c1
    have ho9 : 0 ≤ o ∧ o < 10 := by omega
    have hb := hb c1
    have fin : ∀ (w1 : Wd) (t1 : St) (v : Int) (ls : List (Option Value)), muA G w1 m it t1 hs sg mn pl wr → kpT G w1 m t → Fk m w w1 → lsV t o = v → P 80 ([some (.ref m), some (.int (iI o)), some (.int (iI (t.los o))), some (.int (iI v))] ++ ls) [] w1 (z, 0, 0) := by
      intro w1 t1 v ls hmu hkt hF hv
      obtain ⟨R3, hh3, hn3, -⟩ := id hmu
      refine x_aload_n hM dX7_losesIn_80 rfl rfl ?_
      refine x_callV hM wv_X7_147 (m_X7_comeBack ⟨_, _, _, _, _, _, _, hh3⟩ hn3 hkt) ⟨Nat.le_of_ble_eq_true rfl, Nat.le_of_ble_eq_true rfl⟩ hh3 rfl rfl rfl rfl (Nat.le_of_ble_eq_true rfl) ⟨Nat.le_of_ble_eq_true rfl, Nat.le_of_ble_eq_true rfl⟩ dX7_losesIn_81 (k_qV fun w_81 q_81 => ?_)
      obtain ⟨n4, f4⟩ := q_81
      have h4 := hmu.cb f4 n4
      have k4 : kpA G w_81 m := by obtain ⟨fa, ga, b1, b2⟩ := hkt.a; exact ⟨fa, ga, (f4 _ (by omega)).trans b1, (f4 _ (by omega)).trans b2⟩
      refine x_iload_n hM dX7_losesIn_84 rfl rfl ?_
      refine hR.i dX7_losesIn_85 (Nat.zero_le _) (Nat.zero_le _) ?_
      exact p_qI ⟨hv.symm, h4, k4, hF.tr (Fm.m f4).k⟩
    have K : ∀ (k i : Nat) (t1 : St) (w1 : Wd), i + k = 301 → 1 ≤ i → segW t1.L → consL t t1 → muA G w1 m it t1 hs sg mn pl wr → kpT G w1 m t → Fk m w w1 → lsR o (t.los o) k i t1 = lsV t o → P 34 [some (.ref m), some (.int (iI o)), some (.int (iI (t.los o))), some (.int (iI (-6))), some (.int (iI i))] [] w1 (z, 0, 0) := by
      intro k
      induction k with
      | zero =>
        intro i t1 w1 hi h1 hS hc hmu hkt hF hinv
        refine x_iload hM dX7_losesIn_34 rfl ?_
        refine x_sipush hM dX7_losesIn_36 rfl ?_
        refine x_icmp_gt (tgt := 80) hM dX7_losesIn_39 (by decide) (by omega) (by omega) (fun c_39 => ?_) (fun c_39 => ?_)
        · exact fin _ _ (-6) [_] hmu hkt hF hinv.symm
        · exfalso; omega
      | succ k ih =>
        intro i t1 w1 hi h1 hS hc hmu hkt hF hinv
        obtain ⟨R2, hh2, hnA, hm2, hr2⟩ := id hmu
        obtain ⟨hS2, hc2⟩ := dayRP_ok hS
        have hc3 := hc.tr hc2
        have hb2 := hc3 o ho9.1
        have hb3 := mts_gb (L := (dayRP t1).L) o (fun s hs => (show okG s from by have := chE_ok 0 ((chE_n 0).mpr hS2.2.1) s hs; exact ⟨this.1, this.2.1, this.2.2.1, this.2.2.2⟩))
        have J34 : ∀ w2 : Wd, muA G w2 m it (dayRP t1) hs sg mn pl wr → kpT G w2 m t → Fk m w w2 → t.los o < (dayRP t1).los o → P 34 [some (.ref m), some (.int (iI o)), some (.int (iI (t.los o))), some (.int (iI i)), some (.int (iI ((i : Int) + 1)))] [] w2 (z, 0, 0) := by
          intro w2 hmu2 hkt2 hF2 hlos
          refine x_iload hM dX7_losesIn_34 rfl ?_
          refine x_sipush hM dX7_losesIn_36 rfl ?_
          refine x_icmp_gt (tgt := 80) hM dX7_losesIn_39 (by decide) (by omega) (by omega) (fun c_39 => ?_) (fun c_39 => ?_)
          · exact fin _ _ i [_] hmu2 hkt2 hF2 (hinv.symm.trans (if_pos hlos))
          · refine x_iload_n hM dX7_losesIn_42 rfl rfl ?_
            refine x_if_ge (tgt := 80) hM dX7_losesIn_43 (by decide) (by omega) (fun c_43 => ?_) (fun c_43 => ?_)
            · exact fin _ _ i [_] hmu2 hkt2 hF2 (hinv.symm.trans (if_pos hlos))
            · exfalso; omega
        refine x_iload hM dX7_losesIn_34 rfl ?_
        refine x_sipush hM dX7_losesIn_36 rfl ?_
        refine x_icmp_gt (tgt := 80) hM dX7_losesIn_39 (by decide) (by omega) (by omega) (fun c_39 => ?_) (fun c_39 => ?_)
        · exfalso; omega
        · refine x_iload_n hM dX7_losesIn_42 rfl rfl ?_
          refine x_if_ge (tgt := 80) hM dX7_losesIn_43 (by decide) (by omega) (fun c_43 => ?_) (fun c_43 => ?_)
          · exfalso; omega
          · refine x_aload_n hM dX7_losesIn_46 rfl rfl ?_
            refine x_callV hM wv_X7_165 (m_X7_passDay hmu) ⟨Nat.le_of_ble_eq_true rfl, Nat.le_of_ble_eq_true rfl⟩ hh2 rfl rfl rfl rfl (Nat.le_of_ble_eq_true rfl) ⟨Nat.le_of_ble_eq_true rfl, Nat.le_of_ble_eq_true rfl⟩ dX7_losesIn_47 (k_qV fun w_47 q_47 => ?_)
            obtain ⟨qa, qf⟩ := q_47
            obtain ⟨R3, hh3, hn3, hm3, hr3⟩ := id qa
            obtain ⟨fa, ga, b1, pa, b2, eg⟩ := id hn3
            refine x_aload_n hM dX7_losesIn_50 rfl rfl ?_
            refine x_get hM wf_X7_7 wl_X7 hh3 rfl dX7_losesIn_51 ?_
            refine x_bipush hM dX7_losesIn_54 rfl ?_
            refine x_iconst hM dX7_losesIn_56 ?_
            refine x_iload_n hM dX7_losesIn_57 rfl rfl ?_
            refine x_imul hM dX7_losesIn_58 ?_
            refine x_iadd hM dX7_losesIn_59 ?_
            refine x_iconst hM dX7_losesIn_60 ?_
            refine x_iadd hM dX7_losesIn_61 ?_
            refine x_iald hM b1 (by omega) dX7_losesIn_62 ?_
            rw [np_los pa ho9.1 ho9.2]
            refine x_iload_n hM dX7_losesIn_63 rfl rfl ?_
            refine x_icmp_le (tgt := 72) hM dX7_losesIn_64 (by decide) (by omega) (by omega) (fun c_64 => ?_) (fun c_64 => ?_)
            · refine x_iload_n hM dX7_losesIn_72 rfl rfl ?_
              refine x_istore_n hM dX7_losesIn_73 rfl rfl (Nat.le_of_ble_eq_true rfl) rfl ?_
              refine x_iinc hM dX7_losesIn_74 rfl rfl rfl ?_
              refine x_goto (tgt := 34) hM dX7_losesIn_77 (by decide) ?_
              first | exact J34 _ qa (qf.kpT hkt) (hF.tr qf.k) (by omega) | exact ih (i + 1) _ _ (by omega) (by omega) hS2 hc3 qa (qf.kpT hkt) (hF.tr qf.k) ((if_neg (by omega)).symm.trans hinv)
            · refine x_iload hM dX7_losesIn_67 rfl ?_
              refine x_goto (tgt := 73) hM dX7_losesIn_69 (by decide) ?_
              refine x_istore_n hM dX7_losesIn_73 rfl rfl (Nat.le_of_ble_eq_true rfl) rfl ?_
              refine x_iinc hM dX7_losesIn_74 rfl rfl rfl ?_
              refine x_goto (tgt := 34) hM dX7_losesIn_77 (by decide) ?_
              first | exact J34 _ qa (qf.kpT hkt) (hF.tr qf.k) (by omega) | exact ih (i + 1) _ _ (by omega) (by omega) hS2 hc3 qa (qf.kpT hkt) (hF.tr qf.k) ((if_neg (by omega)).symm.trans hinv)
    refine x_aload_n hM dX7_losesIn_0 rfl rfl ?_
    refine x_iload_n hM dX7_losesIn_1 rfl rfl ?_
    refine x_callV hM wv_X7_77 (m_X7_isOwner (by assumption) (by omega)) ⟨Nat.le_of_ble_eq_true rfl, Nat.le_of_ble_eq_true rfl⟩ (by first | assumption | exact md_o (by assumption)) rfl rfl rfl rfl (Nat.le_of_ble_eq_true rfl) ⟨Nat.le_of_ble_eq_true rfl, Nat.le_of_ble_eq_true rfl⟩ dX7_losesIn_2 (k_rI ?_)
    rw [if_pos c1]
    refine x_if_ne (tgt := 10) hM dX7_losesIn_5 (by decide) (by omega) (fun c_5 => ?_) (fun c_5 => ?_)
    · refine x_aload_n hM dX7_losesIn_10 rfl rfl ?_
      refine x_callV hM wv_X7_141 (m_X7_keep ⟨_, _, _, _, _, _, _, hh⟩ hn hk) ⟨Nat.le_of_ble_eq_true rfl, Nat.le_of_ble_eq_true rfl⟩ hh rfl rfl rfl rfl (Nat.le_of_ble_eq_true rfl) ⟨Nat.le_of_ble_eq_true rfl, Nat.le_of_ble_eq_true rfl⟩ dX7_losesIn_11 (k_qV fun w_11 q_11 => ?_)
      obtain ⟨k1, k2⟩ := q_11
      have h2 := h.ke k2
      obtain ⟨R2, hh2, hnb, -⟩ := id h2
      obtain ⟨fa, ga, b1, pa, -⟩ := id hnb
      refine x_aload_n hM dX7_losesIn_14 rfl rfl ?_
      refine x_get hM wf_X7_7 wl_X7 hh2 rfl dX7_losesIn_15 ?_
      refine x_bipush hM dX7_losesIn_18 rfl ?_
      refine x_iconst hM dX7_losesIn_20 ?_
      refine x_iload_n hM dX7_losesIn_21 rfl rfl ?_
      refine x_imul hM dX7_losesIn_22 ?_
      refine x_iadd hM dX7_losesIn_23 ?_
      refine x_iconst hM dX7_losesIn_24 ?_
      refine x_iadd hM dX7_losesIn_25 ?_
      refine x_iald hM b1 (by omega) dX7_losesIn_26 ?_
      rw [np_los pa ho9.1 ho9.2]
      refine x_istore_n hM dX7_losesIn_27 rfl rfl (Nat.le_of_ble_eq_true rfl) rfl ?_
      refine x_bipush hM dX7_losesIn_28 rfl ?_
      refine x_istore_n hM dX7_losesIn_30 rfl rfl (Nat.le_of_ble_eq_true rfl) rfl ?_
      refine x_iconst hM dX7_losesIn_31 ?_
      refine x_istore hM dX7_losesIn_32 rfl (Nat.le_of_ble_eq_true rfl) rfl ?_
      exact K 300 1 t _ (by omega) (by omega) (np_w hp) consL.rf h2 k1 (Fk.ke k2) e1.symm
    · exfalso; omega
  · skip
    refine x_aload_n hM dX7_losesIn_0 rfl rfl ?_
    refine x_iload_n hM dX7_losesIn_1 rfl rfl ?_
    refine x_callV hM wv_X7_77 (m_X7_isOwner (by assumption) (by omega)) ⟨Nat.le_of_ble_eq_true rfl, Nat.le_of_ble_eq_true rfl⟩ (by first | assumption | exact md_o (by assumption)) rfl rfl rfl rfl (Nat.le_of_ble_eq_true rfl) ⟨Nat.le_of_ble_eq_true rfl, Nat.le_of_ble_eq_true rfl⟩ dX7_losesIn_2 (k_rI ?_)
    rw [if_neg c1]
    refine x_if_ne (tgt := 10) hM dX7_losesIn_5 (by decide) (by omega) (fun c_5 => ?_) (fun c_5 => ?_)
    · exfalso; omega
    · refine x_iconst hM dX7_losesIn_8 ?_
      refine hR.i dX7_losesIn_9 (Nat.zero_le _) (Nat.zero_le _) ?_
      exact p_qI ⟨(if_neg c1).symm, h, hk, Fk.rf⟩
