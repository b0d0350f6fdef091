/-! The reference: a transfer that is done -/
theorem tax_gb {t : St} (o : Int) (h : regW t) (hL : segW t.L) : 0 ≤ taxV t o ∧ taxV t o ≤ 90000000 := by
  have b1 := cnt_gb t.L o
  have b2 := mts_gb o (fun s hs => (show okG s from by have := chE_ok 0 ((chE_n 0).mpr hL.2.1) s hs; exact ⟨this.1, this.2.1, this.2.2.1, this.2.2.2⟩))
  have b3 := hL.1
  obtain ⟨-, -, ⟨a1, a2⟩, ⟨a3, a4⟩, -⟩ := h
  unfold taxV
  have c1 : cntO t.L o * t.set 1 ≤ 81 * 1000 := Int.mul_le_mul (by omega) a4 a3 (by omega)
  have c2 : 0 ≤ cntO t.L o * t.set 1 := Int.mul_nonneg b1.1 a3
  have c3 : (mtsO t.L o + 9) / 10 * t.set 0 ≤ 81001 * 1000 := Int.mul_le_mul (by omega) a2 a1 (by omega)
  have c4 : 0 ≤ (mtsO t.L o + 9) / 10 * t.set 0 := Int.mul_nonneg (by omega) a1
  omega
theorem mu_2 {G : xG} {w1 : Wd} {m : Nat} {it : Int} {t2 : St} {hs : List St} {R : List Sg} {sg mn pl wr : Int} (q1 : w1 m = some (hdV m hs.length sg it R.length mn pl wr)) (hm : hmA G w1 m hs) (hr : rwA G w1 m R) (f2 : Int → Int) (g2 : Int → Int64) (hp : nowP f2 t2) (hg : eqR 10 g2 t2.mon) : muA G (wS (wS w1 (m + 2) (aJ G 10 g2)) (m + 1) (aI G 400 f2)) m it t2 hs sg mn pl wr ∧ Fm m w1 (wS (wS w1 (m + 2) (aJ G 10 g2)) (m + 1) (aI G 400 f2)) := by
  have k : ∀ q : Nat, q ≠ m + 1 → q ≠ m + 2 → (wS (wS w1 (m + 2) (aJ G 10 g2)) (m + 1) (aI G 400 f2)) q = w1 q := fun q a b => (wS_ne a).trans (wS_ne b)
  exact ⟨⟨R, (k m (by omega) (by omega)).trans q1, ⟨f2, g2, wS_eq, hp, (wS_ne (by omega)).trans wS_eq, hg⟩, hm.kpf (k _ (by omega) (by omega)) (k _ (by omega) (by omega)), hr.kpf (k _ (by omega) (by omega)) (k _ (by omega) (by omega))⟩, fun q a b c _ _ _ _ => k q b c⟩
theorem nowP_fee {f : Int → Int} {t : St} (h : nowP f t) (mo : Int → Int64) (v : Int) : nowP (fU f 10 v) (mkS t.L t.set mo t.tax t.los t.D t.own t.day t.clo v) := by
  obtain ⟨p1, p2, p3, p4, p5, p6, p7, p8, p9, p10, p11, p12, p13⟩ := h
  refine ⟨p1, p2, p3, fun j a b => (fU_ne (by omega)).trans (p4 j a b), (fU_ne (by omega)).trans p5, (fU_ne (by omega)).trans p6, (fU_ne (by omega)).trans p7, (fU_ne (by omega)).trans p8, (fU_ne (by omega)).trans p9, fU_eq, fun q a b => ?_, fun j hj k a b => (fU_ne (by omega)).trans (p12 j hj k a b), fun j hj => ?_⟩
  · rw [fU_ne (by omega), fU_ne (by omega)]; exact p11 q a b
  · rw [fU_ne (by omega), fU_ne (by omega)]; exact p13 j hj
def goT (t : St) (v : Tr) : St := mkS (lrF t.L v.2.2.1 (v.2.2.1 + v.2.2.2.1) v.2.1) t.set (fU (fU t.mon v.2.1 (t.mon v.2.1 - jJ (v.2.2.2.2 + t.set 2))) v.1 (t.mon v.1 + jJ v.2.2.2.2)) t.tax t.los t.D t.own t.day t.clo (t.fee + t.set 2)
abbrev goN (t : St) (v : Tr) : Prop := mtwF t.L v.1 v.2.2.1 v.2.2.2.1 < v.2.2.2.1 ∨ t.mon v.2.1 < jJ (v.2.2.2.2 + t.set 2) ∨ ¬ mayE t v.2.1 v.2.2.2.1
abbrev goS (t : St) (v : Tr) : Prop := shoB (lrF t.L v.2.2.1 (v.2.2.1 + v.2.2.2.1) v.2.1) v.1 (t.set 3) = true ∨ shoB (lrF t.L v.2.2.1 (v.2.2.1 + v.2.2.2.1) v.2.1) v.2.1 (t.set 3) = true
def goR (t : St) (v : Tr) : Int × St := if goN t v then (0, t) else if 40 < rnF (lrF t.L v.2.2.1 (v.2.2.1 + v.2.2.2.1) v.2.1) then (0, t) else (if goS t v then 0 else 1, goT t v)
theorem i0y {P : Prop} [Decidable P] (h : (if P then (0 : Int) else 1) = 0) : P := by
  by_cases c : P
  · exact c
  · rw [if_neg c] at h; exact absurd h (by decide)
theorem i01 {P : Prop} [Decidable P] : iR (if P then (0 : Int) else 1) := by
  by_cases c : P
  · rw [if_pos c]; exact ⟨by decide, by decide⟩
  · rw [if_neg c]; exact ⟨by decide, by decide⟩
theorem i0n {P : Prop} [Decidable P] (h : (if P then (0 : Int) else 1) ≠ 0) : ¬ P := fun c => h (if_pos c)
abbrev msP (G : xG) (w : Wd) (z m : Nat) (it : Int) (hs : List St) (sg mn pl wr : Int) (r : Int × St) : xPo := qI z fun y w1 => y = r.1 ∧ muA G w1 m it r.2 hs sg mn pl wr ∧ Fm m w w1
theorem p_ms {G : xG} {w w1 : Wd} {z m : Nat} {it y : Int} {t2 : St} {hs : List St} {sg mn pl wr : Int} {r : Int × St} (e : r = (y, t2)) (h : muA G w1 m it t2 hs sg mn pl wr) (k : Fm m w w1) : msP G w z m it hs sg mn pl wr r (some (.int (iI y))) w1 z := by
  subst e
  exact p_qI ⟨rfl, h, k⟩
theorem m_X7_goes {l : Launch} {G : xG} {w : Wd} {z m i : Nat} {it : Int} {t : St} {hs : List St} {sg mn pl wr : Int} (h : muA G w m it t hs sg mn pl wr) (hi : i < t.D.length) : xMet l G yX7_goes cX7_goes 8 (some .boolean) ({ frames := 5, cells := 0, slots := 0, locals := 112 } : Room) [.ref m, .int (iI i)] w z (msP G w z m it hs sg mn pl wr (goR t t.D[i])) := by
  obtain ⟨R, hh, hn, hm, hr⟩ := id h
  obtain ⟨f, g, hn1, hp, hn2, hg⟩ := id hn
  have hrd := rd_mk hh hn1 hp
  have hW := np_r hp
  obtain ⟨r1, r2, r3, r4, r5, r6, r7⟩ := id hW
  have hl := (np_w hp).1
  have hdl := (np_d hp).1
  have hok := (np_d hp).2 _ (List.getElem_mem hi)
  have u0 := np_tr hp hi (k := 0) (by decide) (by decide)
  have u1 := np_tr hp hi (k := 1) (by decide) (by decide)
  have u2 := np_tr hp hi (k := 2) (by decide) (by decide)
  have u3 := np_tr hp hi (k := 3) (by decide) (by decide)
  have u4 := np_tr hp hi (k := 4) (by decide) (by decide)
  generalize t.D[i] = v at hok u0 u1 u2 u3 u4 ⊢
  obtain ⟨a1, a2, a3, a4, a5⟩ := v
  obtain ⟨k1, k2, k3, k4, k5, k6, k7, k8, k9, k10⟩ : 0 ≤ a1 ∧ a1 < 10 ∧ 0 ≤ a2 ∧ a2 < 10 ∧ a1 ≠ a2 ∧ 0 ≤ a3 ∧ 1 ≤ a4 ∧ a3 + a4 ≤ 10000 ∧ 0 ≤ a5 ∧ a5 ≤ 1000000 := hok
  have u0 : f (50 + 5 * (i : Int)) = a1 := by rw [Int.add_zero] at u0; exact u0
  have u1 : f (50 + 5 * (i : Int) + 1) = a2 := u1
  have u2 : f (50 + 5 * (i : Int) + 2) = a3 := u2
  have u3 : f (50 + 5 * (i : Int) + 3) = a4 := u3
  have u4 : f (50 + 5 * (i : Int) + 4) = a5 := u4
  have hb := mtw_gb a1 a3 a4 (np_all hp) (by omega)
  have hs2 := np_set hp (j := 2) (by decide) (by decide)
  refine xMet_of RX7 rfl (by decide +kernel) false (by decide +kernel) (Nat.le_of_ble_eq_true rfl) rfl ?_
  intro P hM hR
  refine x_bipush hM dX7_goes_0 rfl ?_
  refine x_iconst hM dX7_goes_2 ?_
  refine x_iload_n hM dX7_goes_3 rfl rfl ?_
  refine x_imul hM dX7_goes_4 ?_
  refine x_iadd hM dX7_goes_5 ?_
  refine x_istore_n hM dX7_goes_6 rfl rfl (Nat.le_of_ble_eq_true rfl) rfl ?_
  refine x_aload_n hM dX7_goes_7 rfl rfl ?_
  refine x_get hM wf_X7_7 wl_X7 hh rfl dX7_goes_8 ?_
  refine x_iload_n hM dX7_goes_11 rfl rfl ?_
  refine x_iald hM hn1 (by omega) dX7_goes_12 ?_
  rw [u0]
  refine x_istore_n hM dX7_goes_13 rfl rfl (Nat.le_of_ble_eq_true rfl) rfl ?_
  refine x_aload_n hM dX7_goes_14 rfl rfl ?_
  refine x_get hM wf_X7_7 wl_X7 hh rfl dX7_goes_15 ?_
  refine x_iload_n hM dX7_goes_18 rfl rfl ?_
  refine x_iconst hM dX7_goes_19 ?_
  refine x_iadd hM dX7_goes_20 ?_
  refine x_iald hM hn1 (by omega) dX7_goes_21 ?_
  rw [u1]
  refine x_istore hM dX7_goes_22 rfl (Nat.le_of_ble_eq_true rfl) rfl ?_
  refine x_aload_n hM dX7_goes_24 rfl rfl ?_
  refine x_get hM wf_X7_7 wl_X7 hh rfl dX7_goes_25 ?_
  refine x_iload_n hM dX7_goes_28 rfl rfl ?_
  refine x_iconst hM dX7_goes_29 ?_
  refine x_iadd hM dX7_goes_30 ?_
  refine x_iald hM hn1 (by omega) dX7_goes_31 ?_
  rw [u2]
  refine x_istore hM dX7_goes_32 rfl (Nat.le_of_ble_eq_true rfl) rfl ?_
  refine x_aload_n hM dX7_goes_34 rfl rfl ?_
  refine x_get hM wf_X7_7 wl_X7 hh rfl dX7_goes_35 ?_
  refine x_iload_n hM dX7_goes_38 rfl rfl ?_
  refine x_iconst hM dX7_goes_39 ?_
  refine x_iadd hM dX7_goes_40 ?_
  refine x_iald hM hn1 (by omega) dX7_goes_41 ?_
  rw [u3]
  refine x_istore hM dX7_goes_42 rfl (Nat.le_of_ble_eq_true rfl) rfl ?_
  refine x_aload_n hM dX7_goes_44 rfl rfl ?_
  refine x_get hM wf_X7_7 wl_X7 hh rfl dX7_goes_45 ?_
  refine x_iload_n hM dX7_goes_48 rfl rfl ?_
  refine x_iconst hM dX7_goes_49 ?_
  refine x_iadd hM dX7_goes_50 ?_
  refine x_iald hM hn1 (by omega) dX7_goes_51 ?_
  rw [u4]
  refine x_istore hM dX7_goes_52 rfl (Nat.le_of_ble_eq_true rfl) rfl ?_
  refine x_aload_n hM dX7_goes_54 rfl rfl ?_
  refine x_iload hM dX7_goes_55 rfl ?_
  refine x_iload hM dX7_goes_57 rfl ?_
  refine x_iload hM dX7_goes_59 rfl ?_
  refine x_iadd hM dX7_goes_61 ?_
  refine x_iload_n hM dX7_goes_62 rfl rfl ?_
  refine x_callV hM wv_X7_97 (m_X7_metersIn hrd (by omega) (by omega) (by omega)) ⟨Nat.le_of_ble_eq_true rfl, Nat.le_of_ble_eq_true rfl⟩ hh rfl rfl rfl rfl (Nat.le_of_ble_eq_true rfl) ⟨Nat.le_of_ble_eq_true rfl, Nat.le_of_ble_eq_true rfl⟩ dX7_goes_63 (k_rI ?_)
  rw [show a3 + a4 - a3 = a4 by omega]
  refine x_iload hM dX7_goes_66 rfl ?_
  refine x_icmp_lt (tgt := 103) hM dX7_goes_68 (by decide) (by omega) (by omega) (fun c_68 => ?_) (fun c_68 => ?_)
  · refine x_iconst hM dX7_goes_103 ?_
    refine hR.b dX7_goes_104 rfl (Nat.zero_le _) (Nat.zero_le _) ?_
    exact p_ms (if_pos (by first | exact Or.inr (Or.inr c3) | exact Or.inr (Or.inl (z_88l.mp (by assumption))) | exact Or.inl (by assumption))) h Fm.rf
  · refine x_aload_n hM dX7_goes_71 rfl rfl ?_
    refine x_get hM wf_X7_13 wl_X7 hh rfl dX7_goes_72 ?_
    refine x_iload hM dX7_goes_75 rfl ?_
    refine x_lald hM hn2 (by omega) dX7_goes_77 ?_
    rw [hg a2 k3 k4]
    refine x_iload hM dX7_goes_78 rfl ?_
    refine x_aload_n hM dX7_goes_80 rfl rfl ?_
    refine x_get hM wf_X7_7 wl_X7 hh rfl dX7_goes_81 ?_
    refine x_iconst hM dX7_goes_84 ?_
    refine x_iald hM hn1 (by omega) dX7_goes_85 ?_
    rw [hs2]
    refine x_iadd hM dX7_goes_86 ?_
    refine x_i2l hM dX7_goes_87 ?_
    rw [iI_long (by omega)]
    refine x_lcmp hM dX7_goes_88 (fun z_88 z_88r z_88l z_88e => ?_)
    refine x_if_lt (tgt := 103) hM dX7_goes_89 (by decide) (by omega) (fun c_89 => ?_) (fun c_89 => ?_)
    · refine x_iconst hM dX7_goes_103 ?_
      refine hR.b dX7_goes_104 rfl (Nat.zero_le _) (Nat.zero_le _) ?_
      exact p_ms (if_pos (by first | exact Or.inr (Or.inr c3) | exact Or.inr (Or.inl (z_88l.mp (by assumption))) | exact Or.inl (by assumption))) h Fm.rf
    · refine x_aload_n hM dX7_goes_92 rfl rfl ?_
      refine x_iload hM dX7_goes_93 rfl ?_
      refine x_iload hM dX7_goes_95 rfl ?_
      refine x_callV hM wv_X7_115 (m_X7_mayGet hrd (by omega) (by omega)) ⟨Nat.le_of_ble_eq_true rfl, Nat.le_of_ble_eq_true rfl⟩ hh rfl rfl rfl rfl (Nat.le_of_ble_eq_true rfl) ⟨Nat.le_of_ble_eq_true rfl, Nat.le_of_ble_eq_true rfl⟩ dX7_goes_97 (k_rI ?_)
      by_cases c3 : mayE t a2 a4
      · rw [if_pos c3]
        refine x_if_ne (tgt := 105) hM dX7_goes_100 (by decide) (by omega) (fun _ => ?_) (fun q => absurd q (by decide))
        have hgo : ¬ goN t (a1, a2, a3, a4, a5) := by rintro (q | q | q); exact absurd q (by dsimp only; omega); exact absurd (z_88l.mpr q) (by omega); exact q c3
        refine x_aload_n hM dX7_goes_105 rfl rfl ?_
        refine x_iload hM dX7_goes_106 rfl ?_
        refine x_iload hM dX7_goes_108 rfl ?_
        refine x_iload hM dX7_goes_110 rfl ?_
        refine x_iadd hM dX7_goes_112 ?_
        refine x_iload hM dX7_goes_113 rfl ?_
        refine x_callV hM wv_X7_108 (m_X7_layRow hh hr hn1 hp (by omega) (by omega)) ⟨Nat.le_of_ble_eq_true rfl, Nat.le_of_ble_eq_true rfl⟩ hh rfl rfl rfl rfl (Nat.le_of_ble_eq_true rfl) ⟨Nat.le_of_ble_eq_true rfl, Nat.le_of_ble_eq_true rfl⟩ dX7_goes_115 (k_qV fun w_115 q_115 => ?_)
        obtain ⟨q1, q2, q3⟩ := q_115
        have hmu := mu_row hn hm q1 q2 q3
        have hn1b := (q3 (m + 1) (by omega) (by omega)).trans hn1
        have hn2b := (q3 (m + 2) (by omega) (by omega)).trans hn2
        have hmb := hm.kpf (q3 (m + 6) (by omega) (by omega)) (q3 (m + 7) (by omega) (by omega))
        have hrb := rnF_b (lrF t.L a3 (a3 + a4) a2)
        have hrl := q2
        obtain ⟨-, -, -, -, hrl, -⟩ := hrl
        refine x_aload_n hM dX7_goes_118 rfl rfl ?_
        refine x_callV hM wv_X7_111 (m_X7_rangesInRow q1 q2) ⟨Nat.le_of_ble_eq_true rfl, Nat.le_of_ble_eq_true rfl⟩ q1 rfl rfl rfl rfl (Nat.le_of_ble_eq_true rfl) ⟨Nat.le_of_ble_eq_true rfl, Nat.le_of_ble_eq_true rfl⟩ dX7_goes_119 (k_rI ?_)
        refine x_bipush hM dX7_goes_122 rfl ?_
        refine x_icmp_le (tgt := 129) hM dX7_goes_124 (by decide) (by omega) (by omega) (fun c_124 => ?_) (fun c_124 => ?_)
        · refine x_aload_n hM dX7_goes_129 rfl rfl ?_
          refine x_callV hM wv_X7_118 (m_X7_takeRow q1 q2 hn1b hp (lr_W hp (by omega) (by omega) (by assumption))) ⟨Nat.le_of_ble_eq_true rfl, Nat.le_of_ble_eq_true rfl⟩ q1 rfl rfl rfl rfl (Nat.le_of_ble_eq_true rfl) ⟨Nat.le_of_ble_eq_true rfl, Nat.le_of_ble_eq_true rfl⟩ dX7_goes_130 (k_qV fun w_130 q_130 => ?_)
          obtain ⟨⟨fz, h3, h4⟩, h2⟩ := q_130
          have hh2 := (h2 m (by omega)).trans q1
          have hn2c := (h2 (m + 2) (by omega)).trans hn2b
          have hmc := hmb.kpf (h2 (m + 6) (by omega)) (h2 (m + 7) (by omega))
          have hrc := q2.kpf (h2 (m + 12) (by omega)) (h2 (m + 13) (by omega))
          have hf2 := np_set h4 (j := 2) (by decide) (by decide)
          have hf2 : fz 2 = t.set 2 := hf2
          have hf10 := np_fee h4
          have hf10 : fz 10 = t.fee := hf10
          have hp9 : nowP (fU fz 10 (t.fee + t.set 2)) (goT t (a1, a2, a3, a4, a5)) := nowP_fee h4 _ _
          have hg9 : eqR 10 (fU (fU g a2 (t.mon a2 - jJ (a5 + t.set 2))) a1 (t.mon a1 + jJ a5)) (goT t (a1, a2, a3, a4, a5)).mon := eqR_up (eqR_up hg _ _) _ _
          have hmu9 := mu_2 hh2 hmc hrc _ _ hp9 hg9
          have hfm9 := ((Fm.r q3).tr (Fm.n h2)).tr hmu9.2
          refine x_aload_n hM dX7_goes_133 rfl rfl ?_
          refine x_get hM wf_X7_13 wl_X7 hh2 rfl dX7_goes_134 ?_
          refine x_iload hM dX7_goes_137 rfl ?_
          refine x_dup2 hM dX7_goes_139 rfl rfl ?_
          refine x_lald hM hn2c (by omega) dX7_goes_140 ?_
          rw [hg a2 k3 k4]
          refine x_iload hM dX7_goes_141 rfl ?_
          refine x_aload_n hM dX7_goes_143 rfl rfl ?_
          refine x_get hM wf_X7_7 wl_X7 hh2 rfl dX7_goes_144 ?_
          refine x_iconst hM dX7_goes_147 ?_
          refine x_iald hM h3 (by omega) dX7_goes_148 ?_
          rw [hf2]
          refine x_iadd hM dX7_goes_149 ?_
          refine x_i2l hM dX7_goes_150 ?_
          rw [iI_long (by omega)]
          refine x_lsub hM dX7_goes_151 ?_
          refine x_last hM hn2c (by omega) dX7_goes_152 ?_
          refine x_aload_n hM dX7_goes_153 rfl rfl ?_
          refine x_get hM wf_X7_13 wl_X7 ((wS_ne (by omega)).trans hh2) rfl dX7_goes_154 ?_
          refine x_iload_n hM dX7_goes_157 rfl rfl ?_
          refine x_dup2 hM dX7_goes_158 rfl rfl ?_
          refine x_lald hM wS_eq (by omega) dX7_goes_159 ?_
          rw [fU_ne k5, hg a1 k1 k2]
          refine x_iload hM dX7_goes_160 rfl ?_
          refine x_i2l hM dX7_goes_162 ?_
          rw [iI_long (by omega)]
          refine x_ladd hM dX7_goes_163 ?_
          refine x_last hM wS_eq (by omega) dX7_goes_164 ?_
          rw [wS_2]
          refine x_aload_n hM dX7_goes_165 rfl rfl ?_
          refine x_get hM wf_X7_7 wl_X7 ((wS_ne (by omega)).trans hh2) rfl dX7_goes_166 ?_
          refine x_bipush hM dX7_goes_169 rfl ?_
          refine x_dup2 hM dX7_goes_171 rfl rfl ?_
          refine x_iald hM ((wS_ne (by omega)).trans h3) (by omega) dX7_goes_172 ?_
          rw [hf10]
          refine x_aload_n hM dX7_goes_173 rfl rfl ?_
          refine x_get hM wf_X7_7 wl_X7 ((wS_ne (by omega)).trans hh2) rfl dX7_goes_174 ?_
          refine x_iconst hM dX7_goes_177 ?_
          refine x_iald hM ((wS_ne (by omega)).trans h3) (by omega) dX7_goes_178 ?_
          rw [hf2]
          refine x_iadd hM dX7_goes_179 ?_
          refine x_iast hM ((wS_ne (by omega)).trans h3) (by omega) dX7_goes_180 ?_
          refine x_aload_n hM dX7_goes_181 rfl rfl ?_
          refine x_iload_n hM dX7_goes_182 rfl rfl ?_
          refine x_callV hM wv_X7_135 (m_X7_isLong (rd_mk ((wS_ne (by omega)).trans ((wS_ne (by omega)).trans hh2)) wS_eq hp9) (by omega)) ⟨Nat.le_of_ble_eq_true rfl, Nat.le_of_ble_eq_true rfl⟩ ((wS_ne (by omega)).trans ((wS_ne (by omega)).trans hh2)) rfl rfl rfl rfl (Nat.le_of_ble_eq_true rfl) ⟨Nat.le_of_ble_eq_true rfl, Nat.le_of_ble_eq_true rfl⟩ dX7_goes_183 (k_rI ?_)
          try dsimp only [goT]
          refine x_if_eq (tgt := 202) hM dX7_goes_186 (by decide) i01 (fun c_186 => ?_) (fun c_186 => ?_)
          · refine x_iconst hM dX7_goes_202 ?_
            refine hR.b dX7_goes_203 rfl (Nat.zero_le _) (Nat.zero_le _) ?_
            have eg : ∀ y : Int, (if goS t (a1, a2, a3, a4, a5) then (0 : Int) else 1) = y → goR t (a1, a2, a3, a4, a5) = (y, goT t (a1, a2, a3, a4, a5)) := fun y e => by unfold goR; rw [if_neg hgo, if_neg (show ¬ (40 : Int) < rnF (lrF t.L a3 (a3 + a4) a2) by omega), e]
            first | exact p_ms (eg 1 (if_neg (fun q => by rcases q with q | q; exact i0n c_186 q; exact i0n c_195 q))) hmu9.1 hfm9 | exact p_ms (eg 0 (if_pos (Or.inl (i0y c_186)))) hmu9.1 hfm9 | exact p_ms (eg 0 (if_pos (Or.inr (i0y c_195)))) hmu9.1 hfm9
          · refine x_aload_n hM dX7_goes_189 rfl rfl ?_
            refine x_iload hM dX7_goes_190 rfl ?_
            refine x_callV hM wv_X7_135 (m_X7_isLong (rd_mk ((wS_ne (by omega)).trans ((wS_ne (by omega)).trans hh2)) wS_eq hp9) (by omega)) ⟨Nat.le_of_ble_eq_true rfl, Nat.le_of_ble_eq_true rfl⟩ ((wS_ne (by omega)).trans ((wS_ne (by omega)).trans hh2)) rfl rfl rfl rfl (Nat.le_of_ble_eq_true rfl) ⟨Nat.le_of_ble_eq_true rfl, Nat.le_of_ble_eq_true rfl⟩ dX7_goes_192 (k_rI ?_)
            try dsimp only [goT]
            refine x_if_eq (tgt := 202) hM dX7_goes_195 (by decide) i01 (fun c_195 => ?_) (fun c_195 => ?_)
            · refine x_iconst hM dX7_goes_202 ?_
              refine hR.b dX7_goes_203 rfl (Nat.zero_le _) (Nat.zero_le _) ?_
              have eg : ∀ y : Int, (if goS t (a1, a2, a3, a4, a5) then (0 : Int) else 1) = y → goR t (a1, a2, a3, a4, a5) = (y, goT t (a1, a2, a3, a4, a5)) := fun y e => by unfold goR; rw [if_neg hgo, if_neg (show ¬ (40 : Int) < rnF (lrF t.L a3 (a3 + a4) a2) by omega), e]
              first | exact p_ms (eg 1 (if_neg (fun q => by rcases q with q | q; exact i0n c_186 q; exact i0n c_195 q))) hmu9.1 hfm9 | exact p_ms (eg 0 (if_pos (Or.inl (i0y c_186)))) hmu9.1 hfm9 | exact p_ms (eg 0 (if_pos (Or.inr (i0y c_195)))) hmu9.1 hfm9
            · refine x_iconst hM dX7_goes_198 ?_
              refine x_goto (tgt := 203) hM dX7_goes_199 (by decide) ?_
              refine hR.b dX7_goes_203 rfl (Nat.zero_le _) (Nat.zero_le _) ?_
              have eg : ∀ y : Int, (if goS t (a1, a2, a3, a4, a5) then (0 : Int) else 1) = y → goR t (a1, a2, a3, a4, a5) = (y, goT t (a1, a2, a3, a4, a5)) := fun y e => by unfold goR; rw [if_neg hgo, if_neg (show ¬ (40 : Int) < rnF (lrF t.L a3 (a3 + a4) a2) by omega), e]
              first | exact p_ms (eg 1 (if_neg (fun q => by rcases q with q | q; exact i0n c_186 q; exact i0n c_195 q))) hmu9.1 hfm9 | exact p_ms (eg 0 (if_pos (Or.inl (i0y c_186)))) hmu9.1 hfm9 | exact p_ms (eg 0 (if_pos (Or.inr (i0y c_195)))) hmu9.1 hfm9
        · refine x_iconst hM dX7_goes_127 ?_
          refine hR.b dX7_goes_128 rfl (Nat.zero_le _) (Nat.zero_le _) ?_
          exact p_ms ((if_neg hgo).trans (if_pos (by assumption))) hmu (Fm.r q3)
      · rw [if_neg c3]
        refine x_if_ne (tgt := 105) hM dX7_goes_100 (by decide) (by omega) (fun q => absurd rfl q) (fun _ => ?_)
        refine x_iconst hM dX7_goes_103 ?_
        refine hR.b dX7_goes_104 rfl (Nat.zero_le _) (Nat.zero_le _) ?_
        exact p_ms (if_pos (by first | exact Or.inr (Or.inr c3) | exact Or.inr (Or.inl (z_88l.mp (by assumption))) | exact Or.inl (by assumption))) h Fm.rf
