/-! The reference: putting characters, carrying a text out -/
abbrev Fp (m : Nat) (w w1 : Wd) : Prop := Fr2 m (m + 1) (m + 11) (m + 12) w w1
theorem sgn_v : ∀ (k c v : Nat), v < 256 ^ k → (v % 256 = 0 → (v = 0 → sgnF k v c = c) ∧ (v ≠ 0 → sgnF k v c = 0)) ∧ (v % 256 ≠ 0 → 1 ≤ k ∧ (¬ (33 ≤ v % 256 ∧ v % 256 ≤ 126) → sgnF k v c = 0) ∧ ((33 ≤ v % 256 ∧ v % 256 ≤ 126) → sgnF k v c = sgnF (k - 1) (v / 256) (c + 1) ∧ v / 256 < 256 ^ (k - 1))) := by
  intro k c v hv
  cases k with
  | zero =>
    have : v = 0 := by simpa using hv
    subst this
    exact ⟨fun _ => ⟨fun _ => rfl, fun q => absurd rfl q⟩, fun q => absurd rfl q⟩
  | succ k =>
    simp only [sgnF]
    refine ⟨fun h => ⟨fun q => if_pos q, fun q => ?_⟩, fun h => ⟨by omega, fun q => ?_, fun q => ?_⟩⟩
    · rw [if_neg q, if_pos (by omega)]
    · rw [if_neg (by omega), if_pos (by omega)]
    · rw [if_neg (by omega), if_neg (by omega)]
      refine ⟨rfl, ?_⟩
      show v / 256 < 256 ^ k
      rw [Nat.pow_succ] at hv
      exact Nat.div_lt_of_lt_mul (by rw [Nat.mul_comm]; exact hv)
theorem pd_put {G : xG} {w1 : Wd} {m : Nat} {cs T : List Int} {g : Int → Int} (hW : padW cs) (hT : ∀ c ∈ T, 33 ≤ c ∧ c ≤ 126) (hl : cs.length + T.length ≤ 80) (h1 : w1 (m + 11) = some (aI G 80 g)) (hg : ∀ (i : Nat) (h : i < cs.length), g i = cs[i]) (hg2 : ∀ (i : Nat) (h : i < T.length), g (cs.length + i : Nat) = T[i]) : pdA G w1 m (cs ++ T) := by
  refine ⟨⟨by rw [List.length_append]; exact hl, fun c hcm => ?_⟩, g, h1, fun i hi => ?_⟩
  · rcases List.mem_append.mp hcm with q | q
    · exact hW.2 c q
    · exact hT c q
  · rw [List.length_append] at hi
    by_cases e : i < cs.length
    · rw [List.getElem_append_left e]; exact hg i e
    · rw [List.getElem_append_right (by omega)]
      have := hg2 (i - cs.length) (by omega)
      rw [show cs.length + (i - cs.length) = i by omega] at this
      exact this
theorem m_X7_put {l : Launch} {G : xG} {w : Wd} {z m u : Nat} {cs : List Int} {un it rw mn pl wr : Int} (hh : w m = some (hdV m un cs.length it rw mn pl wr)) (hd : pdA G w m cs) (hu : u < 2 ^ 64) : xMet l G yX7_put cX7_put 7 (some .int) ({ frames := 1, cells := 0, slots := 0, locals := 22 } : Room) [.ref m, .long (lN u)] w z (qI z fun y w1 => y = (putF cs u).1 ∧ w1 m = some (hdV m un (putF cs u).2.length it rw mn pl wr) ∧ pdA G w1 m (putF cs u).2 ∧ Fp m w w1) := by
  obtain ⟨hW, f, hf, hfv⟩ := id hd
  have hl := hW.1
  have hsb := sgnF_b 8 u 0
  refine xMet_of RX7 rfl (by decide +kernel) false (by decide +kernel) (Nat.le_of_ble_eq_true rfl) rfl ?_
  intro P hM hR
  have J2 : ∀ (y : Int), y = (putF cs u).1 → (putF cs u).2 = cs → (qI z fun y w1 => y = (putF cs u).1 ∧ w1 m = some (hdV m un (putF cs u).2.length it rw mn pl wr) ∧ pdA G w1 m (putF cs u).2 ∧ Fp m w w1) (some (.int (iI y))) w z := fun y h1 h2 => p_qI ⟨h1, by rw [h2]; exact hh, by rw [h2]; exact hd, Fr2.rf⟩
  have J63 : ∀ (n : Nat) (x5 x6 : Option Value), sgnF 8 u 0 = n → n ≠ 0 → P 63 [some (.ref m), some (.long (lN u)), none, some (.int (iI n)), some (.long (lN 0)), x5, x6] [] w (z, 0, 0) := by
    intro n x5 x6 hs hn0
    obtain ⟨n2, e1, e2⟩ := sgn_chr 8 u 0 (by omega)
    have hn2 : n2 = n := by omega
    subst hn2
    by_cases c2 : cs.length + n2 ≤ 80
    · have e3 : putF cs u = (((cs.length + n2 : Nat) : Int), cs ++ chrL n2 u) := by unfold putF; rw [hs, if_neg hn0, if_pos c2]
      have el : ((cs ++ chrL n2 u).length : Int) = (cs.length : Int) + n2 := by rw [List.length_append, chrL_len]; omega
      have e5 : (putF cs u).2 = cs ++ chrL n2 u := by rw [e3]
      have K2 : ∀ (k v : Nat) (g : Int → Int), k ≤ n2 → v < 2 ^ 64 → (∃ t : List Int, chrL n2 u = chrL k v ++ t ∧ ∀ (i : Nat) (h : i < t.length), g (cs.length + k + i : Nat) = t[i]) → (∀ (i : Nat) (h : i < cs.length), g i = cs[i]) → P 85 [some (.ref m), some (.long (lN u)), none, some (.int (iI n2)), some (.long (lN v)), none, some (.int (iI ((k : Int) - 1)))] [] (wS w (m + 11) (aI G 80 g)) (z, 0, 0) := by
        intro k
        induction k with
        | zero =>
          intro v g hk hv hinv hg
          have ho2 : wS w (m + 11) (aI G 80 g) m = _ := (wS_ne (by omega)).trans hh
          refine x_iload hM dX7_put_85 rfl ?_
          refine x_if_lt (tgt := 122) hM dX7_put_87 (by decide) (by omega) (fun c_87 => ?_) (fun c_87 => ?_)
          · refine x_aload_n hM dX7_put_122 rfl rfl ?_
            refine x_dup hM dX7_put_123 rfl ?_
            refine x_get hM wf_X7_182 wl_X7 ho2 rfl dX7_put_124 ?_
            refine x_iload_n hM dX7_put_127 rfl rfl ?_
            refine x_iadd hM dX7_put_128 ?_
            refine x_put hM wf_X7_182 wl_X7 ho2 wq_X7_182 rfl rfl (Nat.le_of_ble_eq_true rfl) rfl dX7_put_129 ?_
            refine x_aload_n hM dX7_put_132 rfl rfl ?_
            refine x_get hM wf_X7_182 wl_X7 wS_eq rfl dX7_put_133 ?_
            refine hR.i dX7_put_136 (Nat.zero_le _) (Nat.zero_le _) ?_
            obtain ⟨t, ht, hgt⟩ := hinv
            have ht : chrL n2 u = t := ht
            have hg3 : ∀ (i : Nat) (h : i < (chrL n2 u).length), g (cs.length + i : Nat) = (chrL n2 u)[i] := fun i hi => by have := hgt i (by rw [← ht]; exact hi); rw [show cs.length + 0 + i = cs.length + i by omega] at this; rw [this]; simp only [ht]
            exact p_qI ⟨by rw [e3]; exact (show (cs.length : Int) + n2 = ((cs.length + n2 : Nat) : Int) by omega), by rw [e5, el]; exact wS_eq, by rw [e5]; exact pd_put hW e2 (by rw [chrL_len]; exact c2) ((wS_ne (by omega)).trans wS_eq) hg hg3, (wF.r2 (by omega) (by omega)).tr (wF.l2 (by omega) (by omega))⟩
          · exfalso; omega
        | succ k ih =>
          intro v g hk hv hinv hg
          have ho2 : wS w (m + 11) (aI G 80 g) m = _ := (wS_ne (by omega)).trans hh
          have hm : v % 256 < 256 := Nat.mod_lt _ (by decide)
          have e0 : ((k + 1 : Nat) : Int) - 1 = (k : Nat) := by omega
          rw [e0]
          refine x_iload hM dX7_put_85 rfl ?_
          refine x_if_lt (tgt := 122) hM dX7_put_87 (by decide) (by omega) (fun c_87 => ?_) (fun c_87 => ?_)
          · exfalso; omega
          · refine x_aload_n hM dX7_put_90 rfl rfl ?_
            refine x_get hM wf_X7_42 wl_X7 ho2 rfl dX7_put_91 ?_
            refine x_aload_n hM dX7_put_94 rfl rfl ?_
            refine x_get hM wf_X7_182 wl_X7 ho2 rfl dX7_put_95 ?_
            refine x_iload hM dX7_put_98 rfl ?_
            refine x_iadd hM dX7_put_100 ?_
            refine x_lload hM dX7_put_101 rfl ?_
            refine x_ldc2 hM dX7_put_103 wc_X7_218 ?_
            refine x_land hM dX7_put_106 ?_
            rw [and255 hv]
            refine x_l2i hM dX7_put_107 ?_
            rw [lN_int]
            refine x_iast hM wS_eq (by omega) dX7_put_108 ?_
            refine x_lload hM dX7_put_109 rfl ?_
            refine x_bipush hM dX7_put_111 rfl ?_
            refine x_lushr hM dX7_put_113 (shr8 hv) ?_
            refine x_lstore hM dX7_put_114 rfl (Nat.le_of_ble_eq_true rfl) rfl ?_
            refine x_iinc hM dX7_put_116 rfl rfl rfl ?_
            refine x_goto (tgt := 85) hM dX7_put_119 (by decide) ?_
            rw [wS_2, show (k : Int) + -1 = k - 1 by omega]
            refine ih (v / 256) _ (by omega) (Nat.lt_of_le_of_lt (Nat.div_le_self _ _) hv) ?_ (fun i h => by rw [fU_ne (by omega)]; exact hg i h)
            obtain ⟨t, ht, hgt⟩ := hinv
            refine ⟨((v % 256 : Nat) : Int) :: t, by rw [ht]; simp [chrL], fun i h => ?_⟩
            cases i with
            | zero => rw [show ((cs.length + k + 0 : Nat) : Int) = (cs.length : Int) + k by omega, fU_eq]; rfl
            | succ i =>
              rw [fU_ne (by omega), List.getElem_cons_succ]
              have := hgt i (by simpa using h)
              rw [← this]
              congr 1
              omega
      refine x_aload_n hM dX7_put_63 rfl rfl ?_
      refine x_get hM wf_X7_182 wl_X7 hh rfl dX7_put_64 ?_
      refine x_iload_n hM dX7_put_67 rfl rfl ?_
      refine x_iadd hM dX7_put_68 ?_
      refine x_bipush hM dX7_put_69 rfl ?_
      refine x_icmp_le (tgt := 77) hM dX7_put_71 (by decide) (by omega) (by omega) (fun c_71 => ?_) (fun c_71 => ?_)
      · refine x_lload_n hM dX7_put_77 rfl rfl ?_
        refine x_lstore hM dX7_put_78 rfl (Nat.le_of_ble_eq_true rfl) rfl ?_
        refine x_iload_n hM dX7_put_80 rfl rfl ?_
        refine x_iconst hM dX7_put_81 ?_
        refine x_isub hM dX7_put_82 ?_
        refine x_istore hM dX7_put_83 rfl (Nat.le_of_ble_eq_true rfl) rfl ?_
        have q := K2 n2 u f (Nat.le_refl _) hu ⟨[], by simp, fun i h => absurd h (Nat.not_lt_zero _)⟩ hfv
        rw [wS_same hf] at q
        exact q
      · exfalso; omega
    · have e3 : putF cs u = (-4, cs) := by unfold putF; rw [hs, if_neg hn0, if_neg c2]
      refine x_aload_n hM dX7_put_63 rfl rfl ?_
      refine x_get hM wf_X7_182 wl_X7 hh rfl dX7_put_64 ?_
      refine x_iload_n hM dX7_put_67 rfl rfl ?_
      refine x_iadd hM dX7_put_68 ?_
      refine x_bipush hM dX7_put_69 rfl ?_
      refine x_icmp_le (tgt := 77) hM dX7_put_71 (by decide) (by omega) (by omega) (fun c_71 => ?_) (fun c_71 => ?_)
      · exfalso; omega
      · refine x_bipush hM dX7_put_74 rfl ?_
        refine hR.i dX7_put_76 (Nat.zero_le _) (Nat.zero_le _) ?_
        exact J2 _ (by rw [e3]) (by rw [e3])
  have bad : sgnF 8 u 0 = 0 → putF cs u = (-2, cs) := fun q => if_pos q
  have K : ∀ (k c v : Nat) (x6 : Option Value), c + k = 8 → v < 256 ^ k → v < 2 ^ 64 → sgnF k v c = sgnF 8 u 0 → P 5 [some (.ref m), some (.long (lN u)), none, some (.int (iI c)), some (.long (lN v)), none, x6] [] w (z, 0, 0) := by
    intro k
    induction k with
    | zero =>
      intro c v x6 hc hv hv2 hinv
      have hv0 : v = 0 := by simpa using hv
      subst hv0
      have hinv : c = sgnF 8 u 0 := hinv
      have h0 := lN_0 (n := 0) (by decide)
      refine x_lload hM dX7_put_5 rfl ?_
      refine x_ldc2 hM dX7_put_7 wc_X7_218 ?_
      refine x_land hM dX7_put_10 ?_
      rw [and255 hv2, show 0 % 256 = 0 from rfl]
      refine x_lconst (z := 0) hM dX7_put_11 rfl ?_
      refine x_lcmp hM dX7_put_12 (fun z_12 z_12r z_12l z_12e => ?_)
      refine x_if_eq (tgt := 49) hM dX7_put_13 (by decide) (by omega) (fun c_13 => ?_) (fun c_13 => ?_)
      · refine x_lload hM dX7_put_49 rfl ?_
        refine x_lconst (z := 0) hM dX7_put_51 rfl ?_
        refine x_lcmp hM dX7_put_52 (fun z_52 z_52r z_52l z_52e => ?_)
        refine x_if_ne (tgt := 60) hM dX7_put_53 (by decide) (by omega) (fun c_53 => ?_) (fun c_53 => ?_)
        · exfalso; first | exact absurd (z_52e.mpr (h0.mpr rfl)) (by assumption) | omega
        · refine x_iload_n hM dX7_put_56 rfl rfl ?_
          refine x_if_ne (tgt := 63) hM dX7_put_57 (by decide) (by omega) (fun c_57 => ?_) (fun c_57 => ?_)
          · exact J63 c _ _ hinv.symm (by omega)
          · exfalso; first | exact absurd (z_52e.mpr (h0.mpr rfl)) (by assumption) | omega
      · exfalso; exact absurd (z_12e.mpr (h0.mpr rfl)) (by assumption)
    | succ k ih =>
      intro c v x6 hc hv hv2 hinv
      have hm : v % 256 < 256 := Nat.mod_lt _ (by decide)
      have h0 := lN_0 (n := v % 256) (by omega)
      have h00 := lN_0 (n := v) hv2
      obtain ⟨s1, s2⟩ := sgn_v (k + 1) c v hv
      refine x_lload hM dX7_put_5 rfl ?_
      refine x_ldc2 hM dX7_put_7 wc_X7_218 ?_
      refine x_land hM dX7_put_10 ?_
      rw [and255 hv2]
      refine x_lconst (z := 0) hM dX7_put_11 rfl ?_
      refine x_lcmp hM dX7_put_12 (fun z_12 z_12r z_12l z_12e => ?_)
      refine x_if_eq (tgt := 49) hM dX7_put_13 (by decide) (by omega) (fun c_13 => ?_) (fun c_13 => ?_)
      · refine x_lload hM dX7_put_49 rfl ?_
        refine x_lconst (z := 0) hM dX7_put_51 rfl ?_
        refine x_lcmp hM dX7_put_52 (fun z_52 z_52r z_52l z_52e => ?_)
        refine x_if_ne (tgt := 60) hM dX7_put_53 (by decide) (by omega) (fun c_53 => ?_) (fun c_53 => ?_)
        · refine x_bipush hM dX7_put_60 rfl ?_
          refine hR.i dX7_put_62 (Nat.zero_le _) (Nat.zero_le _) ?_
          have hv3 : v % 256 = 0 := h0.mp (z_12e.mp (by assumption))
          have e := bad (by first | exact hinv.symm.trans ((s1 hv3).2 (fun q => absurd (z_52e.mpr (h00.mpr q)) (by assumption))) | exact hinv.symm.trans (((s1 hv3).1 (h00.mp (z_52e.mp (by assumption)))).trans (by omega)))
          exact J2 _ (by rw [e]) (by rw [e])
        · refine x_iload_n hM dX7_put_56 rfl rfl ?_
          refine x_if_ne (tgt := 63) hM dX7_put_57 (by decide) (by omega) (fun c_57 => ?_) (fun c_57 => ?_)
          · have hv3 : v % 256 = 0 := h0.mp (z_12e.mp (by assumption))
            have hv4 : v = 0 := h00.mp (z_52e.mp (by assumption))
            subst hv4
            exact J63 c _ _ (hinv.symm.trans ((s1 hv3).1 rfl)) (by omega)
          · refine x_bipush hM dX7_put_60 rfl ?_
            refine hR.i dX7_put_62 (Nat.zero_le _) (Nat.zero_le _) ?_
            have hv3 : v % 256 = 0 := h0.mp (z_12e.mp (by assumption))
            have e := bad (by first | exact hinv.symm.trans ((s1 hv3).2 (fun q => absurd (z_52e.mpr (h00.mpr q)) (by assumption))) | exact hinv.symm.trans (((s1 hv3).1 (h00.mp (z_52e.mp (by assumption)))).trans (by omega)))
            exact J2 _ (by rw [e]) (by rw [e])
      · refine x_lload hM dX7_put_16 rfl ?_
        refine x_ldc2 hM dX7_put_18 wc_X7_218 ?_
        refine x_land hM dX7_put_21 ?_
        rw [and255 hv2]
        refine x_l2i hM dX7_put_22 ?_
        rw [lN_int]
        refine x_bipush hM dX7_put_23 rfl ?_
        refine x_bipush hM dX7_put_25 rfl ?_
        refine x_callS hM ws_X7_62 (m_X7_in (by omega) (by omega) (by omega)) ⟨Nat.le_of_ble_eq_true rfl, Nat.le_of_ble_eq_true rfl⟩ rfl rfl (Nat.le_of_ble_eq_true rfl) ⟨Nat.le_of_ble_eq_true rfl, Nat.le_of_ble_eq_true rfl⟩ dX7_put_27 (k_rI ?_)
        by_cases c1 : 33 ≤ ((v % 256 : Nat) : Int) ∧ ((v % 256 : Nat) : Int) ≤ 126
        · rw [if_pos c1]
          refine x_if_ne (tgt := 36) hM dX7_put_30 (by decide) (by omega) (fun _ => ?_) (fun q => absurd q (by decide))
          refine x_iinc hM dX7_put_36 rfl rfl rfl ?_
          refine x_lload hM dX7_put_39 rfl ?_
          refine x_bipush hM dX7_put_41 rfl ?_
          refine x_lushr hM dX7_put_43 (shr8 hv2) ?_
          refine x_lstore hM dX7_put_44 rfl (Nat.le_of_ble_eq_true rfl) rfl ?_
          refine x_goto (tgt := 5) hM dX7_put_46 (by decide) ?_
          have hv3 : v % 256 ≠ 0 := fun q => absurd (z_12e.mpr (h0.mpr q)) (by assumption)
          obtain ⟨t1, t2⟩ := (s2 hv3).2.2 ⟨by omega, by omega⟩
          exact ih (c + 1) (v / 256) _ (by omega) t2 (Nat.lt_of_le_of_lt (Nat.div_le_self _ _) hv2) (t1.symm.trans hinv)
        · rw [if_neg c1]
          refine x_if_ne (tgt := 36) hM dX7_put_30 (by decide) (by omega) (fun q => absurd rfl q) (fun _ => ?_)
          refine x_bipush hM dX7_put_33 rfl ?_
          refine hR.i dX7_put_35 (Nat.zero_le _) (Nat.zero_le _) ?_
          have hv3 : v % 256 ≠ 0 := fun q => absurd (z_12e.mpr (h0.mpr q)) (by assumption)
          have e := bad (hinv.symm.trans ((s2 hv3).2.1 (fun q => c1 ⟨by omega, by omega⟩)))
          exact J2 _ (by rw [e]) (by rw [e])
  refine x_iconst hM dX7_put_0 ?_
  refine x_istore_n hM dX7_put_1 rfl rfl (Nat.le_of_ble_eq_true rfl) rfl ?_
  refine x_lload_n hM dX7_put_2 rfl rfl ?_
  refine x_lstore hM dX7_put_3 rfl (Nat.le_of_ble_eq_true rfl) rfl ?_
  exact K 8 0 u _ rfl (show u < 256 ^ 8 from hu) hu rfl
theorem m_X7_wipe {l : Launch} {G : xG} {w : Wd} {z m : Nat} {cs : List Int} {un it rw mn pl wr : Int} (hh : w m = some (hdV m un cs.length it rw mn pl wr)) (hd : pdA G w m cs) : xMet l G yX7_wipe cX7_wipe 2 (some .int) ({ frames := 0, cells := 0, slots := 0, locals := 0 } : Room) [.ref m] w z (qI z fun y w1 => y = cs.length ∧ w1 m = some (hdV m un ([] : List Int).length it rw mn pl wr) ∧ pdA G w1 m [] ∧ Fp m w w1) := by
  obtain ⟨hW, f, hf, hfv⟩ := id hd
  refine xMet_of RX7 rfl (by decide +kernel) false (by decide +kernel) (Nat.le_of_ble_eq_true rfl) rfl ?_
  intro P hM hR
  refine x_aload_n hM dX7_wipe_0 rfl rfl ?_
  refine x_get hM wf_X7_182 wl_X7 hh rfl dX7_wipe_1 ?_
  refine x_istore_n hM dX7_wipe_4 rfl rfl (Nat.le_of_ble_eq_true rfl) rfl ?_
  refine x_aload_n hM dX7_wipe_5 rfl rfl ?_
  refine x_iconst hM dX7_wipe_6 ?_
  refine x_put hM wf_X7_182 wl_X7 hh wq_X7_182 rfl rfl (Nat.le_of_ble_eq_true rfl) rfl dX7_wipe_7 ?_
  refine x_iload_n hM dX7_wipe_10 rfl rfl ?_
  refine hR.i dX7_wipe_11 (Nat.zero_le _) (Nat.zero_le _) ?_
  exact p_qI ⟨rfl, wS_eq, ⟨⟨Nat.zero_le _, fun c q => absurd q List.not_mem_nil⟩, f, (wS_ne (by omega)).trans hf, fun i hi => absurd hi (Nat.not_lt_zero _)⟩, wF.l2 (by omega) (by omega)⟩
theorem m_X7_fault {l : Launch} {G : xG} {w : Wd} {z m : Nat} {cs : List Int} {un it rw mn pl wr : Int} (hh : w m = some (hdV m un cs.length it rw mn pl wr)) (hd : pdA G w m cs) (hE : enE G w m) : xMet l G yX7_fault cX7_fault 1 (some .int) ({ frames := 5, cells := 0, slots := 0, locals := 108 } : Room) [.ref m] w z (qI z fun y w1 => y = fltP cs 81 0 ∧ Fe m w w1 ∧ (∃ mn2 pl2 wr2 : Int, w1 m = some (hdV m un cs.length it rw mn2 pl2 wr2)) ∧ enE G w1 m) := by
  refine xMet_of RX7 rfl (by decide +kernel) false (by decide +kernel) (Nat.le_of_ble_eq_true rfl) rfl ?_
  intro P hM hR
  refine x_aload_n hM dX7_fault_0 rfl rfl ?_
  refine x_callV hM wv_X7_220 (m_X7_faultOf hh hd hE) ⟨Nat.le_of_ble_eq_true rfl, Nat.le_of_ble_eq_true rfl⟩ hh rfl rfl rfl rfl (Nat.le_of_ble_eq_true rfl) ⟨Nat.le_of_ble_eq_true rfl, Nat.le_of_ble_eq_true rfl⟩ dX7_fault_1 (k_qI fun x_1 w_1 q_1 => ?_)
  obtain ⟨q1, -, q2, q3⟩ := q_1
  refine hR.i dX7_fault_4 (Nat.zero_le _) (Nat.zero_le _) ?_
  exact p_qI ⟨q1, q2, by rcases q3 with ⟨-, ⟨a, b, q4⟩, ⟨g, q5, -⟩, -⟩ | ⟨-, q4, q5⟩; exact ⟨⟨_, a, b, q4⟩, g, q5⟩; exact ⟨q4, q5⟩⟩
