/-! Pad: characters of a number -/
def sgnF : Nat → Nat → Nat → Nat
  | 0, _, c => c
  | k + 1, u, c => if u = 0 then c else if u % 256 < 33 ∨ 126 < u % 256 then 0 else sgnF k (u / 256) (c + 1)
theorem sgnF_b : ∀ (k u c : Nat), sgnF k u c ≤ c + k := by
  intro k
  induction k with
  | zero => intro u c; simp [sgnF]
  | succ k ih =>
    intro u c
    simp only [sgnF]
    split
    · omega
    · split
      · omega
      · have := ih (u / 256) (c + 1); omega
theorem m_X2_signsIn {l : Launch} {G : xG} {w : Wd} {z u : Nat} (hu : u < 2 ^ 64) : xMet l G yX2_signsIn cX2_signsIn 7 (some .int) ({ frames := 0, cells := 0, slots := 0, locals := 0 } : Room) [.long (lN u)] w z (rI (sgnF 8 u 0) w z) := by
  refine xMet_of RX2 rfl (by decide +kernel) false (by decide +kernel) (Nat.le_of_ble_eq_true rfl) rfl ?_
  intro P hM hR
  have K : ∀ (k c v : Nat) (x5 x6 : Option Value), c + k = 8 → v < 2 ^ 64 → sgnF k v c = sgnF 8 u 0 → P 4 [some (.long (lN u)), none, some (.int (iI c)), some (.long (lN v)), none, x5, x6] [] w (z, 0, 0) := by
    intro k
    induction k with
    | zero =>
      intro c v x5 x6 hc hv hinv
      refine x_lload_n hM dX2_signsIn_4 rfl rfl ?_
      refine x_lconst (z := 0) hM dX2_signsIn_5 rfl ?_
      refine x_lcmp hM dX2_signsIn_6 (fun z_6 z_6r z_6l z_6e => ?_)
      refine x_if_eq (tgt := 54) hM dX2_signsIn_7 (by decide) (by omega) (fun c_7 => ?_) (fun c_7 => ?_)
      · refine x_iload_n hM dX2_signsIn_54 rfl rfl ?_
        refine hR.i dX2_signsIn_55 (Nat.zero_le _) (Nat.zero_le _) ?_
        exact p_rI (by rw [← hinv]; rfl)
      · refine x_iload_n hM dX2_signsIn_10 rfl rfl ?_
        refine x_bipush hM dX2_signsIn_11 rfl ?_
        refine x_icmp_ge (tgt := 54) hM dX2_signsIn_13 (by decide) (by omega) (by omega) (fun c_13 => ?_) (fun c_13 => ?_)
        · refine x_iload_n hM dX2_signsIn_54 rfl rfl ?_
          refine hR.i dX2_signsIn_55 (Nat.zero_le _) (Nat.zero_le _) ?_
          exact p_rI (by rw [← hinv]; rfl)
        · exfalso; omega
    | succ k ih =>
      intro c v x5 x6 hc hv hinv
      have h0 := lN_0 hv
      have hm : v % 256 < 256 := Nat.mod_lt _ (by decide)
      have h33 := lN_jlt (a := v % 256) (b := 33) (by omega) (by omega)
      have h126 : jJ (126 : Nat) < lN (v % 256) ↔ 126 < v % 256 := by rw [jJ_lN]; exact lN_lt (by omega) (by omega)
      have q126 : lN (v % 256) = jJ (126 : Nat) ↔ v % 256 = 126 := by rw [jJ_lN]; exact lN_eq (by omega) (by omega)
      have l126 := lN_jlt (a := v % 256) (b := 126) (by omega) (by omega)
      refine x_lload_n hM dX2_signsIn_4 rfl rfl ?_
      refine x_lconst (z := 0) hM dX2_signsIn_5 rfl ?_
      refine x_lcmp hM dX2_signsIn_6 (fun z_6 z_6r z_6l z_6e => ?_)
      refine x_if_eq (tgt := 54) hM dX2_signsIn_7 (by decide) (by omega) (fun c_7 => ?_) (fun c_7 => ?_)
      · have hv0 : v = 0 := h0.mp (z_6e.mp (by assumption))
        refine x_iload_n hM dX2_signsIn_54 rfl rfl ?_
        refine hR.i dX2_signsIn_55 (Nat.zero_le _) (Nat.zero_le _) ?_
        exact p_rI (by rw [← hinv, show sgnF (k + 1) v c = c from if_pos hv0])
      · refine x_iload_n hM dX2_signsIn_10 rfl rfl ?_
        refine x_bipush hM dX2_signsIn_11 rfl ?_
        refine x_icmp_ge (tgt := 54) hM dX2_signsIn_13 (by decide) (by omega) (by omega) (fun c_13 => ?_) (fun c_13 => ?_)
        · exfalso; omega
        · refine x_lload_n hM dX2_signsIn_16 rfl rfl ?_
          refine x_ldc2 hM dX2_signsIn_17 wc_X2_15 ?_
          refine x_land hM dX2_signsIn_20 ?_
          rw [and255 hv]
          refine x_lstore hM dX2_signsIn_21 rfl (Nat.le_of_ble_eq_true rfl) rfl ?_
          refine x_lload hM dX2_signsIn_23 rfl ?_
          refine x_ldc2 hM dX2_signsIn_25 wc_X2_17 ?_
          refine x_lcmp hM dX2_signsIn_28 (fun z_28 z_28r z_28l z_28e => ?_)
          refine x_if_lt (tgt := 41) hM dX2_signsIn_29 (by decide) (by omega) (fun c_29 => ?_) (fun c_29 => ?_)
          · have hbad : v % 256 < 33 ∨ 126 < v % 256 := by first | exact Or.inl (h33.mp (z_28l.mp (by assumption))) | exact Or.inr (Nat.lt_of_not_le fun q => by rcases Nat.lt_or_eq_of_le q with q | q; exact absurd (z_37l.mpr (l126.mpr q)) (by omega); exact absurd (z_37e.mpr (q126.mpr q)) (by omega))
            refine x_iconst hM dX2_signsIn_41 ?_
            refine hR.i dX2_signsIn_42 (Nat.zero_le _) (Nat.zero_le _) ?_
            exact p_rI (by rw [← hinv]; have hv0 : ¬ v = 0 := (fun q => absurd (z_6e.mpr (h0.mpr q)) (by assumption)); rw [show sgnF (k + 1) v c = 0 from (if_neg hv0).trans (if_pos hbad)]; rfl)
          · refine x_lload hM dX2_signsIn_32 rfl ?_
            refine x_ldc2 hM dX2_signsIn_34 wc_X2_19 ?_
            refine x_lcmp hM dX2_signsIn_37 (fun z_37 z_37r z_37l z_37e => ?_)
            refine x_if_le (tgt := 43) hM dX2_signsIn_38 (by decide) (by omega) (fun c_38 => ?_) (fun c_38 => ?_)
            · refine x_iinc hM dX2_signsIn_43 rfl rfl rfl ?_
              refine x_lload_n hM dX2_signsIn_46 rfl rfl ?_
              refine x_bipush hM dX2_signsIn_47 rfl ?_
              refine x_lushr hM dX2_signsIn_49 (shr8 hv) ?_
              refine x_lstore_n hM dX2_signsIn_50 rfl rfl (Nat.le_of_ble_eq_true rfl) rfl ?_
              refine x_goto (tgt := 4) hM dX2_signsIn_51 (by decide) ?_
              have hv0 : ¬ v = 0 := fun q => absurd (z_6e.mpr (h0.mpr q)) (by assumption)
              have hgood : ¬ (v % 256 < 33 ∨ 126 < v % 256) := by rintro (q | q); exact absurd (z_28l.mpr (h33.mpr q)) (by omega); rcases (show z_37 < 0 ∨ z_37 = 0 by omega) with g | g; exact absurd (l126.mp (z_37l.mp g)) (by omega); exact absurd (q126.mp (z_37e.mp g)) (by omega)
              exact ih (c + 1) (v / 256) _ _ (by omega) (Nat.lt_of_le_of_lt (Nat.div_le_self _ _) hv) (by rw [← hinv, show sgnF (k + 1) v c = sgnF k (v / 256) (c + 1) from (if_neg hv0).trans (if_neg hgood)])
            · have hbad : v % 256 < 33 ∨ 126 < v % 256 := by first | exact Or.inl (h33.mp (z_28l.mp (by assumption))) | exact Or.inr (Nat.lt_of_not_le fun q => by rcases Nat.lt_or_eq_of_le q with q | q; exact absurd (z_37l.mpr (l126.mpr q)) (by omega); exact absurd (z_37e.mpr (q126.mpr q)) (by omega))
              refine x_iconst hM dX2_signsIn_41 ?_
              refine hR.i dX2_signsIn_42 (Nat.zero_le _) (Nat.zero_le _) ?_
              exact p_rI (by rw [← hinv]; have hv0 : ¬ v = 0 := (fun q => absurd (z_6e.mpr (h0.mpr q)) (by assumption)); rw [show sgnF (k + 1) v c = 0 from (if_neg hv0).trans (if_pos hbad)]; rfl)
  refine x_iconst hM dX2_signsIn_0 ?_
  refine x_istore_n hM dX2_signsIn_1 rfl rfl (Nat.le_of_ble_eq_true rfl) rfl ?_
  refine x_lload_n hM dX2_signsIn_2 rfl rfl ?_
  refine x_lstore_n hM dX2_signsIn_3 rfl rfl (Nat.le_of_ble_eq_true rfl) rfl ?_
  exact K 8 0 u _ _ (by omega) hu rfl
/-- the last n characters of a number, the last one last -/
def chrL : Nat → Nat → List Int
  | 0, _ => []
  | n + 1, u => chrL n (u / 256) ++ [((u % 256 : Nat) : Int)]
theorem chrL_len (n u : Nat) : (chrL n u).length = n := by
  induction n generalizing u with
  | zero => rfl
  | succ n ih => simp [chrL, ih]
theorem m_X2_append {l : Launch} {G : xG} {w : Wd} {z p u n : Nat} {cs : List Int} {pl kd le nu se : Int} (h1 : padA G w p cs pl kd le nu se) (hu : u < 2 ^ 64) (hn : 1 ≤ n ∧ n ≤ 8) (hc : ∀ c ∈ chrL n u, 33 ≤ c ∧ c ≤ 126) : xMet l G yX2_append cX2_append 7 (some .boolean) ({ frames := 0, cells := 0, slots := 0, locals := 0 } : Room) [.ref p, .long (lN u), .int (iI n)] w z (qI z fun y w1 => Fr p (p + 2) w w1 ∧ (80 < cs.length + n → y = 0 ∧ padA G w1 p cs pl kd le nu se) ∧ (cs.length + n ≤ 80 → y = 1 ∧ padA G w1 p (cs ++ chrL n u) pl kd le nu se)) := by
  obtain ⟨hW, ho, f, hf, hfv⟩ := id h1
  have hl := hW.1
  refine xMet_of RX2 rfl (by decide +kernel) false (by decide +kernel) (Nat.le_of_ble_eq_true rfl) rfl ?_
  intro P hM hR
  have K : ∀ (k v : Nat) (g : Int → Int), k ≤ n → cs.length + n ≤ 80 → v < 2 ^ 64 → (∃ t : List Int, chrL n u = chrL k v ++ t ∧ ∀ (i : Nat) (h : i < t.length), g (cs.length + k + i : Nat) = t[i]) → (∀ (i : Nat) (h : i < cs.length), g i = cs[i]) → P 30 [some (.ref p), some (.long (lN u)), none, some (.int (iI n)), some (.long (lN v)), none, some (.int (iI (cs.length + k - 1)))] [] (wS w (p + 1) (aC G 80 g)) (z, 0, 0) := by
    intro k
    induction k with
    | zero =>
      intro v g hk hfit hv hinv hg
      have ho2 : wS w (p + 1) (aC G 80 g) p = _ := (wS_ne (by omega)).trans ho
      have e0 : (cs.length : Int) + ((0 : Nat) : Int) - 1 = cs.length - 1 := by omega
      refine x_iload hM dX2_append_30 rfl ?_
      refine x_aload_n hM dX2_append_32 rfl rfl ?_
      refine x_get hM wf_X2_21 wl_X2 ho2 rfl dX2_append_33 ?_
      refine x_icmp_lt (tgt := 67) hM dX2_append_36 (by decide) (by omega) (by omega) (fun c_36 => ?_) (fun c_36 => ?_)
      · refine x_aload_n hM dX2_append_67 rfl rfl ?_
        refine x_dup hM dX2_append_68 rfl ?_
        refine x_get hM wf_X2_21 wl_X2 ho2 rfl dX2_append_69 ?_
        refine x_iload_n hM dX2_append_72 rfl rfl ?_
        refine x_iadd hM dX2_append_73 ?_
        refine x_put hM wf_X2_21 wl_X2 (by first | assumption | exact pad_o (by assumption)) wq_X2_21 rfl rfl (Nat.le_of_ble_eq_true rfl) rfl dX2_append_74 ?_
        refine x_iconst hM dX2_append_77 ?_
        refine hR.b dX2_append_78 rfl (Nat.zero_le _) (Nat.zero_le _) ?_
        refine p_qI ⟨(Fr.wS (by omega) (by omega)).tr (Fr.wS (by omega) (by omega)), fun q => by omega, fun _ => ⟨rfl, ?_⟩⟩
        obtain ⟨t, ht, hgt⟩ := hinv
        have ht : chrL n u = t := ht
        have hlen : t.length = n := by rw [← ht, chrL_len]
        refine ⟨⟨by rw [List.length_append, chrL_len]; omega, fun c hcm => ?_⟩, ?_, g, (wS_ne (by omega)).trans wS_eq, fun i hi => ?_⟩
        · rcases List.mem_append.mp hcm with q | q
          · exact hW.2 c q
          · exact hc c q
        · rw [List.length_append, chrL_len]; exact wS_eq
        · have hi2 : i < cs.length + n := by rw [List.length_append, chrL_len] at hi; exact hi
          by_cases e : i < cs.length
          · rw [List.getElem_append_left e]; exact hg i e
          · rw [List.getElem_append_right (by omega)]
            have := hgt (i - cs.length) (by omega)
            rw [show cs.length + 0 + (i - cs.length) = i by omega] at this
            rw [this]
            simp only [ht]
      · exfalso; omega
    | succ k ih =>
      intro v g hk hfit hv hinv hg
      have ho2 : wS w (p + 1) (aC G 80 g) p = _ := (wS_ne (by omega)).trans ho
      have hf2 : wS w (p + 1) (aC G 80 g) (p + 1) = some (aC G 80 g) := wS_eq
      have hm : v % 256 < 256 := Nat.mod_lt _ (by decide)
      have e0 : (cs.length : Int) + ((k + 1 : Nat) : Int) - 1 = (cs.length + k : Nat) := by omega
      rw [e0]
      refine x_iload hM dX2_append_30 rfl ?_
      refine x_aload_n hM dX2_append_32 rfl rfl ?_
      refine x_get hM wf_X2_21 wl_X2 ho2 rfl dX2_append_33 ?_
      refine x_icmp_lt (tgt := 67) hM dX2_append_36 (by decide) (by omega) (by omega) (fun c_36 => ?_) (fun c_36 => ?_)
      · exfalso; omega
      · refine x_aload_n hM dX2_append_39 rfl rfl ?_
        refine x_get hM wf_X2_9 wl_X2 ho2 rfl dX2_append_40 ?_
        refine x_iload hM dX2_append_43 rfl ?_
        refine x_lload hM dX2_append_45 rfl ?_
        refine x_ldc2 hM dX2_append_47 wc_X2_15 ?_
        refine x_land hM dX2_append_50 ?_
        rw [and255 hv]
        refine x_l2i hM dX2_append_51 ?_
        rw [lN_int]
        refine x_i2c hM (by omega) dX2_append_52 ?_
        refine x_cast hM hf2 (by omega) (nar_c (by omega)) dX2_append_53 ?_
        refine x_lload hM dX2_append_54 rfl ?_
        refine x_bipush hM dX2_append_56 rfl ?_
        refine x_lushr hM dX2_append_58 (shr8 hv) ?_
        refine x_lstore hM dX2_append_59 rfl (Nat.le_of_ble_eq_true rfl) rfl ?_
        refine x_iinc hM dX2_append_61 rfl rfl rfl ?_
        refine x_goto (tgt := 30) hM dX2_append_64 (by decide) ?_
        rw [wS_2, show ((cs.length + k : Nat) : Int) + -1 = cs.length + k - 1 by omega]
        refine ih (v / 256) _ (by omega) hfit (Nat.lt_of_le_of_lt (Nat.div_le_self _ _) hv) ?_ (fun i h => by rw [fU_ne (by omega)]; exact hg i h)
        obtain ⟨t, ht, hgt⟩ := hinv
        refine ⟨((v % 256 : Nat) : Int) :: t, by rw [ht]; simp [chrL], fun i h => ?_⟩
        cases i with
        | zero => simp only [Nat.add_zero]; rw [fU_eq]; rfl
        | succ i =>
          rw [fU_ne (by omega), List.getElem_cons_succ]
          have := hgt i (by simpa using h)
          rw [← this]
          congr 1
          omega
  refine x_iload_n hM dX2_append_0 rfl rfl ?_
  refine x_if_lt (tgt := 15) hM dX2_append_1 (by decide) (by omega) (fun c_1 => ?_) (fun c_1 => ?_)
  · exfalso; omega
  · refine x_iload_n hM dX2_append_4 rfl rfl ?_
    refine x_bipush hM dX2_append_5 rfl ?_
    refine x_aload_n hM dX2_append_7 rfl rfl ?_
    refine x_get hM wf_X2_21 wl_X2 (by first | assumption | exact pad_o (by assumption)) rfl dX2_append_8 ?_
    refine x_isub hM dX2_append_11 ?_
    refine x_icmp_le (tgt := 17) hM dX2_append_12 (by decide) (by omega) (by omega) (fun c_12 => ?_) (fun c_12 => ?_)
    · refine x_lload_n hM dX2_append_17 rfl rfl ?_
      refine x_lstore hM dX2_append_18 rfl (Nat.le_of_ble_eq_true rfl) rfl ?_
      refine x_aload_n hM dX2_append_20 rfl rfl ?_
      refine x_get hM wf_X2_21 wl_X2 (by first | assumption | exact pad_o (by assumption)) rfl dX2_append_21 ?_
      refine x_iload_n hM dX2_append_24 rfl rfl ?_
      refine x_iadd hM dX2_append_25 ?_
      refine x_iconst hM dX2_append_26 ?_
      refine x_isub hM dX2_append_27 ?_
      refine x_istore hM dX2_append_28 rfl (Nat.le_of_ble_eq_true rfl) rfl ?_
      have q := K n u f (by omega) (by omega) hu ⟨[], by simp, fun i h => absurd h (Nat.not_lt_zero _)⟩ hfv
      rw [wS_same hf] at q
      exact q
    · refine x_iconst hM dX2_append_15 ?_
      refine hR.b dX2_append_16 rfl (Nat.zero_le _) (Nat.zero_le _) ?_
      exact p_qI ⟨Fr.rf, fun _ => ⟨rfl, h1⟩, fun q => by omega⟩
