/-! The reference: texts -/
def pdA (G : xG) (w : Wd) (m : Nat) (cs : List Int) : Prop := padW cs ∧ ∃ f : Int → Int, w (m + 11) = some (aI G 80 f) ∧ ∀ (i : Nat) (h : i < cs.length), f i = cs[i]
theorem pdA.kpf {G : xG} {w w1 : Wd} {m : Nat} {cs : List Int} (h : pdA G w m cs) (k : w1 (m + 11) = w (m + 11)) : pdA G w1 m cs := by
  obtain ⟨h1, f, h2, h3⟩ := h
  exact ⟨h1, f, k.trans h2, h3⟩
theorem sgP_in2 {cs : List Int} {i : Int} (h0 : 0 ≤ i) (h : i < cs.length) : sgP cs i = cs[i.toNat]'(by omega) := by
  unfold sgP
  rw [if_pos h0, List.getElem?_eq_getElem (show i.toNat < cs.length by omega)]
  rfl
theorem sgP_out2 {cs : List Int} {i : Int} (h : (cs.length : Int) ≤ i) : sgP cs i = 0 := by
  unfold sgP
  rw [if_pos (by omega), List.getElem?_eq_none (by omega)]
  rfl
theorem sgP_lt {cs : List Int} {i : Int} (h : sgP cs i ≠ 0) : i < cs.length := by
  by_cases c : i < cs.length
  · exact c
  · exact absurd (sgP_out2 (by omega)) h
theorem m_X7_sign {l : Launch} {G : xG} {w : Wd} {z m : Nat} {cs : List Int} {un it rw mn pl wr : Int} (hh : w m = some (hdV m un cs.length it rw mn pl wr)) (hd : pdA G w m cs) (hp : 0 ≤ pl ∧ pl ≤ 10000) : xMet l G yX7_sign cX7_sign 1 (some .int) ({ frames := 0, cells := 0, slots := 0, locals := 0 } : Room) [.ref m] w z (rI (sgP cs pl) w z) := by
  obtain ⟨hW, f, hf, hv⟩ := id hd
  have hl := hW.1
  refine xMet_of RX7 rfl (by decide +kernel) false (by decide +kernel) (Nat.le_of_ble_eq_true rfl) rfl ?_
  intro P hM hR
  by_cases c : pl < cs.length
  · have e := sgP_in2 hp.1 c
    have e2 := hv pl.toNat (by omega)
    rw [show ((pl.toNat : Nat) : Int) = pl by omega] at e2
    refine x_aload_n hM dX7_sign_0 rfl rfl ?_
    refine x_get hM wf_X7_197 wl_X7 hh rfl dX7_sign_1 ?_
    refine x_aload_n hM dX7_sign_4 rfl rfl ?_
    refine x_get hM wf_X7_182 wl_X7 hh rfl dX7_sign_5 ?_
    refine x_icmp_ge (tgt := 23) hM dX7_sign_8 (by decide) (by omega) (by omega) (fun c_8 => ?_) (fun c_8 => ?_)
    · exfalso; omega
    · refine x_aload_n hM dX7_sign_11 rfl rfl ?_
      refine x_get hM wf_X7_42 wl_X7 hh rfl dX7_sign_12 ?_
      refine x_aload_n hM dX7_sign_15 rfl rfl ?_
      refine x_get hM wf_X7_197 wl_X7 hh rfl dX7_sign_16 ?_
      refine x_iald hM hf (by omega) dX7_sign_19 ?_
      refine x_goto (tgt := 24) hM dX7_sign_20 (by decide) ?_
      refine hR.i dX7_sign_24 (Nat.zero_le _) (Nat.zero_le _) ?_
      exact p_rI (by rw [e, ← e2])
  · skip
    refine x_aload_n hM dX7_sign_0 rfl rfl ?_
    refine x_get hM wf_X7_197 wl_X7 hh rfl dX7_sign_1 ?_
    refine x_aload_n hM dX7_sign_4 rfl rfl ?_
    refine x_get hM wf_X7_182 wl_X7 hh rfl dX7_sign_5 ?_
    refine x_icmp_ge (tgt := 23) hM dX7_sign_8 (by decide) (by omega) (by omega) (fun c_8 => ?_) (fun c_8 => ?_)
    · refine x_iconst hM dX7_sign_23 ?_
      refine hR.i dX7_sign_24 (Nat.zero_le _) (Nat.zero_le _) ?_
      exact p_rI (sgP_out2 (by omega)).symm
    · exfalso; omega
theorem nar_w {v : Int} (h : v = 0 ∨ v = 1) : narrow .boolean (.int (iI v)) = .int (iI v) := by
  rcases h with rfl | rfl <;> rfl
theorem m_X7_one {l : Launch} {G : xG} {w : Wd} {z m : Nat} {cs : List Int} {un it rw mn pl wr a b : Int} (hh : w m = some (hdV m un cs.length it rw mn pl wr)) (hd : pdA G w m cs) (hp : 0 ≤ pl ∧ pl ≤ 9900) (hw : wr = 0 ∨ wr = 1) (ha : 0 ≤ a ∧ a ≤ 127) (hb : 0 ≤ b ∧ b ≤ 127) : xMet l G yX7_one cX7_one 4 (some .int) ({ frames := 1, cells := 0, slots := 0, locals := 22 } : Room) [.ref m, .int (iI a), .int (iI b)] w z (qI z fun y w1 => y = sgP cs pl - a ∧ Fr m (m + 1) w w1 ∧ ((wr = 0 ∧ (0 ≤ sgP cs pl - a ∧ sgP cs pl - a ≤ b) ∧ w1 m = some (hdV m un cs.length it rw mn (pl + 1) 0)) ∨ (¬ (wr = 0 ∧ (0 ≤ sgP cs pl - a ∧ sgP cs pl - a ≤ b)) ∧ w1 m = some (hdV m un cs.length it rw mn pl 1)))) := by
  have hsb := sgP_b hd.1 pl
  refine xMet_of RX7 rfl (by decide +kernel) false (by decide +kernel) (Nat.le_of_ble_eq_true rfl) rfl ?_
  intro P hM hR
  have J29 : ∀ v : Int, (v = 0 ∧ (wr = 0 ∧ (0 ≤ sgP cs pl - a ∧ sgP cs pl - a ≤ b))) ∨ (v = 1 ∧ ¬ (wr = 0 ∧ (0 ≤ sgP cs pl - a ∧ sgP cs pl - a ≤ b))) → P 29 [some (.ref m), some (.int (iI a)), some (.int (iI b)), some (.int (iI (sgP cs pl - a)))] [.int (iI v), .ref m] w (z, 0, 0) := by
    intro v hv
    rcases hv with ⟨rfl, hv⟩ | ⟨rfl, hv⟩
    · skip
      refine x_put hM wf_X7_203 wl_X7 hh wq_X7_203 rfl rfl (Nat.le_of_ble_eq_true rfl) rfl dX7_one_29 ?_
      refine x_aload_n hM dX7_one_32 rfl rfl ?_
      refine x_dup hM dX7_one_33 rfl ?_
      refine x_get hM wf_X7_197 wl_X7 wS_eq rfl dX7_one_34 ?_
      refine x_aload_n hM dX7_one_37 rfl rfl ?_
      refine x_get hM wf_X7_203 wl_X7 wS_eq rfl dX7_one_38 ?_
      refine x_if_eq (tgt := 48) hM dX7_one_41 (by decide) (by omega) (fun c_41 => ?_) (fun c_41 => ?_)
      · refine x_iconst hM dX7_one_48 ?_
        refine x_iadd hM dX7_one_49 ?_
        refine x_put hM wf_X7_197 wl_X7 wS_eq wq_X7_197 rfl rfl (Nat.le_of_ble_eq_true rfl) rfl dX7_one_50 ?_
        rw [wS_2]
        refine x_iload_n hM dX7_one_53 rfl rfl ?_
        refine hR.i dX7_one_54 (Nat.zero_le _) (Nat.zero_le _) ?_
        exact p_qI ⟨rfl, wF, Or.inl ⟨hv.1, hv.2, wS_eq⟩⟩
      · exfalso; omega
    · skip
      refine x_put hM wf_X7_203 wl_X7 hh wq_X7_203 rfl rfl (Nat.le_of_ble_eq_true rfl) rfl dX7_one_29 ?_
      refine x_aload_n hM dX7_one_32 rfl rfl ?_
      refine x_dup hM dX7_one_33 rfl ?_
      refine x_get hM wf_X7_197 wl_X7 wS_eq rfl dX7_one_34 ?_
      refine x_aload_n hM dX7_one_37 rfl rfl ?_
      refine x_get hM wf_X7_203 wl_X7 wS_eq rfl dX7_one_38 ?_
      refine x_if_eq (tgt := 48) hM dX7_one_41 (by decide) (by omega) (fun c_41 => ?_) (fun c_41 => ?_)
      · exfalso; omega
      · refine x_iconst hM dX7_one_44 ?_
        refine x_goto (tgt := 49) hM dX7_one_45 (by decide) ?_
        refine x_iadd hM dX7_one_49 ?_
        refine x_put hM wf_X7_197 wl_X7 wS_eq wq_X7_197 rfl rfl (Nat.le_of_ble_eq_true rfl) rfl dX7_one_50 ?_
        rw [wS_2, Int.add_zero]
        refine x_iload_n hM dX7_one_53 rfl rfl ?_
        refine hR.i dX7_one_54 (Nat.zero_le _) (Nat.zero_le _) ?_
        exact p_qI ⟨rfl, wF, Or.inr ⟨hv, wS_eq⟩⟩
  refine x_aload_n hM dX7_one_0 rfl rfl ?_
  refine x_callV hM wv_X7_200 (m_X7_sign hh hd (by omega)) ⟨Nat.le_of_ble_eq_true rfl, Nat.le_of_ble_eq_true rfl⟩ hh rfl rfl rfl rfl (Nat.le_of_ble_eq_true rfl) ⟨Nat.le_of_ble_eq_true rfl, Nat.le_of_ble_eq_true rfl⟩ dX7_one_1 (k_rI ?_)
  refine x_iload_n hM dX7_one_4 rfl rfl ?_
  refine x_isub hM dX7_one_5 ?_
  refine x_istore_n hM dX7_one_6 rfl rfl (Nat.le_of_ble_eq_true rfl) rfl ?_
  refine x_aload_n hM dX7_one_7 rfl rfl ?_
  refine x_aload_n hM dX7_one_8 rfl rfl ?_
  refine x_get hM wf_X7_203 wl_X7 hh rfl dX7_one_9 ?_
  refine x_if_ne (tgt := 24) hM dX7_one_12 (by decide) (by omega) (fun c_12 => ?_) (fun c_12 => ?_)
  · refine x_iconst hM dX7_one_24 ?_
    refine x_goto (tgt := 29) hM dX7_one_25 (by decide) ?_
    exact J29 _ (by omega)
  · refine x_iload_n hM dX7_one_15 rfl rfl ?_
    refine x_iconst hM dX7_one_16 ?_
    refine x_iload_n hM dX7_one_17 rfl rfl ?_
    refine x_callS hM ws_X7_62 (m_X7_in (by omega) (by omega) (by omega)) ⟨Nat.le_of_ble_eq_true rfl, Nat.le_of_ble_eq_true rfl⟩ rfl rfl (Nat.le_of_ble_eq_true rfl) ⟨Nat.le_of_ble_eq_true rfl, Nat.le_of_ble_eq_true rfl⟩ dX7_one_18 (k_rI ?_)
    by_cases c1 : 0 ≤ sgP cs pl - a ∧ sgP cs pl - a ≤ b
    · rw [if_pos c1]
      refine x_if_ne (tgt := 28) hM dX7_one_21 (by decide) (by omega) (fun _ => ?_) (fun q => absurd q (by decide))
      refine x_iconst hM dX7_one_28 ?_
      exact J29 _ (by omega)
    · rw [if_neg c1]
      refine x_if_ne (tgt := 28) hM dX7_one_21 (by decide) (by omega) (fun q => absurd rfl q) (fun _ => ?_)
      refine x_iconst hM dX7_one_24 ?_
      refine x_goto (tgt := 29) hM dX7_one_25 (by decide) ?_
      exact J29 _ (by omega)
theorem numL_0 (cs : List Int) (k : Nat) (i : Int) : numL cs k 0 i = (0, i) := by
  cases k with
  | zero => rfl
  | succ k => exact if_neg (by omega)
theorem m_X7_number {l : Launch} {G : xG} {w : Wd} {z m : Nat} {cs : List Int} {un it rw mn pl wr : Int} (hh : w m = some (hdV m un cs.length it rw mn pl wr)) (hd : pdA G w m cs) (hp : 0 ≤ pl ∧ pl ≤ 9800) (hw : wr = 0) : xMet l G yX7_number cX7_number 2 (some .int) ({ frames := 2, cells := 0, slots := 0, locals := 45 } : Room) [.ref m] w z (qI z fun y w1 => iR y ∧ Fr m (m + 1) w w1 ∧ (((48 ≤ sgP cs pl ∧ sgP cs pl ≤ 57) ∧ y = (numL cs 3 (sgP cs pl - 48) (pl + 1)).1 ∧ w1 m = some (hdV m un cs.length it rw mn (numL cs 3 (sgP cs pl - 48) (pl + 1)).2 0)) ∨ (¬ (48 ≤ sgP cs pl ∧ sgP cs pl ≤ 57) ∧ w1 m = some (hdV m un cs.length it rw mn pl 1)))) := by
  have hsb := sgP_b hd.1 pl
  refine xMet_of RX7 rfl (by decide +kernel) false (by decide +kernel) (Nat.le_of_ble_eq_true rfl) rfl ?_
  intro P hM hR
  have K : (48 ≤ sgP cs pl ∧ sgP cs pl ≤ 57) → ∀ (k : Nat) (v i : Int) (w1 : Wd), k ≤ 3 → (0 ≤ v ∧ v ≤ 9999) → (k = 0 → v = 0 ∨ 1000 ≤ v) → (k = 1 → v = 0 ∨ (100 ≤ v ∧ v ≤ 999)) → (k = 2 → v = 0 ∨ (10 ≤ v ∧ v ≤ 99)) → (k = 3 → v ≤ 9) → 0 ≤ i ∧ i + k ≤ 9804 → w1 m = some (hdV m un cs.length it rw mn i 0) → Fr m (m + 1) w w1 → numL cs k v i = numL cs 3 (sgP cs pl - 48) (pl + 1) → P 9 [some (.ref m), some (.int (iI v))] [] w1 (z, 0, 0) := by
    intro hdg k
    induction k with
    | zero =>
      intro v i w1 hk hv h0 h1 h2 h3 hi hh1 hF hinv
      have hd1 := hd.kpf (hF (m + 11) (by omega))
      have hsi := sgP_b hd.1 i
      have hinv : (v, i) = numL cs 3 (sgP cs pl - 48) (pl + 1) := hinv
      refine x_aload_n hM dX7_number_9 rfl rfl ?_
      refine x_get hM wf_X7_203 wl_X7 hh1 rfl dX7_number_10 ?_
      refine x_if_ne (tgt := 78) hM dX7_number_13 (by decide) (by omega) (fun c_13 => ?_) (fun c_13 => ?_)
      · exfalso; omega
      · refine x_iload_n hM dX7_number_16 rfl rfl ?_
        refine x_if_le (tgt := 78) hM dX7_number_17 (by decide) (by omega) (fun c_17 => ?_) (fun c_17 => ?_)
        · refine x_iload_n hM dX7_number_78 rfl rfl ?_
          refine hR.i dX7_number_79 (Nat.zero_le _) (Nat.zero_le _) ?_
          exact p_qI ⟨⟨by omega, by omega⟩, hF, Or.inl ⟨hdg, by rw [← hinv], by rw [← hinv]; exact hh1⟩⟩
        · refine x_aload_n hM dX7_number_20 rfl rfl ?_
          refine x_callV hM wv_X7_200 (m_X7_sign hh1 hd1 (by omega)) ⟨Nat.le_of_ble_eq_true rfl, Nat.le_of_ble_eq_true rfl⟩ hh1 rfl rfl rfl rfl (Nat.le_of_ble_eq_true rfl) ⟨Nat.le_of_ble_eq_true rfl, Nat.le_of_ble_eq_true rfl⟩ dX7_number_21 (k_rI ?_)
          refine x_bipush hM dX7_number_24 rfl ?_
          refine x_bipush hM dX7_number_26 rfl ?_
          refine x_callS hM ws_X7_62 (m_X7_in (by omega) (by omega) (by omega)) ⟨Nat.le_of_ble_eq_true rfl, Nat.le_of_ble_eq_true rfl⟩ rfl rfl (Nat.le_of_ble_eq_true rfl) ⟨Nat.le_of_ble_eq_true rfl, Nat.le_of_ble_eq_true rfl⟩ dX7_number_28 (k_rI ?_)
          by_cases c1 : 48 ≤ sgP cs i ∧ sgP cs i ≤ 57
          · rw [if_pos c1]
            refine x_if_eq (tgt := 78) hM dX7_number_31 (by decide) (by omega) (fun q => absurd q (by decide)) (fun _ => ?_)
            refine x_bipush hM dX7_number_34 rfl ?_
            refine x_iload_n hM dX7_number_36 rfl rfl ?_
            refine x_imul hM dX7_number_37 ?_
            refine x_aload_n hM dX7_number_38 rfl rfl ?_
            refine x_callV hM wv_X7_200 (m_X7_sign hh1 hd1 (by omega)) ⟨Nat.le_of_ble_eq_true rfl, Nat.le_of_ble_eq_true rfl⟩ hh1 rfl rfl rfl rfl (Nat.le_of_ble_eq_true rfl) ⟨Nat.le_of_ble_eq_true rfl, Nat.le_of_ble_eq_true rfl⟩ dX7_number_39 (k_rI ?_)
            refine x_iadd hM dX7_number_42 ?_
            refine x_bipush hM dX7_number_43 rfl ?_
            refine x_isub hM dX7_number_45 ?_
            refine x_sipush hM dX7_number_46 rfl ?_
            refine x_icmp_gt (tgt := 78) hM dX7_number_49 (by decide) (by omega) (by omega) (fun c_49 => ?_) (fun c_49 => ?_)
            · refine x_iload_n hM dX7_number_78 rfl rfl ?_
              refine hR.i dX7_number_79 (Nat.zero_le _) (Nat.zero_le _) ?_
              exact p_qI ⟨⟨by omega, by omega⟩, hF, Or.inl ⟨hdg, by rw [← hinv], by rw [← hinv]; exact hh1⟩⟩
            · exfalso; omega
          · rw [if_neg c1]
            refine x_if_eq (tgt := 78) hM dX7_number_31 (by decide) (by omega) (fun _ => ?_) (fun q => absurd rfl q)
            refine x_iload_n hM dX7_number_78 rfl rfl ?_
            refine hR.i dX7_number_79 (Nat.zero_le _) (Nat.zero_le _) ?_
            exact p_qI ⟨⟨by omega, by omega⟩, hF, Or.inl ⟨hdg, by rw [← hinv], by rw [← hinv]; exact hh1⟩⟩
    | succ k ih =>
      intro v i w1 hk hv h0 h1 h2 h3 hi hh1 hF hinv
      have hd1 := hd.kpf (hF (m + 11) (by omega))
      have hsi := sgP_b hd.1 i
      by_cases c2 : 0 < v ∧ 48 ≤ sgP cs i ∧ sgP cs i ≤ 57
      · rw [show numL cs (k + 1) v i = numL cs k (v * 10 + sgP cs i - 48) (i + 1) from if_pos c2] at hinv
        have ev : 10 * v + sgP cs i - 48 = v * 10 + sgP cs i - 48 := by omega
        rw [← ev] at hinv
        refine x_aload_n hM dX7_number_9 rfl rfl ?_
        refine x_get hM wf_X7_203 wl_X7 hh1 rfl dX7_number_10 ?_
        refine x_if_ne (tgt := 78) hM dX7_number_13 (by decide) (by omega) (fun c_13 => ?_) (fun c_13 => ?_)
        · exfalso; omega
        · refine x_iload_n hM dX7_number_16 rfl rfl ?_
          refine x_if_le (tgt := 78) hM dX7_number_17 (by decide) (by omega) (fun c_17 => ?_) (fun c_17 => ?_)
          · exfalso; omega
          · refine x_aload_n hM dX7_number_20 rfl rfl ?_
            refine x_callV hM wv_X7_200 (m_X7_sign hh1 hd1 (by omega)) ⟨Nat.le_of_ble_eq_true rfl, Nat.le_of_ble_eq_true rfl⟩ hh1 rfl rfl rfl rfl (Nat.le_of_ble_eq_true rfl) ⟨Nat.le_of_ble_eq_true rfl, Nat.le_of_ble_eq_true rfl⟩ dX7_number_21 (k_rI ?_)
            refine x_bipush hM dX7_number_24 rfl ?_
            refine x_bipush hM dX7_number_26 rfl ?_
            refine x_callS hM ws_X7_62 (m_X7_in (by omega) (by omega) (by omega)) ⟨Nat.le_of_ble_eq_true rfl, Nat.le_of_ble_eq_true rfl⟩ rfl rfl (Nat.le_of_ble_eq_true rfl) ⟨Nat.le_of_ble_eq_true rfl, Nat.le_of_ble_eq_true rfl⟩ dX7_number_28 (k_rI ?_)
            rw [if_pos c2.2]
            refine x_if_eq (tgt := 78) hM dX7_number_31 (by decide) (by omega) (fun c_31 => ?_) (fun c_31 => ?_)
            · exfalso; omega
            · refine x_bipush hM dX7_number_34 rfl ?_
              refine x_iload_n hM dX7_number_36 rfl rfl ?_
              refine x_imul hM dX7_number_37 ?_
              refine x_aload_n hM dX7_number_38 rfl rfl ?_
              refine x_callV hM wv_X7_200 (m_X7_sign hh1 hd1 (by omega)) ⟨Nat.le_of_ble_eq_true rfl, Nat.le_of_ble_eq_true rfl⟩ hh1 rfl rfl rfl rfl (Nat.le_of_ble_eq_true rfl) ⟨Nat.le_of_ble_eq_true rfl, Nat.le_of_ble_eq_true rfl⟩ dX7_number_39 (k_rI ?_)
              refine x_iadd hM dX7_number_42 ?_
              refine x_bipush hM dX7_number_43 rfl ?_
              refine x_isub hM dX7_number_45 ?_
              refine x_sipush hM dX7_number_46 rfl ?_
              refine x_icmp_gt (tgt := 78) hM dX7_number_49 (by decide) (by omega) (by omega) (fun c_49 => ?_) (fun c_49 => ?_)
              · exfalso; omega
              · refine x_bipush hM dX7_number_52 rfl ?_
                refine x_iload_n hM dX7_number_54 rfl rfl ?_
                refine x_imul hM dX7_number_55 ?_
                refine x_aload_n hM dX7_number_56 rfl rfl ?_
                refine x_callV hM wv_X7_200 (m_X7_sign hh1 hd1 (by omega)) ⟨Nat.le_of_ble_eq_true rfl, Nat.le_of_ble_eq_true rfl⟩ hh1 rfl rfl rfl rfl (Nat.le_of_ble_eq_true rfl) ⟨Nat.le_of_ble_eq_true rfl, Nat.le_of_ble_eq_true rfl⟩ dX7_number_57 (k_rI ?_)
                refine x_iadd hM dX7_number_60 ?_
                refine x_bipush hM dX7_number_61 rfl ?_
                refine x_isub hM dX7_number_63 ?_
                refine x_istore_n hM dX7_number_64 rfl rfl (Nat.le_of_ble_eq_true rfl) rfl ?_
                refine x_aload_n hM dX7_number_65 rfl rfl ?_
                refine x_dup hM dX7_number_66 rfl ?_
                refine x_get hM wf_X7_197 wl_X7 hh1 rfl dX7_number_67 ?_
                refine x_iconst hM dX7_number_70 ?_
                refine x_iadd hM dX7_number_71 ?_
                refine x_put hM wf_X7_197 wl_X7 hh1 wq_X7_197 rfl rfl (Nat.le_of_ble_eq_true rfl) rfl dX7_number_72 ?_
                refine x_goto (tgt := 9) hM dX7_number_75 (by decide) ?_
                exact ih _ _ _ (by omega) (by omega) (by omega) (by omega) (by omega) (by omega) (by omega) wS_eq (hF.tr wF) hinv
      · have hinv : (v, i) = numL cs 3 (sgP cs pl - 48) (pl + 1) := (if_neg c2).symm.trans hinv
        refine x_aload_n hM dX7_number_9 rfl rfl ?_
        refine x_get hM wf_X7_203 wl_X7 hh1 rfl dX7_number_10 ?_
        refine x_if_ne (tgt := 78) hM dX7_number_13 (by decide) (by omega) (fun c_13 => ?_) (fun c_13 => ?_)
        · exfalso; omega
        · refine x_iload_n hM dX7_number_16 rfl rfl ?_
          refine x_if_le (tgt := 78) hM dX7_number_17 (by decide) (by omega) (fun c_17 => ?_) (fun c_17 => ?_)
          · refine x_iload_n hM dX7_number_78 rfl rfl ?_
            refine hR.i dX7_number_79 (Nat.zero_le _) (Nat.zero_le _) ?_
            exact p_qI ⟨⟨by omega, by omega⟩, hF, Or.inl ⟨hdg, by rw [← hinv], by rw [← hinv]; exact hh1⟩⟩
          · refine x_aload_n hM dX7_number_20 rfl rfl ?_
            refine x_callV hM wv_X7_200 (m_X7_sign hh1 hd1 (by omega)) ⟨Nat.le_of_ble_eq_true rfl, Nat.le_of_ble_eq_true rfl⟩ hh1 rfl rfl rfl rfl (Nat.le_of_ble_eq_true rfl) ⟨Nat.le_of_ble_eq_true rfl, Nat.le_of_ble_eq_true rfl⟩ dX7_number_21 (k_rI ?_)
            refine x_bipush hM dX7_number_24 rfl ?_
            refine x_bipush hM dX7_number_26 rfl ?_
            refine x_callS hM ws_X7_62 (m_X7_in (by omega) (by omega) (by omega)) ⟨Nat.le_of_ble_eq_true rfl, Nat.le_of_ble_eq_true rfl⟩ rfl rfl (Nat.le_of_ble_eq_true rfl) ⟨Nat.le_of_ble_eq_true rfl, Nat.le_of_ble_eq_true rfl⟩ dX7_number_28 (k_rI ?_)
            rw [if_neg (show ¬ (48 ≤ sgP cs i ∧ sgP cs i ≤ 57) by omega)]
            refine x_if_eq (tgt := 78) hM dX7_number_31 (by decide) (by omega) (fun c_31 => ?_) (fun c_31 => ?_)
            · refine x_iload_n hM dX7_number_78 rfl rfl ?_
              refine hR.i dX7_number_79 (Nat.zero_le _) (Nat.zero_le _) ?_
              exact p_qI ⟨⟨by omega, by omega⟩, hF, Or.inl ⟨hdg, by rw [← hinv], by rw [← hinv]; exact hh1⟩⟩
            · exfalso; omega
  by_cases c0 : 48 ≤ sgP cs pl ∧ sgP cs pl ≤ 57
  · skip
    refine x_aload_n hM dX7_number_0 rfl rfl ?_
    refine x_bipush hM dX7_number_1 rfl ?_
    refine x_bipush hM dX7_number_3 rfl ?_
    refine x_callV hM wv_X7_206 (m_X7_one hh hd (by omega) (Or.inl hw) (by omega) (by omega)) ⟨Nat.le_of_ble_eq_true rfl, Nat.le_of_ble_eq_true rfl⟩ hh rfl rfl rfl rfl (Nat.le_of_ble_eq_true rfl) ⟨Nat.le_of_ble_eq_true rfl, Nat.le_of_ble_eq_true rfl⟩ dX7_number_5 (k_qI fun x_5 w_5 q_5 => ?_)
    obtain ⟨rfl, q1, q2⟩ := q_5
    rcases q2 with ⟨-, -, q2⟩ | ⟨q2, -⟩
    · skip
      refine x_istore_n hM dX7_number_8 rfl rfl (Nat.le_of_ble_eq_true rfl) rfl ?_
      exact K c0 3 _ _ _ (Nat.le_refl 3) (by omega) (by omega) (by omega) (by omega) (by omega) (by omega) q2 q1 rfl
    exact absurd ⟨hw, by omega⟩ q2
    skip
  · skip
    refine x_aload_n hM dX7_number_0 rfl rfl ?_
    refine x_bipush hM dX7_number_1 rfl ?_
    refine x_bipush hM dX7_number_3 rfl ?_
    refine x_callV hM wv_X7_206 (m_X7_one hh hd (by omega) (Or.inl hw) (by omega) (by omega)) ⟨Nat.le_of_ble_eq_true rfl, Nat.le_of_ble_eq_true rfl⟩ hh rfl rfl rfl rfl (Nat.le_of_ble_eq_true rfl) ⟨Nat.le_of_ble_eq_true rfl, Nat.le_of_ble_eq_true rfl⟩ dX7_number_5 (k_qI fun x_5 w_5 q_5 => ?_)
    obtain ⟨rfl, q1, q2⟩ := q_5
    rcases q2 with ⟨-, q2, -⟩ | ⟨-, q2⟩
    · omega
    refine x_istore_n hM dX7_number_8 rfl rfl (Nat.le_of_ble_eq_true rfl) rfl ?_
    refine x_aload_n hM dX7_number_9 rfl rfl ?_
    refine x_get hM wf_X7_203 wl_X7 q2 rfl dX7_number_10 ?_
    refine x_if_ne (tgt := 78) hM dX7_number_13 (by decide) (by omega) (fun c_13 => ?_) (fun c_13 => ?_)
    · refine x_iload_n hM dX7_number_78 rfl rfl ?_
      refine hR.i dX7_number_79 (Nat.zero_le _) (Nat.zero_le _) ?_
      exact p_qI ⟨⟨by omega, by omega⟩, q1, Or.inr ⟨c0, q2⟩⟩
    · exfalso; omega
def enA (G : xG) (w : Wd) (m : Nat) (E : List Ent) : Prop := ∃ f : Int → Int, w (m + 14) = some (aI G 240 f) ∧ ∀ (i : Nat) (h : i < E.length), f (4 * i) = E[i].2.2.1 ∧ (hasL E[i].2.2.1 → f (4 * i + 1) = E[i].2.2.2.1) ∧ f (4 * i + 2) = E[i].2.2.2.2.1 ∧ (has2 E[i].2.2.1 → f (4 * i + 3) = E[i].2.2.2.2.2)
theorem enA.kpf {G : xG} {w w1 : Wd} {m : Nat} {E : List Ent} (h : enA G w m E) (k : w1 (m + 14) = w (m + 14)) : enA G w1 m E := by
  obtain ⟨f, h2, h3⟩ := h
  exact ⟨f, k.trans h2, h3⟩
theorem enA.up {G : xG} {w1 : Wd} {m : Nat} {E : List Ent} {f g : Int → Int} {e : Ent} (hv : ∀ (i : Nat) (h : i < E.length), f (4 * i) = E[i].2.2.1 ∧ (hasL E[i].2.2.1 → f (4 * i + 1) = E[i].2.2.2.1) ∧ f (4 * i + 2) = E[i].2.2.2.2.1 ∧ (has2 E[i].2.2.1 → f (4 * i + 3) = E[i].2.2.2.2.2)) (hg : w1 (m + 14) = some (aI G 240 g)) (hlow : ∀ j : Int, j < 4 * E.length → g j = f j) (he : g (4 * E.length) = e.2.2.1 ∧ (hasL e.2.2.1 → g (4 * E.length + 1) = e.2.2.2.1) ∧ g (4 * E.length + 2) = e.2.2.2.2.1 ∧ (has2 e.2.2.1 → g (4 * E.length + 3) = e.2.2.2.2.2)) : enA G w1 m (E ++ [e]) := by
  refine ⟨g, hg, fun i hi => ?_⟩
  by_cases c : i < E.length
  · rw [List.getElem_append_left c, hlow _ (by omega), hlow _ (by omega), hlow _ (by omega), hlow _ (by omega)]
    exact hv i c
  · have hi2 : i < E.length + 1 := by simpa using hi
    have hie : i = E.length := by omega
    subst hie
    rw [List.getElem_append_right (Nat.le_refl _)]
    simp only [Nat.sub_self, List.getElem_cons_zero]
    exact he
