/-! the law reads its rows -/
theorem m_L_isRow {l : Launch} {G : xG} {w : Wd} {z x r e : Nat} {s : St} (h : obA G w x s) (h2 : rsA G w r e s.L) : xMet l G yL_isRow cL_isRow 4 (some .boolean) ({ frames := 5, cells := 0, slots := 0, locals := 106 } : Room) [.ref x, .ref r, .ref e] w z (rI 1 w z) := by
  obtain ⟨hW, f, g, ⟨r1, r2, r3⟩, r4⟩ := id h2
  have hl := hW.1
  refine xMet_of RL rfl (by decide +kernel) false (by decide +kernel) (Nat.le_of_ble_eq_true rfl) rfl ?_
  intro P hM hR
  have K : ∀ j i : Nat, i + j = s.L.length → P 15 [some (.ref x), some (.ref r), some (.ref e), some (.int (iI i))] [] w (z, 0, 0) := by
    intro j
    induction j with
    | zero =>
      intro i hij
      refine x_iload_n hM dL_isRow_15 rfl rfl ?_
      refine x_aload_n hM dL_isRow_16 rfl rfl ?_
      refine x_iconst hM dL_isRow_17 ?_
      refine x_iald hM r1 (by omega) dL_isRow_18 ?_
      refine x_icmp_ge (tgt := 79) hM dL_isRow_19 (by decide) (by omega) (by omega) (fun c_19 => ?_) (fun c_19 => ?_)
      · refine x_iconst hM dL_isRow_79 ?_
        refine hR.b dL_isRow_80 rfl (Nat.zero_le _) (Nat.zero_le _) ?_
        exact p_rI rfl
      · exfalso; omega
    | succ j ih =>
      intro i hij
      have hi : i < s.L.length := by omega
      have e1 := (r3 i hi).2
      refine x_iload_n hM dL_isRow_15 rfl rfl ?_
      refine x_aload_n hM dL_isRow_16 rfl rfl ?_
      refine x_iconst hM dL_isRow_17 ?_
      refine x_iald hM r1 (by omega) dL_isRow_18 ?_
      refine x_icmp_ge (tgt := 79) hM dL_isRow_19 (by decide) (by omega) (by omega) (fun c_19 => ?_) (fun c_19 => ?_)
      · exfalso; omega
      · refine x_aload_n hM dL_isRow_22 rfl rfl ?_
        refine x_iload_n hM dL_isRow_23 rfl rfl ?_
        refine x_iconst hM dL_isRow_24 ?_
        refine x_callV hM wv_L_14 (o_r0 h hi) ⟨Nat.le_of_ble_eq_true rfl, Nat.le_of_ble_eq_true rfl⟩ (ob_o h) rfl rfl rfl rfl (Nat.le_of_ble_eq_true rfl) ⟨Nat.le_of_ble_eq_true rfl, Nat.le_of_ble_eq_true rfl⟩ dL_isRow_25 (k_rI ?_)
        refine x_aload_n hM dL_isRow_28 rfl rfl ?_
        refine x_iload_n hM dL_isRow_29 rfl rfl ?_
        refine x_callS hM ws_L_28 (m_L_ownerOf h2 hi) ⟨Nat.le_of_ble_eq_true rfl, Nat.le_of_ble_eq_true rfl⟩ rfl rfl (Nat.le_of_ble_eq_true rfl) ⟨Nat.le_of_ble_eq_true rfl, Nat.le_of_ble_eq_true rfl⟩ dL_isRow_30 (k_rI ?_)
        refine x_sameN (tgt := 71) hM rfl dL_isRow_33 (by decide) ?_
        refine x_aload_n hM dL_isRow_36 rfl rfl ?_
        refine x_iload_n hM dL_isRow_37 rfl rfl ?_
        refine x_iconst hM dL_isRow_38 ?_
        refine x_callV hM wv_L_14 (o_r1 h hi) ⟨Nat.le_of_ble_eq_true rfl, Nat.le_of_ble_eq_true rfl⟩ (ob_o h) rfl rfl rfl rfl (Nat.le_of_ble_eq_true rfl) ⟨Nat.le_of_ble_eq_true rfl, Nat.le_of_ble_eq_true rfl⟩ dL_isRow_39 (k_rI ?_)
        refine x_aload_n hM dL_isRow_42 rfl rfl ?_
        refine x_iload_n hM dL_isRow_43 rfl rfl ?_
        refine x_callS hM ws_L_18 (m_L_firstOf h2 hi) ⟨Nat.le_of_ble_eq_true rfl, Nat.le_of_ble_eq_true rfl⟩ rfl rfl (Nat.le_of_ble_eq_true rfl) ⟨Nat.le_of_ble_eq_true rfl, Nat.le_of_ble_eq_true rfl⟩ dL_isRow_44 (k_rI ?_)
        refine x_sameN (tgt := 71) hM rfl dL_isRow_47 (by decide) ?_
        refine x_aload_n hM dL_isRow_50 rfl rfl ?_
        refine x_iload_n hM dL_isRow_51 rfl rfl ?_
        refine x_iconst hM dL_isRow_52 ?_
        refine x_callV hM wv_L_14 (o_r1 h hi) ⟨Nat.le_of_ble_eq_true rfl, Nat.le_of_ble_eq_true rfl⟩ (ob_o h) rfl rfl rfl rfl (Nat.le_of_ble_eq_true rfl) ⟨Nat.le_of_ble_eq_true rfl, Nat.le_of_ble_eq_true rfl⟩ dL_isRow_53 (k_rI ?_)
        refine x_aload_n hM dL_isRow_56 rfl rfl ?_
        refine x_iload_n hM dL_isRow_57 rfl rfl ?_
        refine x_iconst hM dL_isRow_58 ?_
        refine x_callV hM wv_L_14 (o_r2 h hi) ⟨Nat.le_of_ble_eq_true rfl, Nat.le_of_ble_eq_true rfl⟩ (ob_o h) rfl rfl rfl rfl (Nat.le_of_ble_eq_true rfl) ⟨Nat.le_of_ble_eq_true rfl, Nat.le_of_ble_eq_true rfl⟩ dL_isRow_59 (k_rI ?_)
        refine x_iadd hM dL_isRow_62 ?_
        refine x_aload_n hM dL_isRow_63 rfl rfl ?_
        refine x_iconst hM dL_isRow_64 ?_
        refine x_iload_n hM dL_isRow_65 rfl rfl ?_
        refine x_iadd hM dL_isRow_66 ?_
        refine x_iald hM r2 (by omega) dL_isRow_67 ?_
        refine x_same (tgt := 73) hM (by omega) dL_isRow_68 (by decide) ?_
        refine x_iinc hM dL_isRow_73 rfl rfl rfl ?_
        refine x_goto (tgt := 15) hM dL_isRow_76 (by decide) ?_
        exact ih (i + 1) (by omega)
  refine x_aload_n hM dL_isRow_0 rfl rfl ?_
  refine x_iconst hM dL_isRow_1 ?_
  refine x_callV hM wv_L_8 (o_c2 h) ⟨Nat.le_of_ble_eq_true rfl, Nat.le_of_ble_eq_true rfl⟩ (ob_o h) rfl rfl rfl rfl (Nat.le_of_ble_eq_true rfl) ⟨Nat.le_of_ble_eq_true rfl, Nat.le_of_ble_eq_true rfl⟩ dL_isRow_2 (k_rI ?_)
  refine x_aload_n hM dL_isRow_5 rfl rfl ?_
  refine x_iconst hM dL_isRow_6 ?_
  refine x_iald hM r1 (by omega) dL_isRow_7 ?_
  refine x_same (tgt := 13) hM r4.symm dL_isRow_8 (by decide) ?_
  refine x_iconst hM dL_isRow_13 ?_
  refine x_istore_n hM dL_isRow_14 rfl rfl (Nat.le_of_ble_eq_true rfl) rfl ?_
  exact K s.L.length 0 (by omega)
theorem m_L_copy {l : Launch} {G : xG} {w : Wd} {z r t : Nat} {f g : Int → Int} (h1 : w r = some (aI G 64 f)) (h2 : w t = some (aI G 64 g)) (hne : r ≠ t) : xMet l G yL_copy cL_copy 3 none ({ frames := 0, cells := 0, slots := 0, locals := 0 } : Room) [.ref r, .ref t] w z (qV z fun w1 => ∃ g1 : Int → Int, w1 t = some (aI G 64 g1) ∧ (∀ j : Int, 0 ≤ j → j < 64 → g1 j = f j) ∧ ∀ q : Nat, q ≠ t → w1 q = w q) := by
  refine xMet_of RL rfl (by decide +kernel) false (by decide +kernel) (Nat.le_of_ble_eq_true rfl) rfl ?_
  intro P hM hR
  have K : ∀ (j i : Nat) (w1 : Wd) (g1 : Int → Int), i + j = 64 → w1 t = some (aI G 64 g1) → (∀ j : Int, 0 ≤ j → j < i → g1 j = f j) → (∀ q : Nat, q ≠ t → w1 q = w q) → P 2 [some (.ref r), some (.ref t), some (.int (iI i))] [] w1 (z, 0, 0) := by
    intro j
    induction j with
    | zero =>
      intro i w1 g1 hij k1 k2 k3
      refine x_iload_n hM dL_copy_2 rfl rfl ?_
      refine x_aload_n hM dL_copy_3 rfl rfl ?_
      refine x_alenI hM ((k3 r hne).trans h1) dL_copy_4 ?_
      refine x_icmp_ge (tgt := 20) hM dL_copy_5 (by decide) (by omega) (by omega) (fun c_5 => ?_) (fun c_5 => ?_)
      · refine hR.v dL_copy_20 (Nat.zero_le _) (Nat.zero_le _) ?_
        exact p_qV ⟨g1, k1, fun q a b => k2 q a (by omega), k3⟩
      · exfalso; omega
    | succ j ih =>
      intro i w1 g1 hij k1 k2 k3
      refine x_iload_n hM dL_copy_2 rfl rfl ?_
      refine x_aload_n hM dL_copy_3 rfl rfl ?_
      refine x_alenI hM ((k3 r hne).trans h1) dL_copy_4 ?_
      refine x_icmp_ge (tgt := 20) hM dL_copy_5 (by decide) (by omega) (by omega) (fun c_5 => ?_) (fun c_5 => ?_)
      · exfalso; omega
      · refine x_aload_n hM dL_copy_8 rfl rfl ?_
        refine x_iload_n hM dL_copy_9 rfl rfl ?_
        refine x_aload_n hM dL_copy_10 rfl rfl ?_
        refine x_iload_n hM dL_copy_11 rfl rfl ?_
        refine x_iald hM ((k3 r hne).trans h1) (by omega) dL_copy_12 ?_
        refine x_iast hM k1 (by omega) dL_copy_13 ?_
        refine x_iinc hM dL_copy_14 rfl rfl rfl ?_
        refine x_goto (tgt := 2) hM dL_copy_17 (by decide) ?_
        refine ih (i + 1) _ _ (by omega) wS_eq (fun q a b => ?_) (fun q a => (wS_ne a).trans (k3 q a))
        by_cases c : q = i
        · subst c; exact fU_eq
        · rw [fU_ne c]; exact k2 q a (by omega)
  refine x_iconst hM dL_copy_0 ?_
  refine x_istore_n hM dL_copy_1 rfl rfl (Nat.le_of_ble_eq_true rfl) rfl ?_
  exact K 64 0 w g (by omega) h2 (fun q a b => by omega) (fun _ _ => rfl)
theorem mts_drop {L : List Sg} {o : Int} {i : Nat} (h : i < L.length) : mtsO (L.drop i) o = (if L[i].1 = o then L[i].2.2 - L[i].2.1 else 0) + mtsO (L.drop (i + 1)) o := by
  rw [List.drop_eq_getElem_cons h]; rfl
theorem cnt_drop {L : List Sg} {o : Int} {i : Nat} (h : i < L.length) : cntO (L.drop i) o = (if L[i].1 = o then 1 else 0) + cntO (L.drop (i + 1)) o := by
  rw [List.drop_eq_getElem_cons h]; rfl
theorem mts_dropE {L : List Sg} {o : Int} {i : Nat} (h : L.length ≤ i) : mtsO (L.drop i) o = 0 ∧ cntO (L.drop i) o = 0 := by
  rw [List.drop_of_length_le h]; exact ⟨rfl, rfl⟩
theorem m_L_meters {l : Launch} {G : xG} {w : Wd} {z r e : Nat} {L : List Sg} {o : Int} (h : rsA G w r e L) (ho : iR o) : xMet l G yL_meters cL_meters 5 (some .int) ({ frames := 1, cells := 0, slots := 0, locals := 21 } : Room) [.ref r, .ref e, .int (iI o)] w z (rI (mtsO L o) w z) := by
  obtain ⟨hW, f, g, ⟨r1, r2, r3⟩, r4⟩ := id h
  have hl := hW.1
  refine xMet_of RL rfl (by decide +kernel) false (by decide +kernel) (Nat.le_of_ble_eq_true rfl) rfl ?_
  intro P hM hR
  have K : ∀ (j i : Nat) (c : Int), i + j = L.length → c + mtsO (L.drop i) o = mtsO L o → P 5 [some (.ref r), some (.ref e), some (.int (iI o)), some (.int (iI c)), some (.int (iI i))] [] w (z, 0, 0) := by
    intro j
    induction j with
    | zero =>
      intro i c hij hinv
      have e0 := (mts_dropE (L := L) (o := o) (i := i) (by omega)).1
      refine x_iload hM dL_meters_5 rfl ?_
      refine x_aload_n hM dL_meters_7 rfl rfl ?_
      refine x_iconst hM dL_meters_8 ?_
      refine x_iald hM r1 (by omega) dL_meters_9 ?_
      refine x_icmp_ge (tgt := 49) hM dL_meters_10 (by decide) (by omega) (by omega) (fun c_10 => ?_) (fun c_10 => ?_)
      · refine x_iload_n hM dL_meters_49 rfl rfl ?_
        refine hR.i dL_meters_50 (Nat.zero_le _) (Nat.zero_le _) ?_
        exact p_rI (by omega)
      · exfalso; omega
    | succ j ih =>
      intro i c hij hinv
      have hi : i < L.length := by omega
      have hoi := strW_at hW hi
      have e1 := (r3 i hi).2
      rw [mts_drop hi] at hinv
      refine x_iload hM dL_meters_5 rfl ?_
      refine x_aload_n hM dL_meters_7 rfl rfl ?_
      refine x_iconst hM dL_meters_8 ?_
      refine x_iald hM r1 (by omega) dL_meters_9 ?_
      refine x_icmp_ge (tgt := 49) hM dL_meters_10 (by decide) (by omega) (by omega) (fun c_10 => ?_) (fun c_10 => ?_)
      · exfalso; omega
      · refine x_iload_n hM dL_meters_13 rfl rfl ?_
        refine x_aload_n hM dL_meters_14 rfl rfl ?_
        refine x_iload hM dL_meters_15 rfl ?_
        refine x_callS hM ws_L_28 (m_L_ownerOf h hi) ⟨Nat.le_of_ble_eq_true rfl, Nat.le_of_ble_eq_true rfl⟩ rfl rfl (Nat.le_of_ble_eq_true rfl) ⟨Nat.le_of_ble_eq_true rfl, Nat.le_of_ble_eq_true rfl⟩ dL_meters_17 (k_rI ?_)
        refine x_iload_n hM dL_meters_20 rfl rfl ?_
        refine x_icmp_ne (tgt := 40) hM dL_meters_21 (by decide) (by omega) (by omega) (fun c_21 => ?_) (fun c_21 => ?_)
        · refine x_iconst hM dL_meters_40 ?_
          refine x_iadd hM dL_meters_41 ?_
          refine x_istore_n hM dL_meters_42 rfl rfl (Nat.le_of_ble_eq_true rfl) rfl ?_
          refine x_iinc hM dL_meters_43 rfl rfl rfl ?_
          refine x_goto (tgt := 5) hM dL_meters_46 (by decide) ?_
          refine ih (i + 1) _ (by omega) ?_
          first | (rw [if_pos (show L[i].1 = o by omega)] at hinv; omega) | (rw [if_neg (show ¬ L[i].1 = o by omega)] at hinv; omega)
        · refine x_aload_n hM dL_meters_24 rfl rfl ?_
          refine x_iconst hM dL_meters_25 ?_
          refine x_iload hM dL_meters_26 rfl ?_
          refine x_iadd hM dL_meters_28 ?_
          refine x_iald hM r2 (by omega) dL_meters_29 ?_
          refine x_aload_n hM dL_meters_30 rfl rfl ?_
          refine x_iload hM dL_meters_31 rfl ?_
          refine x_callS hM ws_L_18 (m_L_firstOf h hi) ⟨Nat.le_of_ble_eq_true rfl, Nat.le_of_ble_eq_true rfl⟩ rfl rfl (Nat.le_of_ble_eq_true rfl) ⟨Nat.le_of_ble_eq_true rfl, Nat.le_of_ble_eq_true rfl⟩ dL_meters_33 (k_rI ?_)
          refine x_isub hM dL_meters_36 ?_
          refine x_goto (tgt := 41) hM dL_meters_37 (by decide) ?_
          refine x_iadd hM dL_meters_41 ?_
          refine x_istore_n hM dL_meters_42 rfl rfl (Nat.le_of_ble_eq_true rfl) rfl ?_
          refine x_iinc hM dL_meters_43 rfl rfl rfl ?_
          refine x_goto (tgt := 5) hM dL_meters_46 (by decide) ?_
          refine ih (i + 1) _ (by omega) ?_
          first | (rw [if_pos (show L[i].1 = o by omega)] at hinv; omega) | (rw [if_neg (show ¬ L[i].1 = o by omega)] at hinv; omega)
  refine x_iconst hM dL_meters_0 ?_
  refine x_istore_n hM dL_meters_1 rfl rfl (Nat.le_of_ble_eq_true rfl) rfl ?_
  refine x_iconst hM dL_meters_2 ?_
  refine x_istore hM dL_meters_3 rfl (Nat.le_of_ble_eq_true rfl) rfl ?_
  exact K L.length 0 0 (by omega) (Int.zero_add _)
theorem m_L_many {l : Launch} {G : xG} {w : Wd} {z r e : Nat} {L : List Sg} {o : Int} (h : rsA G w r e L) (ho : iR o) : xMet l G yL_many cL_many 4 (some .int) ({ frames := 1, cells := 0, slots := 0, locals := 21 } : Room) [.ref r, .int (iI o)] w z (rI (cntO L o) w z) := by
  obtain ⟨hW, f, g, ⟨r1, r2, r3⟩, r4⟩ := id h
  have hl := hW.1
  refine xMet_of RL rfl (by decide +kernel) false (by decide +kernel) (Nat.le_of_ble_eq_true rfl) rfl ?_
  intro P hM hR
  have K : ∀ (j i : Nat) (c : Int), i + j = L.length → c + cntO (L.drop i) o = cntO L o → P 4 [some (.ref r), some (.int (iI o)), some (.int (iI c)), some (.int (iI i))] [] w (z, 0, 0) := by
    intro j
    induction j with
    | zero =>
      intro i c hij hinv
      have e0 := (mts_dropE (L := L) (o := o) (i := i) (by omega)).2
      refine x_iload_n hM dL_many_4 rfl rfl ?_
      refine x_aload_n hM dL_many_5 rfl rfl ?_
      refine x_iconst hM dL_many_6 ?_
      refine x_iald hM r1 (by omega) dL_many_7 ?_
      refine x_icmp_ge (tgt := 34) hM dL_many_8 (by decide) (by omega) (by omega) (fun c_8 => ?_) (fun c_8 => ?_)
      · refine x_iload_n hM dL_many_34 rfl rfl ?_
        refine hR.i dL_many_35 (Nat.zero_le _) (Nat.zero_le _) ?_
        exact p_rI (by omega)
      · exfalso; omega
    | succ j ih =>
      intro i c hij hinv
      have hi : i < L.length := by omega
      have hoi := strW_at hW hi
      rw [cnt_drop hi] at hinv
      refine x_iload_n hM dL_many_4 rfl rfl ?_
      refine x_aload_n hM dL_many_5 rfl rfl ?_
      refine x_iconst hM dL_many_6 ?_
      refine x_iald hM r1 (by omega) dL_many_7 ?_
      refine x_icmp_ge (tgt := 34) hM dL_many_8 (by decide) (by omega) (by omega) (fun c_8 => ?_) (fun c_8 => ?_)
      · exfalso; omega
      · refine x_iload_n hM dL_many_11 rfl rfl ?_
        refine x_aload_n hM dL_many_12 rfl rfl ?_
        refine x_iload_n hM dL_many_13 rfl rfl ?_
        refine x_callS hM ws_L_28 (m_L_ownerOf h hi) ⟨Nat.le_of_ble_eq_true rfl, Nat.le_of_ble_eq_true rfl⟩ rfl rfl (Nat.le_of_ble_eq_true rfl) ⟨Nat.le_of_ble_eq_true rfl, Nat.le_of_ble_eq_true rfl⟩ dL_many_14 (k_rI ?_)
        refine x_iload_n hM dL_many_17 rfl rfl ?_
        refine x_icmp_ne (tgt := 25) hM dL_many_18 (by decide) (by omega) (by omega) (fun c_18 => ?_) (fun c_18 => ?_)
        · refine x_iconst hM dL_many_25 ?_
          refine x_iadd hM dL_many_26 ?_
          refine x_istore_n hM dL_many_27 rfl rfl (Nat.le_of_ble_eq_true rfl) rfl ?_
          refine x_iinc hM dL_many_28 rfl rfl rfl ?_
          refine x_goto (tgt := 4) hM dL_many_31 (by decide) ?_
          refine ih (i + 1) _ (by omega) ?_
          first | (rw [if_pos (show L[i].1 = o by omega)] at hinv; omega) | (rw [if_neg (show ¬ L[i].1 = o by omega)] at hinv; omega)
        · refine x_iconst hM dL_many_21 ?_
          refine x_goto (tgt := 26) hM dL_many_22 (by decide) ?_
          refine x_iadd hM dL_many_26 ?_
          refine x_istore_n hM dL_many_27 rfl rfl (Nat.le_of_ble_eq_true rfl) rfl ?_
          refine x_iinc hM dL_many_28 rfl rfl rfl ?_
          refine x_goto (tgt := 4) hM dL_many_31 (by decide) ?_
          refine ih (i + 1) _ (by omega) ?_
          first | (rw [if_pos (show L[i].1 = o by omega)] at hinv; omega) | (rw [if_neg (show ¬ L[i].1 = o by omega)] at hinv; omega)
  refine x_iconst hM dL_many_0 ?_
  refine x_istore_n hM dL_many_1 rfl rfl (Nat.le_of_ble_eq_true rfl) rfl ?_
  refine x_iconst hM dL_many_2 ?_
  refine x_istore_n hM dL_many_3 rfl rfl (Nat.le_of_ble_eq_true rfl) rfl ?_
  exact K L.length 0 0 (by omega) (Int.zero_add _)
theorem it_min1 {b t : Int} (h : b ≤ t) : (if b < t then b else t) = b := by split <;> omega
theorem it_min2 {b t : Int} (h : t < b) : (if b < t then b else t) = t := by split <;> omega
theorem it_max1 {y a : Int} (h : y ≤ a) : (if y < a then a else y) = a := by split <;> omega
theorem it_max2 {y a : Int} (h : a < y) : (if y < a then a else y) = y := by split <;> omega
theorem m_L_within {l : Launch} {G : xG} {w : Wd} {z r e : Nat} {L : List Sg} {o a b : Int} (h : rsA G w r e L) (ho : iR o) (hp : 0 ≤ a ∧ a < b ∧ b ≤ 10000) : xMet l G yL_within cL_within 9 (some .int) ({ frames := 1, cells := 0, slots := 0, locals := 21 } : Room) [.ref r, .ref e, .int (iI a), .int (iI b), .int (iI o)] w z (rI (mtwF L o a (b - a)) w z) := by
  obtain ⟨hW, f, g, ⟨r1, r2, r3⟩, r4⟩ := id h
  have hl := hW.1
  have hab : a + (b - a) = b := by omega
  refine xMet_of RL rfl (by decide +kernel) false (by decide +kernel) (Nat.le_of_ble_eq_true rfl) rfl ?_
  intro P hM hR
  have K : ∀ (j i : Nat) (c : Int) (k1 k2 : Option Value), i + j = L.length → (L.drop i).foldl (mtwS o a (b - a)) c = mtwF L o a (b - a) → P 6 [some (.ref r), some (.ref e), some (.int (iI a)), some (.int (iI b)), some (.int (iI o)), some (.int (iI c)), some (.int (iI i)), k1, k2] [] w (z, 0, 0) := by
    intro j
    induction j with
    | zero =>
      intro i c k1 k2 hij hinv
      rw [drop_foldE _ _ (by omega)] at hinv
      refine x_iload hM dL_within_6 rfl ?_
      refine x_aload_n hM dL_within_8 rfl rfl ?_
      refine x_iconst hM dL_within_9 ?_
      refine x_iald hM r1 (by omega) dL_within_10 ?_
      refine x_icmp_ge (tgt := 96) hM dL_within_11 (by decide) (by omega) (by omega) (fun c_11 => ?_) (fun c_11 => ?_)
      · refine x_iload hM dL_within_96 rfl ?_
        refine hR.i dL_within_98 (Nat.zero_le _) (Nat.zero_le _) ?_
        exact p_rI hinv
      · exfalso; omega
    | succ j ih =>
      intro i c k1 k2 hij hinv
      have hi : i < L.length := by omega
      have hoi := strW_at hW hi
      have e1 := (r3 i hi).2
      rw [drop_fold _ _ hi] at hinv
      /- the part of range i, from p to q -/
      have S : ∀ p q : Int, (0 ≤ p ∧ p ≤ 10000) → (0 ≤ q ∧ q ≤ 10000) → ovF L[i] a (b - a) = (if q - p < 0 then 0 else q - p) → P 58 [some (.ref r), some (.ref e), some (.int (iI a)), some (.int (iI b)), some (.int (iI o)), some (.int (iI c)), some (.int (iI i)), some (.int (iI p)), some (.int (iI q))] [] w (z, 0, 0) := by
        intro p q hp2 hq2 hov
        refine x_iload hM dL_within_58 rfl ?_
        refine x_aload_n hM dL_within_60 rfl rfl ?_
        refine x_iload hM dL_within_61 rfl ?_
        refine x_callS hM ws_L_28 (m_L_ownerOf h hi) ⟨Nat.le_of_ble_eq_true rfl, Nat.le_of_ble_eq_true rfl⟩ rfl rfl (Nat.le_of_ble_eq_true rfl) ⟨Nat.le_of_ble_eq_true rfl, Nat.le_of_ble_eq_true rfl⟩ dL_within_63 (k_rI ?_)
        refine x_iload hM dL_within_66 rfl ?_
        refine x_icmp_ne (tgt := 86) hM dL_within_68 (by decide) (by omega) (by omega) (fun c_68 => ?_) (fun c_68 => ?_)
        · refine x_iconst hM dL_within_86 ?_
          refine x_iadd hM dL_within_87 ?_
          refine x_istore hM dL_within_88 rfl (Nat.le_of_ble_eq_true rfl) rfl ?_
          refine x_iinc hM dL_within_90 rfl rfl rfl ?_
          refine x_goto (tgt := 6) hM dL_within_93 (by decide) ?_
          refine ih (i + 1) _ _ _ (by omega) ?_
          rw [← hinv]; congr 1; unfold mtwS; first | (rw [if_neg (show ¬ L[i].1 = o by omega)]; omega) | (rw [if_pos (show L[i].1 = o by omega), hov]; split <;> omega)
        · refine x_iload hM dL_within_71 rfl ?_
          refine x_iload hM dL_within_73 rfl ?_
          refine x_icmp_le (tgt := 86) hM dL_within_75 (by decide) (by omega) (by omega) (fun c_75 => ?_) (fun c_75 => ?_)
          · refine x_iconst hM dL_within_86 ?_
            refine x_iadd hM dL_within_87 ?_
            refine x_istore hM dL_within_88 rfl (Nat.le_of_ble_eq_true rfl) rfl ?_
            refine x_iinc hM dL_within_90 rfl rfl rfl ?_
            refine x_goto (tgt := 6) hM dL_within_93 (by decide) ?_
            refine ih (i + 1) _ _ _ (by omega) ?_
            rw [← hinv]; congr 1; unfold mtwS; first | (rw [if_neg (show ¬ L[i].1 = o by omega)]; omega) | (rw [if_pos (show L[i].1 = o by omega), hov]; split <;> omega)
          · refine x_iload hM dL_within_78 rfl ?_
            refine x_iload hM dL_within_80 rfl ?_
            refine x_isub hM dL_within_82 ?_
            refine x_goto (tgt := 87) hM dL_within_83 (by decide) ?_
            refine x_iadd hM dL_within_87 ?_
            refine x_istore hM dL_within_88 rfl (Nat.le_of_ble_eq_true rfl) rfl ?_
            refine x_iinc hM dL_within_90 rfl rfl rfl ?_
            refine x_goto (tgt := 6) hM dL_within_93 (by decide) ?_
            refine ih (i + 1) _ _ _ (by omega) ?_
            rw [← hinv]; congr 1; unfold mtwS; first | (rw [if_neg (show ¬ L[i].1 = o by omega)]; omega) | (rw [if_pos (show L[i].1 = o by omega), hov]; split <;> omega)
      have S2 : ∀ p : Int, p = (if L[i].2.1 < a then a else L[i].2.1) → P 36 [some (.ref r), some (.ref e), some (.int (iI a)), some (.int (iI b)), some (.int (iI o)), some (.int (iI c)), some (.int (iI i)), some (.int (iI p)), k2] [] w (z, 0, 0) := by
        intro p hpp
        have hp3 : 0 ≤ p ∧ p ≤ 10000 := by rw [hpp]; split <;> omega
        refine x_aload_n hM dL_within_36 rfl rfl ?_
        refine x_iconst hM dL_within_37 ?_
        refine x_iload hM dL_within_38 rfl ?_
        refine x_iadd hM dL_within_40 ?_
        refine x_iald hM r2 (by omega) dL_within_41 ?_
        refine x_iload_n hM dL_within_42 rfl rfl ?_
        refine x_icmp_ge (tgt := 55) hM dL_within_43 (by decide) (by omega) (by omega) (fun c_43 => ?_) (fun c_43 => ?_)
        · refine x_iload_n hM dL_within_55 rfl rfl ?_
          refine x_istore hM dL_within_56 rfl (Nat.le_of_ble_eq_true rfl) rfl ?_
          refine S p _ hp3 (by omega) ?_
          unfold ovF; rw [hab, ← hpp]; first | rw [it_min1 (show b ≤ L[i].2.2 by omega)] | rw [it_min2 (show L[i].2.2 < b by omega), e1]
        · refine x_aload_n hM dL_within_46 rfl rfl ?_
          refine x_iconst hM dL_within_47 ?_
          refine x_iload hM dL_within_48 rfl ?_
          refine x_iadd hM dL_within_50 ?_
          refine x_iald hM r2 (by omega) dL_within_51 ?_
          refine x_goto (tgt := 56) hM dL_within_52 (by decide) ?_
          refine x_istore hM dL_within_56 rfl (Nat.le_of_ble_eq_true rfl) rfl ?_
          refine S p _ hp3 (by omega) ?_
          unfold ovF; rw [hab, ← hpp]; first | rw [it_min1 (show b ≤ L[i].2.2 by omega)] | rw [it_min2 (show L[i].2.2 < b by omega), e1]
      refine x_iload hM dL_within_6 rfl ?_
      refine x_aload_n hM dL_within_8 rfl rfl ?_
      refine x_iconst hM dL_within_9 ?_
      refine x_iald hM r1 (by omega) dL_within_10 ?_
      refine x_icmp_ge (tgt := 96) hM dL_within_11 (by decide) (by omega) (by omega) (fun c_11 => ?_) (fun c_11 => ?_)
      · exfalso; omega
      · refine x_aload_n hM dL_within_14 rfl rfl ?_
        refine x_iload hM dL_within_15 rfl ?_
        refine x_callS hM ws_L_18 (m_L_firstOf h hi) ⟨Nat.le_of_ble_eq_true rfl, Nat.le_of_ble_eq_true rfl⟩ rfl rfl (Nat.le_of_ble_eq_true rfl) ⟨Nat.le_of_ble_eq_true rfl, Nat.le_of_ble_eq_true rfl⟩ dL_within_17 (k_rI ?_)
        refine x_iload_n hM dL_within_20 rfl rfl ?_
        refine x_icmp_le (tgt := 33) hM dL_within_21 (by decide) (by omega) (by omega) (fun c_21 => ?_) (fun c_21 => ?_)
        · refine x_iload_n hM dL_within_33 rfl rfl ?_
          refine x_istore hM dL_within_34 rfl (Nat.le_of_ble_eq_true rfl) rfl ?_
          refine S2 _ ?_
          first | rw [it_max1 (show L[i].2.1 ≤ a by omega)] | rw [it_max2 (show a < L[i].2.1 by omega)]
        · refine x_aload_n hM dL_within_24 rfl rfl ?_
          refine x_iload hM dL_within_25 rfl ?_
          refine x_callS hM ws_L_18 (m_L_firstOf h hi) ⟨Nat.le_of_ble_eq_true rfl, Nat.le_of_ble_eq_true rfl⟩ rfl rfl (Nat.le_of_ble_eq_true rfl) ⟨Nat.le_of_ble_eq_true rfl, Nat.le_of_ble_eq_true rfl⟩ dL_within_27 (k_rI ?_)
          refine x_goto (tgt := 34) hM dL_within_30 (by decide) ?_
          refine x_istore hM dL_within_34 rfl (Nat.le_of_ble_eq_true rfl) rfl ?_
          refine S2 _ ?_
          first | rw [it_max1 (show L[i].2.1 ≤ a by omega)] | rw [it_max2 (show a < L[i].2.1 by omega)]
  refine x_iconst hM dL_within_0 ?_
  refine x_istore hM dL_within_1 rfl (Nat.le_of_ble_eq_true rfl) rfl ?_
  refine x_iconst hM dL_within_3 ?_
  refine x_istore hM dL_within_4 rfl (Nat.le_of_ble_eq_true rfl) rfl ?_
  exact K L.length 0 0 _ _ (by omega) rfl
/-- an owner's tax of a day, of any row -/
def txL (L : List Sg) (se : Int → Int) (o : Int) : Int := cntO L o * se 1 + (mtsO L o + 9) / 10 * se 0
theorem m_L_tax {l : Launch} {G : xG} {w : Wd} {z x r e : Nat} {s : St} {L : List Sg} {o : Int} (h : obA G w x s) (h2 : rsA G w r e L) (ho : iR o) : xMet l G yL_tax cL_tax 5 (some .int) ({ frames := 5, cells := 0, slots := 0, locals := 106 } : Room) [.ref x, .ref r, .ref e, .int (iI o)] w z (rI (txL L s.set o) w z) := by
  have hW := h2.1
  have hl := hW.1
  have hm := mtsO_nn L o hW.2
  refine xMet_of RL rfl (by decide +kernel) false (by decide +kernel) (Nat.le_of_ble_eq_true rfl) rfl ?_
  intro P hM hR
  refine x_aload_n hM dL_tax_0 rfl rfl ?_
  refine x_aload_n hM dL_tax_1 rfl rfl ?_
  refine x_iload_n hM dL_tax_2 rfl rfl ?_
  refine x_callS hM ws_L_31 (m_L_meters h2 ho) ⟨Nat.le_of_ble_eq_true rfl, Nat.le_of_ble_eq_true rfl⟩ rfl rfl (Nat.le_of_ble_eq_true rfl) ⟨Nat.le_of_ble_eq_true rfl, Nat.le_of_ble_eq_true rfl⟩ dL_tax_3 (k_rI ?_)
  refine x_istore hM dL_tax_6 rfl (Nat.le_of_ble_eq_true rfl) rfl ?_
  refine x_aload_n hM dL_tax_8 rfl rfl ?_
  refine x_iload_n hM dL_tax_9 rfl rfl ?_
  refine x_callS hM ws_L_35 (m_L_many h2 ho) ⟨Nat.le_of_ble_eq_true rfl, Nat.le_of_ble_eq_true rfl⟩ rfl rfl (Nat.le_of_ble_eq_true rfl) ⟨Nat.le_of_ble_eq_true rfl, Nat.le_of_ble_eq_true rfl⟩ dL_tax_10 (k_rI ?_)
  refine x_aload_n hM dL_tax_13 rfl rfl ?_
  refine x_bipush hM dL_tax_14 rfl ?_
  refine x_callV hM wv_L_8 (o_c13 h) ⟨Nat.le_of_ble_eq_true rfl, Nat.le_of_ble_eq_true rfl⟩ (ob_o h) rfl rfl rfl rfl (Nat.le_of_ble_eq_true rfl) ⟨Nat.le_of_ble_eq_true rfl, Nat.le_of_ble_eq_true rfl⟩ dL_tax_16 (k_rI ?_)
  refine x_imul hM dL_tax_19 ?_
  refine x_iload hM dL_tax_20 rfl ?_
  refine x_bipush hM dL_tax_22 rfl ?_
  refine x_idiv hM dL_tax_24 (by omega) (by omega) (by omega) (by omega) ?_
  refine x_iload hM dL_tax_25 rfl ?_
  refine x_bipush hM dL_tax_27 rfl ?_
  refine x_irem hM dL_tax_29 (by omega) (by omega) (by omega) (by omega) ?_
  refine x_if_le (tgt := 37) hM dL_tax_30 (by decide) (by omega) (fun c_30 => ?_) (fun c_30 => ?_)
  · refine x_iconst hM dL_tax_37 ?_
    refine x_iadd hM dL_tax_38 ?_
    refine x_aload_n hM dL_tax_39 rfl rfl ?_
    refine x_bipush hM dL_tax_40 rfl ?_
    refine x_callV hM wv_L_8 (o_c12 h) ⟨Nat.le_of_ble_eq_true rfl, Nat.le_of_ble_eq_true rfl⟩ (ob_o h) rfl rfl rfl rfl (Nat.le_of_ble_eq_true rfl) ⟨Nat.le_of_ble_eq_true rfl, Nat.le_of_ble_eq_true rfl⟩ dL_tax_42 (k_rI ?_)
    refine x_imul hM dL_tax_45 ?_
    refine x_iadd hM dL_tax_46 ?_
    refine hR.i dL_tax_47 (Nat.zero_le _) (Nat.zero_le _) ?_
    exact p_rI (by unfold txL; first | rw [show (mtsO L o + 9) / 10 = mtsO L o / 10 + 1 by omega] | rw [show (mtsO L o + 9) / 10 = mtsO L o / 10 + 0 by omega])
  · refine x_iconst hM dL_tax_33 ?_
    refine x_goto (tgt := 38) hM dL_tax_34 (by decide) ?_
    refine x_iadd hM dL_tax_38 ?_
    refine x_aload_n hM dL_tax_39 rfl rfl ?_
    refine x_bipush hM dL_tax_40 rfl ?_
    refine x_callV hM wv_L_8 (o_c12 h) ⟨Nat.le_of_ble_eq_true rfl, Nat.le_of_ble_eq_true rfl⟩ (ob_o h) rfl rfl rfl rfl (Nat.le_of_ble_eq_true rfl) ⟨Nat.le_of_ble_eq_true rfl, Nat.le_of_ble_eq_true rfl⟩ dL_tax_42 (k_rI ?_)
    refine x_imul hM dL_tax_45 ?_
    refine x_iadd hM dL_tax_46 ?_
    refine hR.i dL_tax_47 (Nat.zero_le _) (Nat.zero_le _) ?_
    exact p_rI (by unfold txL; first | rw [show (mtsO L o + 9) / 10 = mtsO L o / 10 + 1 by omega] | rw [show (mtsO L o + 9) / 10 = mtsO L o / 10 + 0 by omega])
theorem sho_drop {L : List Sg} {o n : Int} {i : Nat} (h : i < L.length) : shoB (L.drop i) o n = ((decide (L[i].1 = o) && decide (L[i].2.2 - L[i].2.1 < n)) || shoB (L.drop (i + 1)) o n) := by
  rw [List.drop_eq_getElem_cons h]; rfl
theorem m_L_isShort {l : Launch} {G : xG} {w : Wd} {z r e : Nat} {L : List Sg} {o n : Int} (h : rsA G w r e L) (ho : iR o) (hn : iR n) : xMet l G yL_isShort cL_isShort 5 (some .boolean) ({ frames := 1, cells := 0, slots := 0, locals := 21 } : Room) [.ref r, .ref e, .int (iI o), .int (iI n)] w z (rI (if shoB L o n = true then 1 else 0) w z) := by
  obtain ⟨hW, f, g, ⟨r1, r2, r3⟩, r4⟩ := id h
  have hl := hW.1
  refine xMet_of RL rfl (by decide +kernel) false (by decide +kernel) (Nat.le_of_ble_eq_true rfl) rfl ?_
  intro P hM hR
  have K : ∀ (j i : Nat), i + j = L.length → shoB (L.drop i) o n = shoB L o n → P 3 [some (.ref r), some (.ref e), some (.int (iI o)), some (.int (iI n)), some (.int (iI i))] [] w (z, 0, 0) := by
    intro j
    induction j with
    | zero =>
      intro i hij hinv
      have e0 : shoB L o n = false := by rw [← hinv, List.drop_of_length_le (by omega)]; rfl
      refine x_iload hM dL_isShort_3 rfl ?_
      refine x_aload_n hM dL_isShort_5 rfl rfl ?_
      refine x_iconst hM dL_isShort_6 ?_
      refine x_iald hM r1 (by omega) dL_isShort_7 ?_
      refine x_icmp_ge (tgt := 46) hM dL_isShort_8 (by decide) (by omega) (by omega) (fun c_8 => ?_) (fun c_8 => ?_)
      · refine x_iconst hM dL_isShort_46 ?_
        refine hR.b dL_isShort_47 rfl (Nat.zero_le _) (Nat.zero_le _) ?_
        exact p_rI (by rw [e0]; rfl)
      · exfalso; omega
    | succ j ih =>
      intro i hij hinv
      have hi : i < L.length := by omega
      have hoi := strW_at hW hi
      have e1 := (r3 i hi).2
      rw [sho_drop hi] at hinv
      refine x_iload hM dL_isShort_3 rfl ?_
      refine x_aload_n hM dL_isShort_5 rfl rfl ?_
      refine x_iconst hM dL_isShort_6 ?_
      refine x_iald hM r1 (by omega) dL_isShort_7 ?_
      refine x_icmp_ge (tgt := 46) hM dL_isShort_8 (by decide) (by omega) (by omega) (fun c_8 => ?_) (fun c_8 => ?_)
      · exfalso; omega
      · refine x_aload_n hM dL_isShort_11 rfl rfl ?_
        refine x_iload hM dL_isShort_12 rfl ?_
        refine x_callS hM ws_L_28 (m_L_ownerOf h hi) ⟨Nat.le_of_ble_eq_true rfl, Nat.le_of_ble_eq_true rfl⟩ rfl rfl (Nat.le_of_ble_eq_true rfl) ⟨Nat.le_of_ble_eq_true rfl, Nat.le_of_ble_eq_true rfl⟩ dL_isShort_14 (k_rI ?_)
        refine x_iload_n hM dL_isShort_17 rfl rfl ?_
        refine x_icmp_ne (tgt := 40) hM dL_isShort_18 (by decide) (by omega) (by omega) (fun c_18 => ?_) (fun c_18 => ?_)
        · refine x_iinc hM dL_isShort_40 rfl rfl rfl ?_
          refine x_goto (tgt := 3) hM dL_isShort_43 (by decide) ?_
          refine ih (i + 1) (by omega) ?_
          rw [← hinv]; first | (rw [decide_eq_false (show ¬ L[i].1 = o by omega)]; rfl) | (rw [decide_eq_false (show ¬ L[i].2.2 - L[i].2.1 < n by omega), Bool.and_false]; rfl)
        · refine x_aload_n hM dL_isShort_21 rfl rfl ?_
          refine x_iconst hM dL_isShort_22 ?_
          refine x_iload hM dL_isShort_23 rfl ?_
          refine x_iadd hM dL_isShort_25 ?_
          refine x_iald hM (by first | assumption | exact row_c (by first | assumption | exact sr1 (by assumption) | exact sr2 (by assumption) | exact sr3 (by assumption) | exact sr4 (by assumption) | exact sr5 (by assumption) | exact rg1 (by assumption) | exact rg2 (by assumption) | exact rg3 (by assumption))) (by omega) dL_isShort_26 ?_
          refine x_aload_n hM dL_isShort_27 rfl rfl ?_
          refine x_iload hM dL_isShort_28 rfl ?_
          refine x_callS hM ws_L_18 (m_L_firstOf h hi) ⟨Nat.le_of_ble_eq_true rfl, Nat.le_of_ble_eq_true rfl⟩ rfl rfl (Nat.le_of_ble_eq_true rfl) ⟨Nat.le_of_ble_eq_true rfl, Nat.le_of_ble_eq_true rfl⟩ dL_isShort_30 (k_rI ?_)
          refine x_isub hM dL_isShort_33 ?_
          refine x_iload_n hM dL_isShort_34 rfl rfl ?_
          refine x_icmp_ge (tgt := 40) hM dL_isShort_35 (by decide) (by omega) (by omega) (fun c_35 => ?_) (fun c_35 => ?_)
          · refine x_iinc hM dL_isShort_40 rfl rfl rfl ?_
            refine x_goto (tgt := 3) hM dL_isShort_43 (by decide) ?_
            refine ih (i + 1) (by omega) ?_
            rw [← hinv]; first | (rw [decide_eq_false (show ¬ L[i].1 = o by omega)]; rfl) | (rw [decide_eq_false (show ¬ L[i].2.2 - L[i].2.1 < n by omega), Bool.and_false]; rfl)
          · refine x_iconst hM dL_isShort_38 ?_
            refine hR.b dL_isShort_39 rfl (Nat.zero_le _) (Nat.zero_le _) ?_
            exact p_rI (by rw [← hinv, decide_eq_true (show L[i].1 = o by omega), decide_eq_true (show L[i].2.2 - L[i].2.1 < n by omega)]; rfl)
  refine x_iconst hM dL_isShort_0 ?_
  refine x_istore hM dL_isShort_1 rfl (Nat.le_of_ble_eq_true rfl) rfl ?_
  exact K L.length 0 (by omega) rfl
theorem m_L_hole {l : Launch} {G : xG} {w : Wd} {z r e : Nat} {L : List Sg} {n : Int} (h : rsA G w r e L) (hn : 1 ≤ n ∧ n ≤ 10000) : xMet l G yL_hole cL_hole 6 (some .int) ({ frames := 1, cells := 0, slots := 0, locals := 21 } : Room) [.ref r, .ref e, .int (iI n)] w z (rI (fhoV L n) w z) := by
  obtain ⟨hW, f, g, ⟨r1, r2, r3⟩, r4⟩ := id h
  have hl := hW.1
  refine xMet_of RL rfl (by decide +kernel) false (by decide +kernel) (Nat.le_of_ble_eq_true rfl) rfl ?_
  intro P hM hR
  have K : ∀ (j i : Nat) (k1 : Option Value), i + j = L.length + 1 → (((gapL 0 L).drop i).foldl (gfrS n 0) ((i : Int), -6, 0)).2.1 = gfrF L n 0 → ∀ p : Int, (i ≤ L.length → p = gapP L i) → iR p → P 5 [some (.ref r), some (.ref e), some (.int (iI n)), some (.int (iI p)), some (.int (iI i)), k1] [] w (z, 0, 0) := by
    intro j
    induction j with
    | zero =>
      intro i k1 hij hinv p hp hpR
      rw [gap_foldE _ (by omega)] at hinv
      have hinv : -6 = gfrF L n 0 := hinv
      refine x_iload hM dL_hole_5 rfl ?_
      refine x_aload_n hM dL_hole_7 rfl rfl ?_
      refine x_iconst hM dL_hole_8 ?_
      refine x_iald hM r1 (by omega) dL_hole_9 ?_
      refine x_icmp_gt (tgt := 70) hM dL_hole_10 (by decide) (by omega) (by omega) (fun c_10 => ?_) (fun c_10 => ?_)
      · refine x_bipush hM dL_hole_70 rfl ?_
        refine hR.i dL_hole_72 (Nat.zero_le _) (Nat.zero_le _) ?_
        exact p_rI (by unfold fhoV; rw [if_pos hinv.symm])
      · exfalso; omega
    | succ j ih =>
      intro i k1 hij hinv p hp hpR
      have hpe := hp (by omega)
      have hpb := gapP_b hW i
      have heb := gapE_b hW i
      rw [gap_fold _ (show i ≤ L.length by omega)] at hinv
      have S : ∀ q : Int, q = gapE L i → P 35 [some (.ref r), some (.ref e), some (.int (iI n)), some (.int (iI p)), some (.int (iI i)), some (.int (iI q))] [] w (z, 0, 0) := by
        intro q hq
        by_cases c : n ≤ gapE L i - gapP L i
        · rw [show gfrS n 0 ((i : Int), -6, 0) (gapP L i, gapE L i - gapP L i) = ((i : Int) + 1, (i : Int), gapE L i - gapP L i) from if_pos ⟨c, Or.inl rfl⟩, gfr_keep _ _ _ _ (by omega)] at hinv
          refine x_iload hM dL_hole_35 rfl ?_
          refine x_iload_n hM dL_hole_37 rfl rfl ?_
          refine x_isub hM dL_hole_38 ?_
          refine x_iload_n hM dL_hole_39 rfl rfl ?_
          refine x_icmp_lt (tgt := 45) hM dL_hole_40 (by decide) (by omega) (by omega) (fun c_40 => ?_) (fun c_40 => ?_)
          · exfalso; omega
          · refine x_iload_n hM dL_hole_43 rfl rfl ?_
            refine hR.i dL_hole_44 (Nat.zero_le _) (Nat.zero_le _) ?_
            exact p_rI (by unfold fhoV; rw [← hinv, if_neg (by omega), hpe]; rfl)
        · rw [show gfrS n 0 ((i : Int), -6, 0) (gapP L i, gapE L i - gapP L i) = (((i + 1 : Nat) : Int), -6, 0) from if_neg (fun q => c q.1)] at hinv
          by_cases hi : i < L.length
          · have e1 := (r3 i hi).2
            have hoi := strW_at hW hi
            refine x_iload hM dL_hole_35 rfl ?_
            refine x_iload_n hM dL_hole_37 rfl rfl ?_
            refine x_isub hM dL_hole_38 ?_
            refine x_iload_n hM dL_hole_39 rfl rfl ?_
            refine x_icmp_lt (tgt := 45) hM dL_hole_40 (by decide) (by omega) (by omega) (fun c_40 => ?_) (fun c_40 => ?_)
            · refine x_iload hM dL_hole_45 rfl ?_
              refine x_aload_n hM dL_hole_47 rfl rfl ?_
              refine x_iconst hM dL_hole_48 ?_
              refine x_iald hM r1 (by omega) dL_hole_49 ?_
              refine x_icmp_ge (tgt := 62) hM dL_hole_50 (by decide) (by omega) (by omega) (fun c_50 => ?_) (fun c_50 => ?_)
              · exfalso; omega
              · refine x_aload_n hM dL_hole_53 rfl rfl ?_
                refine x_iconst hM dL_hole_54 ?_
                refine x_iload hM dL_hole_55 rfl ?_
                refine x_iadd hM dL_hole_57 ?_
                refine x_iald hM r2 (by omega) dL_hole_58 ?_
                rw [e1]
                refine x_goto (tgt := 63) hM dL_hole_59 (by decide) ?_
                refine x_istore_n hM dL_hole_63 rfl rfl (Nat.le_of_ble_eq_true rfl) rfl ?_
                refine x_iinc hM dL_hole_64 rfl rfl rfl ?_
                refine x_goto (tgt := 5) hM dL_hole_67 (by decide) ?_
                exact ih (i + 1) _ (by omega) hinv _ (fun _ => (gapP_s hi).symm) (by omega)
            · exfalso; omega
          · skip
            refine x_iload hM dL_hole_35 rfl ?_
            refine x_iload_n hM dL_hole_37 rfl rfl ?_
            refine x_isub hM dL_hole_38 ?_
            refine x_iload_n hM dL_hole_39 rfl rfl ?_
            refine x_icmp_lt (tgt := 45) hM dL_hole_40 (by decide) (by omega) (by omega) (fun c_40 => ?_) (fun c_40 => ?_)
            · refine x_iload hM dL_hole_45 rfl ?_
              refine x_aload_n hM dL_hole_47 rfl rfl ?_
              refine x_iconst hM dL_hole_48 ?_
              refine x_iald hM r1 (by omega) dL_hole_49 ?_
              refine x_icmp_ge (tgt := 62) hM dL_hole_50 (by decide) (by omega) (by omega) (fun c_50 => ?_) (fun c_50 => ?_)
              · refine x_iload_n hM dL_hole_62 rfl rfl ?_
                refine x_istore_n hM dL_hole_63 rfl rfl (Nat.le_of_ble_eq_true rfl) rfl ?_
                refine x_iinc hM dL_hole_64 rfl rfl rfl ?_
                refine x_goto (tgt := 5) hM dL_hole_67 (by decide) ?_
                exact ih (i + 1) _ (by omega) hinv _ (fun q => absurd q (by omega)) hpR
              · exfalso; omega
            · exfalso; omega
      by_cases hi : i < L.length
      · skip
        refine x_iload hM dL_hole_5 rfl ?_
        refine x_aload_n hM dL_hole_7 rfl rfl ?_
        refine x_iconst hM dL_hole_8 ?_
        refine x_iald hM r1 (by omega) dL_hole_9 ?_
        refine x_icmp_gt (tgt := 70) hM dL_hole_10 (by decide) (by omega) (by omega) (fun c_10 => ?_) (fun c_10 => ?_)
        · exfalso; omega
        · refine x_iload hM dL_hole_13 rfl ?_
          refine x_aload_n hM dL_hole_15 rfl rfl ?_
          refine x_iconst hM dL_hole_16 ?_
          refine x_iald hM r1 (by omega) dL_hole_17 ?_
          refine x_icmp_ge (tgt := 30) hM dL_hole_18 (by decide) (by omega) (by omega) (fun c_18 => ?_) (fun c_18 => ?_)
          · exfalso; omega
          · refine x_aload_n hM dL_hole_21 rfl rfl ?_
            refine x_iload hM dL_hole_22 rfl ?_
            refine x_callS hM ws_L_18 (m_L_firstOf h hi) ⟨Nat.le_of_ble_eq_true rfl, Nat.le_of_ble_eq_true rfl⟩ rfl rfl (Nat.le_of_ble_eq_true rfl) ⟨Nat.le_of_ble_eq_true rfl, Nat.le_of_ble_eq_true rfl⟩ dL_hole_24 (k_rI ?_)
            refine x_goto (tgt := 33) hM dL_hole_27 (by decide) ?_
            refine x_istore hM dL_hole_33 rfl (Nat.le_of_ble_eq_true rfl) rfl ?_
            exact S _ (gapE_s hi).symm
      · skip
        refine x_iload hM dL_hole_5 rfl ?_
        refine x_aload_n hM dL_hole_7 rfl rfl ?_
        refine x_iconst hM dL_hole_8 ?_
        refine x_iald hM r1 (by omega) dL_hole_9 ?_
        refine x_icmp_gt (tgt := 70) hM dL_hole_10 (by decide) (by omega) (by omega) (fun c_10 => ?_) (fun c_10 => ?_)
        · exfalso; omega
        · refine x_iload hM dL_hole_13 rfl ?_
          refine x_aload_n hM dL_hole_15 rfl rfl ?_
          refine x_iconst hM dL_hole_16 ?_
          refine x_iald hM r1 (by omega) dL_hole_17 ?_
          refine x_icmp_ge (tgt := 30) hM dL_hole_18 (by decide) (by omega) (by omega) (fun c_18 => ?_) (fun c_18 => ?_)
          · refine x_sipush hM dL_hole_30 rfl ?_
            refine x_istore hM dL_hole_33 rfl (Nat.le_of_ble_eq_true rfl) rfl ?_
            exact S _ (gapE_e (by omega)).symm
          · exfalso; omega
  refine x_iconst hM dL_hole_0 ?_
  refine x_istore_n hM dL_hole_1 rfl rfl (Nat.le_of_ble_eq_true rfl) rfl ?_
  refine x_iconst hM dL_hole_2 ?_
  refine x_istore hM dL_hole_3 rfl (Nat.le_of_ble_eq_true rfl) rfl ?_
  exact K (L.length + 1) 0 _ (by omega) rfl 0 (fun _ => rfl) (by omega)
