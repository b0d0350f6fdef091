/-! Deal: transfers (from, to, first, length, price) -/
abbrev Tr : Type := Int × Int × Int × Int × Int
abbrev okT (t : Tr) : Prop := 0 ≤ t.1 ∧ t.1 < 10 ∧ 0 ≤ t.2.1 ∧ t.2.1 < 10 ∧ t.1 ≠ t.2.1 ∧ 0 ≤ t.2.2.1 ∧ 1 ≤ t.2.2.2.1 ∧ t.2.2.1 + t.2.2.2.1 ≤ 10000 ∧ 0 ≤ t.2.2.2.2 ∧ t.2.2.2.2 ≤ 1000000
def trAt (t : Tr) (k : Int) : Int := if k = 0 then t.1 else if k = 1 then t.2.1 else if k = 2 then t.2.2.1 else if k = 3 then t.2.2.2.1 else t.2.2.2.2
def dealW (D : List Tr) : Prop := D.length ≤ 8 ∧ ∀ t ∈ D, okT t
def dealL (D : List Tr) (f : Int → Int) : Prop := ∀ (i : Nat) (hi : i < D.length) (k : Int), 0 ≤ k → k < 5 → f (i * 5 + k) = trAt D[i] k
def dealA (G : xG) (w : Wd) (d : Nat) (D : List Tr) : Prop := dealW D ∧ w d = some (.inr (0, [.ref (d + 1), .int (iI D.length)])) ∧ ∃ f : Int → Int, rowA G w (d + 1) 40 f ∧ dealL D f
theorem deal_o {G : xG} {w : Wd} {d : Nat} {D : List Tr} (h : dealA G w d D) : w d = some (.inr (0, [.ref (d + 1), .int (iI D.length)])) := h.2.1
theorem dealA.kp {G : xG} {w w1 : Wd} {d lo hi : Nat} {D : List Tr} (h : dealA G w d D) (r : Fr lo hi w w1) (a : d + 3 ≤ lo ∨ hi ≤ d) : dealA G w1 d D := by
  obtain ⟨h1, h2, f, h3, h4⟩ := h
  exact ⟨h1, (r d (by omega)).trans h2, f, h3.kp r (by omega), h4⟩
theorem dealW_at {D : List Tr} (h : dealW D) {i : Nat} (hi : i < D.length) : okT D[i] := h.2 _ (List.getElem_mem hi)
theorem m_X0_hasTransfer {l : Launch} {G : xG} {w : Wd} {z d : Nat} {i : Int} {D : List Tr} (h1 : dealA G w d D) (hi : iR i) : xMet l G yX0_hasTransfer cX0_hasTransfer 2 (some .boolean) ({ frames := 0, cells := 0, slots := 0, locals := 0 } : Room) [.ref d, .int (iI i)] w z (rI (if 0 ≤ i ∧ i < D.length then 1 else 0) w z) := by
  have hW := h1.1.1
  refine xMet_of RX0 rfl (by decide +kernel) false (by decide +kernel) (Nat.le_of_ble_eq_true rfl) rfl ?_
  intro P hM hR
  refine x_iload_n hM dX0_hasTransfer_0 rfl rfl ?_
  refine x_if_lt (tgt := 16) hM dX0_hasTransfer_1 (by decide) (by omega) (fun c_1 => ?_) (fun c_1 => ?_)
  · refine x_iconst hM dX0_hasTransfer_16 ?_
    refine hR.b dX0_hasTransfer_17 rfl (Nat.zero_le _) (Nat.zero_le _) ?_
    exact p_rI (by first | rw [if_pos (by omega)] | rw [if_neg (by omega)])
  · refine x_iload_n hM dX0_hasTransfer_4 rfl rfl ?_
    refine x_aload_n hM dX0_hasTransfer_5 rfl rfl ?_
    refine x_get hM wf_X0_24 wl_X0 (by first | assumption | exact deal_o (by assumption)) rfl dX0_hasTransfer_6 ?_
    refine x_icmp_ge (tgt := 16) hM dX0_hasTransfer_9 (by decide) (by omega) (by omega) (fun c_9 => ?_) (fun c_9 => ?_)
    · refine x_iconst hM dX0_hasTransfer_16 ?_
      refine hR.b dX0_hasTransfer_17 rfl (Nat.zero_le _) (Nat.zero_le _) ?_
      exact p_rI (by first | rw [if_pos (by omega)] | rw [if_neg (by omega)])
    · refine x_iconst hM dX0_hasTransfer_12 ?_
      refine x_goto (tgt := 17) hM dX0_hasTransfer_13 (by decide) ?_
      refine hR.b dX0_hasTransfer_17 rfl (Nat.zero_le _) (Nat.zero_le _) ?_
      exact p_rI (by first | rw [if_pos (by omega)] | rw [if_neg (by omega)])
theorem m_X0_about {l : Launch} {G : xG} {w : Wd} {z d i : Nat} {k : Int} {D : List Tr} (h1 : dealA G w d D) (hi : i < D.length) (hk : 0 ≤ k ∧ k < 5) : xMet l G yX0_about cX0_about 3 (some .int) ({ frames := 1, cells := 0, slots := 0, locals := 21 } : Room) [.ref d, .int (iI i), .int (iI k)] w z (rI (trAt D[i] k) w z) := by
  have h0 := h1
  obtain ⟨hW, ho, f, hr, hL⟩ := h1
  have hW1 := hW.1
  have e := hL i hi k hk.1 hk.2
  refine xMet_of RX0 rfl (by decide +kernel) false (by decide +kernel) (Nat.le_of_ble_eq_true rfl) rfl ?_
  intro P hM hR
  refine x_aload_n hM dX0_about_0 rfl rfl ?_
  refine x_get hM wf_X0_14 wl_X0 (by first | assumption | exact deal_o (by assumption)) rfl dX0_about_1 ?_
  refine x_iload_n hM dX0_about_4 rfl rfl ?_
  refine x_iconst hM dX0_about_5 ?_
  refine x_imul hM dX0_about_6 ?_
  refine x_iload_n hM dX0_about_7 rfl rfl ?_
  refine x_iadd hM dX0_about_8 ?_
  refine x_callV hM wv_X0_28 (m_X4_at (by first | assumption | exact sr1 (by assumption) | exact sr2 (by assumption) | exact sr3 (by assumption) | exact sr4 (by assumption) | exact sr5 (by assumption) | exact rg1 (by assumption) | exact rg2 (by assumption) | exact rg3 (by assumption)) (by omega)) ⟨Nat.le_of_ble_eq_true rfl, Nat.le_of_ble_eq_true rfl⟩ (by first | assumption | exact row_o (by first | assumption | exact sr1 (by assumption) | exact sr2 (by assumption) | exact sr3 (by assumption) | exact sr4 (by assumption) | exact sr5 (by assumption) | exact rg1 (by assumption) | exact rg2 (by assumption) | exact rg3 (by assumption))) rfl rfl rfl rfl (Nat.le_of_ble_eq_true rfl) ⟨Nat.le_of_ble_eq_true rfl, Nat.le_of_ble_eq_true rfl⟩ dX0_about_9 (k_rI ?_)
  refine hR.i dX0_about_12 (Nat.zero_le _) (Nat.zero_le _) ?_
  exact p_rI e
theorem m_X0_append {l : Launch} {G : xG} {w : Wd} {z d : Nat} {t1 t2 t3 t4 t5 : Int} {D : List Tr} (h1 : dealA G w d D) (hD : D.length < 8) (ht : okT (t1, t2, t3, t4, t5)) : xMet l G yX0_append cX0_append 7 none ({ frames := 1, cells := 0, slots := 0, locals := 22 } : Room) [.ref d, .int (iI t1), .int (iI t2), .int (iI t3), .int (iI t4), .int (iI t5)] w z (qV z fun w1 => dealA G w1 d (D ++ [(t1, t2, t3, t4, t5)]) ∧ Fr d (d + 3) w w1) := by
  obtain ⟨hW, ho, f, hr, hL⟩ := h1
  refine xMet_of RX0 rfl (by decide +kernel) false (by decide +kernel) (Nat.le_of_ble_eq_true rfl) rfl ?_
  intro P hM hR
  refine x_aload_n hM dX0_append_0 rfl rfl ?_
  refine x_get hM wf_X0_24 wl_X0 ho rfl dX0_append_1 ?_
  refine x_iconst hM dX0_append_4 ?_
  refine x_imul hM dX0_append_5 ?_
  refine x_istore hM dX0_append_6 rfl (Nat.le_of_ble_eq_true rfl) rfl ?_
  refine x_aload_n hM dX0_append_8 rfl rfl ?_
  refine x_get hM wf_X0_14 wl_X0 ho rfl dX0_append_9 ?_
  refine x_iload hM dX0_append_12 rfl ?_
  refine x_iconst hM dX0_append_14 ?_
  refine x_iadd hM dX0_append_15 ?_
  refine x_iload_n hM dX0_append_16 rfl rfl ?_
  refine x_callV hM wv_X0_32 (m_X4_store (by first | assumption | exact sr1 (by assumption) | exact sr2 (by assumption) | exact sr3 (by assumption) | exact sr4 (by assumption) | exact sr5 (by assumption) | exact rg1 (by assumption) | exact rg2 (by assumption) | exact rg3 (by assumption)) (by omega)) ⟨Nat.le_of_ble_eq_true rfl, Nat.le_of_ble_eq_true rfl⟩ (by first | assumption | exact row_o (by first | assumption | exact sr1 (by assumption) | exact sr2 (by assumption) | exact sr3 (by assumption) | exact sr4 (by assumption) | exact sr5 (by assumption) | exact rg1 (by assumption) | exact rg2 (by assumption) | exact rg3 (by assumption))) rfl rfl rfl rfl (Nat.le_of_ble_eq_true rfl) ⟨Nat.le_of_ble_eq_true rfl, Nat.le_of_ble_eq_true rfl⟩ dX0_append_17 (k_qV fun w_17 q_17 => ?_)
  subst q_17
  have r1 := hr.up (g := fU f (D.length * 5 + 0) t1)
  refine x_aload_n hM dX0_append_20 rfl rfl ?_
  refine x_get hM wf_X0_14 wl_X0 ((wS_ne (by omega)).trans ho) rfl dX0_append_21 ?_
  refine x_iload hM dX0_append_24 rfl ?_
  refine x_iconst hM dX0_append_26 ?_
  refine x_iadd hM dX0_append_27 ?_
  refine x_iload_n hM dX0_append_28 rfl rfl ?_
  refine x_callV hM wv_X0_32 (m_X4_store (by first | assumption | exact sr1 (by assumption) | exact sr2 (by assumption) | exact sr3 (by assumption) | exact sr4 (by assumption) | exact sr5 (by assumption) | exact rg1 (by assumption) | exact rg2 (by assumption) | exact rg3 (by assumption)) (by omega)) ⟨Nat.le_of_ble_eq_true rfl, Nat.le_of_ble_eq_true rfl⟩ (by first | assumption | exact row_o (by first | assumption | exact sr1 (by assumption) | exact sr2 (by assumption) | exact sr3 (by assumption) | exact sr4 (by assumption) | exact sr5 (by assumption) | exact rg1 (by assumption) | exact rg2 (by assumption) | exact rg3 (by assumption))) rfl rfl rfl rfl (Nat.le_of_ble_eq_true rfl) ⟨Nat.le_of_ble_eq_true rfl, Nat.le_of_ble_eq_true rfl⟩ dX0_append_29 (k_qV fun w_29 q_29 => ?_)
  subst q_29
  have r2 := r1.up (g := fU (fU f (D.length * 5 + 0) t1) (D.length * 5 + 1) t2)
  refine x_aload_n hM dX0_append_32 rfl rfl ?_
  refine x_get hM wf_X0_14 wl_X0 ((wS_ne (by omega)).trans ((wS_ne (by omega)).trans ho)) rfl dX0_append_33 ?_
  refine x_iload hM dX0_append_36 rfl ?_
  refine x_iconst hM dX0_append_38 ?_
  refine x_iadd hM dX0_append_39 ?_
  refine x_iload_n hM dX0_append_40 rfl rfl ?_
  refine x_callV hM wv_X0_32 (m_X4_store (by first | assumption | exact sr1 (by assumption) | exact sr2 (by assumption) | exact sr3 (by assumption) | exact sr4 (by assumption) | exact sr5 (by assumption) | exact rg1 (by assumption) | exact rg2 (by assumption) | exact rg3 (by assumption)) (by omega)) ⟨Nat.le_of_ble_eq_true rfl, Nat.le_of_ble_eq_true rfl⟩ (by first | assumption | exact row_o (by first | assumption | exact sr1 (by assumption) | exact sr2 (by assumption) | exact sr3 (by assumption) | exact sr4 (by assumption) | exact sr5 (by assumption) | exact rg1 (by assumption) | exact rg2 (by assumption) | exact rg3 (by assumption))) rfl rfl rfl rfl (Nat.le_of_ble_eq_true rfl) ⟨Nat.le_of_ble_eq_true rfl, Nat.le_of_ble_eq_true rfl⟩ dX0_append_41 (k_qV fun w_41 q_41 => ?_)
  subst q_41
  have r3 := r2.up (g := fU (fU (fU f (D.length * 5 + 0) t1) (D.length * 5 + 1) t2) (D.length * 5 + 2) t3)
  refine x_aload_n hM dX0_append_44 rfl rfl ?_
  refine x_get hM wf_X0_14 wl_X0 ((wS_ne (by omega)).trans ((wS_ne (by omega)).trans ((wS_ne (by omega)).trans ho))) rfl dX0_append_45 ?_
  refine x_iload hM dX0_append_48 rfl ?_
  refine x_iconst hM dX0_append_50 ?_
  refine x_iadd hM dX0_append_51 ?_
  refine x_iload hM dX0_append_52 rfl ?_
  refine x_callV hM wv_X0_32 (m_X4_store (by first | assumption | exact sr1 (by assumption) | exact sr2 (by assumption) | exact sr3 (by assumption) | exact sr4 (by assumption) | exact sr5 (by assumption) | exact rg1 (by assumption) | exact rg2 (by assumption) | exact rg3 (by assumption)) (by omega)) ⟨Nat.le_of_ble_eq_true rfl, Nat.le_of_ble_eq_true rfl⟩ (by first | assumption | exact row_o (by first | assumption | exact sr1 (by assumption) | exact sr2 (by assumption) | exact sr3 (by assumption) | exact sr4 (by assumption) | exact sr5 (by assumption) | exact rg1 (by assumption) | exact rg2 (by assumption) | exact rg3 (by assumption))) rfl rfl rfl rfl (Nat.le_of_ble_eq_true rfl) ⟨Nat.le_of_ble_eq_true rfl, Nat.le_of_ble_eq_true rfl⟩ dX0_append_54 (k_qV fun w_54 q_54 => ?_)
  subst q_54
  have r4 := r3.up (g := fU (fU (fU (fU f (D.length * 5 + 0) t1) (D.length * 5 + 1) t2) (D.length * 5 + 2) t3) (D.length * 5 + 3) t4)
  refine x_aload_n hM dX0_append_57 rfl rfl ?_
  refine x_get hM wf_X0_14 wl_X0 ((wS_ne (by omega)).trans ((wS_ne (by omega)).trans ((wS_ne (by omega)).trans ((wS_ne (by omega)).trans ho)))) rfl dX0_append_58 ?_
  refine x_iload hM dX0_append_61 rfl ?_
  refine x_iconst hM dX0_append_63 ?_
  refine x_iadd hM dX0_append_64 ?_
  refine x_iload hM dX0_append_65 rfl ?_
  refine x_callV hM wv_X0_32 (m_X4_store (by first | assumption | exact sr1 (by assumption) | exact sr2 (by assumption) | exact sr3 (by assumption) | exact sr4 (by assumption) | exact sr5 (by assumption) | exact rg1 (by assumption) | exact rg2 (by assumption) | exact rg3 (by assumption)) (by omega)) ⟨Nat.le_of_ble_eq_true rfl, Nat.le_of_ble_eq_true rfl⟩ (by first | assumption | exact row_o (by first | assumption | exact sr1 (by assumption) | exact sr2 (by assumption) | exact sr3 (by assumption) | exact sr4 (by assumption) | exact sr5 (by assumption) | exact rg1 (by assumption) | exact rg2 (by assumption) | exact rg3 (by assumption))) rfl rfl rfl rfl (Nat.le_of_ble_eq_true rfl) ⟨Nat.le_of_ble_eq_true rfl, Nat.le_of_ble_eq_true rfl⟩ dX0_append_67 (k_qV fun w_67 q_67 => ?_)
  subst q_67
  have r5 := r4.up (g := fU (fU (fU (fU (fU f (D.length * 5 + 0) t1) (D.length * 5 + 1) t2) (D.length * 5 + 2) t3) (D.length * 5 + 3) t4) (D.length * 5 + 4) t5)
  refine x_aload_n hM dX0_append_70 rfl rfl ?_
  refine x_dup hM dX0_append_71 rfl ?_
  refine x_get hM wf_X0_24 wl_X0 ((wS_ne (by omega)).trans ((wS_ne (by omega)).trans ((wS_ne (by omega)).trans ((wS_ne (by omega)).trans ((wS_ne (by omega)).trans ho))))) rfl dX0_append_72 ?_
  refine x_iconst hM dX0_append_75 ?_
  refine x_iadd hM dX0_append_76 ?_
  refine x_put hM wf_X0_24 wl_X0 ((wS_ne (by omega)).trans ((wS_ne (by omega)).trans ((wS_ne (by omega)).trans ((wS_ne (by omega)).trans ((wS_ne (by omega)).trans ho))))) wq_X0_24 rfl rfl (Nat.le_of_ble_eq_true rfl) rfl dX0_append_77 ?_
  refine hR.v dX0_append_80 (Nat.zero_le _) (Nat.zero_le _) ?_
  refine p_qV ⟨⟨⟨by simp; omega, fun t h => ?_⟩, by rw [List.length_append]; exact wS_eq, _, r5.wS (by omega), ?_⟩, ((((((Fr.wS (by omega) (by omega)).tr (Fr.wS (by omega) (by omega))).tr (Fr.wS (by omega) (by omega))).tr (Fr.wS (by omega) (by omega))).tr (Fr.wS (by omega) (by omega))).tr (Fr.wS (by omega) (by omega)))⟩
  · rcases List.mem_append.mp h with h | h
    · exact hW.2 t h
    · simp at h; subst h; exact ht
  · intro i hi k k1 k2
    have hi2 : i < D.length + 1 := by simpa using hi
    by_cases hl : i < D.length
    · rw [List.getElem_append_left hl, fU_ne (by omega), fU_ne (by omega), fU_ne (by omega), fU_ne (by omega), fU_ne (by omega)]
      exact hL i hl k k1 k2
    · have hie : i = D.length := by omega
      subst hie
      rw [List.getElem_append_right (Nat.le_refl _)]
      simp only [Nat.sub_self, List.getElem_cons_zero]
      unfold fU trAt
      rcases (show k = 0 ∨ k = 1 ∨ k = 2 ∨ k = 3 ∨ k = 4 by omega) with rfl | rfl | rfl | rfl | rfl <;> simp <;> omega
theorem m_X0_copy {l : Launch} {G : xG} {w : Wd} {z d b : Nat} {D E : List Tr} (h1 : dealA G w d D) (h2 : dealA G w b E) (hd : d + 3 ≤ b ∨ b + 3 ≤ d) : xMet l G yX0_copy cX0_copy 2 none ({ frames := 2, cells := 0, slots := 0, locals := 56 } : Room) [.ref d, .ref b] w z (qV z fun w1 => dealA G w1 d E ∧ Fr d (d + 3) w w1) := by
  obtain ⟨hW, ho, f, hr, hL⟩ := h1
  obtain ⟨hW2, ho2, f2, hr2, hL2⟩ := h2
  refine xMet_of RX0 rfl (by decide +kernel) false (by decide +kernel) (Nat.le_of_ble_eq_true rfl) rfl ?_
  intro P hM hR
  refine x_aload_n hM dX0_copy_0 rfl rfl ?_
  refine x_get hM wf_X0_14 wl_X0 (by first | assumption | exact deal_o (by assumption)) rfl dX0_copy_1 ?_
  refine x_aload_n hM dX0_copy_4 rfl rfl ?_
  refine x_get hM wf_X0_14 wl_X0 (by first | assumption | exact deal_o (by assumption)) rfl dX0_copy_5 ?_
  refine x_callV hM wv_X0_20 (m_X4_copy (by first | assumption | exact sr1 (by assumption) | exact sr2 (by assumption) | exact sr3 (by assumption) | exact sr4 (by assumption) | exact sr5 (by assumption) | exact rg1 (by assumption) | exact rg2 (by assumption) | exact rg3 (by assumption)) (by first | assumption | exact sr1 (by assumption) | exact sr2 (by assumption) | exact sr3 (by assumption) | exact sr4 (by assumption) | exact sr5 (by assumption) | exact rg1 (by assumption) | exact rg2 (by assumption) | exact rg3 (by assumption)) (by omega)) ⟨Nat.le_of_ble_eq_true rfl, Nat.le_of_ble_eq_true rfl⟩ (by first | assumption | exact row_o (by first | assumption | exact sr1 (by assumption) | exact sr2 (by assumption) | exact sr3 (by assumption) | exact sr4 (by assumption) | exact sr5 (by assumption) | exact rg1 (by assumption) | exact rg2 (by assumption) | exact rg3 (by assumption))) rfl rfl rfl rfl (Nat.le_of_ble_eq_true rfl) ⟨Nat.le_of_ble_eq_true rfl, Nat.le_of_ble_eq_true rfl⟩ dX0_copy_8 (k_qV fun w_8 q_8 => ?_)
  subst q_8
  refine x_aload_n hM dX0_copy_11 rfl rfl ?_
  refine x_aload_n hM dX0_copy_12 rfl rfl ?_
  refine x_get hM wf_X0_24 wl_X0 ((wS_ne (by omega)).trans ho2) rfl dX0_copy_13 ?_
  refine x_put hM wf_X0_24 wl_X0 ((wS_ne (by omega)).trans ho) wq_X0_24 rfl rfl (Nat.le_of_ble_eq_true rfl) rfl dX0_copy_16 ?_
  refine hR.v dX0_copy_19 (Nat.zero_le _) (Nat.zero_le _) ?_
  refine p_qV ⟨⟨hW2, wS_eq, _, (hr.up (g := fC f2 f 40)).wS (by omega), fun i hi k k1 k2 => ?_⟩, (Fr.wS (by omega) (by omega)).tr (Fr.wS (by omega) (by omega))⟩
  have := hW2.1
  unfold fC
  rw [if_pos (by omega)]
  exact hL2 i hi k k1 k2
