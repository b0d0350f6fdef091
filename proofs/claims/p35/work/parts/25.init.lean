/-! constructors -/
theorem m_X5_init {l : Launch} {G : xG} {w : Wd} {h : Nat} (h1 : w h = some (.inr (5, [.null, .null, .null, .null, .null, .int 0]))) : xMet l G yX5_init cX5_init 1 none ({ frames := 2, cells := 10, slots := 151, locals := 42 } : Room) [.ref h] w (h + 1) (aV fun w1 z1 => z1 = h + 11 ∧ strA G w1 h [] ∧ Fr h (h + 11) w w1) := by
  refine xMet_of RX5 rfl (by decide +kernel) true (by decide +kernel) (Nat.le_of_ble_eq_true rfl) rfl ?_
  intro P hM hR
  refine x_aload_n hM dX5_init_0 rfl rfl ?_
  refine x_objInit hM wo_X5_3 (Nat.le_of_ble_eq_true rfl) (Nat.le_of_ble_eq_true rfl) dX5_init_1 ?_
  refine x_aload_n hM dX5_init_4 rfl rfl ?_
  refine x_new (ci := 4) (fs := [.null]) hM rfl wl_X4 wk_X5_9 wn_X4 wz_X4 tyX4 tyX4_ok (by decide +kernel) (Nat.le_of_ble_eq_true rfl) (Nat.le_of_ble_eq_true rfl) dX5_init_5 ?_
  have ho := (wS_ne (e := .inr (4, [.null])) (show h ≠ h + 1 by omega)).trans h1
  refine x_dup hM dX5_init_8 rfl ?_
  refine x_bipush hM dX5_init_9 rfl ?_
  refine x_callI hM wi_X5_11 (m_X4_init (h := h + 1) (N := 42) wS_eq (by decide) rfl (by decide)) ⟨Nat.le_of_ble_eq_true rfl, Nat.le_of_ble_eq_true rfl⟩ rfl rfl (Nat.le_of_ble_eq_true rfl) ⟨Nat.le_of_ble_eq_true rfl, Nat.le_of_ble_eq_true rfl⟩ dX5_init_11 (k_aV fun w_11 z_11 q_11 => ?_)
  obtain ⟨rfl, r0, qf⟩ := q_11
  have ho := (qf h (by omega)).trans ho
  have fA := (Fr.wS (lo := h) (hi := h + 11) (w := w) (q := h + 1) (e := .inr (4, [.null])) (by omega) (by omega)).tr (qf.mo (by omega) (by omega))
  refine x_putF hM wl_X5 ho wp_X5_14 rfl rfl (Nat.le_of_ble_eq_true rfl) rfl dX5_init_14 ?_
  have ho := wS_eq (w := w_11) (q := h) (e := .inr (5, [.ref (h + 1), .null, .null, .null, .null, .int 0]))
  have r0 := r0.wS (q := h) (e := .inr (5, [.ref (h + 1), .null, .null, .null, .null, .int 0])) (by omega)
  have fA := fA.tr (Fr.wS (q := h) (e := .inr (5, [.ref (h + 1), .null, .null, .null, .null, .int 0])) (by omega) (by omega))
  refine x_aload_n hM dX5_init_17 rfl rfl ?_
  refine x_new (ci := 4) (fs := [.null]) hM rfl wl_X4 wk_X5_9 wn_X4 wz_X4 tyX4 tyX4_ok (by decide +kernel) (Nat.le_of_ble_eq_true rfl) (Nat.le_of_ble_eq_true rfl) dX5_init_18 ?_
  have ho := (wS_ne (e := .inr (4, [.null])) (show h ≠ h + 3 by omega)).trans ho
  have r0 := r0.wS (q := h + 3) (e := .inr (4, [.null])) (by omega)
  refine x_dup hM dX5_init_21 rfl ?_
  refine x_bipush hM dX5_init_22 rfl ?_
  refine x_callI hM wi_X5_11 (m_X4_init (h := h + 3) (N := 42) wS_eq (by decide) rfl (by decide)) ⟨Nat.le_of_ble_eq_true rfl, Nat.le_of_ble_eq_true rfl⟩ rfl rfl (Nat.le_of_ble_eq_true rfl) ⟨Nat.le_of_ble_eq_true rfl, Nat.le_of_ble_eq_true rfl⟩ dX5_init_24 (k_aV fun w_24 z_24 q_24 => ?_)
  obtain ⟨rfl, r1, qf⟩ := q_24
  have ho := (qf h (by omega)).trans ho
  have r0 := r0.kp qf (by omega)
  have fA := (fA.tr (Fr.wS (q := h + 3) (e := .inr (4, [.null])) (by omega) (by omega))).tr (qf.mo (by omega) (by omega))
  refine x_putF hM wl_X5 ho wp_X5_20 rfl rfl (Nat.le_of_ble_eq_true rfl) rfl dX5_init_27 ?_
  have ho := wS_eq (w := w_24) (q := h) (e := .inr (5, [.ref (h + 1), .ref (h + 3), .null, .null, .null, .int 0]))
  have r0 := r0.wS (q := h) (e := .inr (5, [.ref (h + 1), .ref (h + 3), .null, .null, .null, .int 0])) (by omega)
  have r1 := r1.wS (q := h) (e := .inr (5, [.ref (h + 1), .ref (h + 3), .null, .null, .null, .int 0])) (by omega)
  have fA := fA.tr (Fr.wS (q := h) (e := .inr (5, [.ref (h + 1), .ref (h + 3), .null, .null, .null, .int 0])) (by omega) (by omega))
  refine x_aload_n hM dX5_init_30 rfl rfl ?_
  refine x_new (ci := 4) (fs := [.null]) hM rfl wl_X4 wk_X5_9 wn_X4 wz_X4 tyX4 tyX4_ok (by decide +kernel) (Nat.le_of_ble_eq_true rfl) (Nat.le_of_ble_eq_true rfl) dX5_init_31 ?_
  have ho := (wS_ne (e := .inr (4, [.null])) (show h ≠ h + 5 by omega)).trans ho
  have r0 := r0.wS (q := h + 5) (e := .inr (4, [.null])) (by omega)
  have r1 := r1.wS (q := h + 5) (e := .inr (4, [.null])) (by omega)
  refine x_dup hM dX5_init_34 rfl ?_
  refine x_bipush hM dX5_init_35 rfl ?_
  refine x_callI hM wi_X5_11 (m_X4_init (h := h + 5) (N := 42) wS_eq (by decide) rfl (by decide)) ⟨Nat.le_of_ble_eq_true rfl, Nat.le_of_ble_eq_true rfl⟩ rfl rfl (Nat.le_of_ble_eq_true rfl) ⟨Nat.le_of_ble_eq_true rfl, Nat.le_of_ble_eq_true rfl⟩ dX5_init_37 (k_aV fun w_37 z_37 q_37 => ?_)
  obtain ⟨rfl, r2, qf⟩ := q_37
  have ho := (qf h (by omega)).trans ho
  have r0 := r0.kp qf (by omega)
  have r1 := r1.kp qf (by omega)
  have fA := (fA.tr (Fr.wS (q := h + 5) (e := .inr (4, [.null])) (by omega) (by omega))).tr (qf.mo (by omega) (by omega))
  refine x_putF hM wl_X5 ho wp_X5_23 rfl rfl (Nat.le_of_ble_eq_true rfl) rfl dX5_init_40 ?_
  have ho := wS_eq (w := w_37) (q := h) (e := .inr (5, [.ref (h + 1), .ref (h + 3), .ref (h + 5), .null, .null, .int 0]))
  have r0 := r0.wS (q := h) (e := .inr (5, [.ref (h + 1), .ref (h + 3), .ref (h + 5), .null, .null, .int 0])) (by omega)
  have r1 := r1.wS (q := h) (e := .inr (5, [.ref (h + 1), .ref (h + 3), .ref (h + 5), .null, .null, .int 0])) (by omega)
  have r2 := r2.wS (q := h) (e := .inr (5, [.ref (h + 1), .ref (h + 3), .ref (h + 5), .null, .null, .int 0])) (by omega)
  have fA := fA.tr (Fr.wS (q := h) (e := .inr (5, [.ref (h + 1), .ref (h + 3), .ref (h + 5), .null, .null, .int 0])) (by omega) (by omega))
  refine x_aload_n hM dX5_init_43 rfl rfl ?_
  refine x_new (ci := 4) (fs := [.null]) hM rfl wl_X4 wk_X5_9 wn_X4 wz_X4 tyX4 tyX4_ok (by decide +kernel) (Nat.le_of_ble_eq_true rfl) (Nat.le_of_ble_eq_true rfl) dX5_init_44 ?_
  have ho := (wS_ne (e := .inr (4, [.null])) (show h ≠ h + 7 by omega)).trans ho
  have r0 := r0.wS (q := h + 7) (e := .inr (4, [.null])) (by omega)
  have r1 := r1.wS (q := h + 7) (e := .inr (4, [.null])) (by omega)
  have r2 := r2.wS (q := h + 7) (e := .inr (4, [.null])) (by omega)
  refine x_dup hM dX5_init_47 rfl ?_
  refine x_bipush hM dX5_init_48 rfl ?_
  refine x_callI hM wi_X5_11 (m_X4_init (h := h + 7) (N := 10) wS_eq (by decide) rfl (by decide)) ⟨Nat.le_of_ble_eq_true rfl, Nat.le_of_ble_eq_true rfl⟩ rfl rfl (Nat.le_of_ble_eq_true rfl) ⟨Nat.le_of_ble_eq_true rfl, Nat.le_of_ble_eq_true rfl⟩ dX5_init_50 (k_aV fun w_50 z_50 q_50 => ?_)
  obtain ⟨rfl, r3, qf⟩ := q_50
  have ho := (qf h (by omega)).trans ho
  have r0 := r0.kp qf (by omega)
  have r1 := r1.kp qf (by omega)
  have r2 := r2.kp qf (by omega)
  have fA := (fA.tr (Fr.wS (q := h + 7) (e := .inr (4, [.null])) (by omega) (by omega))).tr (qf.mo (by omega) (by omega))
  refine x_putF hM wl_X5 ho wp_X5_26 rfl rfl (Nat.le_of_ble_eq_true rfl) rfl dX5_init_53 ?_
  have ho := wS_eq (w := w_50) (q := h) (e := .inr (5, [.ref (h + 1), .ref (h + 3), .ref (h + 5), .ref (h + 7), .null, .int 0]))
  have r0 := r0.wS (q := h) (e := .inr (5, [.ref (h + 1), .ref (h + 3), .ref (h + 5), .ref (h + 7), .null, .int 0])) (by omega)
  have r1 := r1.wS (q := h) (e := .inr (5, [.ref (h + 1), .ref (h + 3), .ref (h + 5), .ref (h + 7), .null, .int 0])) (by omega)
  have r2 := r2.wS (q := h) (e := .inr (5, [.ref (h + 1), .ref (h + 3), .ref (h + 5), .ref (h + 7), .null, .int 0])) (by omega)
  have r3 := r3.wS (q := h) (e := .inr (5, [.ref (h + 1), .ref (h + 3), .ref (h + 5), .ref (h + 7), .null, .int 0])) (by omega)
  have fA := fA.tr (Fr.wS (q := h) (e := .inr (5, [.ref (h + 1), .ref (h + 3), .ref (h + 5), .ref (h + 7), .null, .int 0])) (by omega) (by omega))
  refine x_aload_n hM dX5_init_56 rfl rfl ?_
  refine x_new (ci := 4) (fs := [.null]) hM rfl wl_X4 wk_X5_9 wn_X4 wz_X4 tyX4 tyX4_ok (by decide +kernel) (Nat.le_of_ble_eq_true rfl) (Nat.le_of_ble_eq_true rfl) dX5_init_57 ?_
  have ho := (wS_ne (e := .inr (4, [.null])) (show h ≠ h + 9 by omega)).trans ho
  have r0 := r0.wS (q := h + 9) (e := .inr (4, [.null])) (by omega)
  have r1 := r1.wS (q := h + 9) (e := .inr (4, [.null])) (by omega)
  have r2 := r2.wS (q := h + 9) (e := .inr (4, [.null])) (by omega)
  have r3 := r3.wS (q := h + 9) (e := .inr (4, [.null])) (by omega)
  refine x_dup hM dX5_init_60 rfl ?_
  refine x_bipush hM dX5_init_61 rfl ?_
  refine x_callI hM wi_X5_11 (m_X4_init (h := h + 9) (N := 10) wS_eq (by decide) rfl (by decide)) ⟨Nat.le_of_ble_eq_true rfl, Nat.le_of_ble_eq_true rfl⟩ rfl rfl (Nat.le_of_ble_eq_true rfl) ⟨Nat.le_of_ble_eq_true rfl, Nat.le_of_ble_eq_true rfl⟩ dX5_init_63 (k_aV fun w_63 z_63 q_63 => ?_)
  obtain ⟨rfl, r4, qf⟩ := q_63
  have ho := (qf h (by omega)).trans ho
  have r0 := r0.kp qf (by omega)
  have r1 := r1.kp qf (by omega)
  have r2 := r2.kp qf (by omega)
  have r3 := r3.kp qf (by omega)
  have fA := (fA.tr (Fr.wS (q := h + 9) (e := .inr (4, [.null])) (by omega) (by omega))).tr (qf.mo (by omega) (by omega))
  refine x_putF hM wl_X5 ho wp_X5_29 rfl rfl (Nat.le_of_ble_eq_true rfl) rfl dX5_init_66 ?_
  have ho := wS_eq (w := w_63) (q := h) (e := .inr (5, [.ref (h + 1), .ref (h + 3), .ref (h + 5), .ref (h + 7), .ref (h + 9), .int 0]))
  have r0 := r0.wS (q := h) (e := .inr (5, [.ref (h + 1), .ref (h + 3), .ref (h + 5), .ref (h + 7), .ref (h + 9), .int 0])) (by omega)
  have r1 := r1.wS (q := h) (e := .inr (5, [.ref (h + 1), .ref (h + 3), .ref (h + 5), .ref (h + 7), .ref (h + 9), .int 0])) (by omega)
  have r2 := r2.wS (q := h) (e := .inr (5, [.ref (h + 1), .ref (h + 3), .ref (h + 5), .ref (h + 7), .ref (h + 9), .int 0])) (by omega)
  have r3 := r3.wS (q := h) (e := .inr (5, [.ref (h + 1), .ref (h + 3), .ref (h + 5), .ref (h + 7), .ref (h + 9), .int 0])) (by omega)
  have r4 := r4.wS (q := h) (e := .inr (5, [.ref (h + 1), .ref (h + 3), .ref (h + 5), .ref (h + 7), .ref (h + 9), .int 0])) (by omega)
  have fA := fA.tr (Fr.wS (q := h) (e := .inr (5, [.ref (h + 1), .ref (h + 3), .ref (h + 5), .ref (h + 7), .ref (h + 9), .int 0])) (by omega) (by omega))
  refine hR.v dX5_init_69 (Nat.le_of_ble_eq_true rfl) (Nat.le_of_ble_eq_true rfl) ?_
  exact ⟨rfl, rfl, ⟨strW_nil, _, _, _, _, _, ⟨ho, r0, r1, r2, r3, r4⟩, fun i hi => absurd hi (Nat.not_lt_zero _), fun o o1 o2 => ⟨rfl, rfl⟩⟩, fA⟩
theorem m_X0_init {l : Launch} {G : xG} {w : Wd} {h : Nat} (h1 : w h = some (.inr (0, [.null, .int 0]))) : xMet l G yX0_init cX0_init 1 none ({ frames := 2, cells := 2, slots := 41, locals := 42 } : Room) [.ref h] w (h + 1) (aV fun w1 z1 => z1 = h + 3 ∧ dealA G w1 h [] ∧ Fr h (h + 3) w w1) := by
  refine xMet_of RX0 rfl (by decide +kernel) true (by decide +kernel) (Nat.le_of_ble_eq_true rfl) rfl ?_
  intro P hM hR
  refine x_aload_n hM dX0_init_0 rfl rfl ?_
  refine x_objInit hM wo_X0_3 (Nat.le_of_ble_eq_true rfl) (Nat.le_of_ble_eq_true rfl) dX0_init_1 ?_
  refine x_aload_n hM dX0_init_4 rfl rfl ?_
  refine x_new (ci := 4) (fs := [.null]) hM rfl wl_X4 wk_X0_9 wn_X4 wz_X4 tyX4 tyX4_ok (by decide +kernel) (Nat.le_of_ble_eq_true rfl) (Nat.le_of_ble_eq_true rfl) dX0_init_5 ?_
  have ho := (wS_ne (e := .inr (4, [.null])) (show h ≠ h + 1 by omega)).trans h1
  refine x_dup hM dX0_init_8 rfl ?_
  refine x_bipush hM dX0_init_9 rfl ?_
  refine x_callI hM wi_X0_11 (m_X4_init (h := h + 1) (N := 40) wS_eq (by decide) rfl (by decide)) ⟨Nat.le_of_ble_eq_true rfl, Nat.le_of_ble_eq_true rfl⟩ rfl rfl (Nat.le_of_ble_eq_true rfl) ⟨Nat.le_of_ble_eq_true rfl, Nat.le_of_ble_eq_true rfl⟩ dX0_init_11 (k_aV fun w_11 z_11 q_11 => ?_)
  obtain ⟨rfl, r0, qf⟩ := q_11
  have ho := (qf h (by omega)).trans ho
  refine x_putF hM wl_X0 ho wp_X0_14 rfl rfl (Nat.le_of_ble_eq_true rfl) rfl dX0_init_14 ?_
  refine hR.v dX0_init_17 (Nat.le_of_ble_eq_true rfl) (Nat.le_of_ble_eq_true rfl) ?_
  exact ⟨rfl, rfl, ⟨⟨by decide, fun t q => absurd q List.not_mem_nil⟩, wS_eq, _, r0.wS (by omega), fun i hi => absurd hi (Nat.not_lt_zero _)⟩, ((Fr.wS (by omega) (by omega)).tr (qf.mo (by omega) (by omega))).tr (Fr.wS (by omega) (by omega))⟩
/-- the state of a new register -/
def St0 : St := mkS [] (sv_f 0) (fun _ => 0) (fun _ => 0) (fun _ => 0) [] 0 0 0 0
theorem m_X3_init {l : Launch} {G : xG} {w : Wd} {h : Nat} (h1 : w h = some (.inr (3, [.null, .null, .null, .null, .null, .null, .int 0, .int 0, .int 0, .int 0]))) : xMet l G yX3_init cX3_init 2 none ({ frames := 3, cells := 21, slots := 238, locals := 62 } : Room) [.ref h] w (h + 1) (aV fun w1 z1 => z1 = h + 22 ∧ regA G w1 h St0 ∧ Fr h (h + 22) w w1) := by
  refine xMet_of RX3 rfl (by decide +kernel) true (by decide +kernel) (Nat.le_of_ble_eq_true rfl) rfl ?_
  intro P hM hR
  have K : ∀ (k i : Nat) (f : Int → Int) (w1 : Wd), 5 - i < k → i ≤ 5 → regR G w1 h [] [] f (fun _ => 0) (fun _ => 0) (fun _ => 0) 0 0 0 0 → Fr h (h + 22) w w1 → (∀ j : Int, 0 ≤ j → j < i → f j = sv_f 0 j) → P 74 [some (.ref h), some (.int (iI i))] [] w1 (h + 22, 21, 238) := by
    intro k
    induction k with
    | zero => intro i f w1 hk; omega
    | succ k ih =>
      intro i f w1 hk hi hA hF hinv
      by_cases hlt : i < 5
      · skip
        refine x_iload_n hM dX3_init_74 rfl rfl ?_
        refine x_gets hM 0 (by decide) wt_X3_44 dX3_init_75 ?_
        refine x_tlen hM (by decide) dX3_init_78 ?_
        refine x_icmp_ge (tgt := 101) hM dX3_init_79 (by decide) (by omega) (by omega) (fun c_79 => ?_) (fun c_79 => ?_)
        · exfalso; omega
        · refine x_aload_n hM dX3_init_82 rfl rfl ?_
          refine x_get hM wf_X3_30 wl_X3 (by first | assumption | exact reg_o (by assumption) | exact reg_a (by assumption)) rfl dX3_init_83 ?_
          refine x_iload_n hM dX3_init_86 rfl rfl ?_
          refine x_gets hM 0 (by decide) wt_X3_44 dX3_init_87 ?_
          refine x_iload_n hM dX3_init_90 rfl rfl ?_
          refine x_tald hM (by decide) (by omega) dX3_init_91 ?_
          refine x_callV hM wv_X3_48 (m_X4_store (rg1 hA) (by omega)) ⟨Nat.le_of_ble_eq_true rfl, Nat.le_of_ble_eq_true rfl⟩ (row_o (rg1 hA)) rfl rfl rfl rfl (Nat.le_of_ble_eq_true rfl) ⟨Nat.le_of_ble_eq_true rfl, Nat.le_of_ble_eq_true rfl⟩ dX3_init_92 (k_qV fun w_92 q_92 => ?_)
          subst q_92
          have hA2 := hA.u1 (g := fU f i (sv_f 0 i))
          refine x_iinc hM dX3_init_95 rfl rfl rfl ?_
          refine x_goto (tgt := 74) hM dX3_init_98 (by decide) ?_
          exact ih (i + 1) _ _ (by omega) (by omega) hA2 (hF.tr (Fr.wS (by omega) (by omega))) (fun j a b => (Decidable.em (j = i)).elim (fun e => by rw [e, fU_eq]) (fun e => by rw [fU_ne e]; exact hinv j a (by omega)))
      · skip
        refine x_iload_n hM dX3_init_74 rfl rfl ?_
        refine x_gets hM 0 (by decide) wt_X3_44 dX3_init_75 ?_
        refine x_tlen hM (by decide) dX3_init_78 ?_
        refine x_icmp_ge (tgt := 101) hM dX3_init_79 (by decide) (by omega) (by omega) (fun c_79 => ?_) (fun c_79 => ?_)
        · refine hR.v dX3_init_101 (Nat.le_refl _) (Nat.le_refl _) ?_
          exact ⟨rfl, rfl, ⟨⟨by decide, by decide, by decide, by decide, by decide, by decide, by decide⟩, _, _, _, _, hA, fun j a b => hinv j a (by omega), fun _ _ _ => rfl, fun _ _ _ => rfl, fun _ _ _ => rfl⟩, hF⟩
        · exfalso; omega
  refine x_aload_n hM dX3_init_0 rfl rfl ?_
  refine x_objInit hM wo_X3_3 (Nat.le_of_ble_eq_true rfl) (Nat.le_of_ble_eq_true rfl) dX3_init_1 ?_
  refine x_aload_n hM dX3_init_4 rfl rfl ?_
  refine x_new (ci := 5) (fs := [.null, .null, .null, .null, .null, .int 0]) hM rfl wl_X5 wk_X3_9 wn_X5 wz_X5 tyX5 tyX5_ok (by decide +kernel) (Nat.le_of_ble_eq_true rfl) (Nat.le_of_ble_eq_true rfl) dX3_init_5 ?_
  have ho := (wS_ne (e := .inr (5, [.null, .null, .null, .null, .null, .int 0])) (show h ≠ h + 1 by omega)).trans h1
  have fA := Fr.wS (lo := h) (hi := h + 22) (w := w) (q := h + 1) (e := .inr (5, [.null, .null, .null, .null, .null, .int 0])) (by omega) (by omega)
  refine x_dup hM dX3_init_8 rfl ?_
  refine x_callI hM wi_X3_11 (m_X5_init (h := h + 1) wS_eq) ⟨Nat.le_of_ble_eq_true rfl, Nat.le_of_ble_eq_true rfl⟩ rfl rfl (Nat.le_of_ble_eq_true rfl) ⟨Nat.le_of_ble_eq_true rfl, Nat.le_of_ble_eq_true rfl⟩ dX3_init_9 (k_aV fun w_9 z_9 q_9 => ?_)
  obtain ⟨rfl, S, qf⟩ := q_9
  have ho := (qf h (by omega)).trans ho
  have fA := fA.tr (qf.mo (by omega) (by omega))
  refine x_putF hM wl_X3 ho wp_X3_12 rfl rfl (Nat.le_of_ble_eq_true rfl) rfl dX3_init_12 ?_
  have ho : wS w_9 h (.inr (3, [.ref (h + 1), .null, .null, .null, .null, .null, .int 0, .int 0, .int 0, .int 0]) : va_E) h = _ := wS_eq
  have S := S.kp (wF (q := h) (e := (.inr (3, [.ref (h + 1), .null, .null, .null, .null, .null, .int 0, .int 0, .int 0, .int 0]) : va_E))) (by omega)
  have fA := fA.tr (Fr.wS (q := h) (e := (.inr (3, [.ref (h + 1), .null, .null, .null, .null, .null, .int 0, .int 0, .int 0, .int 0]) : va_E)) (by omega) (by omega))
  refine x_aload_n hM dX3_init_15 rfl rfl ?_
  refine x_new (ci := 0) (fs := [.null, .int 0]) hM rfl wl_X0 wk_X3_18 wn_X0 wz_X0 tyX0 tyX0_ok (by decide +kernel) (Nat.le_of_ble_eq_true rfl) (Nat.le_of_ble_eq_true rfl) dX3_init_16 ?_
  have ho := (wS_ne (e := .inr (0, [.null, .int 0])) (show h ≠ h + 12 by omega)).trans ho
  have S := S.kp (wF (q := h + 12) (e := .inr (0, [.null, .int 0]))) (by omega)
  have fA := fA.tr (Fr.wS (q := h + 12) (e := .inr (0, [.null, .int 0])) (by omega) (by omega))
  refine x_dup hM dX3_init_19 rfl ?_
  refine x_callI hM wi_X3_20 (m_X0_init (h := h + 12) wS_eq) ⟨Nat.le_of_ble_eq_true rfl, Nat.le_of_ble_eq_true rfl⟩ rfl rfl (Nat.le_of_ble_eq_true rfl) ⟨Nat.le_of_ble_eq_true rfl, Nat.le_of_ble_eq_true rfl⟩ dX3_init_20 (k_aV fun w_20 z_20 q_20 => ?_)
  obtain ⟨rfl, D, qf⟩ := q_20
  have ho := (qf h (by omega)).trans ho
  have S := S.kp qf (by omega)
  have fA := fA.tr (qf.mo (by omega) (by omega))
  refine x_putF hM wl_X3 ho wp_X3_21 rfl rfl (Nat.le_of_ble_eq_true rfl) rfl dX3_init_23 ?_
  have ho : wS w_20 h (.inr (3, [.ref (h + 1), .ref (h + 12), .null, .null, .null, .null, .int 0, .int 0, .int 0, .int 0]) : va_E) h = _ := wS_eq
  have S := S.kp (wF (q := h) (e := (.inr (3, [.ref (h + 1), .ref (h + 12), .null, .null, .null, .null, .int 0, .int 0, .int 0, .int 0]) : va_E))) (by omega)
  have D := D.kp (wF (q := h) (e := (.inr (3, [.ref (h + 1), .ref (h + 12), .null, .null, .null, .null, .int 0, .int 0, .int 0, .int 0]) : va_E))) (by omega)
  have fA := fA.tr (Fr.wS (q := h) (e := (.inr (3, [.ref (h + 1), .ref (h + 12), .null, .null, .null, .null, .int 0, .int 0, .int 0, .int 0]) : va_E)) (by omega) (by omega))
  refine x_aload_n hM dX3_init_26 rfl rfl ?_
  refine x_new (ci := 4) (fs := [.null]) hM rfl wl_X4 wk_X3_25 wn_X4 wz_X4 tyX4 tyX4_ok (by decide +kernel) (Nat.le_of_ble_eq_true rfl) (Nat.le_of_ble_eq_true rfl) dX3_init_27 ?_
  have ho := (wS_ne (e := .inr (4, [.null])) (show h ≠ h + 15 by omega)).trans ho
  have S := S.kp (wF (q := h + 15) (e := .inr (4, [.null]))) (by omega)
  have D := D.kp (wF (q := h + 15) (e := .inr (4, [.null]))) (by omega)
  have fA := fA.tr (Fr.wS (q := h + 15) (e := .inr (4, [.null])) (by omega) (by omega))
  refine x_dup hM dX3_init_30 rfl ?_
  refine x_iconst hM dX3_init_31 ?_
  refine x_callI hM wi_X3_27 (m_X4_init (h := h + 15) (N := 5) wS_eq (by decide) rfl (by decide)) ⟨Nat.le_of_ble_eq_true rfl, Nat.le_of_ble_eq_true rfl⟩ rfl rfl (Nat.le_of_ble_eq_true rfl) ⟨Nat.le_of_ble_eq_true rfl, Nat.le_of_ble_eq_true rfl⟩ dX3_init_32 (k_aV fun w_32 z_32 q_32 => ?_)
  obtain ⟨rfl, r0, qf⟩ := q_32
  have ho := (qf h (by omega)).trans ho
  have S := S.kp qf (by omega)
  have D := D.kp qf (by omega)
  have fA := fA.tr (qf.mo (by omega) (by omega))
  refine x_putF hM wl_X3 ho wp_X3_30 rfl rfl (Nat.le_of_ble_eq_true rfl) rfl dX3_init_35 ?_
  have ho : wS w_32 h (.inr (3, [.ref (h + 1), .ref (h + 12), .ref (h + 15), .null, .null, .null, .int 0, .int 0, .int 0, .int 0]) : va_E) h = _ := wS_eq
  have S := S.kp (wF (q := h) (e := (.inr (3, [.ref (h + 1), .ref (h + 12), .ref (h + 15), .null, .null, .null, .int 0, .int 0, .int 0, .int 0]) : va_E))) (by omega)
  have D := D.kp (wF (q := h) (e := (.inr (3, [.ref (h + 1), .ref (h + 12), .ref (h + 15), .null, .null, .null, .int 0, .int 0, .int 0, .int 0]) : va_E))) (by omega)
  have r0 := r0.kp (wF (q := h) (e := (.inr (3, [.ref (h + 1), .ref (h + 12), .ref (h + 15), .null, .null, .null, .int 0, .int 0, .int 0, .int 0]) : va_E))) (by omega)
  have fA := fA.tr (Fr.wS (q := h) (e := (.inr (3, [.ref (h + 1), .ref (h + 12), .ref (h + 15), .null, .null, .null, .int 0, .int 0, .int 0, .int 0]) : va_E)) (by omega) (by omega))
  refine x_aload_n hM dX3_init_38 rfl rfl ?_
  refine x_bipush hM dX3_init_39 rfl ?_
  refine x_newJ  hM wy_long (by omega) rfl (by omega) (Nat.le_of_ble_eq_true rfl) (Nat.le_of_ble_eq_true rfl) dX3_init_41 ?_
  have ho := (wS_ne (e := aJ G 10 (fun _ => 0)) (show h ≠ h + 17 by omega)).trans ho
  have S := S.kp (wF (q := h + 17) (e := aJ G 10 (fun _ => 0))) (by omega)
  have D := D.kp (wF (q := h + 17) (e := aJ G 10 (fun _ => 0))) (by omega)
  have r0 := r0.kp (wF (q := h + 17) (e := aJ G 10 (fun _ => 0))) (by omega)
  have fA := fA.tr (Fr.wS (q := h + 17) (e := aJ G 10 (fun _ => 0)) (by omega) (by omega))
  have J := wS_eq (w := (wS w_32 h (.inr (3, [.ref (h + 1), .ref (h + 12), .ref (h + 15), .null, .null, .null, .int 0, .int 0, .int 0, .int 0]) : va_E))) (q := h + 17) (e := aJ G 10 (fun _ => 0))
  refine x_putF hM wl_X3 ho wp_X3_34 rfl rfl (Nat.le_of_ble_eq_true rfl) rfl dX3_init_43 ?_
  have ho : wS (wS (wS w_32 h (.inr (3, [.ref (h + 1), .ref (h + 12), .ref (h + 15), .null, .null, .null, .int 0, .int 0, .int 0, .int 0]) : va_E)) (h + 17) (aJ G 10 (fun _ => 0))) h (.inr (3, [.ref (h + 1), .ref (h + 12), .ref (h + 15), .ref (h + 17), .null, .null, .int 0, .int 0, .int 0, .int 0]) : va_E) h = _ := wS_eq
  have S := S.kp (wF (q := h) (e := (.inr (3, [.ref (h + 1), .ref (h + 12), .ref (h + 15), .ref (h + 17), .null, .null, .int 0, .int 0, .int 0, .int 0]) : va_E))) (by omega)
  have D := D.kp (wF (q := h) (e := (.inr (3, [.ref (h + 1), .ref (h + 12), .ref (h + 15), .ref (h + 17), .null, .null, .int 0, .int 0, .int 0, .int 0]) : va_E))) (by omega)
  have r0 := r0.kp (wF (q := h) (e := (.inr (3, [.ref (h + 1), .ref (h + 12), .ref (h + 15), .ref (h + 17), .null, .null, .int 0, .int 0, .int 0, .int 0]) : va_E))) (by omega)
  have J := (wS_ne (e := (.inr (3, [.ref (h + 1), .ref (h + 12), .ref (h + 15), .ref (h + 17), .null, .null, .int 0, .int 0, .int 0, .int 0]) : va_E)) (show h + 17 ≠ h by omega)).trans J
  have fA := fA.tr (Fr.wS (q := h) (e := (.inr (3, [.ref (h + 1), .ref (h + 12), .ref (h + 15), .ref (h + 17), .null, .null, .int 0, .int 0, .int 0, .int 0]) : va_E)) (by omega) (by omega))
  refine x_aload_n hM dX3_init_46 rfl rfl ?_
  refine x_new (ci := 4) (fs := [.null]) hM rfl wl_X4 wk_X3_25 wn_X4 wz_X4 tyX4 tyX4_ok (by decide +kernel) (Nat.le_of_ble_eq_true rfl) (Nat.le_of_ble_eq_true rfl) dX3_init_47 ?_
  have ho := (wS_ne (e := .inr (4, [.null])) (show h ≠ h + 18 by omega)).trans ho
  have S := S.kp (wF (q := h + 18) (e := .inr (4, [.null]))) (by omega)
  have D := D.kp (wF (q := h + 18) (e := .inr (4, [.null]))) (by omega)
  have r0 := r0.kp (wF (q := h + 18) (e := .inr (4, [.null]))) (by omega)
  have J := (wS_ne (e := .inr (4, [.null])) (show h + 17 ≠ h + 18 by omega)).trans J
  have fA := fA.tr (Fr.wS (q := h + 18) (e := .inr (4, [.null])) (by omega) (by omega))
  refine x_dup hM dX3_init_50 rfl ?_
  refine x_bipush hM dX3_init_51 rfl ?_
  refine x_callI hM wi_X3_27 (m_X4_init (h := h + 18) (N := 10) wS_eq (by decide) rfl (by decide)) ⟨Nat.le_of_ble_eq_true rfl, Nat.le_of_ble_eq_true rfl⟩ rfl rfl (Nat.le_of_ble_eq_true rfl) ⟨Nat.le_of_ble_eq_true rfl, Nat.le_of_ble_eq_true rfl⟩ dX3_init_53 (k_aV fun w_53 z_53 q_53 => ?_)
  obtain ⟨rfl, r1, qf⟩ := q_53
  have ho := (qf h (by omega)).trans ho
  have S := S.kp qf (by omega)
  have D := D.kp qf (by omega)
  have r0 := r0.kp qf (by omega)
  have J := (qf _ (by omega)).trans J
  have fA := fA.tr (qf.mo (by omega) (by omega))
  refine x_putF hM wl_X3 ho wp_X3_38 rfl rfl (Nat.le_of_ble_eq_true rfl) rfl dX3_init_56 ?_
  have ho : wS w_53 h (.inr (3, [.ref (h + 1), .ref (h + 12), .ref (h + 15), .ref (h + 17), .ref (h + 18), .null, .int 0, .int 0, .int 0, .int 0]) : va_E) h = _ := wS_eq
  have S := S.kp (wF (q := h) (e := (.inr (3, [.ref (h + 1), .ref (h + 12), .ref (h + 15), .ref (h + 17), .ref (h + 18), .null, .int 0, .int 0, .int 0, .int 0]) : va_E))) (by omega)
  have D := D.kp (wF (q := h) (e := (.inr (3, [.ref (h + 1), .ref (h + 12), .ref (h + 15), .ref (h + 17), .ref (h + 18), .null, .int 0, .int 0, .int 0, .int 0]) : va_E))) (by omega)
  have r0 := r0.kp (wF (q := h) (e := (.inr (3, [.ref (h + 1), .ref (h + 12), .ref (h + 15), .ref (h + 17), .ref (h + 18), .null, .int 0, .int 0, .int 0, .int 0]) : va_E))) (by omega)
  have J := (wS_ne (e := (.inr (3, [.ref (h + 1), .ref (h + 12), .ref (h + 15), .ref (h + 17), .ref (h + 18), .null, .int 0, .int 0, .int 0, .int 0]) : va_E)) (show h + 17 ≠ h by omega)).trans J
  have r1 := r1.kp (wF (q := h) (e := (.inr (3, [.ref (h + 1), .ref (h + 12), .ref (h + 15), .ref (h + 17), .ref (h + 18), .null, .int 0, .int 0, .int 0, .int 0]) : va_E))) (by omega)
  have fA := fA.tr (Fr.wS (q := h) (e := (.inr (3, [.ref (h + 1), .ref (h + 12), .ref (h + 15), .ref (h + 17), .ref (h + 18), .null, .int 0, .int 0, .int 0, .int 0]) : va_E)) (by omega) (by omega))
  refine x_aload_n hM dX3_init_59 rfl rfl ?_
  refine x_new (ci := 4) (fs := [.null]) hM rfl wl_X4 wk_X3_25 wn_X4 wz_X4 tyX4 tyX4_ok (by decide +kernel) (Nat.le_of_ble_eq_true rfl) (Nat.le_of_ble_eq_true rfl) dX3_init_60 ?_
  have ho := (wS_ne (e := .inr (4, [.null])) (show h ≠ h + 20 by omega)).trans ho
  have S := S.kp (wF (q := h + 20) (e := .inr (4, [.null]))) (by omega)
  have D := D.kp (wF (q := h + 20) (e := .inr (4, [.null]))) (by omega)
  have r0 := r0.kp (wF (q := h + 20) (e := .inr (4, [.null]))) (by omega)
  have J := (wS_ne (e := .inr (4, [.null])) (show h + 17 ≠ h + 20 by omega)).trans J
  have r1 := r1.kp (wF (q := h + 20) (e := .inr (4, [.null]))) (by omega)
  have fA := fA.tr (Fr.wS (q := h + 20) (e := .inr (4, [.null])) (by omega) (by omega))
  refine x_dup hM dX3_init_63 rfl ?_
  refine x_bipush hM dX3_init_64 rfl ?_
  refine x_callI hM wi_X3_27 (m_X4_init (h := h + 20) (N := 10) wS_eq (by decide) rfl (by decide)) ⟨Nat.le_of_ble_eq_true rfl, Nat.le_of_ble_eq_true rfl⟩ rfl rfl (Nat.le_of_ble_eq_true rfl) ⟨Nat.le_of_ble_eq_true rfl, Nat.le_of_ble_eq_true rfl⟩ dX3_init_66 (k_aV fun w_66 z_66 q_66 => ?_)
  obtain ⟨rfl, r2, qf⟩ := q_66
  have ho := (qf h (by omega)).trans ho
  have S := S.kp qf (by omega)
  have D := D.kp qf (by omega)
  have r0 := r0.kp qf (by omega)
  have J := (qf _ (by omega)).trans J
  have r1 := r1.kp qf (by omega)
  have fA := fA.tr (qf.mo (by omega) (by omega))
  refine x_putF hM wl_X3 ho wp_X3_41 rfl rfl (Nat.le_of_ble_eq_true rfl) rfl dX3_init_69 ?_
  have ho : wS w_66 h (.inr (3, [.ref (h + 1), .ref (h + 12), .ref (h + 15), .ref (h + 17), .ref (h + 18), .ref (h + 20), .int 0, .int 0, .int 0, .int 0]) : va_E) h = _ := wS_eq
  have S := S.kp (wF (q := h) (e := (.inr (3, [.ref (h + 1), .ref (h + 12), .ref (h + 15), .ref (h + 17), .ref (h + 18), .ref (h + 20), .int 0, .int 0, .int 0, .int 0]) : va_E))) (by omega)
  have D := D.kp (wF (q := h) (e := (.inr (3, [.ref (h + 1), .ref (h + 12), .ref (h + 15), .ref (h + 17), .ref (h + 18), .ref (h + 20), .int 0, .int 0, .int 0, .int 0]) : va_E))) (by omega)
  have r0 := r0.kp (wF (q := h) (e := (.inr (3, [.ref (h + 1), .ref (h + 12), .ref (h + 15), .ref (h + 17), .ref (h + 18), .ref (h + 20), .int 0, .int 0, .int 0, .int 0]) : va_E))) (by omega)
  have J := (wS_ne (e := (.inr (3, [.ref (h + 1), .ref (h + 12), .ref (h + 15), .ref (h + 17), .ref (h + 18), .ref (h + 20), .int 0, .int 0, .int 0, .int 0]) : va_E)) (show h + 17 ≠ h by omega)).trans J
  have r1 := r1.kp (wF (q := h) (e := (.inr (3, [.ref (h + 1), .ref (h + 12), .ref (h + 15), .ref (h + 17), .ref (h + 18), .ref (h + 20), .int 0, .int 0, .int 0, .int 0]) : va_E))) (by omega)
  have r2 := r2.kp (wF (q := h) (e := (.inr (3, [.ref (h + 1), .ref (h + 12), .ref (h + 15), .ref (h + 17), .ref (h + 18), .ref (h + 20), .int 0, .int 0, .int 0, .int 0]) : va_E))) (by omega)
  have fA := fA.tr (Fr.wS (q := h) (e := (.inr (3, [.ref (h + 1), .ref (h + 12), .ref (h + 15), .ref (h + 17), .ref (h + 18), .ref (h + 20), .int 0, .int 0, .int 0, .int 0]) : va_E)) (by omega) (by omega))
  refine x_iconst hM dX3_init_72 ?_
  refine x_istore_n hM dX3_init_73 rfl rfl (Nat.le_of_ble_eq_true rfl) rfl ?_
  exact K 6 0 _ _ (by omega) (by omega) ⟨ho, S, D, r0, J, r1, r2⟩ fA (fun j a b => by omega)
theorem m_X1_init {l : Launch} {G : xG} {w : Wd} {h : Nat} (h1 : w h = some (.inr (1, [.null, .int 0]))) : xMet l G yX1_init cX1_init 2 none ({ frames := 4, cells := 155, slots := 1743, locals := 83 } : Room) [.ref h] w (h + 1) (aV fun w1 z1 => z1 = h + 156 ∧ hisA G w1 h [] ∧ Fr h (h + 156) w w1) := by
  refine xMet_of RX1 rfl (by decide +kernel) true (by decide +kernel) (Nat.le_of_ble_eq_true rfl) rfl ?_
  intro P hM hR
  have K : ∀ (k i : Nat) (f : Int → Option Nat) (w1 : Wd), i + k = 7 → w1 h = some (.inr (1, [.ref (h + 1), .int (iI 0)])) → w1 (h + 1) = some (aQ G 7 f) → (∀ j : Nat, j < i → f j = some (h + 2 + 22 * j)) → (∀ j : Nat, j < i → regA G w1 (h + 2 + 22 * j) St0) → Fr h (h + 156) w w1 → P 15 [some (.ref h), some (.int (iI i))] [] w1 (h + 2 + 22 * i, 1 + 22 * i, 7 + 248 * i) := by
    intro k
    induction k with
    | zero =>
      intro i f w1 hk ho hf hfv hr hF
      refine x_iload_n hM dX1_init_15 rfl rfl ?_
      refine x_aload_n hM dX1_init_16 rfl rfl ?_
      refine x_get hM wf_X1_11 wl_X1 ho rfl dX1_init_17 ?_
      refine x_alenQ hM hf dX1_init_20 ?_
      refine x_icmp_ge (tgt := 43) hM dX1_init_21 (by decide) (by omega) (by omega) (fun c_21 => ?_) (fun c_21 => ?_)
      · refine hR.v dX1_init_43 (by show 1 + 22 * i ≤ 155; omega) (by show 7 + 248 * i ≤ 1743; omega) ?_
        exact ⟨rfl, by omega, ⟨by decide, fun i => i, fun _ => St0, ⟨ho, ⟨f, hf, fun j hj => hfv j (by omega)⟩, fun j hj => hj, fun _ _ _ _ e => e, fun j hj => hr j (by omega)⟩, fun i hi => absurd hi (Nat.not_lt_zero _)⟩, hF⟩
      · exfalso; omega
    | succ k ih =>
      intro i f w1 hk ho hf hfv hr hF
      refine x_iload_n hM dX1_init_15 rfl rfl ?_
      refine x_aload_n hM dX1_init_16 rfl rfl ?_
      refine x_get hM wf_X1_11 wl_X1 ho rfl dX1_init_17 ?_
      refine x_alenQ hM hf dX1_init_20 ?_
      refine x_icmp_ge (tgt := 43) hM dX1_init_21 (by decide) (by omega) (by omega) (fun c_21 => ?_) (fun c_21 => ?_)
      · exfalso; omega
      · refine x_aload_n hM dX1_init_24 rfl rfl ?_
        refine x_get hM wf_X1_11 wl_X1 ho rfl dX1_init_25 ?_
        refine x_iload_n hM dX1_init_28 rfl rfl ?_
        refine x_new (ci := 3) (fs := [.null, .null, .null, .null, .null, .null, .int 0, .int 0, .int 0, .int 0]) hM rfl wl_X3 wk_X1_9 wn_X3 wz_X3 tyX3 tyX3_ok (by decide +kernel) (by show 1 + 22 * i + 1 ≤ 155; omega) (by show 7 + 248 * i + 10 ≤ 1743; omega) dX1_init_29 ?_
        refine x_dup hM dX1_init_32 rfl ?_
        refine x_callI hM wi_X1_17 (m_X3_init (h := h + 2 + 22 * i) wS_eq) ⟨Nat.le_of_ble_eq_true rfl, Nat.le_of_ble_eq_true rfl⟩ rfl rfl (Nat.le_of_ble_eq_true rfl) ⟨by show 1 + 22 * i + 1 + 21 ≤ 155; omega, by show 7 + 248 * i + 10 + 238 ≤ 1743; omega⟩ dX1_init_33 (k_aV fun w_33 z_33 q_33 => ?_)
        obtain ⟨rfl, qr, qf⟩ := q_33
        have hf2 := (qf (h + 1) (by omega)).trans ((wS_ne (by omega)).trans hf)
        refine x_aast hM hf2 (reg_a qr) (by omega) dX1_init_36 ?_
        refine x_iinc hM dX1_init_37 rfl rfl rfl ?_
        refine x_goto (tgt := 15) hM dX1_init_40 (by decide) ?_
        rw [show h + 2 + 22 * i + 22 = h + 2 + 22 * (i + 1) by omega]
        refine cast (congrArg (fun q : Nat × Nat => P 15 _ [] _ (h + 2 + 22 * (i + 1), q.1, q.2)) (show (1 + 22 * (i + 1), 7 + 248 * (i + 1)) = (1 + 22 * i + 1 + 21, 7 + 248 * i + 10 + 238) by ext <;> simp <;> omega)) (ih (i + 1) _ _ (by omega) ?_ wS_eq (fun j hj => ?_) (fun j hj => ?_) ?_)
        · exact (wS_ne (by omega)).trans ((qf h (by omega)).trans ((wS_ne (by omega)).trans ho))
        · by_cases e : j = i
          · subst e; exact fU_eq
          · rw [fU_ne (by omega)]; exact hfv j (by omega)
        · by_cases e : j = i
          · subst e; exact qr.kp wF (by omega)
          · exact (((hr j (by omega)).kp (wF (q := h + 2 + 22 * i)) (by omega)).kp qf (by omega)).kp wF (by omega)
        · exact ((hF.tr (Fr.wS (by omega) (by omega))).tr (qf.mo (by omega) (by omega))).tr (Fr.wS (by omega) (by omega))
  refine x_aload_n hM dX1_init_0 rfl rfl ?_
  refine x_objInit hM wo_X1_3 (Nat.le_of_ble_eq_true rfl) (Nat.le_of_ble_eq_true rfl) dX1_init_1 ?_
  refine x_aload_n hM dX1_init_4 rfl rfl ?_
  refine x_bipush hM dX1_init_5 rfl ?_
  refine x_newQ  hM wk_X1_9 (by omega) rfl (by omega) (Nat.le_of_ble_eq_true rfl) (Nat.le_of_ble_eq_true rfl) dX1_init_7 ?_
  have ho := (wS_ne (e := aQ G 7 (fun _ => none)) (show h ≠ h + 1 by omega)).trans h1
  refine x_putF hM wl_X1 ho wp_X1_11 rfl rfl (Nat.le_of_ble_eq_true rfl) rfl dX1_init_10 ?_
  refine x_iconst hM dX1_init_13 ?_
  refine x_istore_n hM dX1_init_14 rfl rfl (Nat.le_of_ble_eq_true rfl) rfl ?_
  exact K 7 0 _ _ (by omega) wS_eq ((wS_ne (by omega)).trans wS_eq) (fun j hj => absurd hj (Nat.not_lt_zero _)) (fun j hj => absurd hj (Nat.not_lt_zero _)) ((Fr.wS (by omega) (by omega)).tr (Fr.wS (by omega) (by omega)))
theorem m_X2_init {l : Launch} {G : xG} {w : Wd} {h : Nat} (h1 : w h = some (.inr (2, [.null, .int 0, .int 0, .int 0, .int 0, .int 0, .int 0]))) : xMet l G yX2_init cX2_init 1 none ({ frames := 1, cells := 1, slots := 80, locals := 20 } : Room) [.ref h] w (h + 1) (aV fun w1 z1 => z1 = h + 2 ∧ padA G w1 h [] 0 0 0 0 0 ∧ Fr h (h + 2) w w1) := by
  refine xMet_of RX2 rfl (by decide +kernel) true (by decide +kernel) (Nat.le_of_ble_eq_true rfl) rfl ?_
  intro P hM hR
  refine x_aload_n hM dX2_init_0 rfl rfl ?_
  refine x_objInit hM wo_X2_3 (Nat.le_of_ble_eq_true rfl) (Nat.le_of_ble_eq_true rfl) dX2_init_1 ?_
  refine x_aload_n hM dX2_init_4 rfl rfl ?_
  refine x_bipush hM dX2_init_5 rfl ?_
  refine x_newC  hM wy_char (by omega) rfl (by omega) (Nat.le_of_ble_eq_true rfl) (Nat.le_of_ble_eq_true rfl) dX2_init_7 ?_
  refine x_putF hM wl_X2 ((wS_ne (by omega)).trans h1) wp_X2_9 rfl rfl (Nat.le_of_ble_eq_true rfl) rfl dX2_init_9 ?_
  refine hR.v dX2_init_12 (Nat.le_refl _) (Nat.le_refl _) ?_
  exact ⟨rfl, rfl, ⟨⟨by decide, fun c q => absurd q List.not_mem_nil⟩, wS_eq, _, (wS_ne (by omega)).trans wS_eq, fun i hi => absurd hi (Nat.not_lt_zero _)⟩, (Fr.wS (by omega) (by omega)).tr (Fr.wS (by omega) (by omega))⟩
