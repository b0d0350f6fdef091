/-! The reference: undo, slots -/
theorem getLast_ix {α : Type} {hs : List α} {t : α} (h : hs.getLast? = some t) : ∃ hp : hs.length - 1 < hs.length, hs[hs.length - 1] = t := by
  have hne : hs ≠ [] := fun q => by rw [q] at h; cases h
  have hpos : 0 < hs.length := List.length_pos_iff.mpr hne
  rw [List.getLast?_eq_getElem?] at h
  exact ⟨by omega, (List.getElem?_eq_some_iff.mp h).2⟩
theorem m_X7_undo {l : Launch} {G : xG} {w : Wd} {z m : Nat} {it : Int} {t : St} {hs : List St} {sg mn pl wr : Int} (h : muA G w m it t hs sg mn pl wr) : xMet l G yX7_undo cX7_undo 2 (some .int) ({ frames := 0, cells := 0, slots := 0, locals := 0 } : Room) [.ref m] w z (qI z fun y w1 => y = (undF t hs).1 ∧ muA G w1 m it (undF t hs).2.1 (undF t hs).2.2 sg mn pl wr ∧ Fm m w w1) := by
  obtain ⟨R, hh, hn, hm, hr⟩ := id h
  obtain ⟨f0, g0, hA1, -, hA2, -⟩ := id hn
  obtain ⟨F0, M0, hF0, hM0, hle, hst⟩ := id hm
  refine xMet_of RX7 rfl (by decide +kernel) false (by decide +kernel) (Nat.le_of_ble_eq_true rfl) rfl ?_
  intro P hM hR
  cases hl : hs.getLast? with
  | none =>
    have e1 : undF t hs = (-5, t, hs) := by unfold undF; rw [hl]
    have e2 : hs = [] := List.getLast?_eq_none_iff.mp hl
    have e3 : (hs.length : Int) = 0 := by rw [e2]; rfl
    refine x_aload_n hM dX7_undo_0 rfl rfl ?_
    refine x_get hM wf_X7_58 wl_X7 hh rfl dX7_undo_1 ?_
    rw [e3]
    refine x_if_ne (tgt := 10) hM dX7_undo_4 (by decide) (by omega) (fun c_4 => ?_) (fun c_4 => ?_)
    · exfalso; omega
    · refine x_bipush hM dX7_undo_7 rfl ?_
      refine hR.i dX7_undo_9 (Nat.zero_le _) (Nat.zero_le _) ?_
      exact p_qI (show _ ∧ _ from by rw [e1]; exact ⟨rfl, h, Fm.rf⟩)
  | some u =>
    have e1 : undF t hs = ((hs.length : Int) - 1, u, hs.dropLast) := by unfold undF; rw [hl]
    obtain ⟨hp, hu⟩ := getLast_ix hl
    have hsu := hst _ hp
    rw [hu] at hsu
    have e2 : (hs.dropLast.length : Int) = (hs.length : Int) - 1 := by rw [List.length_dropLast]; omega
    have e3 : ((hs.length - 1 : Nat) : Int) = (hs.length : Int) - 1 := by omega
    rw [e3] at hsu
    have fin : ∀ (ga : Int → Int) (gb : Int → Int64) (w1 : Wd), w1 m = some (hdV m ((hs.length : Int) - 1) sg it R.length mn pl wr) → w1 (m + 1) = some (aI G 400 ga) → w1 (m + 2) = some (aJ G 10 gb) → Fm m w w1 → w1 (m + 6) = w (m + 6) → w1 (m + 7) = w (m + 7) → w1 (m + 12) = w (m + 12) → w1 (m + 13) = w (m + 13) → eqR 400 ga (fun j => F0 (((hs.length : Int) - 1) * 400 + j)) → eqR 10 gb (fun j => M0 (((hs.length : Int) - 1) * 10 + j)) → P 90 [some (.ref m), some (.int (iI 10))] [] w1 (z, 0, 0) := by
      intro ga gb w1 h0 h1 h2 hF k6 k7 k12 k13 q1 q2
      have hm2 : hmA G w1 m hs.dropLast := ⟨F0, M0, k6.trans hF0, k7.trans hM0, by omega, fun i hi => by rw [List.getElem_dropLast]; exact hst i (by omega)⟩
      refine x_aload_n hM dX7_undo_90 rfl rfl ?_
      refine x_get hM wf_X7_58 wl_X7 h0 rfl dX7_undo_91 ?_
      refine hR.i dX7_undo_94 (Nat.zero_le _) (Nat.zero_le _) ?_
      exact p_qI (show _ ∧ _ from by rw [e1]; exact ⟨rfl, ⟨R, by rw [e2]; exact h0, ⟨ga, gb, h1, nowP_ext hsu.1 q1, h2, fun j a b => (q2 j a b).trans (hsu.2 j a b)⟩, hm2, hr.kpf k12 k13⟩, hF⟩)
    have K2 : ∀ (ga : Int → Int) (k i : Nat) (gb : Int → Int64) (w1 : Wd), i + k = 10 → w1 m = some (hdV m ((hs.length : Int) - 1) sg it R.length mn pl wr) → w1 (m + 1) = some (aI G 400 ga) → w1 (m + 2) = some (aJ G 10 gb) → Fm m w w1 → w1 (m + 6) = w (m + 6) → w1 (m + 7) = w (m + 7) → w1 (m + 12) = w (m + 12) → w1 (m + 13) = w (m + 13) → eqR 400 ga (fun j => F0 (((hs.length : Int) - 1) * 400 + j)) → eqR i gb (fun j => M0 (((hs.length : Int) - 1) * 10 + j)) → P 58 [some (.ref m), some (.int (iI i))] [] w1 (z, 0, 0) := by
      intro ga k
      induction k with
      | zero =>
        intro i gb w1 hi h0 h1 h2 hF k6 k7 k12 k13 q1 q2
        have hi0 : i = 10 := by omega
        subst hi0
        refine x_iload_n hM dX7_undo_58 rfl rfl ?_
        refine x_bipush hM dX7_undo_59 rfl ?_
        refine x_icmp_ge (tgt := 90) hM dX7_undo_61 (by decide) (by omega) (by omega) (fun c_61 => ?_) (fun c_61 => ?_)
        · exact fin ga gb w1 h0 h1 h2 hF k6 k7 k12 k13 q1 q2
        · exfalso; omega
      | succ k ih =>
        intro i gb w1 hi h0 h1 h2 hF k6 k7 k12 k13 q1 q2
        refine x_iload_n hM dX7_undo_58 rfl rfl ?_
        refine x_bipush hM dX7_undo_59 rfl ?_
        refine x_icmp_ge (tgt := 90) hM dX7_undo_61 (by decide) (by omega) (by omega) (fun c_61 => ?_) (fun c_61 => ?_)
        · exfalso; omega
        · refine x_aload_n hM dX7_undo_64 rfl rfl ?_
          refine x_get hM wf_X7_13 wl_X7 h0 rfl dX7_undo_65 ?_
          refine x_iload_n hM dX7_undo_68 rfl rfl ?_
          refine x_aload_n hM dX7_undo_69 rfl rfl ?_
          refine x_get hM wf_X7_29 wl_X7 h0 rfl dX7_undo_70 ?_
          refine x_aload_n hM dX7_undo_73 rfl rfl ?_
          refine x_get hM wf_X7_58 wl_X7 h0 rfl dX7_undo_74 ?_
          refine x_bipush hM dX7_undo_77 rfl ?_
          refine x_imul hM dX7_undo_79 ?_
          refine x_iload_n hM dX7_undo_80 rfl rfl ?_
          refine x_iadd hM dX7_undo_81 ?_
          refine x_lald hM (k7.trans hM0) (by omega) dX7_undo_82 ?_
          refine x_last hM h2 (by omega) dX7_undo_83 ?_
          refine x_iinc hM dX7_undo_84 rfl rfl rfl ?_
          refine x_goto (tgt := 58) hM dX7_undo_87 (by decide) ?_
          exact ih (i + 1) _ _ (by omega) ((wS_ne (by omega)).trans h0) ((wS_ne (by omega)).trans h1) wS_eq (hF.tr (Fm.m (Fr.wS (by omega) (by omega)))) ((wS_ne (by omega)).trans k6) ((wS_ne (by omega)).trans k7) ((wS_ne (by omega)).trans k12) ((wS_ne (by omega)).trans k13) q1 (fun j a b => by by_cases q : j = (i : Int); rw [q, fU_eq]; rw [fU_ne q]; exact q2 j a (by omega))
    have K1 : ∀ (k i : Nat) (ga : Int → Int) (w1 : Wd), i + k = 400 → w1 m = some (hdV m ((hs.length : Int) - 1) sg it R.length mn pl wr) → w1 (m + 1) = some (aI G 400 ga) → w1 (m + 2) = some (aJ G 10 g0) → Fm m w w1 → w1 (m + 6) = w (m + 6) → w1 (m + 7) = w (m + 7) → w1 (m + 12) = w (m + 12) → w1 (m + 13) = w (m + 13) → eqR i ga (fun j => F0 (((hs.length : Int) - 1) * 400 + j)) → P 22 [some (.ref m), some (.int (iI i))] [] w1 (z, 0, 0) := by
      intro k
      induction k with
      | zero =>
        intro i ga w1 hi h0 h1 h2 hF k6 k7 k12 k13 q1
        have hi0 : i = 400 := by omega
        subst hi0
        refine x_iload_n hM dX7_undo_22 rfl rfl ?_
        refine x_sipush hM dX7_undo_23 rfl ?_
        refine x_icmp_ge (tgt := 56) hM dX7_undo_26 (by decide) (by omega) (by omega) (fun c_26 => ?_) (fun c_26 => ?_)
        · refine x_iconst hM dX7_undo_56 ?_
          refine x_istore_n hM dX7_undo_57 rfl rfl (Nat.le_of_ble_eq_true rfl) rfl ?_
          exact K2 ga 10 0 g0 _ rfl h0 h1 h2 hF k6 k7 k12 k13 q1 (fun j a b => by omega)
        · exfalso; omega
      | succ k ih =>
        intro i ga w1 hi h0 h1 h2 hF k6 k7 k12 k13 q1
        refine x_iload_n hM dX7_undo_22 rfl rfl ?_
        refine x_sipush hM dX7_undo_23 rfl ?_
        refine x_icmp_ge (tgt := 56) hM dX7_undo_26 (by decide) (by omega) (by omega) (fun c_26 => ?_) (fun c_26 => ?_)
        · exfalso; omega
        · refine x_aload_n hM dX7_undo_29 rfl rfl ?_
          refine x_get hM wf_X7_7 wl_X7 h0 rfl dX7_undo_30 ?_
          refine x_iload_n hM dX7_undo_33 rfl rfl ?_
          refine x_aload_n hM dX7_undo_34 rfl rfl ?_
          refine x_get hM wf_X7_26 wl_X7 h0 rfl dX7_undo_35 ?_
          refine x_aload_n hM dX7_undo_38 rfl rfl ?_
          refine x_get hM wf_X7_58 wl_X7 h0 rfl dX7_undo_39 ?_
          refine x_sipush hM dX7_undo_42 rfl ?_
          refine x_imul hM dX7_undo_45 ?_
          refine x_iload_n hM dX7_undo_46 rfl rfl ?_
          refine x_iadd hM dX7_undo_47 ?_
          refine x_iald hM (k6.trans hF0) (by omega) dX7_undo_48 ?_
          refine x_iast hM h1 (by omega) dX7_undo_49 ?_
          refine x_iinc hM dX7_undo_50 rfl rfl rfl ?_
          refine x_goto (tgt := 22) hM dX7_undo_53 (by decide) ?_
          exact ih (i + 1) _ _ (by omega) ((wS_ne (by omega)).trans h0) wS_eq ((wS_ne (by omega)).trans h2) (hF.tr (Fm.n (Fr.wS (by omega) (by omega)))) ((wS_ne (by omega)).trans k6) ((wS_ne (by omega)).trans k7) ((wS_ne (by omega)).trans k12) ((wS_ne (by omega)).trans k13) (fun j a b => by by_cases q : j = (i : Int); rw [q, fU_eq]; rw [fU_ne q]; exact q1 j a (by omega))
    refine x_aload_n hM dX7_undo_0 rfl rfl ?_
    refine x_get hM wf_X7_58 wl_X7 hh rfl dX7_undo_1 ?_
    refine x_if_ne (tgt := 10) hM dX7_undo_4 (by decide) (by omega) (fun c_4 => ?_) (fun c_4 => ?_)
    · refine x_aload_n hM dX7_undo_10 rfl rfl ?_
      refine x_dup hM dX7_undo_11 rfl ?_
      refine x_get hM wf_X7_58 wl_X7 hh rfl dX7_undo_12 ?_
      refine x_iconst hM dX7_undo_15 ?_
      refine x_isub hM dX7_undo_16 ?_
      refine x_put hM wf_X7_58 wl_X7 hh wq_X7_58 rfl rfl (Nat.le_of_ble_eq_true rfl) rfl dX7_undo_17 ?_
      refine x_iconst hM dX7_undo_20 ?_
      refine x_istore_n hM dX7_undo_21 rfl rfl (Nat.le_of_ble_eq_true rfl) rfl ?_
      exact K1 400 0 f0 _ rfl wS_eq ((wS_ne (by omega)).trans hA1) ((wS_ne (by omega)).trans hA2) (fun q a b c d e f g => wS_ne a) (wS_ne (by omega)) (wS_ne (by omega)) (wS_ne (by omega)) (wS_ne (by omega)) (fun j a b => by omega)
    · exfalso; omega
def svA (G : xG) (w : Wd) (m : Nat) (sl : Nat → Option St) : Prop := ∃ (f : Int → Int) (g : Int → Int64) (b : Int → Int), w (m + 8) = some (aI G 800 f) ∧ w (m + 9) = some (aJ G 20 g) ∧ w (m + 10) = some (aZ G 2 b) ∧ ∀ i : Nat, i < 2 → (sl i = none → b i = 0) ∧ ∀ t : St, sl i = some t → b i = 1 ∧ nowP (fun j => f (i * 400 + j)) t ∧ eqR 10 (fun j => g (i * 10 + j)) t.mon
theorem svA.kpf {G : xG} {w w1 : Wd} {m : Nat} {sl : Nat → Option St} (h : svA G w m sl) (k1 : w1 (m + 8) = w (m + 8)) (k2 : w1 (m + 9) = w (m + 9)) (k3 : w1 (m + 10) = w (m + 10)) : svA G w1 m sl := by
  obtain ⟨f, g, b, h1, h2, h3, h4⟩ := h
  exact ⟨f, g, b, k1.trans h1, k2.trans h2, k3.trans h3, h4⟩
theorem sv_up {sl : Nat → Option St} {t : St} {f0 f1 fB : Int → Int} {g0 g1 gB : Int → Int64} {b0 : Int → Int} {n : Nat} (hv : ∀ i : Nat, i < 2 → (sl i = none → b0 i = 0) ∧ ∀ t : St, sl i = some t → b0 i = 1 ∧ nowP (fun j => f0 (i * 400 + j)) t ∧ eqR 10 (fun j => g0 (i * 10 + j)) t.mon) (q1 : ∀ j : Int, (j < n * 400 ∨ (n : Int) * 400 + 400 ≤ j) → f1 j = f0 j) (q2 : ∀ j : Int, (j < n * 10 ∨ (n : Int) * 10 + 10 ≤ j) → g1 j = g0 j) (q3 : eqR 400 (fun j => f1 (n * 400 + j)) fB) (q4 : eqR 10 (fun j => g1 (n * 10 + j)) gB) (hp : nowP fB t) (hg : eqR 10 gB t.mon) : ∀ i : Nat, i < 2 → ((fun j => if j = n then some t else sl j) i = none → fU b0 n 1 i = 0) ∧ ∀ u : St, (fun j => if j = n then some t else sl j) i = some u → fU b0 n 1 i = 1 ∧ nowP (fun j => f1 (i * 400 + j)) u ∧ eqR 10 (fun j => g1 (i * 10 + j)) u.mon := by
  intro i hi
  dsimp only
  by_cases c : i = n
  · subst c
    rw [if_pos rfl]
    refine ⟨fun q => (by cases q), fun u q => ?_⟩
    cases q
    exact ⟨fU_eq, nowP_ext hp q3, fun j a b => (q4 j a b).trans (hg j a b)⟩
  · rw [if_neg c, fU_ne (by omega)]
    refine ⟨(hv i hi).1, fun u q => ?_⟩
    obtain ⟨k1, k2, k3⟩ := (hv i hi).2 u q
    refine ⟨k1, nowP_ext k2 (fun j a b => q1 _ (by omega)), fun j a b => ?_⟩
    exact (q2 _ (by omega)).trans (k3 j a b)
theorem m_X7_save {l : Launch} {G : xG} {w : Wd} {z m : Nat} {t : St} {sl : Nat → Option St} {s0 : Int} (hd : hdE w m) (hn : nowA G w m t) (hs : svA G w m sl) (hi0 : iR s0) : xMet l G yX7_save cX7_save 3 (some .int) ({ frames := 1, cells := 0, slots := 0, locals := 22 } : Room) [.ref m, .int (iI s0)] w z (qI z fun y w1 => y = (savF t sl s0).1 ∧ svA G w1 m (savF t sl s0).2 ∧ Fr (m + 8) (m + 11) w w1) := by
  obtain ⟨un, sg, it, rw', mn, pl, wr, hh⟩ := id hd
  obtain ⟨fB, gB, hB1, hp, hB2, hg⟩ := id hn
  obtain ⟨f0, g0, b0, h8, h9, h10, hv⟩ := id hs
  refine xMet_of RX7 rfl (by decide +kernel) false (by decide +kernel) (Nat.le_of_ble_eq_true rfl) rfl ?_
  intro P hM hR
  by_cases c1 : 0 ≤ s0 ∧ s0 < 2
  · obtain ⟨n, rfl⟩ : ∃ n : Nat, s0 = n := ⟨s0.toNat, by omega⟩
    have hn2 : n < 2 := by omega
    have e1 : savF t sl n = (t.day, fun j => if j = n then some t else sl j) := by unfold savF; rw [if_pos c1, Int.toNat_natCast]
    have fin : ∀ (f1 : Int → Int) (g1 : Int → Int64) (w1 : Wd), w1 (m + 8) = some (aI G 800 f1) → w1 (m + 9) = some (aJ G 20 g1) → w1 (m + 10) = w (m + 10) → Fr (m + 8) (m + 11) w w1 → (∀ j : Int, (j < n * 400 ∨ (n : Int) * 400 + 400 ≤ j) → f1 j = f0 j) → (∀ j : Int, (j < n * 10 ∨ (n : Int) * 10 + 10 ≤ j) → g1 j = g0 j) → eqR 400 (fun j => f1 (n * 400 + j)) fB → eqR 10 (fun j => g1 (n * 10 + j)) gB → P 76 [some (.ref m), some (.int (iI n)), some (.int (iI 10))] [] w1 (z, 0, 0) := by
      intro f1 g1 w1 k8 k9 k10 hF q1 q2 q3 q4
      have hh1 := (hF m (by omega)).trans hh
      have hb1 := (hF (m + 1) (by omega)).trans hB1
      refine x_aload_n hM dX7_save_76 rfl rfl ?_
      refine x_get hM wf_X7_38 wl_X7 hh1 rfl dX7_save_77 ?_
      refine x_iload_n hM dX7_save_80 rfl rfl ?_
      refine x_iconst hM dX7_save_81 ?_
      refine x_zast hM (k10.trans h10) (by omega) rfl dX7_save_82 ?_
      refine x_aload_n hM dX7_save_83 rfl rfl ?_
      refine x_get hM wf_X7_7 wl_X7 ((wS_ne (by omega)).trans hh1) rfl dX7_save_84 ?_
      refine x_iconst hM dX7_save_87 ?_
      refine x_iald hM ((wS_ne (by omega)).trans hb1) (by omega) dX7_save_88 ?_
      rw [np_day hp]
      refine hR.i dX7_save_89 (Nat.zero_le _) (Nat.zero_le _) ?_
      exact p_qI (show _ ∧ _ from by rw [e1]; exact ⟨rfl, ⟨f1, g1, _, (wS_ne (by omega)).trans k8, (wS_ne (by omega)).trans k9, wS_eq, sv_up hv q1 q2 q3 q4 hp hg⟩, hF.tr (Fr.wS (by omega) (by omega))⟩)
    have K2 : ∀ (f1 : Int → Int) (k i : Nat) (g1 : Int → Int64) (w1 : Wd), i + k = 10 → w1 (m + 8) = some (aI G 800 f1) → w1 (m + 9) = some (aJ G 20 g1) → w1 (m + 10) = w (m + 10) → Fr (m + 8) (m + 11) w w1 → (∀ j : Int, (j < n * 400 ∨ (n : Int) * 400 + 400 ≤ j) → f1 j = f0 j) → (∀ j : Int, (j < n * 10 ∨ (n : Int) * 10 + 10 ≤ j) → g1 j = g0 j) → eqR 400 (fun j => f1 (n * 400 + j)) fB → eqR i (fun j => g1 (n * 10 + j)) gB → P 47 [some (.ref m), some (.int (iI n)), some (.int (iI i))] [] w1 (z, 0, 0) := by
      intro f1 k
      induction k with
      | zero =>
        intro i g1 w1 hi k8 k9 k10 hF q1 q2 q3 q4
        have hi0 : i = 10 := by omega
        subst hi0
        refine x_iload_n hM dX7_save_47 rfl rfl ?_
        refine x_bipush hM dX7_save_48 rfl ?_
        refine x_icmp_ge (tgt := 76) hM dX7_save_50 (by decide) (by omega) (by omega) (fun c_50 => ?_) (fun c_50 => ?_)
        · exact fin f1 g1 w1 k8 k9 k10 hF q1 q2 q3 q4
        · exfalso; omega
      | succ k ih =>
        intro i g1 w1 hi k8 k9 k10 hF q1 q2 q3 q4
        have hh1 := (hF m (by omega)).trans hh
        have hb1 := (hF (m + 2) (by omega)).trans hB2
        refine x_iload_n hM dX7_save_47 rfl rfl ?_
        refine x_bipush hM dX7_save_48 rfl ?_
        refine x_icmp_ge (tgt := 76) hM dX7_save_50 (by decide) (by omega) (by omega) (fun c_50 => ?_) (fun c_50 => ?_)
        · exfalso; omega
        · refine x_aload_n hM dX7_save_53 rfl rfl ?_
          refine x_get hM wf_X7_35 wl_X7 hh1 rfl dX7_save_54 ?_
          refine x_iload_n hM dX7_save_57 rfl rfl ?_
          refine x_bipush hM dX7_save_58 rfl ?_
          refine x_imul hM dX7_save_60 ?_
          refine x_iload_n hM dX7_save_61 rfl rfl ?_
          refine x_iadd hM dX7_save_62 ?_
          refine x_aload_n hM dX7_save_63 rfl rfl ?_
          refine x_get hM wf_X7_13 wl_X7 hh1 rfl dX7_save_64 ?_
          refine x_iload_n hM dX7_save_67 rfl rfl ?_
          refine x_lald hM hb1 (by omega) dX7_save_68 ?_
          refine x_last hM k9 (by omega) dX7_save_69 ?_
          refine x_iinc hM dX7_save_70 rfl rfl rfl ?_
          refine x_goto (tgt := 47) hM dX7_save_73 (by decide) ?_
          exact ih (i + 1) _ _ (by omega) ((wS_ne (by omega)).trans k8) wS_eq ((wS_ne (by omega)).trans k10) (hF.tr (Fr.wS (by omega) (by omega))) q1 (fun j hj => (fU_ne (by omega)).trans (q2 j hj)) q3 (fun j a b => by try dsimp only; (by_cases q : j = (i : Int); rw [q, fU_eq]; rw [fU_ne (by omega)]; exact q4 j a (by omega)))
    have K1 : ∀ (k i : Nat) (f1 : Int → Int) (w1 : Wd), i + k = 400 → w1 (m + 8) = some (aI G 800 f1) → w1 (m + 9) = some (aJ G 20 g0) → w1 (m + 10) = w (m + 10) → Fr (m + 8) (m + 11) w w1 → (∀ j : Int, (j < n * 400 ∨ (n : Int) * 400 + 400 ≤ j) → f1 j = f0 j) → eqR i (fun j => f1 (n * 400 + j)) fB → P 14 [some (.ref m), some (.int (iI n)), some (.int (iI i))] [] w1 (z, 0, 0) := by
      intro k
      induction k with
      | zero =>
        intro i f1 w1 hi k8 k9 k10 hF q1 q3
        have hi0 : i = 400 := by omega
        subst hi0
        refine x_iload_n hM dX7_save_14 rfl rfl ?_
        refine x_sipush hM dX7_save_15 rfl ?_
        refine x_icmp_ge (tgt := 45) hM dX7_save_18 (by decide) (by omega) (by omega) (fun c_18 => ?_) (fun c_18 => ?_)
        · refine x_iconst hM dX7_save_45 ?_
          refine x_istore_n hM dX7_save_46 rfl rfl (Nat.le_of_ble_eq_true rfl) rfl ?_
          exact K2 f1 10 0 g0 _ rfl k8 k9 k10 hF q1 (fun j hj => rfl) q3 (fun j a b => by omega)
        · exfalso; omega
      | succ k ih =>
        intro i f1 w1 hi k8 k9 k10 hF q1 q3
        have hh1 := (hF m (by omega)).trans hh
        have hb1 := (hF (m + 1) (by omega)).trans hB1
        refine x_iload_n hM dX7_save_14 rfl rfl ?_
        refine x_sipush hM dX7_save_15 rfl ?_
        refine x_icmp_ge (tgt := 45) hM dX7_save_18 (by decide) (by omega) (by omega) (fun c_18 => ?_) (fun c_18 => ?_)
        · exfalso; omega
        · refine x_aload_n hM dX7_save_21 rfl rfl ?_
          refine x_get hM wf_X7_32 wl_X7 hh1 rfl dX7_save_22 ?_
          refine x_iload_n hM dX7_save_25 rfl rfl ?_
          refine x_sipush hM dX7_save_26 rfl ?_
          refine x_imul hM dX7_save_29 ?_
          refine x_iload_n hM dX7_save_30 rfl rfl ?_
          refine x_iadd hM dX7_save_31 ?_
          refine x_aload_n hM dX7_save_32 rfl rfl ?_
          refine x_get hM wf_X7_7 wl_X7 hh1 rfl dX7_save_33 ?_
          refine x_iload_n hM dX7_save_36 rfl rfl ?_
          refine x_iald hM hb1 (by omega) dX7_save_37 ?_
          refine x_iast hM k8 (by omega) dX7_save_38 ?_
          refine x_iinc hM dX7_save_39 rfl rfl rfl ?_
          refine x_goto (tgt := 14) hM dX7_save_42 (by decide) ?_
          exact ih (i + 1) _ _ (by omega) wS_eq ((wS_ne (by omega)).trans k9) ((wS_ne (by omega)).trans k10) (hF.tr (Fr.wS (by omega) (by omega))) (fun j hj => (fU_ne (by omega)).trans (q1 j hj)) (fun j a b => by try dsimp only; (by_cases q : j = (i : Int); rw [q, fU_eq]; rw [fU_ne (by omega)]; exact q3 j a (by omega)))
    refine x_iload_n hM dX7_save_0 rfl rfl ?_
    refine x_iconst hM dX7_save_1 ?_
    refine x_iconst hM dX7_save_2 ?_
    refine x_callS hM ws_X7_62 (m_X7_in (by omega) (by omega) (by omega)) ⟨Nat.le_of_ble_eq_true rfl, Nat.le_of_ble_eq_true rfl⟩ rfl rfl (Nat.le_of_ble_eq_true rfl) ⟨Nat.le_of_ble_eq_true rfl, Nat.le_of_ble_eq_true rfl⟩ dX7_save_3 (k_rI ?_)
    rw [if_pos (show 0 ≤ (n : Int) ∧ (n : Int) ≤ 1 by omega)]
    refine x_if_ne (tgt := 12) hM dX7_save_6 (by decide) (by omega) (fun c_6 => ?_) (fun c_6 => ?_)
    · refine x_iconst hM dX7_save_12 ?_
      refine x_istore_n hM dX7_save_13 rfl rfl (Nat.le_of_ble_eq_true rfl) rfl ?_
      exact K1 400 0 f0 _ rfl h8 h9 rfl Fr.rf (fun j hj => rfl) (fun j a b => by omega)
    · exfalso; omega
  · skip
    refine x_iload_n hM dX7_save_0 rfl rfl ?_
    refine x_iconst hM dX7_save_1 ?_
    refine x_iconst hM dX7_save_2 ?_
    refine x_callS hM ws_X7_62 (m_X7_in (by omega) (by omega) (by omega)) ⟨Nat.le_of_ble_eq_true rfl, Nat.le_of_ble_eq_true rfl⟩ rfl rfl (Nat.le_of_ble_eq_true rfl) ⟨Nat.le_of_ble_eq_true rfl, Nat.le_of_ble_eq_true rfl⟩ dX7_save_3 (k_rI ?_)
    rw [if_neg (show ¬ (0 ≤ s0 ∧ s0 ≤ 1) by omega)]
    refine x_if_ne (tgt := 12) hM dX7_save_6 (by decide) (by omega) (fun c_6 => ?_) (fun c_6 => ?_)
    · exfalso; omega
    · refine x_bipush hM dX7_save_9 rfl ?_
      refine hR.i dX7_save_11 (Nat.zero_le _) (Nat.zero_le _) ?_
      exact p_qI (show _ ∧ _ from by rw [show savF t sl s0 = (-2, sl) from if_neg c1]; exact ⟨rfl, hs, Fr.rf⟩)
theorem m_X7_restore {l : Launch} {G : xG} {w : Wd} {z m : Nat} {it : Int} {t : St} {hs : List St} {sl : Nat → Option St} {sg mn pl wr s0 : Int} (h : muA G w m it t hs sg mn pl wr) (hit : it = 0 ∨ it = 1) (hs0 : svA G w m sl) (hday : ∀ (i : Nat) (u : St), i < 2 → sl i = some u → 0 ≤ u.day) (hi0 : iR s0) : xMet l G yX7_restore cX7_restore 3 (some .int) ({ frames := 1, cells := 0, slots := 0, locals := 22 } : Room) [.ref m, .int (iI s0)] w z (mrP G w z m it t hs sg mn pl wr (cbF t sl s0)) := by
  obtain ⟨R, hh, hn, hm, hr⟩ := id h
  obtain ⟨fB, gB, hB1, hp, hB2, hg⟩ := id hn
  obtain ⟨f0, g0, b0, h8, h9, h10, hv⟩ := id hs0
  refine xMet_of RX7 rfl (by decide +kernel) false (by decide +kernel) (Nat.le_of_ble_eq_true rfl) rfl ?_
  intro P hM hR
  by_cases c1 : 0 ≤ s0 ∧ s0 < 2
  · obtain ⟨n, rfl⟩ : ∃ n : Nat, s0 = n := ⟨s0.toNat, by omega⟩
    have hn2 : n < 2 := by omega
    obtain ⟨v1, v2⟩ := hv n hn2
    cases e : sl n with
    | none =>
      have e1 : cbF t sl n = (-5, t) := by unfold cbF; rw [if_pos c1, Int.toNat_natCast, e]
      refine x_iload_n hM dX7_restore_0 rfl rfl ?_
      refine x_iconst hM dX7_restore_1 ?_
      refine x_iconst hM dX7_restore_2 ?_
      refine x_callS hM ws_X7_62 (m_X7_in (by omega) (by omega) (by omega)) ⟨Nat.le_of_ble_eq_true rfl, Nat.le_of_ble_eq_true rfl⟩ rfl rfl (Nat.le_of_ble_eq_true rfl) ⟨Nat.le_of_ble_eq_true rfl, Nat.le_of_ble_eq_true rfl⟩ dX7_restore_3 (k_rI ?_)
      rw [if_pos (show 0 ≤ (n : Int) ∧ (n : Int) ≤ 1 by omega)]
      refine x_if_ne (tgt := 12) hM dX7_restore_6 (by decide) (by omega) (fun c_6 => ?_) (fun c_6 => ?_)
      · refine x_aload_n hM dX7_restore_12 rfl rfl ?_
        refine x_get hM wf_X7_38 wl_X7 hh rfl dX7_restore_13 ?_
        refine x_iload_n hM dX7_restore_16 rfl rfl ?_
        refine x_zald hM h10 (by omega) dX7_restore_17 ?_
        rw [v1 e]
        refine x_if_ne (tgt := 24) hM dX7_restore_18 (by decide) (by omega) (fun c_18 => ?_) (fun c_18 => ?_)
        · exfalso; omega
        · refine x_bipush hM dX7_restore_21 rfl ?_
          refine hR.i dX7_restore_23 (Nat.zero_le _) (Nat.zero_le _) ?_
          exact p_mr0 e1 (by decide) h
      · exfalso; omega
    | some u =>
      have e1 : cbF t sl n = (u.day, u) := by unfold cbF; rw [if_pos c1, Int.toNat_natCast, e]
      obtain ⟨u1, u2, u3⟩ := v2 u e
      have hud := hday n u hn2 e
      have K2 : ∀ (ga : Int → Int) (k i : Nat) (gb : Int → Int64) (w1 : Wd), i + k = 10 → w1 m = some (hdV m (recN it hs t).length sg it R.length mn pl wr) → w1 (m + 1) = some (aI G 400 ga) → w1 (m + 2) = some (aJ G 10 gb) → Fm m w w1 → hmA G w1 m (recN it hs t) → rwA G w1 m R → eqR 400 ga (fun j => f0 (n * 400 + j)) → eqR i gb (fun j => g0 (n * 10 + j)) → P 63 [some (.ref m), some (.int (iI n)), some (.int (iI i))] [] w1 (z, 0, 0) := by
        intro ga k
        induction k with
        | zero =>
          intro i gb w1 hi k0 k1 k2 hF k6 k12 q1 q2
          have hi0 : i = 10 := by omega
          subst hi0
          have hpu := nowP_ext u2 q1
          refine x_iload_n hM dX7_restore_63 rfl rfl ?_
          refine x_bipush hM dX7_restore_64 rfl ?_
          refine x_icmp_ge (tgt := 92) hM dX7_restore_66 (by decide) (by omega) (by omega) (fun c_66 => ?_) (fun c_66 => ?_)
          · refine x_aload_n hM dX7_restore_92 rfl rfl ?_
            refine x_get hM wf_X7_7 wl_X7 k0 rfl dX7_restore_93 ?_
            refine x_iconst hM dX7_restore_96 ?_
            refine x_iald hM k1 (by omega) dX7_restore_97 ?_
            rw [np_day hpu]
            refine hR.i dX7_restore_98 (Nat.zero_le _) (Nat.zero_le _) ?_
            exact p_mr e1 hud ⟨R, k0, ⟨ga, gb, k1, hpu, k2, fun j a b => (q2 j a b).trans (u3 j a b)⟩, k6, k12⟩ hF
          · exfalso; omega
        | succ k ih =>
          intro i gb w1 hi k0 k1 k2 hF k6 k12 q1 q2
          have k9 := (hF (m + 9) (by omega) (by omega) (by omega) (by omega) (by omega) (by omega) (by omega)).trans h9
          refine x_iload_n hM dX7_restore_63 rfl rfl ?_
          refine x_bipush hM dX7_restore_64 rfl ?_
          refine x_icmp_ge (tgt := 92) hM dX7_restore_66 (by decide) (by omega) (by omega) (fun c_66 => ?_) (fun c_66 => ?_)
          · exfalso; omega
          · refine x_aload_n hM dX7_restore_69 rfl rfl ?_
            refine x_get hM wf_X7_13 wl_X7 k0 rfl dX7_restore_70 ?_
            refine x_iload_n hM dX7_restore_73 rfl rfl ?_
            refine x_aload_n hM dX7_restore_74 rfl rfl ?_
            refine x_get hM wf_X7_35 wl_X7 k0 rfl dX7_restore_75 ?_
            refine x_iload_n hM dX7_restore_78 rfl rfl ?_
            refine x_bipush hM dX7_restore_79 rfl ?_
            refine x_imul hM dX7_restore_81 ?_
            refine x_iload_n hM dX7_restore_82 rfl rfl ?_
            refine x_iadd hM dX7_restore_83 ?_
            refine x_lald hM k9 (by omega) dX7_restore_84 ?_
            refine x_last hM k2 (by omega) dX7_restore_85 ?_
            refine x_iinc hM dX7_restore_86 rfl rfl rfl ?_
            refine x_goto (tgt := 63) hM dX7_restore_89 (by decide) ?_
            exact ih (i + 1) _ _ (by omega) ((wS_ne (by omega)).trans k0) ((wS_ne (by omega)).trans k1) wS_eq (hF.tr (Fm.m (Fr.wS (by omega) (by omega)))) (k6.kpf (wS_ne (by omega)) (wS_ne (by omega))) (k12.kpf (wS_ne (by omega)) (wS_ne (by omega))) q1 (fun j a b => by by_cases q : j = (i : Int); rw [q, fU_eq]; rw [fU_ne q]; exact q2 j a (by omega))
      have K1 : ∀ (k i : Nat) (ga : Int → Int) (w1 : Wd), i + k = 400 → w1 m = some (hdV m (recN it hs t).length sg it R.length mn pl wr) → w1 (m + 1) = some (aI G 400 ga) → w1 (m + 2) = some (aJ G 10 gB) → Fm m w w1 → hmA G w1 m (recN it hs t) → rwA G w1 m R → eqR i ga (fun j => f0 (n * 400 + j)) → P 30 [some (.ref m), some (.int (iI n)), some (.int (iI i))] [] w1 (z, 0, 0) := by
        intro k
        induction k with
        | zero =>
          intro i ga w1 hi k0 k1 k2 hF k6 k12 q1
          have hi0 : i = 400 := by omega
          subst hi0
          refine x_iload_n hM dX7_restore_30 rfl rfl ?_
          refine x_sipush hM dX7_restore_31 rfl ?_
          refine x_icmp_ge (tgt := 61) hM dX7_restore_34 (by decide) (by omega) (by omega) (fun c_34 => ?_) (fun c_34 => ?_)
          · refine x_iconst hM dX7_restore_61 ?_
            refine x_istore_n hM dX7_restore_62 rfl rfl (Nat.le_of_ble_eq_true rfl) rfl ?_
            exact K2 ga 10 0 gB _ rfl k0 k1 k2 hF k6 k12 q1 (fun j a b => by omega)
          · exfalso; omega
        | succ k ih =>
          intro i ga w1 hi k0 k1 k2 hF k6 k12 q1
          have k8 := (hF (m + 8) (by omega) (by omega) (by omega) (by omega) (by omega) (by omega) (by omega)).trans h8
          refine x_iload_n hM dX7_restore_30 rfl rfl ?_
          refine x_sipush hM dX7_restore_31 rfl ?_
          refine x_icmp_ge (tgt := 61) hM dX7_restore_34 (by decide) (by omega) (by omega) (fun c_34 => ?_) (fun c_34 => ?_)
          · exfalso; omega
          · refine x_aload_n hM dX7_restore_37 rfl rfl ?_
            refine x_get hM wf_X7_7 wl_X7 k0 rfl dX7_restore_38 ?_
            refine x_iload_n hM dX7_restore_41 rfl rfl ?_
            refine x_aload_n hM dX7_restore_42 rfl rfl ?_
            refine x_get hM wf_X7_32 wl_X7 k0 rfl dX7_restore_43 ?_
            refine x_iload_n hM dX7_restore_46 rfl rfl ?_
            refine x_sipush hM dX7_restore_47 rfl ?_
            refine x_imul hM dX7_restore_50 ?_
            refine x_iload_n hM dX7_restore_51 rfl rfl ?_
            refine x_iadd hM dX7_restore_52 ?_
            refine x_iald hM k8 (by omega) dX7_restore_53 ?_
            refine x_iast hM k1 (by omega) dX7_restore_54 ?_
            refine x_iinc hM dX7_restore_55 rfl rfl rfl ?_
            refine x_goto (tgt := 30) hM dX7_restore_58 (by decide) ?_
            exact ih (i + 1) _ _ (by omega) ((wS_ne (by omega)).trans k0) wS_eq ((wS_ne (by omega)).trans k2) (hF.tr (Fm.n (Fr.wS (by omega) (by omega)))) (k6.kpf (wS_ne (by omega)) (wS_ne (by omega))) (k12.kpf (wS_ne (by omega)) (wS_ne (by omega))) (fun j a b => by by_cases q : j = (i : Int); rw [q, fU_eq]; rw [fU_ne q]; exact q1 j a (by omega))
      refine x_iload_n hM dX7_restore_0 rfl rfl ?_
      refine x_iconst hM dX7_restore_1 ?_
      refine x_iconst hM dX7_restore_2 ?_
      refine x_callS hM ws_X7_62 (m_X7_in (by omega) (by omega) (by omega)) ⟨Nat.le_of_ble_eq_true rfl, Nat.le_of_ble_eq_true rfl⟩ rfl rfl (Nat.le_of_ble_eq_true rfl) ⟨Nat.le_of_ble_eq_true rfl, Nat.le_of_ble_eq_true rfl⟩ dX7_restore_3 (k_rI ?_)
      rw [if_pos (show 0 ≤ (n : Int) ∧ (n : Int) ≤ 1 by omega)]
      refine x_if_ne (tgt := 12) hM dX7_restore_6 (by decide) (by omega) (fun c_6 => ?_) (fun c_6 => ?_)
      · refine x_aload_n hM dX7_restore_12 rfl rfl ?_
        refine x_get hM wf_X7_38 wl_X7 hh rfl dX7_restore_13 ?_
        refine x_iload_n hM dX7_restore_16 rfl rfl ?_
        refine x_zald hM h10 (by omega) dX7_restore_17 ?_
        rw [u1]
        refine x_if_ne (tgt := 24) hM dX7_restore_18 (by decide) (by omega) (fun c_18 => ?_) (fun c_18 => ?_)
        · refine x_aload_n hM dX7_restore_24 rfl rfl ?_
          refine x_callV hM wv_X7_73 (m_X7_record hh hn hm hit) ⟨Nat.le_of_ble_eq_true rfl, Nat.le_of_ble_eq_true rfl⟩ hh rfl rfl rfl rfl (Nat.le_of_ble_eq_true rfl) ⟨Nat.le_of_ble_eq_true rfl, Nat.le_of_ble_eq_true rfl⟩ dX7_restore_25 (k_qV fun w_25 q_25 => ?_)
          obtain ⟨p1, p2, p3⟩ := q_25
          refine x_iconst hM dX7_restore_28 ?_
          refine x_istore_n hM dX7_restore_29 rfl rfl (Nat.le_of_ble_eq_true rfl) rfl ?_
          exact K1 400 0 fB _ rfl p1 ((p3 (m + 1) (by omega) (by omega)).trans hB1) ((p3 (m + 2) (by omega) (by omega)).trans hB2) (Fm.h p3) p2 (hr.kpf (p3 (m + 12) (by omega) (by omega)) (p3 (m + 13) (by omega) (by omega))) (fun j a b => by omega)
        · exfalso; omega
      · exfalso; omega
  · skip
    refine x_iload_n hM dX7_restore_0 rfl rfl ?_
    refine x_iconst hM dX7_restore_1 ?_
    refine x_iconst hM dX7_restore_2 ?_
    refine x_callS hM ws_X7_62 (m_X7_in (by omega) (by omega) (by omega)) ⟨Nat.le_of_ble_eq_true rfl, Nat.le_of_ble_eq_true rfl⟩ rfl rfl (Nat.le_of_ble_eq_true rfl) ⟨Nat.le_of_ble_eq_true rfl, Nat.le_of_ble_eq_true rfl⟩ dX7_restore_3 (k_rI ?_)
    rw [if_neg (show ¬ (0 ≤ s0 ∧ s0 ≤ 1) by omega)]
    refine x_if_ne (tgt := 12) hM dX7_restore_6 (by decide) (by omega) (fun c_6 => ?_) (fun c_6 => ?_)
    · exfalso; omega
    · refine x_bipush hM dX7_restore_9 rfl ?_
      refine hR.i dX7_restore_11 (Nat.zero_le _) (Nat.zero_le _) ?_
      exact p_mr0 (if_neg c1) (by decide) h
