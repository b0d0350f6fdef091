/-! the law's small methods -/
theorem m_L_cell {l : Launch} {G : xG} {w : Wd} {z : Nat} {k n : Int} (hk : 0 ≤ k ∧ k ≤ 1000) (hn : 0 < n ∧ n ≤ 10000) : xMet l G yL_cell cL_cell 3 (some .int) ({ frames := 0, cells := 0, slots := 0, locals := 0 } : Room) [.ref (G.2.2.2 3), .int (iI k), .int (iI n)] w z (qI z fun y w1 => w1 = w ∧ 0 ≤ y ∧ y < n) := by
  refine xMet_of RL rfl (by decide +kernel) false (by decide +kernel) (Nat.le_of_ble_eq_true rfl) rfl ?_
  intro P hM hR
  obtain ⟨L, hL, hS⟩ := x_scr hM
  refine x_aload_n hM dL_cell_0 rfl rfl ?_
  refine hS.2 _ _ _ _ _ dL_cell_1 ?_
  refine x_if_ne (tgt := 14) hM dL_cell_2 (by decide) (by omega) (fun c_2 => ?_) (fun c_2 => ?_)
  · refine x_aload_n hM dL_cell_14 rfl rfl ?_
    refine x_iload_n hM dL_cell_15 rfl rfl ?_
    refine x_aload_n hM dL_cell_16 rfl rfl ?_
    refine hS.2 _ _ _ _ _ dL_cell_17 ?_
    refine x_irem hM dL_cell_18 (by omega) (by omega) (by omega) (by omega) ?_
    refine hS.1 _ _ _ _ _ _ (Int.emod_nonneg _ (by omega)) (Int.emod_lt_of_pos _ (by omega)) dL_cell_19 (fun v => ?_)
    refine x_iload_n hM dL_cell_20 rfl rfl ?_
    refine x_bipush hM dL_cell_21 rfl ?_
    refine x_irem hM dL_cell_23 (by omega) (by omega) (by omega) (by omega) ?_
    refine x_ishr hM dL_cell_24 rfl ?_
    refine x_ldc hM dL_cell_25 wc_L_7 ?_
    refine x_iand hM dL_cell_27 ?_
    obtain ⟨y, y0, y1, ey⟩ := and22 (v >>> (iI (k % 7) &&& 31))
    rw [ey]
    refine x_iload_n hM dL_cell_28 rfl rfl ?_
    refine x_irem hM dL_cell_29 (by omega) (by omega) (by omega) (by omega) ?_
    refine hR.i dL_cell_30 (Nat.zero_le _) (Nat.zero_le _) ?_
    exact p_qI ⟨rfl, Int.emod_nonneg _ (by omega), Int.emod_lt_of_pos _ (by omega)⟩
  · refine x_iload_n hM dL_cell_5 rfl rfl ?_
    refine x_bipush hM dL_cell_6 rfl ?_
    refine x_imul hM dL_cell_8 ?_
    refine x_iconst hM dL_cell_9 ?_
    refine x_iadd hM dL_cell_10 ?_
    refine x_goto (tgt := 28) hM dL_cell_11 (by decide) ?_
    refine x_iload_n hM dL_cell_28 rfl rfl ?_
    refine x_irem hM dL_cell_29 (by omega) (by omega) (by omega) (by omega) ?_
    refine hR.i dL_cell_30 (Nat.zero_le _) (Nat.zero_le _) ?_
    exact p_qI ⟨rfl, Int.emod_nonneg _ (by omega), Int.emod_lt_of_pos _ (by omega)⟩
theorem m_L_firstOf {l : Launch} {G : xG} {w : Wd} {z r e k : Nat} {L : List Sg} (h : rsA G w r e L) (hk : k < L.length) : xMet l G yL_firstOf cL_firstOf 2 (some .int) ({ frames := 0, cells := 0, slots := 0, locals := 0 } : Room) [.ref r, .int (iI k)] w z (rI L[k].2.1 w z) := by
  obtain ⟨hW, f, g, ⟨h1, h2, h3⟩, h4⟩ := h
  have hl := hW.1
  have ho := strW_at hW hk
  have e1 := (h3 k hk).1
  refine xMet_of RL rfl (by decide +kernel) false (by decide +kernel) (Nat.le_of_ble_eq_true rfl) rfl ?_
  intro P hM hR
  refine x_aload_n hM dL_firstOf_0 rfl rfl ?_
  refine x_iconst hM dL_firstOf_1 ?_
  refine x_iload_n hM dL_firstOf_2 rfl rfl ?_
  refine x_iadd hM dL_firstOf_3 ?_
  refine x_iald hM h1 (by omega) dL_firstOf_4 ?_
  refine x_bipush hM dL_firstOf_5 rfl ?_
  refine x_idiv hM dL_firstOf_7 (by omega) (by omega) (by omega) (by omega) ?_
  refine hR.i dL_firstOf_8 (Nat.zero_le _) (Nat.zero_le _) ?_
  exact p_rI (by omega)
theorem m_L_ownerOf {l : Launch} {G : xG} {w : Wd} {z r e k : Nat} {L : List Sg} (h : rsA G w r e L) (hk : k < L.length) : xMet l G yL_ownerOf cL_ownerOf 2 (some .int) ({ frames := 0, cells := 0, slots := 0, locals := 0 } : Room) [.ref r, .int (iI k)] w z (rI L[k].1 w z) := by
  obtain ⟨hW, f, g, ⟨h1, h2, h3⟩, h4⟩ := h
  have hl := hW.1
  have ho := strW_at hW hk
  have e1 := (h3 k hk).1
  refine xMet_of RL rfl (by decide +kernel) false (by decide +kernel) (Nat.le_of_ble_eq_true rfl) rfl ?_
  intro P hM hR
  refine x_aload_n hM dL_ownerOf_0 rfl rfl ?_
  refine x_iconst hM dL_ownerOf_1 ?_
  refine x_iload_n hM dL_ownerOf_2 rfl rfl ?_
  refine x_iadd hM dL_ownerOf_3 ?_
  refine x_iald hM h1 (by omega) dL_ownerOf_4 ?_
  refine x_bipush hM dL_ownerOf_5 rfl ?_
  refine x_irem hM dL_ownerOf_7 (by omega) (by omega) (by omega) (by omega) ?_
  refine hR.i dL_ownerOf_8 (Nat.zero_le _) (Nat.zero_le _) ?_
  exact p_rI (by omega)
theorem fU_q {f : Int → Int} {i q : Nat} {v j : Int} (hj : j = 1 + (i : Int)) : fU f j v (1 + (q : Int)) = if q = i then v else f (1 + q) := by
  unfold fU
  by_cases h : q = i
  · rw [if_pos h, if_pos (by omega)]
  · rw [if_neg h, if_neg (by omega)]
theorem m_L_read {l : Launch} {G : xG} {w : Wd} {z x r e : Nat} {s : St} {f0 g0 : Int → Int} (h : obA G w x s) (h1 : w r = some (aI G 64 f0)) (h2 : w e = some (aI G 64 g0)) (hre : r ≠ e) (hr : x + 215 ≤ r ∧ x + 215 ≤ e) : xMet l G yL_read cL_read 4 none ({ frames := 5, cells := 0, slots := 0, locals := 106 } : Room) [.ref x, .ref r, .ref e] w z (qV z fun w1 => rsA G w1 r e s.L ∧ Fa r e w w1) := by
  have hW := (ob_W h).2.1
  have hl := hW.1
  refine xMet_of RL rfl (by decide +kernel) false (by decide +kernel) (Nat.le_of_ble_eq_true rfl) rfl ?_
  intro P hM hR
  have K : ∀ (j i : Nat) (w1 : Wd) (f g : Int → Int), i + j = s.L.length → w1 r = some (aI G 64 f) → w1 e = some (aI G 64 g) → f 0 = s.L.length → (∀ (q : Nat) (hq : q < s.L.length), q < i → f (1 + q) = 16 * s.L[q].2.1 + s.L[q].1 ∧ g (1 + q) = s.L[q].2.2) → Fa r e w w1 → P 10 [some (.ref x), some (.ref r), some (.ref e), some (.int (iI i))] [] w1 (z, 0, 0) := by
    intro j
    induction j with
    | zero =>
      intro i w1 f g hij k1 k2 k3 k4 kF
      refine x_iload_n hM dL_read_10 rfl rfl ?_
      refine x_aload_n hM dL_read_11 rfl rfl ?_
      refine x_iconst hM dL_read_12 ?_
      refine x_iald hM k1 (by omega) dL_read_13 ?_
      refine x_icmp_ge (tgt := 62) hM dL_read_14 (by decide) (by omega) (by omega) (fun c_14 => ?_) (fun c_14 => ?_)
      · refine hR.v dL_read_62 (Nat.zero_le _) (Nat.zero_le _) ?_
        exact p_qV ⟨⟨hW, f, g, ⟨k1, k2, fun q hq => k4 q hq (by omega)⟩, k3⟩, kF⟩
      · exfalso; omega
    | succ j ih =>
      intro i w1 f g hij k1 k2 k3 k4 kF
      have hi : i < s.L.length := by omega
      have ho := strW_at hW hi
      have o1 : obA G w1 x s := h.kp (kF.kp (by omega) (by omega))
      refine x_iload_n hM dL_read_10 rfl rfl ?_
      refine x_aload_n hM dL_read_11 rfl rfl ?_
      refine x_iconst hM dL_read_12 ?_
      refine x_iald hM k1 (by omega) dL_read_13 ?_
      refine x_icmp_ge (tgt := 62) hM dL_read_14 (by decide) (by omega) (by omega) (fun c_14 => ?_) (fun c_14 => ?_)
      · exfalso; omega
      · refine x_aload_n hM dL_read_17 rfl rfl ?_
        refine x_iconst hM dL_read_18 ?_
        refine x_iload_n hM dL_read_19 rfl rfl ?_
        refine x_iadd hM dL_read_20 ?_
        refine x_bipush hM dL_read_21 rfl ?_
        refine x_aload_n hM dL_read_23 rfl rfl ?_
        refine x_iload_n hM dL_read_24 rfl rfl ?_
        refine x_iconst hM dL_read_25 ?_
        refine x_callV hM wv_L_14 (o_r1 o1 (by omega)) ⟨Nat.le_of_ble_eq_true rfl, Nat.le_of_ble_eq_true rfl⟩ (ob_o o1) rfl rfl rfl rfl (Nat.le_of_ble_eq_true rfl) ⟨Nat.le_of_ble_eq_true rfl, Nat.le_of_ble_eq_true rfl⟩ dL_read_26 (k_rI ?_)
        refine x_imul hM dL_read_29 ?_
        refine x_aload_n hM dL_read_30 rfl rfl ?_
        refine x_iload_n hM dL_read_31 rfl rfl ?_
        refine x_iconst hM dL_read_32 ?_
        refine x_callV hM wv_L_14 (o_r0 o1 (by omega)) ⟨Nat.le_of_ble_eq_true rfl, Nat.le_of_ble_eq_true rfl⟩ (ob_o o1) rfl rfl rfl rfl (Nat.le_of_ble_eq_true rfl) ⟨Nat.le_of_ble_eq_true rfl, Nat.le_of_ble_eq_true rfl⟩ dL_read_33 (k_rI ?_)
        refine x_iadd hM dL_read_36 ?_
        refine x_iast hM k1 (by omega) dL_read_37 ?_
        have k5 : wS w1 r (aI G 64 (fU f (1 + (i : Int)) (16 * s.L[i].2.1 + s.L[i].1))) e = some (aI G 64 g) := (wS_ne (Ne.symm hre)).trans k2
        have o2 : obA G (wS w1 r (aI G 64 (fU f (1 + (i : Int)) (16 * s.L[i].2.1 + s.L[i].1)))) x s := o1.kp (Kp.wS (by omega))
        refine x_aload_n hM dL_read_38 rfl rfl ?_
        refine x_iconst hM dL_read_39 ?_
        refine x_iload_n hM dL_read_40 rfl rfl ?_
        refine x_iadd hM dL_read_41 ?_
        refine x_aload_n hM dL_read_42 rfl rfl ?_
        refine x_iload_n hM dL_read_43 rfl rfl ?_
        refine x_iconst hM dL_read_44 ?_
        refine x_callV hM wv_L_14 (o_r1 o2 (by omega)) ⟨Nat.le_of_ble_eq_true rfl, Nat.le_of_ble_eq_true rfl⟩ (ob_o o2) rfl rfl rfl rfl (Nat.le_of_ble_eq_true rfl) ⟨Nat.le_of_ble_eq_true rfl, Nat.le_of_ble_eq_true rfl⟩ dL_read_45 (k_rI ?_)
        refine x_aload_n hM dL_read_48 rfl rfl ?_
        refine x_iload_n hM dL_read_49 rfl rfl ?_
        refine x_iconst hM dL_read_50 ?_
        refine x_callV hM wv_L_14 (o_r2 o2 (by omega)) ⟨Nat.le_of_ble_eq_true rfl, Nat.le_of_ble_eq_true rfl⟩ (ob_o o2) rfl rfl rfl rfl (Nat.le_of_ble_eq_true rfl) ⟨Nat.le_of_ble_eq_true rfl, Nat.le_of_ble_eq_true rfl⟩ dL_read_51 (k_rI ?_)
        refine x_iadd hM dL_read_54 ?_
        refine x_iast hM k5 (by omega) dL_read_55 ?_
        refine x_iinc hM dL_read_56 rfl rfl rfl ?_
        refine x_goto (tgt := 10) hM dL_read_59 (by decide) ?_
        refine ih (i + 1) _ _ _ (by omega) ((wS_ne hre).trans wS_eq) wS_eq ?_ (fun q hq hqi => ?_) ((kF.tr Fa.w1).tr Fa.w2)
        · show fU f _ _ 0 = _; rw [fU_ne (by omega)]; exact k3
        · rw [fU_q rfl, fU_q rfl]
          by_cases e1 : q = i
          · subst e1; rw [if_pos rfl, if_pos rfl]; exact ⟨rfl, by omega⟩
          · rw [if_neg e1, if_neg e1]; exact k4 q hq (by omega)
  refine x_aload_n hM dL_read_0 rfl rfl ?_
  refine x_iconst hM dL_read_1 ?_
  refine x_aload_n hM dL_read_2 rfl rfl ?_
  refine x_iconst hM dL_read_3 ?_
  refine x_callV hM wv_L_8 (o_c2 h) ⟨Nat.le_of_ble_eq_true rfl, Nat.le_of_ble_eq_true rfl⟩ (ob_o h) rfl rfl rfl rfl (Nat.le_of_ble_eq_true rfl) ⟨Nat.le_of_ble_eq_true rfl, Nat.le_of_ble_eq_true rfl⟩ dL_read_4 (k_rI ?_)
  refine x_iast hM h1 (by omega) dL_read_7 ?_
  refine x_iconst hM dL_read_8 ?_
  refine x_istore_n hM dL_read_9 rfl rfl (Nat.le_of_ble_eq_true rfl) rfl ?_
  exact K s.L.length 0 _ _ _ (by omega) wS_eq ((wS_ne (Ne.symm hre)).trans h2) fU_eq (fun q _ hq => absurd hq (by omega)) Fa.w1
/-! pieces put behind a row -/
theorem rwA_push {G : xG} {w : Wd} {r e : Nat} {T : List Sg} {f g : Int → Int} {o a b j v : Int} (h : rwA G w r e T f g) (hre : r ≠ e) (hj : j = 1 + (T.length : Int)) (hv : v = 16 * a + o) : rwA G (wS (wS w r (aI G 64 (fU f j v))) e (aI G 64 (fU g j b))) r e (T ++ [(o, a, b)]) (fU f j v) (fU g j b) := by
  obtain ⟨h1, h2, h3⟩ := h
  refine ⟨(wS_ne hre).trans wS_eq, wS_eq, fun i hi => ?_⟩
  rw [fU_q hj, fU_q hj]
  rw [List.length_append] at hi
  by_cases c : i = T.length
  · subst c
    rw [if_pos rfl, if_pos rfl, List.getElem_append_right (by omega)]
    simp only [Nat.sub_self, List.getElem_cons_zero]
    exact ⟨hv, trivial⟩
  · have hi2 : i < T.length := by simp at hi; omega
    rw [if_neg c, if_neg c, List.getElem_append_left hi2]
    exact h3 i hi2
theorem rwA_ext {G : xG} {w : Wd} {r e : Nat} {T : List Sg} {x : Sg} {f g : Int → Int} {b c : Int} (h : rwA G w r e T f g) (hre : r ≠ e) (hx : T.getLast? = some x) (hb : b = c) : rwA G (wS w e (aI G 64 (fU g T.length b))) r e (T.dropLast ++ [(x.1, x.2.1, c)]) f (fU g T.length b) := by
  obtain ⟨h1, h2, h3⟩ := h
  obtain ⟨e1, e2⟩ := len_last hx
  subst hb
  refine ⟨(wS_ne hre).trans h1, wS_eq, fun i hi => ?_⟩
  rw [List.length_append, List.length_dropLast] at hi
  rw [fU_q (show (T.length : Int) = 1 + ((T.length - 1 : Nat) : Int) by omega)]
  by_cases c : i = T.length - 1
  · have e3 : T[T.length - 1] = x := by
      have := hx
      rw [List.getLast?_eq_getElem?, List.getElem?_eq_getElem (by omega)] at this
      exact Option.some.inj this
    have h4 := h3 (T.length - 1) (by omega)
    rw [e3] at h4
    subst c
    rw [if_pos rfl, List.getElem_append_right (by rw [List.length_dropLast]; omega)]
    simp only [List.length_dropLast, Nat.sub_self, List.getElem_cons_zero]
    exact ⟨h4.1, trivial⟩
  · have hi2 : i < T.dropLast.length := by rw [List.length_dropLast]; simp at hi; omega
    rw [if_neg c, List.getElem_append_left hi2, List.getElem_dropLast]
    exact h3 i (by rw [List.length_dropLast] at hi2; omega)
theorem arA_mk {G : xG} {w : Wd} {r e : Nat} {T : List Sg} {f g : Int → Int} (h : ∀ s ∈ T, okS s) (hr : rwA G w r e T f g) : arA G w r e T := ⟨h, f, g, hr⟩
theorem adF_ok {T : List Sg} {o a n : Int} (h : ∀ s ∈ T, okS s) (ho : o < 10) (hb : 0 ≤ a ∧ (0 < n → a + n ≤ 10000)) : ∀ s ∈ adF T o a n, okS s := by
  by_cases h0 : o < 0 ∨ n ≤ 0
  · rw [adF_no h0]; exact h
  · have hb2 := hb.2 (by omega)
    have hn : okS (o, a, a + n) := okS_mk (by omega)
    cases hl : T.getLast? with
    | none =>
      rw [adF_nil h0 hl]
      intro s hs
      rcases List.mem_append.mp hs with q | q
      · exact h s q
      · rw [List.mem_singleton] at q; rw [q]; exact hn
    | some x =>
      have hx := h x (List.mem_of_getLast? hl)
      by_cases hc : x.1 = o ∧ x.2.2 = a
      · rw [adF_ext h0 hl hc]
        intro s hs
        rcases List.mem_append.mp hs with q | q
        · exact h s ((List.dropLast_sublist T).subset q)
        · rw [List.mem_singleton] at q
          rw [q]
          exact okS_mk (by omega)
      · rw [adF_push h0 hl hc]
        intro s hs
        rcases List.mem_append.mp hs with q | q
        · exact h s q
        · rw [List.mem_singleton] at q; rw [q]; exact hn
theorem m_L_add {l : Launch} {G : xG} {w : Wd} {z r e : Nat} {T : List Sg} {o a b : Int} (h : arA G w r e T) (hT : T.length ≤ 60) (hre : r ≠ e) (hp : (iR o ∧ o < 10) ∧ (0 ≤ a ∧ a ≤ 10000) ∧ 0 ≤ b ∧ b ≤ 10000) : xMet l G yL_add cL_add 6 (some .int) ({ frames := 0, cells := 0, slots := 0, locals := 0 } : Room) [.ref r, .ref e, .int (iI T.length), .int (iI a), .int (iI b), .int (iI o)] w z (qI z fun y w1 => y = (adF T o a (b - a)).length ∧ arA G w1 r e (adF T o a (b - a)) ∧ Fa r e w w1) := by
  have h0 := h
  obtain ⟨hok, f, g, hr⟩ := h
  obtain ⟨h1, h2, h3⟩ := id hr
  have hok2 := adF_ok (n := b - a) hok hp.1.2 (show 0 ≤ a ∧ (0 < b - a → a + (b - a) ≤ 10000) by omega)
  refine xMet_of RL rfl (by decide +kernel) false (by decide +kernel) (Nat.le_of_ble_eq_true rfl) rfl ?_
  intro P hM hR
  by_cases c0 : o < 0 ∨ b - a ≤ 0
  · have e0 : adF T o a (b - a) = T := adF_no c0
    refine x_iload_n hM dL_add_0 rfl rfl ?_
    refine x_iload hM dL_add_1 rfl ?_
    refine x_icmp_ge (tgt := 11) hM dL_add_3 (by decide) (by omega) (by omega) (fun c_3 => ?_) (fun c_3 => ?_)
    · refine x_iload_n hM dL_add_11 rfl rfl ?_
      refine hR.i dL_add_12 (Nat.zero_le _) (Nat.zero_le _) ?_
      exact p_qI ⟨by rw [e0], by rw [e0]; exact h0, Fa.rf⟩
    · refine x_iload hM dL_add_6 rfl ?_
      refine x_if_ge (tgt := 13) hM dL_add_8 (by decide) (by omega) (fun c_8 => ?_) (fun c_8 => ?_)
      · exfalso; omega
      · refine x_iload_n hM dL_add_11 rfl rfl ?_
        refine hR.i dL_add_12 (Nat.zero_le _) (Nat.zero_le _) ?_
        exact p_qI ⟨by rw [e0], by rw [e0]; exact h0, Fa.rf⟩
  · have Q : adF T o a (b - a) = T ++ [(o, a, a + (b - a))] → P 42 [some (.ref r), some (.ref e), some (.int (iI T.length)), some (.int (iI a)), some (.int (iI b)), some (.int (iI o))] [] w (z, 0, 0) := by
      intro eQ
      rw [eQ] at hok2
      have hq := rwA_push (b := b) (j := (T.length : Int) + 1) (v := 16 * a + o) (o := o) (a := a) hr hre (by omega) rfl
      have hq2 : T ++ [(o, a, a + (b - a))] = T ++ [(o, a, b)] := by rw [show a + (b - a) = b by omega]
      rw [← hq2] at hq
      have hq3 := arA_mk hok2 hq
      rw [← eQ] at hq3
      refine x_aload_n hM dL_add_42 rfl rfl ?_
      refine x_iload_n hM dL_add_43 rfl rfl ?_
      refine x_iconst hM dL_add_44 ?_
      refine x_iadd hM dL_add_45 ?_
      refine x_bipush hM dL_add_46 rfl ?_
      refine x_iload_n hM dL_add_48 rfl rfl ?_
      refine x_imul hM dL_add_49 ?_
      refine x_iload hM dL_add_50 rfl ?_
      refine x_iadd hM dL_add_52 ?_
      refine x_iast hM h1 (by omega) dL_add_53 ?_
      refine x_aload_n hM dL_add_54 rfl rfl ?_
      refine x_iload_n hM dL_add_55 rfl rfl ?_
      refine x_iconst hM dL_add_56 ?_
      refine x_iadd hM dL_add_57 ?_
      refine x_iload hM dL_add_58 rfl ?_
      refine x_iast hM ((wS_ne (Ne.symm hre)).trans h2) (by omega) dL_add_60 ?_
      refine x_iload_n hM dL_add_61 rfl rfl ?_
      refine x_iconst hM dL_add_62 ?_
      refine x_iadd hM dL_add_63 ?_
      refine hR.i dL_add_64 (Nat.zero_le _) (Nat.zero_le _) ?_
      exact p_qI ⟨by rw [eQ, List.length_append]; rfl, hq3, Fa.w1.tr Fa.w2⟩
    cases hl : T.getLast? with
    | none =>
      have e1 : T = [] := List.getLast?_eq_none_iff.mp hl
      have e2 : T.length = 0 := by rw [e1]; rfl
      refine x_iload_n hM dL_add_0 rfl rfl ?_
      refine x_iload hM dL_add_1 rfl ?_
      refine x_icmp_ge (tgt := 11) hM dL_add_3 (by decide) (by omega) (by omega) (fun c_3 => ?_) (fun c_3 => ?_)
      · exfalso; omega
      · refine x_iload hM dL_add_6 rfl ?_
        refine x_if_ge (tgt := 13) hM dL_add_8 (by decide) (by omega) (fun c_8 => ?_) (fun c_8 => ?_)
        · refine x_iload_n hM dL_add_13 rfl rfl ?_
          refine x_if_le (tgt := 42) hM dL_add_14 (by decide) (by omega) (fun c_14 => ?_) (fun c_14 => ?_)
          · exact Q (adF_nil c0 hl)
          · exfalso; omega
        · exfalso; omega
    | some x =>
      obtain ⟨e1, e2⟩ := len_last hl
      have hx := hok x (List.mem_of_getLast? hl)
      have e3 : T[T.length - 1] = x := by
        have := hl
        rw [List.getLast?_eq_getElem?, List.getElem?_eq_getElem (by omega)] at this
        exact Option.some.inj this
      have e4 := h3 (T.length - 1) (by omega)
      rw [e3, show (1 : Int) + ((T.length - 1 : Nat) : Int) = T.length by omega] at e4
      by_cases c1 : x.1 = o ∧ x.2.2 = a
      · have eQ := adF_ext c0 hl c1
        have eq : T.dropLast ++ [(o, x.2.1, x.2.2 + (b - a))] = T.dropLast ++ [(x.1, x.2.1, x.2.2 + (b - a))] := by rw [c1.1]
        rw [eQ] at hok2
        have hq := rwA_ext (b := b) (c := x.2.2 + (b - a)) hr hre hl (by omega)
        rw [← eq] at hq
        have hq3 := arA_mk hok2 hq
        rw [← eQ] at hq3
        refine x_iload_n hM dL_add_0 rfl rfl ?_
        refine x_iload hM dL_add_1 rfl ?_
        refine x_icmp_ge (tgt := 11) hM dL_add_3 (by decide) (by omega) (by omega) (fun c_3 => ?_) (fun c_3 => ?_)
        · exfalso; omega
        · refine x_iload hM dL_add_6 rfl ?_
          refine x_if_ge (tgt := 13) hM dL_add_8 (by decide) (by omega) (fun c_8 => ?_) (fun c_8 => ?_)
          · refine x_iload_n hM dL_add_13 rfl rfl ?_
            refine x_if_le (tgt := 42) hM dL_add_14 (by decide) (by omega) (fun c_14 => ?_) (fun c_14 => ?_)
            · exfalso; omega
            · refine x_aload_n hM dL_add_17 rfl rfl ?_
              refine x_iload_n hM dL_add_18 rfl rfl ?_
              refine x_iald hM h2 (by omega) dL_add_19 ?_
              refine x_iload_n hM dL_add_20 rfl rfl ?_
              refine x_icmp_ne (tgt := 42) hM dL_add_21 (by decide) (by omega) (by omega) (fun c_21 => ?_) (fun c_21 => ?_)
              · exfalso; omega
              · refine x_aload_n hM dL_add_24 rfl rfl ?_
                refine x_iload_n hM dL_add_25 rfl rfl ?_
                refine x_iald hM h1 (by omega) dL_add_26 ?_
                refine x_bipush hM dL_add_27 rfl ?_
                refine x_irem hM dL_add_29 (by omega) (by omega) (by omega) (by omega) ?_
                refine x_iload hM dL_add_30 rfl ?_
                refine x_icmp_ne (tgt := 42) hM dL_add_32 (by decide) (by omega) (by omega) (fun c_32 => ?_) (fun c_32 => ?_)
                · exfalso; omega
                · refine x_aload_n hM dL_add_35 rfl rfl ?_
                  refine x_iload_n hM dL_add_36 rfl rfl ?_
                  refine x_iload hM dL_add_37 rfl ?_
                  refine x_iast hM h2 (by omega) dL_add_39 ?_
                  refine x_iload_n hM dL_add_40 rfl rfl ?_
                  refine hR.i dL_add_41 (Nat.zero_le _) (Nat.zero_le _) ?_
                  exact p_qI ⟨by rw [eQ, List.length_append, List.length_dropLast]; simp only [List.length_singleton]; omega, hq3, Fa.w2⟩
          · exfalso; omega
      · skip
        refine x_iload_n hM dL_add_0 rfl rfl ?_
        refine x_iload hM dL_add_1 rfl ?_
        refine x_icmp_ge (tgt := 11) hM dL_add_3 (by decide) (by omega) (by omega) (fun c_3 => ?_) (fun c_3 => ?_)
        · exfalso; omega
        · refine x_iload hM dL_add_6 rfl ?_
          refine x_if_ge (tgt := 13) hM dL_add_8 (by decide) (by omega) (fun c_8 => ?_) (fun c_8 => ?_)
          · refine x_iload_n hM dL_add_13 rfl rfl ?_
            refine x_if_le (tgt := 42) hM dL_add_14 (by decide) (by omega) (fun c_14 => ?_) (fun c_14 => ?_)
            · exfalso; omega
            · refine x_aload_n hM dL_add_17 rfl rfl ?_
              refine x_iload_n hM dL_add_18 rfl rfl ?_
              refine x_iald hM h2 (by omega) dL_add_19 ?_
              refine x_iload_n hM dL_add_20 rfl rfl ?_
              refine x_icmp_ne (tgt := 42) hM dL_add_21 (by decide) (by omega) (by omega) (fun c_21 => ?_) (fun c_21 => ?_)
              · exact Q (adF_push c0 hl c1)
              · refine x_aload_n hM dL_add_24 rfl rfl ?_
                refine x_iload_n hM dL_add_25 rfl rfl ?_
                refine x_iald hM h1 (by omega) dL_add_26 ?_
                refine x_bipush hM dL_add_27 rfl ?_
                refine x_irem hM dL_add_29 (by omega) (by omega) (by omega) (by omega) ?_
                refine x_iload hM dL_add_30 rfl ?_
                refine x_icmp_ne (tgt := 42) hM dL_add_32 (by decide) (by omega) (by omega) (fun c_32 => ?_) (fun c_32 => ?_)
                · exact Q (adF_push c0 hl c1)
                · exfalso; omega
          · exfalso; omega
