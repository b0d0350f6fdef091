/-! money, transfers, deals -/
theorem jJ_i32 (m : Int) : (jJ m).toInt32 = iI m := Int64.toInt32_ofInt
theorem m_L_isPaid {l : Launch} {G : xG} {w : Wd} {z x c : Nat} {s : St} {o n : Int} (h : obA G w x s) (hiv : ivS c s) (hz : x + 215 ≤ z) (ho : 0 ≤ o ∧ o < s.own) (hn : 0 ≤ n ∧ n ≤ 1000000) : xMet l G yL_isPaid cL_isPaid 5 (some .boolean) ({ frames := 6, cells := 0, slots := 0, locals := 142 } : Room) [.ref x, .int (iI o), .int (iI n)] w z (acQ G x c z s) := by
  obtain ⟨g1, g2, g3, g4, hown, g6, g7, g8, g9⟩ := id hiv
  obtain ⟨m, em, m1, m2⟩ := g8 o ho.1 ho.2
  have hpay : payF s o n = ((if s.mon o + jJ n < jJ 0 then 0 else 1), earnF s o (jJ n)) := by
    unfold payF
    rw [if_pos ho, if_pos hn]
  have hpb : iR (payF s o n).1 := by
    rw [hpay]
    show -2147483648 ≤ (if s.mon o + jJ n < jJ 0 then (0 : Int) else 1) ∧ (if s.mon o + jJ n < jJ 0 then (0 : Int) else 1) ≤ 2147483647
    split <;> omega
  have hni : (iI n).toInt64 = jJ n := iI_long ⟨by omega, by omega⟩
  obtain ⟨-, ⟨hs, hh⟩, -⟩ := id h
  have hiv2 : ivS (c + 1) (earnF s o (jJ n)) := by
    refine ⟨g1, g2, g3, g4, hown, by show 0 ≤ s.day ∧ s.day ≤ ((c + 1 : Nat) : Int); omega, g7, fun q a b => ?_, g9⟩
    by_cases e : q = o
    · subst e
      exact ⟨m + n, by show fU s.mon q (s.mon q + jJ n) q = _; rw [fU_eq, em, jJ_add], by omega, by omega⟩
    · obtain ⟨m3, e3, k1, k2⟩ := g8 q a b
      exact ⟨m3, by show fU s.mon o (s.mon o + jJ n) q = _; rw [fU_ne e]; exact e3, by omega, by omega⟩
  refine xMet_of RL rfl (by decide +kernel) false (by decide +kernel) (Nat.le_of_ble_eq_true rfl) rfl ?_
  intro P hM hR
  refine x_aload_n hM dL_isPaid_0 rfl rfl ?_
  refine x_iload_n hM dL_isPaid_1 rfl rfl ?_
  refine x_callV hM wv_L_107 (o_mon h ho) ⟨Nat.le_of_ble_eq_true rfl, Nat.le_of_ble_eq_true rfl⟩ (ob_o h) rfl rfl rfl rfl (Nat.le_of_ble_eq_true rfl) ⟨Nat.le_of_ble_eq_true rfl, Nat.le_of_ble_eq_true rfl⟩ dL_isPaid_2 (k_rL ?_)
  refine x_lstore_n hM dL_isPaid_5 rfl rfl (Nat.le_of_ble_eq_true rfl) rfl ?_
  refine x_aload_n hM dL_isPaid_6 rfl rfl ?_
  refine x_iload_n hM dL_isPaid_7 rfl rfl ?_
  refine x_iload_n hM dL_isPaid_8 rfl rfl ?_
  refine x_callV hM wv_L_128 (m_X6_pay h.1 hh (by omega) (by omega) hpb) ⟨Nat.le_of_ble_eq_true rfl, Nat.le_of_ble_eq_true rfl⟩ (ob_o h) rfl rfl rfl rfl (Nat.le_of_ble_eq_true rfl) ⟨Nat.le_of_ble_eq_true rfl, Nat.le_of_ble_eq_true rfl⟩ dL_isPaid_9 (k_qI fun x_9 w_9 q_9 => ?_)
  obtain ⟨rfl, q2, q3, qG⟩ := q_9
  have o3 : obA G w_9 x (earnF s o (jJ n)) := by
    have q := mu_ob h q2 _ q3 qG
    rw [hpay] at q
    exact q
  rw [hpay]
  refine x_lload_n hM dL_isPaid_12 rfl rfl ?_
  refine x_iload_n hM dL_isPaid_13 rfl rfl ?_
  refine x_i2l hM dL_isPaid_14 ?_
  rw [hni]
  refine x_ladd hM dL_isPaid_15 ?_
  refine x_lconst (z := 0) hM dL_isPaid_16 rfl ?_
  refine x_lcmp hM dL_isPaid_17 (fun z_17 z_17r z_17l z_17e => ?_)
  refine x_if_lt (tgt := 25) hM dL_isPaid_18 (by decide) (by omega) (fun c_18 => ?_) (fun c_18 => ?_)
  · refine x_iconst hM dL_isPaid_25 ?_
    refine x_sameN (tgt := 46) hM (by first | exact if_pos (z_17l.mp c_18) | exact if_neg (fun q => by have := z_17l.mpr q; omega)) dL_isPaid_26 (by decide) ?_
    refine x_aload_n hM dL_isPaid_29 rfl rfl ?_
    refine x_iload_n hM dL_isPaid_30 rfl rfl ?_
    refine x_callV hM wv_L_107 (o_mon o3 ho) ⟨Nat.le_of_ble_eq_true rfl, Nat.le_of_ble_eq_true rfl⟩ (ob_o o3) rfl rfl rfl rfl (Nat.le_of_ble_eq_true rfl) ⟨Nat.le_of_ble_eq_true rfl, Nat.le_of_ble_eq_true rfl⟩ dL_isPaid_31 (k_rL ?_)
    refine x_lload_n hM dL_isPaid_34 rfl rfl ?_
    refine x_iload_n hM dL_isPaid_35 rfl rfl ?_
    refine x_i2l hM dL_isPaid_36 ?_
    rw [hni]
    refine x_ladd hM dL_isPaid_37 ?_
    refine x_lcmp hM dL_isPaid_38 (fun z_38 z_38r z_38l z_38e => ?_)
    have hz38 : z_38 = 0 := z_38e.mpr fU_eq
    refine x_if_ne (tgt := 46) hM dL_isPaid_39 (by decide) (by omega) (fun c_39 => ?_) (fun c_39 => ?_)
    · exfalso; omega
    · refine x_iconst hM dL_isPaid_42 ?_
      refine x_goto (tgt := 47) hM dL_isPaid_43 (by decide) ?_
      refine hR.b dL_isPaid_47 rfl (Nat.zero_le _) (Nat.zero_le _) ?_
      exact p_ac rfl (Nat.le_refl _) o3 hiv2 rfl
  · refine x_iconst hM dL_isPaid_21 ?_
    refine x_goto (tgt := 26) hM dL_isPaid_22 (by decide) ?_
    refine x_sameN (tgt := 46) hM (by first | exact if_pos (z_17l.mp c_18) | exact if_neg (fun q => by have := z_17l.mpr q; omega)) dL_isPaid_26 (by decide) ?_
    refine x_aload_n hM dL_isPaid_29 rfl rfl ?_
    refine x_iload_n hM dL_isPaid_30 rfl rfl ?_
    refine x_callV hM wv_L_107 (o_mon o3 ho) ⟨Nat.le_of_ble_eq_true rfl, Nat.le_of_ble_eq_true rfl⟩ (ob_o o3) rfl rfl rfl rfl (Nat.le_of_ble_eq_true rfl) ⟨Nat.le_of_ble_eq_true rfl, Nat.le_of_ble_eq_true rfl⟩ dL_isPaid_31 (k_rL ?_)
    refine x_lload_n hM dL_isPaid_34 rfl rfl ?_
    refine x_iload_n hM dL_isPaid_35 rfl rfl ?_
    refine x_i2l hM dL_isPaid_36 ?_
    rw [hni]
    refine x_ladd hM dL_isPaid_37 ?_
    refine x_lcmp hM dL_isPaid_38 (fun z_38 z_38r z_38l z_38e => ?_)
    have hz38 : z_38 = 0 := z_38e.mpr fU_eq
    refine x_if_ne (tgt := 46) hM dL_isPaid_39 (by decide) (by omega) (fun c_39 => ?_) (fun c_39 => ?_)
    · exfalso; omega
    · refine x_iconst hM dL_isPaid_42 ?_
      refine x_goto (tgt := 47) hM dL_isPaid_43 (by decide) ?_
      refine hR.b dL_isPaid_47 rfl (Nat.zero_le _) (Nat.zero_le _) ?_
      exact p_ac rfl (Nat.le_refl _) o3 hiv2 rfl
theorem o_trL {l : Launch} {G : xG} {w : Wd} {z x : Nat} {s : St} {D : List Tr} {t : Tr} {j v : Int} (h : obA G w x s) (hD : s.D = D ++ [t]) (hj : 0 ≤ j ∧ j < 5) (hv : trAt t j = v) : xMet l G yX6_ofTransfer cX6_ofTransfer 3 (some .int) ({ frames := 2, cells := 0, slots := 0, locals := 43 } : Room) [.ref x, .int (iI D.length), .int (iI j)] w z (rI v w z) := by
  have hk : D.length < s.D.length := by rw [hD, List.length_append]; simp
  have := o_tr (l := l) (z := z) (j := j) h hk hj
  have e : s.D[D.length] = t := by
    have : s.D[D.length]? = some t := by rw [hD]; simp
    rw [List.getElem?_eq_getElem hk] at this
    exact Option.some.inj this
  rwa [e, hv] at this
theorem m_L_isAdded {l : Launch} {G : xG} {w : Wd} {z x c : Nat} {s : St} {a b f n p : Int} (h : obA G w x s) (hiv : ivS c s) (hz : x + 215 ≤ z) (ha : 0 ≤ a ∧ a < s.own) (hb : 0 ≤ b ∧ b < s.own) (hp : 0 ≤ f ∧ 1 ≤ n ∧ f + n ≤ 10000) (hc : 0 ≤ p ∧ p ≤ 1000000) : xMet l G yL_isAdded cL_isAdded 8 (some .boolean) ({ frames := 6, cells := 0, slots := 0, locals := 145 } : Room) [.ref x, .int (iI a), .int (iI b), .int (iI f), .int (iI n), .int (iI p)] w z (acQ G x c z s) := by
  obtain ⟨g1, g2, g3, g4, hown, g6, g7, g8, g9⟩ := id hiv
  have hDl := (ob_W h).2.2.1
  obtain ⟨-, ⟨hs, hh⟩, -⟩ := id h
  have htr : trF s a b f n p = (if a ≠ b then (if (s.D.length : Int) < 8 then ((s.D.length : Int) + 1, mkS s.L s.set s.mon s.tax s.los (s.D ++ [(a, b, f, n, p)]) s.own s.day s.clo s.fee) else (-4, s)) else (-1, s)) := by
    unfold trF
    by_cases e : a ≠ b
    · rw [if_pos ⟨ha, hb, e⟩, if_pos ⟨⟨by omega, by omega, by omega, by omega, by omega⟩, hc⟩, if_pos e]
    · rw [if_neg (fun q => e q.2.2), if_neg e]
  have htb : iR (trF s a b f n p).1 := by
    rw [htr]
    split
    · split
      · show -2147483648 ≤ (s.D.length : Int) + 1 ∧ (s.D.length : Int) + 1 ≤ 2147483647; omega
      · show -2147483648 ≤ (-4 : Int) ∧ (-4 : Int) ≤ 2147483647; omega
    · show -2147483648 ≤ (-1 : Int) ∧ (-1 : Int) ≤ 2147483647; omega
  refine xMet_of RL rfl (by decide +kernel) false (by decide +kernel) (Nat.le_of_ble_eq_true rfl) rfl ?_
  intro P hM hR
  by_cases e : a ≠ b
  · rw [if_pos e] at htr
    by_cases c8 : (s.D.length : Int) < 8
    · rw [if_pos c8] at htr
      have hiv2 : ivS (c + 1) (mkS s.L s.set s.mon s.tax s.los (s.D ++ [(a, b, f, n, p)]) s.own s.day s.clo s.fee) := by
        obtain ⟨k1, k2, k3, k4, k5⟩ := ivS_up hiv
        refine ⟨k1, k2, k3, fun t ht => ?_, k5⟩
        rcases List.mem_append.mp ht with q | q
        · exact k4 t q
        · rw [List.mem_singleton] at q
          subst q
          exact ⟨ha.2, hb.2⟩
      refine x_aload_n hM dL_isAdded_0 rfl rfl ?_
      refine x_bipush hM dL_isAdded_1 rfl ?_
      refine x_callV hM wv_L_8 (o_c6 h) ⟨Nat.le_of_ble_eq_true rfl, Nat.le_of_ble_eq_true rfl⟩ (ob_o h) rfl rfl rfl rfl (Nat.le_of_ble_eq_true rfl) ⟨Nat.le_of_ble_eq_true rfl, Nat.le_of_ble_eq_true rfl⟩ dL_isAdded_3 (k_rI ?_)
      refine x_istore hM dL_isAdded_6 rfl (Nat.le_of_ble_eq_true rfl) rfl ?_
      refine x_aload_n hM dL_isAdded_8 rfl rfl ?_
      refine x_iload_n hM dL_isAdded_9 rfl rfl ?_
      refine x_iload_n hM dL_isAdded_10 rfl rfl ?_
      refine x_iload_n hM dL_isAdded_11 rfl rfl ?_
      refine x_iload hM dL_isAdded_12 rfl ?_
      refine x_iload hM dL_isAdded_14 rfl ?_
      refine x_callV hM wv_L_96 (m_X6_transfer h.1 hh (by omega) (by omega) (by omega) (by omega) (by omega) htb) ⟨Nat.le_of_ble_eq_true rfl, Nat.le_of_ble_eq_true rfl⟩ (ob_o h) rfl rfl rfl rfl (Nat.le_of_ble_eq_true rfl) ⟨Nat.le_of_ble_eq_true rfl, Nat.le_of_ble_eq_true rfl⟩ dL_isAdded_16 (k_qI fun x_16 w_16 q_16 => ?_)
      obtain ⟨rfl, q2, q3, qG⟩ := q_16
      have o3 : obA G w_16 x (mkS s.L s.set s.mon s.tax s.los (s.D ++ [(a, b, f, n, p)]) s.own s.day s.clo s.fee) := by
        have q := mu_ob h q2 _ q3 qG
        rw [htr] at q
        exact q
      rw [htr]
      refine x_istore hM dL_isAdded_19 rfl (Nat.le_of_ble_eq_true rfl) rfl ?_
      refine x_iload_n hM dL_isAdded_21 rfl rfl ?_
      refine x_iload_n hM dL_isAdded_22 rfl rfl ?_
      refine x_icmp_eq (tgt := 33) hM dL_isAdded_23 (by decide) (by omega) (by omega) (fun c_23 => ?_) (fun c_23 => ?_)
      · exfalso; omega
      · refine x_iload hM dL_isAdded_26 rfl ?_
        refine x_bipush hM dL_isAdded_28 rfl ?_
        refine x_icmp_ne (tgt := 66) hM dL_isAdded_30 (by decide) (by omega) (by omega) (fun c_30 => ?_) (fun c_30 => ?_)
        · refine x_iload hM dL_isAdded_66 rfl ?_
          refine x_iload hM dL_isAdded_68 rfl ?_
          refine x_iconst hM dL_isAdded_70 ?_
          refine x_iadd hM dL_isAdded_71 ?_
          refine x_sameN (tgt := 136) hM rfl dL_isAdded_72 (by decide) ?_
          refine x_aload_n hM dL_isAdded_75 rfl rfl ?_
          refine x_iload hM dL_isAdded_76 rfl ?_
          refine x_iconst hM dL_isAdded_78 ?_
          refine x_callV hM wv_L_100 (o_trL o3 rfl (by omega) rfl) ⟨Nat.le_of_ble_eq_true rfl, Nat.le_of_ble_eq_true rfl⟩ (ob_o o3) rfl rfl rfl rfl (Nat.le_of_ble_eq_true rfl) ⟨Nat.le_of_ble_eq_true rfl, Nat.le_of_ble_eq_true rfl⟩ dL_isAdded_79 (k_rI ?_)
          refine x_iload_n hM dL_isAdded_82 rfl rfl ?_
          refine x_sameN (tgt := 136) hM rfl dL_isAdded_83 (by decide) ?_
          refine x_aload_n hM dL_isAdded_86 rfl rfl ?_
          refine x_iload hM dL_isAdded_87 rfl ?_
          refine x_iconst hM dL_isAdded_89 ?_
          refine x_callV hM wv_L_100 (o_trL o3 rfl (by omega) rfl) ⟨Nat.le_of_ble_eq_true rfl, Nat.le_of_ble_eq_true rfl⟩ (ob_o o3) rfl rfl rfl rfl (Nat.le_of_ble_eq_true rfl) ⟨Nat.le_of_ble_eq_true rfl, Nat.le_of_ble_eq_true rfl⟩ dL_isAdded_90 (k_rI ?_)
          refine x_iload_n hM dL_isAdded_93 rfl rfl ?_
          refine x_sameN (tgt := 136) hM rfl dL_isAdded_94 (by decide) ?_
          refine x_aload_n hM dL_isAdded_97 rfl rfl ?_
          refine x_iload hM dL_isAdded_98 rfl ?_
          refine x_iconst hM dL_isAdded_100 ?_
          refine x_callV hM wv_L_100 (o_trL o3 rfl (by omega) rfl) ⟨Nat.le_of_ble_eq_true rfl, Nat.le_of_ble_eq_true rfl⟩ (ob_o o3) rfl rfl rfl rfl (Nat.le_of_ble_eq_true rfl) ⟨Nat.le_of_ble_eq_true rfl, Nat.le_of_ble_eq_true rfl⟩ dL_isAdded_101 (k_rI ?_)
          refine x_iload_n hM dL_isAdded_104 rfl rfl ?_
          refine x_sameN (tgt := 136) hM rfl dL_isAdded_105 (by decide) ?_
          refine x_aload_n hM dL_isAdded_108 rfl rfl ?_
          refine x_iload hM dL_isAdded_109 rfl ?_
          refine x_iconst hM dL_isAdded_111 ?_
          refine x_callV hM wv_L_100 (o_trL o3 rfl (by omega) rfl) ⟨Nat.le_of_ble_eq_true rfl, Nat.le_of_ble_eq_true rfl⟩ (ob_o o3) rfl rfl rfl rfl (Nat.le_of_ble_eq_true rfl) ⟨Nat.le_of_ble_eq_true rfl, Nat.le_of_ble_eq_true rfl⟩ dL_isAdded_112 (k_rI ?_)
          refine x_iload hM dL_isAdded_115 rfl ?_
          refine x_sameN (tgt := 136) hM rfl dL_isAdded_117 (by decide) ?_
          refine x_aload_n hM dL_isAdded_120 rfl rfl ?_
          refine x_iload hM dL_isAdded_121 rfl ?_
          refine x_iconst hM dL_isAdded_123 ?_
          refine x_callV hM wv_L_100 (o_trL o3 rfl (by omega) rfl) ⟨Nat.le_of_ble_eq_true rfl, Nat.le_of_ble_eq_true rfl⟩ (ob_o o3) rfl rfl rfl rfl (Nat.le_of_ble_eq_true rfl) ⟨Nat.le_of_ble_eq_true rfl, Nat.le_of_ble_eq_true rfl⟩ dL_isAdded_124 (k_rI ?_)
          refine x_iload hM dL_isAdded_127 rfl ?_
          refine x_sameN (tgt := 136) hM rfl dL_isAdded_129 (by decide) ?_
          refine x_iconst hM dL_isAdded_132 ?_
          refine x_goto (tgt := 137) hM dL_isAdded_133 (by decide) ?_
          refine hR.b dL_isAdded_137 rfl (Nat.zero_le _) (Nat.zero_le _) ?_
          exact p_ac rfl (Nat.le_refl _) o3 hiv2 rfl
        · exfalso; omega
    · rw [if_neg c8] at htr
      refine x_aload_n hM dL_isAdded_0 rfl rfl ?_
      refine x_bipush hM dL_isAdded_1 rfl ?_
      refine x_callV hM wv_L_8 (o_c6 h) ⟨Nat.le_of_ble_eq_true rfl, Nat.le_of_ble_eq_true rfl⟩ (ob_o h) rfl rfl rfl rfl (Nat.le_of_ble_eq_true rfl) ⟨Nat.le_of_ble_eq_true rfl, Nat.le_of_ble_eq_true rfl⟩ dL_isAdded_3 (k_rI ?_)
      refine x_istore hM dL_isAdded_6 rfl (Nat.le_of_ble_eq_true rfl) rfl ?_
      refine x_aload_n hM dL_isAdded_8 rfl rfl ?_
      refine x_iload_n hM dL_isAdded_9 rfl rfl ?_
      refine x_iload_n hM dL_isAdded_10 rfl rfl ?_
      refine x_iload_n hM dL_isAdded_11 rfl rfl ?_
      refine x_iload hM dL_isAdded_12 rfl ?_
      refine x_iload hM dL_isAdded_14 rfl ?_
      refine x_callV hM wv_L_96 (m_X6_transfer h.1 hh (by omega) (by omega) (by omega) (by omega) (by omega) htb) ⟨Nat.le_of_ble_eq_true rfl, Nat.le_of_ble_eq_true rfl⟩ (ob_o h) rfl rfl rfl rfl (Nat.le_of_ble_eq_true rfl) ⟨Nat.le_of_ble_eq_true rfl, Nat.le_of_ble_eq_true rfl⟩ dL_isAdded_16 (k_qI fun x_16 w_16 q_16 => ?_)
      obtain ⟨rfl, q2, q3, qG⟩ := q_16
      have o3 : obA G w_16 x s := by
        have q := mu_ob h q2 _ q3 qG
        rw [htr] at q
        exact q
      rw [htr]
      refine x_istore hM dL_isAdded_19 rfl (Nat.le_of_ble_eq_true rfl) rfl ?_
      refine x_iload_n hM dL_isAdded_21 rfl rfl ?_
      refine x_iload_n hM dL_isAdded_22 rfl rfl ?_
      refine x_icmp_eq (tgt := 33) hM dL_isAdded_23 (by decide) (by omega) (by omega) (fun c_23 => ?_) (fun c_23 => ?_)
      · exfalso; omega
      · refine x_iload hM dL_isAdded_26 rfl ?_
        refine x_bipush hM dL_isAdded_28 rfl ?_
        refine x_icmp_ne (tgt := 66) hM dL_isAdded_30 (by decide) (by omega) (by omega) (fun c_30 => ?_) (fun c_30 => ?_)
        · exfalso; omega
        · refine x_iload hM dL_isAdded_33 rfl ?_
          refine x_iload_n hM dL_isAdded_35 rfl rfl ?_
          refine x_iload_n hM dL_isAdded_36 rfl rfl ?_
          refine x_icmp_ne (tgt := 44) hM dL_isAdded_37 (by decide) (by omega) (by omega) (fun c_37 => ?_) (fun c_37 => ?_)
          · refine x_bipush hM dL_isAdded_44 rfl ?_
            refine x_sameN (tgt := 64) hM rfl dL_isAdded_46 (by decide) ?_
            refine x_aload_n hM dL_isAdded_49 rfl rfl ?_
            refine x_bipush hM dL_isAdded_50 rfl ?_
            refine x_callV hM wv_L_8 (o_c6 o3) ⟨Nat.le_of_ble_eq_true rfl, Nat.le_of_ble_eq_true rfl⟩ (ob_o o3) rfl rfl rfl rfl (Nat.le_of_ble_eq_true rfl) ⟨Nat.le_of_ble_eq_true rfl, Nat.le_of_ble_eq_true rfl⟩ dL_isAdded_52 (k_rI ?_)
            refine x_iload hM dL_isAdded_55 rfl ?_
            refine x_sameN (tgt := 64) hM rfl dL_isAdded_57 (by decide) ?_
            refine x_iconst hM dL_isAdded_60 ?_
            refine x_goto (tgt := 65) hM dL_isAdded_61 (by decide) ?_
            refine hR.b dL_isAdded_65 rfl (Nat.zero_le _) (Nat.zero_le _) ?_
            exact p_ac rfl (Nat.le_refl _) o3 (ivS_up hiv) rfl
          · exfalso; omega
  · rw [if_neg e] at htr
    refine x_aload_n hM dL_isAdded_0 rfl rfl ?_
    refine x_bipush hM dL_isAdded_1 rfl ?_
    refine x_callV hM wv_L_8 (o_c6 h) ⟨Nat.le_of_ble_eq_true rfl, Nat.le_of_ble_eq_true rfl⟩ (ob_o h) rfl rfl rfl rfl (Nat.le_of_ble_eq_true rfl) ⟨Nat.le_of_ble_eq_true rfl, Nat.le_of_ble_eq_true rfl⟩ dL_isAdded_3 (k_rI ?_)
    refine x_istore hM dL_isAdded_6 rfl (Nat.le_of_ble_eq_true rfl) rfl ?_
    refine x_aload_n hM dL_isAdded_8 rfl rfl ?_
    refine x_iload_n hM dL_isAdded_9 rfl rfl ?_
    refine x_iload_n hM dL_isAdded_10 rfl rfl ?_
    refine x_iload_n hM dL_isAdded_11 rfl rfl ?_
    refine x_iload hM dL_isAdded_12 rfl ?_
    refine x_iload hM dL_isAdded_14 rfl ?_
    refine x_callV hM wv_L_96 (m_X6_transfer h.1 hh (by omega) (by omega) (by omega) (by omega) (by omega) htb) ⟨Nat.le_of_ble_eq_true rfl, Nat.le_of_ble_eq_true rfl⟩ (ob_o h) rfl rfl rfl rfl (Nat.le_of_ble_eq_true rfl) ⟨Nat.le_of_ble_eq_true rfl, Nat.le_of_ble_eq_true rfl⟩ dL_isAdded_16 (k_qI fun x_16 w_16 q_16 => ?_)
    obtain ⟨rfl, q2, q3, qG⟩ := q_16
    have o3 : obA G w_16 x s := by
      have q := mu_ob h q2 _ q3 qG
      rw [htr] at q
      exact q
    rw [htr]
    refine x_istore hM dL_isAdded_19 rfl (Nat.le_of_ble_eq_true rfl) rfl ?_
    refine x_iload_n hM dL_isAdded_21 rfl rfl ?_
    refine x_iload_n hM dL_isAdded_22 rfl rfl ?_
    refine x_icmp_eq (tgt := 33) hM dL_isAdded_23 (by decide) (by omega) (by omega) (fun c_23 => ?_) (fun c_23 => ?_)
    · refine x_iload hM dL_isAdded_33 rfl ?_
      refine x_iload_n hM dL_isAdded_35 rfl rfl ?_
      refine x_iload_n hM dL_isAdded_36 rfl rfl ?_
      refine x_icmp_ne (tgt := 44) hM dL_isAdded_37 (by decide) (by omega) (by omega) (fun c_37 => ?_) (fun c_37 => ?_)
      · exfalso; omega
      · refine x_iconst hM dL_isAdded_40 ?_
        refine x_goto (tgt := 46) hM dL_isAdded_41 (by decide) ?_
        refine x_sameN (tgt := 64) hM rfl dL_isAdded_46 (by decide) ?_
        refine x_aload_n hM dL_isAdded_49 rfl rfl ?_
        refine x_bipush hM dL_isAdded_50 rfl ?_
        refine x_callV hM wv_L_8 (o_c6 o3) ⟨Nat.le_of_ble_eq_true rfl, Nat.le_of_ble_eq_true rfl⟩ (ob_o o3) rfl rfl rfl rfl (Nat.le_of_ble_eq_true rfl) ⟨Nat.le_of_ble_eq_true rfl, Nat.le_of_ble_eq_true rfl⟩ dL_isAdded_52 (k_rI ?_)
        refine x_iload hM dL_isAdded_55 rfl ?_
        refine x_sameN (tgt := 64) hM rfl dL_isAdded_57 (by decide) ?_
        refine x_iconst hM dL_isAdded_60 ?_
        refine x_goto (tgt := 65) hM dL_isAdded_61 (by decide) ?_
        refine hR.b dL_isAdded_65 rfl (Nat.zero_le _) (Nat.zero_le _) ?_
        exact p_ac rfl (Nat.le_refl _) o3 (ivS_up hiv) rfl
    · exfalso; omega
