/-! Street: exchange -/
def gO (L : List Sg) (i : Nat) : Int := match L[i]? with
  | some s => s.1
  | none => -6
def gA_ (L : List Sg) (i : Nat) : Int := match L[i]? with
  | some s => s.2.1
  | none => 0
def gB_ (L : List Sg) (i : Nat) : Int := match L[i]? with
  | some s => s.2.2
  | none => 0
theorem gO_at {L : List Sg} {i : Nat} (h : i < L.length) : gO L i = L[i].1 ∧ gA_ L i = L[i].2.1 ∧ gB_ L i = L[i].2.2 := by
  unfold gO gA_ gB_
  rw [List.getElem?_eq_getElem h]
  exact ⟨rfl, rfl, rfl⟩
def hafF (L : List Sg) (r f s : Nat) : Int := if r = f then gO L s else if r = s then gO L f else gO L r
theorem m_X5_holderAfter {l : Launch} {G : xG} {w : Wd} {z a r f s : Nat} {L : List Sg} (h1 : strA G w a L) (hr : r < L.length) (hf : f < L.length) (hs0 : s < L.length) : xMet l G yX5_holderAfter cX5_holderAfter 4 (some .int) ({ frames := 1, cells := 0, slots := 0, locals := 21 } : Room) [.ref a, .int (iI r), .int (iI f), .int (iI s)] w z (rI (hafF L r f s) w z) := by
  have h0 := h1
  obtain ⟨hW, fo, fs, fl, fr, fm, hs, hL⟩ := h1
  have hW1 := hW.1
  have e1 := (hL.1 r hr).1
  have e2 := (hL.1 f hf).1
  have e3 := (hL.1 s hs0).1
  rw [← (gO_at hr).1] at e1
  rw [← (gO_at hf).1] at e2
  rw [← (gO_at hs0).1] at e3
  refine xMet_of RX5 rfl (by decide +kernel) false (by decide +kernel) (Nat.le_of_ble_eq_true rfl) rfl ?_
  intro P hM hR
  refine x_iload_n hM dX5_holderAfter_0 rfl rfl ?_
  refine x_iload_n hM dX5_holderAfter_1 rfl rfl ?_
  refine x_icmp_ne (tgt := 14) hM dX5_holderAfter_2 (by decide) (by omega) (by omega) (fun c_2 => ?_) (fun c_2 => ?_)
  · refine x_iload_n hM dX5_holderAfter_14 rfl rfl ?_
    refine x_iload_n hM dX5_holderAfter_15 rfl rfl ?_
    refine x_icmp_ne (tgt := 30) hM dX5_holderAfter_16 (by decide) (by omega) (by omega) (fun c_16 => ?_) (fun c_16 => ?_)
    · refine x_aload_n hM dX5_holderAfter_30 rfl rfl ?_
      refine x_get hM wf_X5_14 wl_X5 (by first | assumption | exact str_o (by assumption) | exact str_a (by assumption)) rfl dX5_holderAfter_31 ?_
      refine x_iload_n hM dX5_holderAfter_34 rfl rfl ?_
      refine x_callV hM wv_X5_43 (m_X4_at (by first | assumption | exact sr1 (by assumption) | exact sr2 (by assumption) | exact sr3 (by assumption) | exact sr4 (by assumption) | exact sr5 (by assumption) | exact rg1 (by assumption) | exact rg2 (by assumption) | exact rg3 (by assumption)) (by omega)) ⟨Nat.le_of_ble_eq_true rfl, Nat.le_of_ble_eq_true rfl⟩ (by first | assumption | exact row_o (by first | assumption | exact sr1 (by assumption) | exact sr2 (by assumption) | exact sr3 (by assumption) | exact sr4 (by assumption) | exact sr5 (by assumption) | exact rg1 (by assumption) | exact rg2 (by assumption) | exact rg3 (by assumption))) rfl rfl rfl rfl (Nat.le_of_ble_eq_true rfl) ⟨Nat.le_of_ble_eq_true rfl, Nat.le_of_ble_eq_true rfl⟩ dX5_holderAfter_35 (k_rI ?_)
      refine hR.i dX5_holderAfter_38 (Nat.zero_le _) (Nat.zero_le _) ?_
      exact p_rI (by unfold hafF; rw [if_neg (by omega)]; first | rw [if_pos (by omega), e2] | rw [if_neg (by omega), e1])
    · refine x_aload_n hM dX5_holderAfter_19 rfl rfl ?_
      refine x_get hM wf_X5_14 wl_X5 (by first | assumption | exact str_o (by assumption) | exact str_a (by assumption)) rfl dX5_holderAfter_20 ?_
      refine x_iload_n hM dX5_holderAfter_23 rfl rfl ?_
      refine x_callV hM wv_X5_43 (m_X4_at (by first | assumption | exact sr1 (by assumption) | exact sr2 (by assumption) | exact sr3 (by assumption) | exact sr4 (by assumption) | exact sr5 (by assumption) | exact rg1 (by assumption) | exact rg2 (by assumption) | exact rg3 (by assumption)) (by omega)) ⟨Nat.le_of_ble_eq_true rfl, Nat.le_of_ble_eq_true rfl⟩ (by first | assumption | exact row_o (by first | assumption | exact sr1 (by assumption) | exact sr2 (by assumption) | exact sr3 (by assumption) | exact sr4 (by assumption) | exact sr5 (by assumption) | exact rg1 (by assumption) | exact rg2 (by assumption) | exact rg3 (by assumption))) rfl rfl rfl rfl (Nat.le_of_ble_eq_true rfl) ⟨Nat.le_of_ble_eq_true rfl, Nat.le_of_ble_eq_true rfl⟩ dX5_holderAfter_24 (k_rI ?_)
      refine x_goto (tgt := 38) hM dX5_holderAfter_27 (by decide) ?_
      refine hR.i dX5_holderAfter_38 (Nat.zero_le _) (Nat.zero_le _) ?_
      exact p_rI (by unfold hafF; rw [if_neg (by omega)]; first | rw [if_pos (by omega), e2] | rw [if_neg (by omega), e1])
  · refine x_aload_n hM dX5_holderAfter_5 rfl rfl ?_
    refine x_get hM wf_X5_14 wl_X5 (by first | assumption | exact str_o (by assumption) | exact str_a (by assumption)) rfl dX5_holderAfter_6 ?_
    refine x_iload_n hM dX5_holderAfter_9 rfl rfl ?_
    refine x_callV hM wv_X5_43 (m_X4_at (by first | assumption | exact sr1 (by assumption) | exact sr2 (by assumption) | exact sr3 (by assumption) | exact sr4 (by assumption) | exact sr5 (by assumption) | exact rg1 (by assumption) | exact rg2 (by assumption) | exact rg3 (by assumption)) (by omega)) ⟨Nat.le_of_ble_eq_true rfl, Nat.le_of_ble_eq_true rfl⟩ (by first | assumption | exact row_o (by first | assumption | exact sr1 (by assumption) | exact sr2 (by assumption) | exact sr3 (by assumption) | exact sr4 (by assumption) | exact sr5 (by assumption) | exact rg1 (by assumption) | exact rg2 (by assumption) | exact rg3 (by assumption))) rfl rfl rfl rfl (Nat.le_of_ble_eq_true rfl) ⟨Nat.le_of_ble_eq_true rfl, Nat.le_of_ble_eq_true rfl⟩ dX5_holderAfter_10 (k_rI ?_)
    refine hR.i dX5_holderAfter_13 (Nat.zero_le _) (Nat.zero_le _) ?_
    exact p_rI (by unfold hafF; rw [if_pos (by omega), e3])
def jatF (L : List Sg) (r : Int) (f s : Nat) : Int := if 0 ≤ r ∧ r + 1 < L.length ∧ gB_ L r.toNat = gA_ L (r.toNat + 1) ∧ hafF L r.toNat f s = hafF L (r.toNat + 1) f s then 1 else 0
theorem jat_b (L : List Sg) (r : Int) (f s : Nat) : 0 ≤ jatF L r f s ∧ jatF L r f s ≤ 1 := by unfold jatF; split <;> omega
theorem haf_b {L : List Sg} (h : strW L) (r f s : Nat) : -6 ≤ hafF L r f s ∧ hafF L r f s < 10 := by
  have k : ∀ i : Nat, -6 ≤ gO L i ∧ gO L i < 10 := by
    intro i
    unfold gO
    cases h1 : L[i]? with
    | none => simp
    | some x =>
      have := h.2 x (List.mem_of_getElem? h1)
      simp only
      omega
  unfold hafF
  have k1 := k r
  have k2 := k f
  have k3 := k s
  omega
theorem m_X5_joinAt {l : Launch} {G : xG} {w : Wd} {z a f s : Nat} {r : Int} {L : List Sg} (h1 : strA G w a L) (hr : -1 ≤ r ∧ r < L.length) (hf : f < L.length) (hs0 : s < L.length) : xMet l G yX5_joinAt cX5_joinAt 4 (some .int) ({ frames := 2, cells := 0, slots := 0, locals := 44 } : Room) [.ref a, .int (iI r), .int (iI f), .int (iI s)] w z (rI (jatF L r f s) w z) := by
  have h0 := h1
  obtain ⟨hW, fo, fs, fl, fr, fm, hs, hL⟩ := h1
  have hW1 := hW.1
  refine xMet_of RX5 rfl (by decide +kernel) false (by decide +kernel) (Nat.le_of_ble_eq_true rfl) rfl ?_
  intro P hM hR
  by_cases c1 : 0 ≤ r ∧ r + 1 < L.length
  · obtain ⟨n, hn⟩ : ∃ n : Nat, r = n := ⟨r.toNat, by omega⟩
    subst hn
    obtain ⟨e1, e2, e3⟩ := hL.1 n (by omega)
    obtain ⟨g1, g2, g3⟩ := hL.1 (n + 1) (by omega)
    have k1 := gO_at (show n < L.length by omega)
    have k2 := gO_at (show n + 1 < L.length by omega)
    have o1 := strW_at hW (show n < L.length by omega)
    have o2 := strW_at hW (show n + 1 < L.length by omega)
    have b1 := haf_b hW n f s
    have b2 := haf_b hW (n + 1) f s
    have g2 : fs ((n : Int) + 1) = L[n + 1].2.1 := g2
    have e4 : fs n + fl n = gB_ L n := by omega
    have g4 : fs ((n : Int) + 1) = gA_ L (n + 1) := by omega
    have t1 : ((n : Nat) : Int).toNat = n := by omega
    refine x_aload_n hM dX5_joinAt_0 rfl rfl ?_
    refine x_iload_n hM dX5_joinAt_1 rfl rfl ?_
    refine x_callV hM wv_X5_75 (m_X5_hasRange (n := (L.length : Nat)) (by assumption) (by omega) (by omega)) ⟨Nat.le_of_ble_eq_true rfl, Nat.le_of_ble_eq_true rfl⟩ (by first | assumption | exact str_o (by assumption) | exact str_a (by assumption)) rfl rfl rfl rfl (Nat.le_of_ble_eq_true rfl) ⟨Nat.le_of_ble_eq_true rfl, Nat.le_of_ble_eq_true rfl⟩ dX5_joinAt_2 (k_rI ?_)
    rw [if_pos (by omega)]
    refine x_if_eq (tgt := 36) hM dX5_joinAt_5 (by decide) (by omega) (fun c_5 => ?_) (fun c_5 => ?_)
    · exfalso; omega
    · refine x_aload_n hM dX5_joinAt_8 rfl rfl ?_
      refine x_iload_n hM dX5_joinAt_9 rfl rfl ?_
      refine x_iconst hM dX5_joinAt_10 ?_
      refine x_iadd hM dX5_joinAt_11 ?_
      refine x_callV hM wv_X5_75 (m_X5_hasRange (n := (L.length : Nat)) (by assumption) (by omega) (by omega)) ⟨Nat.le_of_ble_eq_true rfl, Nat.le_of_ble_eq_true rfl⟩ (by first | assumption | exact str_o (by assumption) | exact str_a (by assumption)) rfl rfl rfl rfl (Nat.le_of_ble_eq_true rfl) ⟨Nat.le_of_ble_eq_true rfl, Nat.le_of_ble_eq_true rfl⟩ dX5_joinAt_12 (k_rI ?_)
      rw [if_pos (by omega)]
      refine x_if_eq (tgt := 36) hM dX5_joinAt_15 (by decide) (by omega) (fun c_15 => ?_) (fun c_15 => ?_)
      · exfalso; omega
      · refine x_aload_n hM dX5_joinAt_18 rfl rfl ?_
        refine x_iload_n hM dX5_joinAt_19 rfl rfl ?_
        refine x_callV hM wv_X5_59 (m_X5_endOf (by assumption) (by omega)) ⟨Nat.le_of_ble_eq_true rfl, Nat.le_of_ble_eq_true rfl⟩ (by first | assumption | exact str_o (by assumption) | exact str_a (by assumption)) rfl rfl rfl rfl (Nat.le_of_ble_eq_true rfl) ⟨Nat.le_of_ble_eq_true rfl, Nat.le_of_ble_eq_true rfl⟩ dX5_joinAt_20 (k_rI ?_)
        rw [e4]
        refine x_aload_n hM dX5_joinAt_23 rfl rfl ?_
        refine x_get hM wf_X5_20 wl_X5 (by first | assumption | exact str_o (by assumption) | exact str_a (by assumption)) rfl dX5_joinAt_24 ?_
        refine x_iload_n hM dX5_joinAt_27 rfl rfl ?_
        refine x_iconst hM dX5_joinAt_28 ?_
        refine x_iadd hM dX5_joinAt_29 ?_
        refine x_callV hM wv_X5_43 (m_X4_at (by first | assumption | exact sr1 (by assumption) | exact sr2 (by assumption) | exact sr3 (by assumption) | exact sr4 (by assumption) | exact sr5 (by assumption) | exact rg1 (by assumption) | exact rg2 (by assumption) | exact rg3 (by assumption)) (by omega)) ⟨Nat.le_of_ble_eq_true rfl, Nat.le_of_ble_eq_true rfl⟩ (by first | assumption | exact row_o (by first | assumption | exact sr1 (by assumption) | exact sr2 (by assumption) | exact sr3 (by assumption) | exact sr4 (by assumption) | exact sr5 (by assumption) | exact rg1 (by assumption) | exact rg2 (by assumption) | exact rg3 (by assumption))) rfl rfl rfl rfl (Nat.le_of_ble_eq_true rfl) ⟨Nat.le_of_ble_eq_true rfl, Nat.le_of_ble_eq_true rfl⟩ dX5_joinAt_30 (k_rI ?_)
        rw [g4]
        refine x_icmp_eq (tgt := 38) hM dX5_joinAt_33 (by decide) (by omega) (by omega) (fun c_33 => ?_) (fun c_33 => ?_)
        · refine x_aload_n hM dX5_joinAt_38 rfl rfl ?_
          refine x_iload_n hM dX5_joinAt_39 rfl rfl ?_
          refine x_iload_n hM dX5_joinAt_40 rfl rfl ?_
          refine x_iload_n hM dX5_joinAt_41 rfl rfl ?_
          refine x_callV hM wv_X5_110 (m_X5_holderAfter (by assumption) (by omega) (by omega) (by omega)) ⟨Nat.le_of_ble_eq_true rfl, Nat.le_of_ble_eq_true rfl⟩ (by first | assumption | exact str_o (by assumption) | exact str_a (by assumption)) rfl rfl rfl rfl (Nat.le_of_ble_eq_true rfl) ⟨Nat.le_of_ble_eq_true rfl, Nat.le_of_ble_eq_true rfl⟩ dX5_joinAt_42 (k_rI ?_)
          refine x_aload_n hM dX5_joinAt_45 rfl rfl ?_
          refine x_iload_n hM dX5_joinAt_46 rfl rfl ?_
          refine x_iconst hM dX5_joinAt_47 ?_
          refine x_iadd hM dX5_joinAt_48 ?_
          refine x_iload_n hM dX5_joinAt_49 rfl rfl ?_
          refine x_iload_n hM dX5_joinAt_50 rfl rfl ?_
          refine x_callV hM wv_X5_110 (m_X5_holderAfter (r := n + 1) (by assumption) (by omega) (by omega) (by omega)) ⟨Nat.le_of_ble_eq_true rfl, Nat.le_of_ble_eq_true rfl⟩ (by first | assumption | exact str_o (by assumption) | exact str_a (by assumption)) rfl rfl rfl rfl (Nat.le_of_ble_eq_true rfl) ⟨Nat.le_of_ble_eq_true rfl, Nat.le_of_ble_eq_true rfl⟩ dX5_joinAt_51 (k_rI ?_)
          refine x_icmp_ne (tgt := 61) hM dX5_joinAt_54 (by decide) (by omega) (by omega) (fun c_54 => ?_) (fun c_54 => ?_)
          · refine x_iconst hM dX5_joinAt_61 ?_
            refine hR.i dX5_joinAt_62 (Nat.zero_le _) (Nat.zero_le _) ?_
            exact p_rI (by unfold jatF; rw [t1]; first | rw [if_pos ⟨by omega, by omega, by assumption, by assumption⟩] | (rw [if_neg]; rintro ⟨-, -, q1, q2⟩; first | exact absurd q1 (by assumption) | exact absurd q2 (by assumption)))
          · refine x_iconst hM dX5_joinAt_57 ?_
            refine x_goto (tgt := 62) hM dX5_joinAt_58 (by decide) ?_
            refine hR.i dX5_joinAt_62 (Nat.zero_le _) (Nat.zero_le _) ?_
            exact p_rI (by unfold jatF; rw [t1]; first | rw [if_pos ⟨by omega, by omega, by assumption, by assumption⟩] | (rw [if_neg]; rintro ⟨-, -, q1, q2⟩; first | exact absurd q1 (by assumption) | exact absurd q2 (by assumption)))
        · refine x_iconst hM dX5_joinAt_36 ?_
          refine hR.i dX5_joinAt_37 (Nat.zero_le _) (Nat.zero_le _) ?_
          exact p_rI (by unfold jatF; rw [t1]; first | rw [if_pos ⟨by omega, by omega, by assumption, by assumption⟩] | (rw [if_neg]; rintro ⟨-, -, q1, q2⟩; first | exact absurd q1 (by assumption) | exact absurd q2 (by assumption)))
  · have e : jatF L r f s = 0 := if_neg (fun q => c1 ⟨q.1, q.2.1⟩)
    by_cases c2 : 0 ≤ r ∧ r < L.length
    · skip
      refine x_aload_n hM dX5_joinAt_0 rfl rfl ?_
      refine x_iload_n hM dX5_joinAt_1 rfl rfl ?_
      refine x_callV hM wv_X5_75 (m_X5_hasRange (n := (L.length : Nat)) (by assumption) (by omega) (by omega)) ⟨Nat.le_of_ble_eq_true rfl, Nat.le_of_ble_eq_true rfl⟩ (by first | assumption | exact str_o (by assumption) | exact str_a (by assumption)) rfl rfl rfl rfl (Nat.le_of_ble_eq_true rfl) ⟨Nat.le_of_ble_eq_true rfl, Nat.le_of_ble_eq_true rfl⟩ dX5_joinAt_2 (k_rI ?_)
      rw [if_pos (by omega)]
      refine x_if_eq (tgt := 36) hM dX5_joinAt_5 (by decide) (by omega) (fun c_5 => ?_) (fun c_5 => ?_)
      · exfalso; omega
      · refine x_aload_n hM dX5_joinAt_8 rfl rfl ?_
        refine x_iload_n hM dX5_joinAt_9 rfl rfl ?_
        refine x_iconst hM dX5_joinAt_10 ?_
        refine x_iadd hM dX5_joinAt_11 ?_
        refine x_callV hM wv_X5_75 (m_X5_hasRange (n := (L.length : Nat)) (by assumption) (by omega) (by omega)) ⟨Nat.le_of_ble_eq_true rfl, Nat.le_of_ble_eq_true rfl⟩ (by first | assumption | exact str_o (by assumption) | exact str_a (by assumption)) rfl rfl rfl rfl (Nat.le_of_ble_eq_true rfl) ⟨Nat.le_of_ble_eq_true rfl, Nat.le_of_ble_eq_true rfl⟩ dX5_joinAt_12 (k_rI ?_)
        rw [if_neg (by omega)]
        refine x_if_eq (tgt := 36) hM dX5_joinAt_15 (by decide) (by omega) (fun c_15 => ?_) (fun c_15 => ?_)
        · refine x_iconst hM dX5_joinAt_36 ?_
          refine hR.i dX5_joinAt_37 (Nat.zero_le _) (Nat.zero_le _) ?_
          exact p_rI (by rw [e])
        · exfalso; omega
    · skip
      refine x_aload_n hM dX5_joinAt_0 rfl rfl ?_
      refine x_iload_n hM dX5_joinAt_1 rfl rfl ?_
      refine x_callV hM wv_X5_75 (m_X5_hasRange (n := (L.length : Nat)) (by assumption) (by omega) (by omega)) ⟨Nat.le_of_ble_eq_true rfl, Nat.le_of_ble_eq_true rfl⟩ (by first | assumption | exact str_o (by assumption) | exact str_a (by assumption)) rfl rfl rfl rfl (Nat.le_of_ble_eq_true rfl) ⟨Nat.le_of_ble_eq_true rfl, Nat.le_of_ble_eq_true rfl⟩ dX5_joinAt_2 (k_rI ?_)
      rw [if_neg (by omega)]
      refine x_if_eq (tgt := 36) hM dX5_joinAt_5 (by decide) (by omega) (fun c_5 => ?_) (fun c_5 => ?_)
      · refine x_iconst hM dX5_joinAt_36 ?_
        refine hR.i dX5_joinAt_37 (Nat.zero_le _) (Nat.zero_le _) ?_
        exact p_rI (by rw [e])
      · exfalso; omega
def jnsF (L : List Sg) (f s : Nat) : Int := if gO L f = gO L s then 0 else jatF L ((f : Int) - 1) f s + jatF L f f s + jatF L ((s : Int) - 1) f s + jatF L s f s
theorem jns_b (L : List Sg) (f s : Nat) : 0 ≤ jnsF L f s ∧ jnsF L f s ≤ 4 := by
  have := jat_b L ((f : Int) - 1) f s
  have := jat_b L f f s
  have := jat_b L ((s : Int) - 1) f s
  have := jat_b L s f s
  unfold jnsF
  split <;> omega
theorem m_X5_joinsOfExchange {l : Launch} {G : xG} {w : Wd} {z a f s : Nat} {L : List Sg} (h1 : strA G w a L) (hf : f < L.length) (hs0 : s < L.length) : xMet l G yX5_joinsOfExchange cX5_joinsOfExchange 3 (some .int) ({ frames := 3, cells := 0, slots := 0, locals := 67 } : Room) [.ref a, .int (iI f), .int (iI s)] w z (rI (jnsF L f s) w z) := by
  have h0 := h1
  obtain ⟨hW, fo, fs, fl, fr, fm, hs, hL⟩ := h1
  have hW1 := hW.1
  have e2 := (hL.1 f hf).1
  have e3 := (hL.1 s hs0).1
  have o1 := strW_at hW hf
  have o2 := strW_at hW hs0
  have k1 := (gO_at hf).1
  have k2 := (gO_at hs0).1
  refine xMet_of RX5 rfl (by decide +kernel) false (by decide +kernel) (Nat.le_of_ble_eq_true rfl) rfl ?_
  intro P hM hR
  refine x_aload_n hM dX5_joinsOfExchange_0 rfl rfl ?_
  refine x_get hM wf_X5_14 wl_X5 (by first | assumption | exact str_o (by assumption) | exact str_a (by assumption)) rfl dX5_joinsOfExchange_1 ?_
  refine x_iload_n hM dX5_joinsOfExchange_4 rfl rfl ?_
  refine x_callV hM wv_X5_43 (m_X4_at (by first | assumption | exact sr1 (by assumption) | exact sr2 (by assumption) | exact sr3 (by assumption) | exact sr4 (by assumption) | exact sr5 (by assumption) | exact rg1 (by assumption) | exact rg2 (by assumption) | exact rg3 (by assumption)) (by omega)) ⟨Nat.le_of_ble_eq_true rfl, Nat.le_of_ble_eq_true rfl⟩ (by first | assumption | exact row_o (by first | assumption | exact sr1 (by assumption) | exact sr2 (by assumption) | exact sr3 (by assumption) | exact sr4 (by assumption) | exact sr5 (by assumption) | exact rg1 (by assumption) | exact rg2 (by assumption) | exact rg3 (by assumption))) rfl rfl rfl rfl (Nat.le_of_ble_eq_true rfl) ⟨Nat.le_of_ble_eq_true rfl, Nat.le_of_ble_eq_true rfl⟩ dX5_joinsOfExchange_5 (k_rI ?_)
  refine x_aload_n hM dX5_joinsOfExchange_8 rfl rfl ?_
  refine x_get hM wf_X5_14 wl_X5 (by first | assumption | exact str_o (by assumption) | exact str_a (by assumption)) rfl dX5_joinsOfExchange_9 ?_
  refine x_iload_n hM dX5_joinsOfExchange_12 rfl rfl ?_
  refine x_callV hM wv_X5_43 (m_X4_at (by first | assumption | exact sr1 (by assumption) | exact sr2 (by assumption) | exact sr3 (by assumption) | exact sr4 (by assumption) | exact sr5 (by assumption) | exact rg1 (by assumption) | exact rg2 (by assumption) | exact rg3 (by assumption)) (by omega)) ⟨Nat.le_of_ble_eq_true rfl, Nat.le_of_ble_eq_true rfl⟩ (by first | assumption | exact row_o (by first | assumption | exact sr1 (by assumption) | exact sr2 (by assumption) | exact sr3 (by assumption) | exact sr4 (by assumption) | exact sr5 (by assumption) | exact rg1 (by assumption) | exact rg2 (by assumption) | exact rg3 (by assumption))) rfl rfl rfl rfl (Nat.le_of_ble_eq_true rfl) ⟨Nat.le_of_ble_eq_true rfl, Nat.le_of_ble_eq_true rfl⟩ dX5_joinsOfExchange_13 (k_rI ?_)
  refine x_icmp_ne (tgt := 21) hM dX5_joinsOfExchange_16 (by decide) (by omega) (by omega) (fun c_16 => ?_) (fun c_16 => ?_)
  · refine x_aload_n hM dX5_joinsOfExchange_21 rfl rfl ?_
    refine x_iload_n hM dX5_joinsOfExchange_22 rfl rfl ?_
    refine x_iconst hM dX5_joinsOfExchange_23 ?_
    refine x_isub hM dX5_joinsOfExchange_24 ?_
    refine x_iload_n hM dX5_joinsOfExchange_25 rfl rfl ?_
    refine x_iload_n hM dX5_joinsOfExchange_26 rfl rfl ?_
    refine x_callV hM wv_X5_107 (m_X5_joinAt (f := f) (s := s) (by assumption) (by omega) (by omega) (by omega)) ⟨Nat.le_of_ble_eq_true rfl, Nat.le_of_ble_eq_true rfl⟩ (by first | assumption | exact str_o (by assumption) | exact str_a (by assumption)) rfl rfl rfl rfl (Nat.le_of_ble_eq_true rfl) ⟨Nat.le_of_ble_eq_true rfl, Nat.le_of_ble_eq_true rfl⟩ dX5_joinsOfExchange_27 (k_rI ?_)
    refine x_aload_n hM dX5_joinsOfExchange_30 rfl rfl ?_
    refine x_iload_n hM dX5_joinsOfExchange_31 rfl rfl ?_
    refine x_iload_n hM dX5_joinsOfExchange_32 rfl rfl ?_
    refine x_iload_n hM dX5_joinsOfExchange_33 rfl rfl ?_
    refine x_callV hM wv_X5_107 (m_X5_joinAt (f := f) (s := s) (by assumption) (by omega) (by omega) (by omega)) ⟨Nat.le_of_ble_eq_true rfl, Nat.le_of_ble_eq_true rfl⟩ (by first | assumption | exact str_o (by assumption) | exact str_a (by assumption)) rfl rfl rfl rfl (Nat.le_of_ble_eq_true rfl) ⟨Nat.le_of_ble_eq_true rfl, Nat.le_of_ble_eq_true rfl⟩ dX5_joinsOfExchange_34 (k_rI ?_)
    refine x_iadd hM dX5_joinsOfExchange_37 ?_
    refine x_aload_n hM dX5_joinsOfExchange_38 rfl rfl ?_
    refine x_iload_n hM dX5_joinsOfExchange_39 rfl rfl ?_
    refine x_iconst hM dX5_joinsOfExchange_40 ?_
    refine x_isub hM dX5_joinsOfExchange_41 ?_
    refine x_iload_n hM dX5_joinsOfExchange_42 rfl rfl ?_
    refine x_iload_n hM dX5_joinsOfExchange_43 rfl rfl ?_
    refine x_callV hM wv_X5_107 (m_X5_joinAt (f := f) (s := s) (by assumption) (by omega) (by omega) (by omega)) ⟨Nat.le_of_ble_eq_true rfl, Nat.le_of_ble_eq_true rfl⟩ (by first | assumption | exact str_o (by assumption) | exact str_a (by assumption)) rfl rfl rfl rfl (Nat.le_of_ble_eq_true rfl) ⟨Nat.le_of_ble_eq_true rfl, Nat.le_of_ble_eq_true rfl⟩ dX5_joinsOfExchange_44 (k_rI ?_)
    refine x_iadd hM dX5_joinsOfExchange_47 ?_
    refine x_aload_n hM dX5_joinsOfExchange_48 rfl rfl ?_
    refine x_iload_n hM dX5_joinsOfExchange_49 rfl rfl ?_
    refine x_iload_n hM dX5_joinsOfExchange_50 rfl rfl ?_
    refine x_iload_n hM dX5_joinsOfExchange_51 rfl rfl ?_
    refine x_callV hM wv_X5_107 (m_X5_joinAt (f := f) (s := s) (by assumption) (by omega) (by omega) (by omega)) ⟨Nat.le_of_ble_eq_true rfl, Nat.le_of_ble_eq_true rfl⟩ (by first | assumption | exact str_o (by assumption) | exact str_a (by assumption)) rfl rfl rfl rfl (Nat.le_of_ble_eq_true rfl) ⟨Nat.le_of_ble_eq_true rfl, Nat.le_of_ble_eq_true rfl⟩ dX5_joinsOfExchange_52 (k_rI ?_)
    refine x_iadd hM dX5_joinsOfExchange_55 ?_
    refine hR.i dX5_joinsOfExchange_56 (Nat.zero_le _) (Nat.zero_le _) ?_
    exact p_rI (by unfold jnsF; rw [if_neg (by omega)])
  · refine x_iconst hM dX5_joinsOfExchange_19 ?_
    refine hR.i dX5_joinsOfExchange_20 (Nat.zero_le _) (Nat.zero_le _) ?_
    exact p_rI (by unfold jnsF; rw [if_pos (by omega)])
def exS (L : List Sg) (i : Nat) (c : Int × Int × Int) (j : Nat) : Int × Int × Int := if c.2.2 < (if gB_ L i - gA_ L i = gB_ L j - gA_ L j then jnsF L i j else 0) then ((i : Int), (j : Int), (if gB_ L i - gA_ L i = gB_ L j - gA_ L j then jnsF L i j else 0)) else c
def exI (L : List Sg) (c : Int × Int × Int) (i : Nat) : Int × Int × Int := ((List.range L.length).drop (i + 1)).foldl (exS L i) c
def exF (L : List Sg) : Int × Int × Int := (List.range L.length).foldl (exI L) (-6, -6, 0)
def exW (L : List Sg) (h : Int) : Int := if h = 0 ∨ (exF L).1 = -6 then (exF L).1 else if h = 1 then (exF L).2.1 else L.length - (exF L).2.2
theorem range_drop {β : Type} (f : β → Nat → β) {n i : Nat} (h : i < n) (c : β) : ((List.range n).drop i).foldl f c = ((List.range n).drop (i + 1)).foldl f (f c i) := by
  rw [drop_fold f _ (by rw [List.length_range]; exact h), List.getElem_range]
theorem range_dropE {β : Type} (f : β → Nat → β) {n i : Nat} (h : n ≤ i) (c : β) : ((List.range n).drop i).foldl f c = c := by
  rw [List.drop_of_length_le (by rw [List.length_range]; exact h)]; rfl
theorem m_X5_bestExchange {l : Launch} {G : xG} {w : Wd} {z a : Nat} {h : Int} {L : List Sg} (h1 : strA G w a L) (hh : 0 ≤ h ∧ h ≤ 2) : xMet l G yX5_bestExchange cX5_bestExchange 8 (some .int) ({ frames := 4, cells := 0, slots := 0, locals := 89 } : Room) [.ref a, .int (iI h)] w z (rI (exW L h) w z) := by
  have h0 := h1
  obtain ⟨hW, fo, fs, fl, fr, fm, hs, hL⟩ := h1
  have hW1 := hW.1
  refine xMet_of RX5 rfl (by decide +kernel) false (by decide +kernel) (Nat.le_of_ble_eq_true rfl) rfl ?_
  intro P hM hR
  have fin : ∀ (f s m : Int) (ls : List (Option Value)), iR f → (f, s, m) = exF L → P 100 ([some (.ref a), some (.int (iI h)), some (.int (iI f)), some (.int (iI s)), some (.int (iI m))] ++ ls) [] w (z, 0, 0) := by
    intro f s m ls hf he
    have e1 : f = (exF L).1 := by rw [← he]
    have e2 : s = (exF L).2.1 := by rw [← he]
    have e3 : m = (exF L).2.2 := by rw [← he]
    refine x_iload_n hM dX5_bestExchange_100 rfl rfl ?_
    refine x_if_eq (tgt := 110) hM dX5_bestExchange_101 (by decide) (by omega) (fun c_101 => ?_) (fun c_101 => ?_)
    · refine x_iload_n hM dX5_bestExchange_110 rfl rfl ?_
      refine hR.i dX5_bestExchange_111 (Nat.zero_le _) (Nat.zero_le _) ?_
      exact p_rI (by unfold exW; rw [← e1, ← e2, ← e3]; first | rw [if_pos (by omega)] | (rw [if_neg (by omega)]; first | rw [if_pos (by omega)] | rw [if_neg (by omega)]))
    · refine x_iload_n hM dX5_bestExchange_104 rfl rfl ?_
      refine x_bipush hM dX5_bestExchange_105 rfl ?_
      refine x_icmp_ne (tgt := 112) hM dX5_bestExchange_107 (by decide) (by omega) (by omega) (fun c_107 => ?_) (fun c_107 => ?_)
      · refine x_iload_n hM dX5_bestExchange_112 rfl rfl ?_
        refine x_iconst hM dX5_bestExchange_113 ?_
        refine x_icmp_ne (tgt := 121) hM dX5_bestExchange_114 (by decide) (by omega) (by omega) (fun c_114 => ?_) (fun c_114 => ?_)
        · refine x_aload_n hM dX5_bestExchange_121 rfl rfl ?_
          refine x_get hM wf_X5_36 wl_X5 (by first | assumption | exact str_o (by assumption) | exact str_a (by assumption)) rfl dX5_bestExchange_122 ?_
          refine x_iload hM dX5_bestExchange_125 rfl ?_
          refine x_isub hM dX5_bestExchange_127 ?_
          refine hR.i dX5_bestExchange_128 (Nat.zero_le _) (Nat.zero_le _) ?_
          exact p_rI (by unfold exW; rw [← e1, ← e2, ← e3]; first | rw [if_pos (by omega)] | (rw [if_neg (by omega)]; first | rw [if_pos (by omega)] | rw [if_neg (by omega)]))
        · refine x_iload_n hM dX5_bestExchange_117 rfl rfl ?_
          refine x_goto (tgt := 128) hM dX5_bestExchange_118 (by decide) ?_
          refine hR.i dX5_bestExchange_128 (Nat.zero_le _) (Nat.zero_le _) ?_
          exact p_rI (by unfold exW; rw [← e1, ← e2, ← e3]; first | rw [if_pos (by omega)] | (rw [if_neg (by omega)]; first | rw [if_pos (by omega)] | rw [if_neg (by omega)]))
      · refine x_iload_n hM dX5_bestExchange_110 rfl rfl ?_
        refine hR.i dX5_bestExchange_111 (Nat.zero_le _) (Nat.zero_le _) ?_
        exact p_rI (by unfold exW; rw [← e1, ← e2, ← e3]; first | rw [if_pos (by omega)] | (rw [if_neg (by omega)]; first | rw [if_pos (by omega)] | rw [if_neg (by omega)]))
  have KI : ∀ (k i : Nat) (c : Int × Int × Int) (x6 x7 : Option Value), L.length - i < k → i ≤ L.length → iR c.1 ∧ 0 ≤ c.2.2 ∧ c.2.2 ≤ 4 → ((List.range L.length).drop i).foldl (exI L) c = exF L → P 12 [some (.ref a), some (.int (iI h)), some (.int (iI c.1)), some (.int (iI c.2.1)), some (.int (iI c.2.2)), some (.int (iI i)), x6, x7] [] w (z, 0, 0) := by
    intro k
    induction k with
    | zero => intro i c x6 x7 hk; omega
    | succ k ih =>
      intro i c x6 x7 hk hi hc hinv
      by_cases hlt : i < L.length
      · rw [range_drop _ hlt] at hinv
        have KJ : ∀ (k2 j : Nat) (c : Int × Int × Int) (x7 : Option Value), L.length - j < k2 → i < j → j ≤ L.length → iR c.1 ∧ 0 ≤ c.2.2 ∧ c.2.2 ≤ 4 → ((List.range L.length).drop (i + 1)).foldl (exI L) (((List.range L.length).drop j).foldl (exS L i) c) = exF L → P 27 [some (.ref a), some (.int (iI h)), some (.int (iI c.1)), some (.int (iI c.2.1)), some (.int (iI c.2.2)), some (.int (iI i)), some (.int (iI j)), x7] [] w (z, 0, 0) := by
          intro k2
          induction k2 with
          | zero => intro j c x7 hk; omega
          | succ k2 ih2 =>
            intro j c x7 hk2 hij hj hc hinv
            by_cases hlj : j < L.length
            · rw [range_drop _ hlj] at hinv
              obtain ⟨e1, e2, e3⟩ := hL.1 i hlt
              obtain ⟨g1, g2, g3⟩ := hL.1 j hlj
              have o1 := strW_at hW hlt
              have o2 := strW_at hW hlj
              have k1 := gO_at hlt
              have k2' := gO_at hlj
              have jb := jns_b L i j
              have e5 : fl i = gB_ L i - gA_ L i := by omega
              have g5 : fl j = gB_ L j - gA_ L j := by omega
              have tl : ∀ (t : Int) (c2 : Int × Int × Int), c2 = (if c.2.2 < t then ((i : Int), (j : Int), t) else c) → t = (if gB_ L i - gA_ L i = gB_ L j - gA_ L j then jnsF L i j else 0) → 0 ≤ t ∧ t ≤ 4 → P 27 [some (.ref a), some (.int (iI h)), some (.int (iI c2.1)), some (.int (iI c2.2.1)), some (.int (iI c2.2.2)), some (.int (iI i)), some (.int (iI (j + 1))), some (.int (iI t))] [] w (z, 0, 0) := by
                intro t c2 hc2 ht htb
                have e9 : exS L i c j = c2 := by unfold exS; rw [← ht, hc2]
                rw [e9] at hinv
                refine ih2 (j + 1) c2 _ (by omega) (by omega) (by omega) ?_ hinv
                rw [hc2]
                split
                · show iR (i : Int) ∧ 0 ≤ t ∧ t ≤ 4
                  exact ⟨by omega, htb⟩
                · exact hc
              have tl2 : ∀ (t : Int) (x7 : Option Value), t = (if gB_ L i - gA_ L i = gB_ L j - gA_ L j then jnsF L i j else 0) → 0 ≤ t ∧ t ≤ 4 → P 69 [some (.ref a), some (.int (iI h)), some (.int (iI c.1)), some (.int (iI c.2.1)), some (.int (iI c.2.2)), some (.int (iI i)), some (.int (iI j)), x7] [.int (iI t)] w (z, 0, 0) := by
                intro t x7 ht htb
                refine x_istore hM dX5_bestExchange_69 rfl (Nat.le_of_ble_eq_true rfl) rfl ?_
                refine x_iload hM dX5_bestExchange_71 rfl ?_
                refine x_iload hM dX5_bestExchange_73 rfl ?_
                refine x_icmp_le (tgt := 88) hM dX5_bestExchange_75 (by decide) (by omega) (by omega) (fun c_75 => ?_) (fun c_75 => ?_)
                · refine x_iinc hM dX5_bestExchange_88 rfl rfl rfl ?_
                  refine x_goto (tgt := 27) hM dX5_bestExchange_91 (by decide) ?_
                  first | exact tl t ((i : Int), (j : Int), t) (if_pos (by omega)).symm ht htb | exact tl t c (if_neg (by omega)).symm ht htb
                · refine x_iload hM dX5_bestExchange_78 rfl ?_
                  refine x_istore hM dX5_bestExchange_80 rfl (Nat.le_of_ble_eq_true rfl) rfl ?_
                  refine x_iload hM dX5_bestExchange_82 rfl ?_
                  refine x_istore_n hM dX5_bestExchange_84 rfl rfl (Nat.le_of_ble_eq_true rfl) rfl ?_
                  refine x_iload hM dX5_bestExchange_85 rfl ?_
                  refine x_istore_n hM dX5_bestExchange_87 rfl rfl (Nat.le_of_ble_eq_true rfl) rfl ?_
                  refine x_iinc hM dX5_bestExchange_88 rfl rfl rfl ?_
                  refine x_goto (tgt := 27) hM dX5_bestExchange_91 (by decide) ?_
                  first | exact tl t ((i : Int), (j : Int), t) (if_pos (by omega)).symm ht htb | exact tl t c (if_neg (by omega)).symm ht htb
              refine x_iload hM dX5_bestExchange_27 rfl ?_
              refine x_aload_n hM dX5_bestExchange_29 rfl rfl ?_
              refine x_get hM wf_X5_36 wl_X5 (by first | assumption | exact str_o (by assumption) | exact str_a (by assumption)) rfl dX5_bestExchange_30 ?_
              refine x_icmp_ge (tgt := 94) hM dX5_bestExchange_33 (by decide) (by omega) (by omega) (fun c_33 => ?_) (fun c_33 => ?_)
              · exfalso; omega
              · refine x_aload_n hM dX5_bestExchange_36 rfl rfl ?_
                refine x_get hM wf_X5_23 wl_X5 (by first | assumption | exact str_o (by assumption) | exact str_a (by assumption)) rfl dX5_bestExchange_37 ?_
                refine x_iload hM dX5_bestExchange_40 rfl ?_
                refine x_callV hM wv_X5_43 (m_X4_at (by first | assumption | exact sr1 (by assumption) | exact sr2 (by assumption) | exact sr3 (by assumption) | exact sr4 (by assumption) | exact sr5 (by assumption) | exact rg1 (by assumption) | exact rg2 (by assumption) | exact rg3 (by assumption)) (by omega)) ⟨Nat.le_of_ble_eq_true rfl, Nat.le_of_ble_eq_true rfl⟩ (by first | assumption | exact row_o (by first | assumption | exact sr1 (by assumption) | exact sr2 (by assumption) | exact sr3 (by assumption) | exact sr4 (by assumption) | exact sr5 (by assumption) | exact rg1 (by assumption) | exact rg2 (by assumption) | exact rg3 (by assumption))) rfl rfl rfl rfl (Nat.le_of_ble_eq_true rfl) ⟨Nat.le_of_ble_eq_true rfl, Nat.le_of_ble_eq_true rfl⟩ dX5_bestExchange_42 (k_rI ?_)
                refine x_aload_n hM dX5_bestExchange_45 rfl rfl ?_
                refine x_get hM wf_X5_23 wl_X5 (by first | assumption | exact str_o (by assumption) | exact str_a (by assumption)) rfl dX5_bestExchange_46 ?_
                refine x_iload hM dX5_bestExchange_49 rfl ?_
                refine x_callV hM wv_X5_43 (m_X4_at (by first | assumption | exact sr1 (by assumption) | exact sr2 (by assumption) | exact sr3 (by assumption) | exact sr4 (by assumption) | exact sr5 (by assumption) | exact rg1 (by assumption) | exact rg2 (by assumption) | exact rg3 (by assumption)) (by omega)) ⟨Nat.le_of_ble_eq_true rfl, Nat.le_of_ble_eq_true rfl⟩ (by first | assumption | exact row_o (by first | assumption | exact sr1 (by assumption) | exact sr2 (by assumption) | exact sr3 (by assumption) | exact sr4 (by assumption) | exact sr5 (by assumption) | exact rg1 (by assumption) | exact rg2 (by assumption) | exact rg3 (by assumption))) rfl rfl rfl rfl (Nat.le_of_ble_eq_true rfl) ⟨Nat.le_of_ble_eq_true rfl, Nat.le_of_ble_eq_true rfl⟩ dX5_bestExchange_51 (k_rI ?_)
                refine x_icmp_ne (tgt := 68) hM dX5_bestExchange_54 (by decide) (by omega) (by omega) (fun c_54 => ?_) (fun c_54 => ?_)
                · refine x_iconst hM dX5_bestExchange_68 ?_
                  first | exact tl2 _ _ (if_pos (by omega)).symm (by omega) | exact tl2 _ _ (if_neg (by omega)).symm (by omega)
                · refine x_aload_n hM dX5_bestExchange_57 rfl rfl ?_
                  refine x_iload hM dX5_bestExchange_58 rfl ?_
                  refine x_iload hM dX5_bestExchange_60 rfl ?_
                  refine x_callV hM wv_X5_104 (m_X5_joinsOfExchange (f := i) (s := j) (by assumption) (by omega) (by omega)) ⟨Nat.le_of_ble_eq_true rfl, Nat.le_of_ble_eq_true rfl⟩ (by first | assumption | exact str_o (by assumption) | exact str_a (by assumption)) rfl rfl rfl rfl (Nat.le_of_ble_eq_true rfl) ⟨Nat.le_of_ble_eq_true rfl, Nat.le_of_ble_eq_true rfl⟩ dX5_bestExchange_62 (k_rI ?_)
                  refine x_goto (tgt := 69) hM dX5_bestExchange_65 (by decide) ?_
                  first | exact tl2 _ _ (if_pos (by omega)).symm (by omega) | exact tl2 _ _ (if_neg (by omega)).symm (by omega)
            · rw [range_dropE (exS L i) (show L.length ≤ j by omega)] at hinv
              refine x_iload hM dX5_bestExchange_27 rfl ?_
              refine x_aload_n hM dX5_bestExchange_29 rfl rfl ?_
              refine x_get hM wf_X5_36 wl_X5 (by first | assumption | exact str_o (by assumption) | exact str_a (by assumption)) rfl dX5_bestExchange_30 ?_
              refine x_icmp_ge (tgt := 94) hM dX5_bestExchange_33 (by decide) (by omega) (by omega) (fun c_33 => ?_) (fun c_33 => ?_)
              · refine x_iinc hM dX5_bestExchange_94 rfl rfl rfl ?_
                refine x_goto (tgt := 12) hM dX5_bestExchange_97 (by decide) ?_
                exact ih (i + 1) c _ _ (by omega) (by omega) hc hinv
              · exfalso; omega
        refine x_iload hM dX5_bestExchange_12 rfl ?_
        refine x_aload_n hM dX5_bestExchange_14 rfl rfl ?_
        refine x_get hM wf_X5_36 wl_X5 (by first | assumption | exact str_o (by assumption) | exact str_a (by assumption)) rfl dX5_bestExchange_15 ?_
        refine x_icmp_ge (tgt := 100) hM dX5_bestExchange_18 (by decide) (by omega) (by omega) (fun c_18 => ?_) (fun c_18 => ?_)
        · exfalso; omega
        · refine x_iload hM dX5_bestExchange_21 rfl ?_
          refine x_iconst hM dX5_bestExchange_23 ?_
          refine x_iadd hM dX5_bestExchange_24 ?_
          refine x_istore hM dX5_bestExchange_25 rfl (Nat.le_of_ble_eq_true rfl) rfl ?_
          exact KJ (L.length + 1) (i + 1) c _ (by omega) (by omega) (by omega) hc hinv
      · rw [range_dropE _ (by omega)] at hinv
        refine x_iload hM dX5_bestExchange_12 rfl ?_
        refine x_aload_n hM dX5_bestExchange_14 rfl rfl ?_
        refine x_get hM wf_X5_36 wl_X5 (by first | assumption | exact str_o (by assumption) | exact str_a (by assumption)) rfl dX5_bestExchange_15 ?_
        refine x_icmp_ge (tgt := 100) hM dX5_bestExchange_18 (by decide) (by omega) (by omega) (fun c_18 => ?_) (fun c_18 => ?_)
        · exact fin c.1 c.2.1 c.2.2 [_, _, _] hc.1 hinv
        · exfalso; omega
  refine x_bipush hM dX5_bestExchange_0 rfl ?_
  refine x_istore_n hM dX5_bestExchange_2 rfl rfl (Nat.le_of_ble_eq_true rfl) rfl ?_
  refine x_bipush hM dX5_bestExchange_3 rfl ?_
  refine x_istore_n hM dX5_bestExchange_5 rfl rfl (Nat.le_of_ble_eq_true rfl) rfl ?_
  refine x_iconst hM dX5_bestExchange_6 ?_
  refine x_istore hM dX5_bestExchange_7 rfl (Nat.le_of_ble_eq_true rfl) rfl ?_
  refine x_iconst hM dX5_bestExchange_9 ?_
  refine x_istore hM dX5_bestExchange_10 rfl (Nat.le_of_ble_eq_true rfl) rfl ?_
  exact KI (L.length + 1) 0 (-6, -6, 0) _ _ (by omega) (by omega) ⟨⟨by decide, by decide⟩, by decide, by decide⟩ rfl
