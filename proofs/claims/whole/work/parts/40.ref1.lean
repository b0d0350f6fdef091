/-! The reference: the picture of its numbers -/
abbrev okO (o : Int) : Prop := o = -6 ∨ (0 ≤ o ∧ o < 10)
abbrev okG (s : Sg) : Prop := okO s.1 ∧ 0 ≤ s.2.1 ∧ s.2.1 < s.2.2 ∧ s.2.2 ≤ 10000
def chn : Int → List Sg → Prop
  | a, [] => a = 10000
  | a, s :: L => s.2.1 = a ∧ a < s.2.2 ∧ okO s.1 ∧ chn s.2.2 L
def adj : List Sg → Prop
  | [] => True
  | s :: L => (match L with | [] => True | u :: _ => s.1 ≠ u.1) ∧ adj L
def segW (S : List Sg) : Prop := S.length ≤ 81 ∧ chn 0 S ∧ adj S
theorem chn_le {S : List Sg} : ∀ a : Int, chn a S → a ≤ 10000 := by
  induction S with
  | nil => intro a h; exact Int.le_of_eq h
  | cons s L ih => intro a h; have := ih _ h.2.2.2; have := h.2.1; omega
theorem chn_at {S : List Sg} : ∀ a : Int, chn a S → ∀ (i : Nat) (h : i < S.length), a ≤ S[i].2.1 ∧ S[i].2.1 < S[i].2.2 ∧ S[i].2.2 ≤ 10000 ∧ okO S[i].1 ∧ (∀ h2 : i + 1 < S.length, S[i].2.2 = S[i + 1].2.1) ∧ (i + 1 = S.length → S[i].2.2 = 10000) := by
  induction S with
  | nil => intro a _ i h; exact absurd h (Nat.not_lt_zero _)
  | cons s L ih =>
    intro a h i hi
    obtain ⟨h1, h2, h3, h4⟩ := h
    cases i with
    | zero =>
      refine ⟨by show a ≤ s.2.1; omega, by show s.2.1 < s.2.2; omega, chn_le _ h4, h3, fun q => ?_, fun q => ?_⟩
      · cases L with
        | nil => simp at q
        | cons u M => exact h4.1.symm
      · cases L with
        | nil => exact h4
        | cons u M => simp at q
    | succ i =>
      have hL : i < L.length := by simpa using hi
      obtain ⟨g1, g2, g3, g4, g5, g6⟩ := ih _ h4 i hL
      exact ⟨by show a ≤ L[i].2.1; omega, g2, g3, g4, fun q => g5 (by simpa using q), fun q => g6 (by simpa using q)⟩
def nowP (f : Int → Int) (t : St) : Prop := regW t ∧ dealW t.D ∧ segW t.L ∧ (∀ j : Int, 0 ≤ j → j < 5 → f j = t.set j) ∧ f 5 = t.day ∧ f 6 = t.own ∧ f 7 = t.L.length ∧ f 8 = t.D.length ∧ f 9 = t.clo ∧ f 10 = t.fee ∧ (∀ o : Int, 0 ≤ o → o < 10 → f (20 + 2 * o) = t.tax o ∧ f (20 + 2 * o + 1) = t.los o) ∧ (∀ (i : Nat) (h : i < t.D.length) (k : Int), 0 ≤ k → k < 5 → f (50 + 5 * i + k) = trAt t.D[i] k) ∧ ∀ (i : Nat) (h : i < t.L.length), f (100 + 2 * i) = t.L[i].2.1 ∧ f (100 + 2 * i + 1) = t.L[i].1
section NP
variable {f : Int → Int} {t : St}
theorem np_r (h : nowP f t) : regW t := h.1
theorem np_d (h : nowP f t) : dealW t.D := h.2.1
theorem np_w (h : nowP f t) : segW t.L := h.2.2.1
theorem np_set (h : nowP f t) {j : Int} (h0 : 0 ≤ j) (h5 : j < 5) : f j = t.set j := h.2.2.2.1 j h0 h5
theorem np_day (h : nowP f t) : f 5 = t.day := h.2.2.2.2.1
theorem np_own (h : nowP f t) : f 6 = t.own := h.2.2.2.2.2.1
theorem np_n (h : nowP f t) : f 7 = t.L.length := h.2.2.2.2.2.2.1
theorem np_m (h : nowP f t) : f 8 = t.D.length := h.2.2.2.2.2.2.2.1
theorem np_clo (h : nowP f t) : f 9 = t.clo := h.2.2.2.2.2.2.2.2.1
theorem np_fee (h : nowP f t) : f 10 = t.fee := h.2.2.2.2.2.2.2.2.2.1
theorem np_tax (h : nowP f t) {o : Int} (h0 : 0 ≤ o) (h9 : o < 10) : f (20 + 2 * o) = t.tax o := (h.2.2.2.2.2.2.2.2.2.2.1 o h0 h9).1
theorem np_los (h : nowP f t) {o : Int} (h0 : 0 ≤ o) (h9 : o < 10) : f (20 + 2 * o + 1) = t.los o := (h.2.2.2.2.2.2.2.2.2.2.1 o h0 h9).2
theorem np_tr (h : nowP f t) {i : Nat} (hi : i < t.D.length) {k : Int} (h0 : 0 ≤ k) (h5 : k < 5) : f (50 + 5 * i + k) = trAt t.D[i] k := h.2.2.2.2.2.2.2.2.2.2.2.1 i hi k h0 h5
theorem np_fr (h : nowP f t) {i : Nat} (hi : i < t.L.length) : f (100 + 2 * i) = t.L[i].2.1 := (h.2.2.2.2.2.2.2.2.2.2.2.2 i hi).1
theorem np_ow (h : nowP f t) {i : Nat} (hi : i < t.L.length) : f (100 + 2 * i + 1) = t.L[i].1 := (h.2.2.2.2.2.2.2.2.2.2.2.2 i hi).2
theorem np_at (h : nowP f t) {i : Nat} (hi : i < t.L.length) : okG t.L[i] := by
  obtain ⟨a, b, c, d, -, -⟩ := chn_at 0 (np_w h).2.1 i hi
  exact ⟨d, a, b, c⟩
end NP
abbrev hdV (m : Nat) (un sg it rw mn pl wr : Int) : va_E := .inr (7, [.ref (m + 1), .ref (m + 2), .ref (m + 3), .ref (m + 4), .ref (m + 5), .ref (m + 6), .ref (m + 7), .int (iI un), .ref (m + 8), .ref (m + 9), .ref (m + 10), .ref (m + 11), .int (iI sg), .int (iI it), .ref (m + 12), .ref (m + 13), .int (iI rw), .ref (m + 14), .int (iI mn), .int (iI pl), .int (iI wr)])
/-- what a method that only reads needs -/
def rdA (G : xG) (w : Wd) (m : Nat) (f : Int → Int) (t : St) : Prop := (∃ un sg it rw mn pl wr : Int, w m = some (hdV m un sg it rw mn pl wr)) ∧ w (m + 1) = some (aI G 400 f) ∧ nowP f t
theorem m_X7_in {l : Launch} {G : xG} {w : Wd} {z : Nat} {v a b : Int} (hv : iR v) (ha : iR a) (hb : iR b) : xMet l G yX7_in cX7_in 3 (some .boolean) ({ frames := 0, cells := 0, slots := 0, locals := 0 } : Room) [.int (iI v), .int (iI a), .int (iI b)] w z (rI (if a ≤ v ∧ v ≤ b then 1 else 0) w z) := by
  refine xMet_of RX7 rfl (by decide +kernel) false (by decide +kernel) (Nat.le_of_ble_eq_true rfl) rfl ?_
  intro P hM hR
  refine x_iload_n hM dX7_in_0 rfl rfl ?_
  refine x_iload_n hM dX7_in_1 rfl rfl ?_
  refine x_icmp_lt (tgt := 14) hM dX7_in_2 (by decide) (by omega) (by omega) (fun c_2 => ?_) (fun c_2 => ?_)
  · refine x_iconst hM dX7_in_14 ?_
    refine hR.b dX7_in_15 rfl (Nat.zero_le _) (Nat.zero_le _) ?_
    exact p_rI (by first | rw [if_pos (by omega)] | rw [if_neg (by omega)])
  · refine x_iload_n hM dX7_in_5 rfl rfl ?_
    refine x_iload_n hM dX7_in_6 rfl rfl ?_
    refine x_icmp_gt (tgt := 14) hM dX7_in_7 (by decide) (by omega) (by omega) (fun c_7 => ?_) (fun c_7 => ?_)
    · refine x_iconst hM dX7_in_14 ?_
      refine hR.b dX7_in_15 rfl (Nat.zero_le _) (Nat.zero_le _) ?_
      exact p_rI (by first | rw [if_pos (by omega)] | rw [if_neg (by omega)])
    · refine x_iconst hM dX7_in_10 ?_
      refine x_goto (tgt := 15) hM dX7_in_11 (by decide) ?_
      refine hR.b dX7_in_15 rfl (Nat.zero_le _) (Nat.zero_le _) ?_
      exact p_rI (by first | rw [if_pos (by omega)] | rw [if_neg (by omega)])
theorem m_X7_least {l : Launch} {G : xG} {w : Wd} {z : Nat} {v : Int} (hv : iR v) : xMet l G yX7_least cX7_least 1 (some .int) ({ frames := 0, cells := 0, slots := 0, locals := 0 } : Room) [.int (iI v)] w z (rI (if v < 3 then 0 else 1) w z) := by
  refine xMet_of RX7 rfl (by decide +kernel) false (by decide +kernel) (Nat.le_of_ble_eq_true rfl) rfl ?_
  intro P hM hR
  refine x_iload_n hM dX7_least_0 rfl rfl ?_
  refine x_iconst hM dX7_least_1 ?_
  refine x_icmp_ge (tgt := 9) hM dX7_least_2 (by decide) (by omega) (by omega) (fun c_2 => ?_) (fun c_2 => ?_)
  · refine x_iconst hM dX7_least_9 ?_
    refine hR.i dX7_least_10 (Nat.zero_le _) (Nat.zero_le _) ?_
    exact p_rI (by first | rw [if_pos (by omega)] | rw [if_neg (by omega)])
  · refine x_iconst hM dX7_least_5 ?_
    refine x_goto (tgt := 10) hM dX7_least_6 (by decide) ?_
    refine hR.i dX7_least_10 (Nat.zero_le _) (Nat.zero_le _) ?_
    exact p_rI (by first | rw [if_pos (by omega)] | rw [if_neg (by omega)])
theorem m_X7_most {l : Launch} {G : xG} {w : Wd} {z : Nat} {v : Int} (hv : iR v) : xMet l G yX7_most cX7_most 1 (some .int) ({ frames := 0, cells := 0, slots := 0, locals := 0 } : Room) [.int (iI v)] w z (rI (if v < 3 then 1000 else if v = 3 then 100 else 10000) w z) := by
  refine xMet_of RX7 rfl (by decide +kernel) false (by decide +kernel) (Nat.le_of_ble_eq_true rfl) rfl ?_
  intro P hM hR
  refine x_iload_n hM dX7_most_0 rfl rfl ?_
  refine x_iconst hM dX7_most_1 ?_
  refine x_icmp_ge (tgt := 11) hM dX7_most_2 (by decide) (by omega) (by omega) (fun c_2 => ?_) (fun c_2 => ?_)
  · refine x_iload_n hM dX7_most_11 rfl rfl ?_
    refine x_iconst hM dX7_most_12 ?_
    refine x_icmp_ne (tgt := 21) hM dX7_most_13 (by decide) (by omega) (by omega) (fun c_13 => ?_) (fun c_13 => ?_)
    · refine x_sipush hM dX7_most_21 rfl ?_
      refine hR.i dX7_most_24 (Nat.zero_le _) (Nat.zero_le _) ?_
      exact p_rI (by first | rw [if_pos (by omega)] | rw [if_neg (by omega), if_pos (by omega)] | rw [if_neg (by omega), if_neg (by omega)])
    · refine x_bipush hM dX7_most_16 rfl ?_
      refine x_goto (tgt := 24) hM dX7_most_18 (by decide) ?_
      refine hR.i dX7_most_24 (Nat.zero_le _) (Nat.zero_le _) ?_
      exact p_rI (by first | rw [if_pos (by omega)] | rw [if_neg (by omega), if_pos (by omega)] | rw [if_neg (by omega), if_neg (by omega)])
  · refine x_sipush hM dX7_most_5 rfl ?_
    refine x_goto (tgt := 24) hM dX7_most_8 (by decide) ?_
    refine hR.i dX7_most_24 (Nat.zero_le _) (Nat.zero_le _) ?_
    exact p_rI (by first | rw [if_pos (by omega)] | rw [if_neg (by omega), if_pos (by omega)] | rw [if_neg (by omega), if_neg (by omega)])
theorem nar_b {c : Prop} [Decidable c] : narrow .boolean (.int (iI (if c then 1 else 0))) = .int (iI (if c then 1 else 0)) := by
  by_cases h : c
  · rw [if_pos h]; rfl
  · rw [if_neg h]; rfl
theorem m_X7_isOwner {l : Launch} {G : xG} {w : Wd} {z m : Nat} {f : Int → Int} {t : St} {o : Int} (h : rdA G w m f t) (ho : iR o) : xMet l G yX7_isOwner cX7_isOwner 2 (some .boolean) ({ frames := 1, cells := 0, slots := 0, locals := 22 } : Room) [.ref m, .int (iI o)] w z (rI (if 0 ≤ o ∧ o < t.own then 1 else 0) w z) := by
  obtain ⟨⟨un, sg, it, rw', mn, pl, wr, hh⟩, hn, hp⟩ := id h
  have hr := np_r hp
  obtain ⟨r1, r2, r3⟩ := id hr
  refine xMet_of RX7 rfl (by decide +kernel) false (by decide +kernel) (Nat.le_of_ble_eq_true rfl) rfl ?_
  intro P hM hR
  refine x_iload_n hM dX7_isOwner_0 rfl rfl ?_
  refine x_iconst hM dX7_isOwner_1 ?_
  refine x_aload_n hM dX7_isOwner_2 rfl rfl ?_
  refine x_get hM wf_X7_7 wl_X7 (by first | assumption | exact md_o (by assumption)) rfl dX7_isOwner_3 ?_
  refine x_bipush hM dX7_isOwner_6 rfl ?_
  refine x_iald hM (by first | assumption | exact row_c (by first | assumption | exact sr1 (by assumption) | exact sr2 (by assumption) | exact sr3 (by assumption) | exact sr4 (by assumption) | exact sr5 (by assumption) | exact rg1 (by assumption) | exact rg2 (by assumption) | exact rg3 (by assumption))) (by omega) dX7_isOwner_8 ?_
  rw [np_own hp]
  refine x_iconst hM dX7_isOwner_9 ?_
  refine x_isub hM dX7_isOwner_10 ?_
  refine x_callS hM ws_X7_62 (m_X7_in (by omega) (by omega) (by omega)) ⟨Nat.le_of_ble_eq_true rfl, Nat.le_of_ble_eq_true rfl⟩ rfl rfl (Nat.le_of_ble_eq_true rfl) ⟨Nat.le_of_ble_eq_true rfl, Nat.le_of_ble_eq_true rfl⟩ dX7_isOwner_11 (k_rI ?_)
  refine hR.b dX7_isOwner_14 nar_b (Nat.zero_le _) (Nat.zero_le _) ?_
  exact p_rI (by by_cases q : 0 ≤ o ∧ o < t.own; rw [if_pos q, if_pos (by omega)]; rw [if_neg q, if_neg (by omega)])
theorem m_X7_first {l : Launch} {G : xG} {w : Wd} {z m i : Nat} {f : Int → Int} {t : St} (h : rdA G w m f t) (hi : i < t.L.length) : xMet l G yX7_first cX7_first 2 (some .int) ({ frames := 0, cells := 0, slots := 0, locals := 0 } : Room) [.ref m, .int (iI i)] w z (rI t.L[i].2.1 w z) := by
  obtain ⟨⟨un, sg, it, rw', mn, pl, wr, hh⟩, hn, hp⟩ := id h
  have hl := (np_w hp).1
  refine xMet_of RX7 rfl (by decide +kernel) false (by decide +kernel) (Nat.le_of_ble_eq_true rfl) rfl ?_
  intro P hM hR
  refine x_aload_n hM dX7_first_0 rfl rfl ?_
  refine x_get hM wf_X7_7 wl_X7 (by first | assumption | exact md_o (by assumption)) rfl dX7_first_1 ?_
  refine x_bipush hM dX7_first_4 rfl ?_
  refine x_iconst hM dX7_first_6 ?_
  refine x_iload_n hM dX7_first_7 rfl rfl ?_
  refine x_imul hM dX7_first_8 ?_
  refine x_iadd hM dX7_first_9 ?_
  refine x_iald hM (by first | assumption | exact row_c (by first | assumption | exact sr1 (by assumption) | exact sr2 (by assumption) | exact sr3 (by assumption) | exact sr4 (by assumption) | exact sr5 (by assumption) | exact rg1 (by assumption) | exact rg2 (by assumption) | exact rg3 (by assumption))) (by omega) dX7_first_10 ?_
  rw [np_fr hp hi]
  refine hR.i dX7_first_11 (Nat.zero_le _) (Nat.zero_le _) ?_
  exact p_rI rfl
theorem m_X7_ownerOf {l : Launch} {G : xG} {w : Wd} {z m i : Nat} {f : Int → Int} {t : St} (h : rdA G w m f t) (hi : i < t.L.length) : xMet l G yX7_ownerOf cX7_ownerOf 2 (some .int) ({ frames := 0, cells := 0, slots := 0, locals := 0 } : Room) [.ref m, .int (iI i)] w z (rI t.L[i].1 w z) := by
  obtain ⟨⟨un, sg, it, rw', mn, pl, wr, hh⟩, hn, hp⟩ := id h
  have hl := (np_w hp).1
  refine xMet_of RX7 rfl (by decide +kernel) false (by decide +kernel) (Nat.le_of_ble_eq_true rfl) rfl ?_
  intro P hM hR
  refine x_aload_n hM dX7_ownerOf_0 rfl rfl ?_
  refine x_get hM wf_X7_7 wl_X7 (by first | assumption | exact md_o (by assumption)) rfl dX7_ownerOf_1 ?_
  refine x_bipush hM dX7_ownerOf_4 rfl ?_
  refine x_iconst hM dX7_ownerOf_6 ?_
  refine x_iload_n hM dX7_ownerOf_7 rfl rfl ?_
  refine x_imul hM dX7_ownerOf_8 ?_
  refine x_iadd hM dX7_ownerOf_9 ?_
  refine x_iconst hM dX7_ownerOf_10 ?_
  refine x_iadd hM dX7_ownerOf_11 ?_
  refine x_iald hM (by first | assumption | exact row_c (by first | assumption | exact sr1 (by assumption) | exact sr2 (by assumption) | exact sr3 (by assumption) | exact sr4 (by assumption) | exact sr5 (by assumption) | exact rg1 (by assumption) | exact rg2 (by assumption) | exact rg3 (by assumption))) (by omega) dX7_ownerOf_12 ?_
  rw [np_ow hp hi]
  refine hR.i dX7_ownerOf_13 (Nat.zero_le _) (Nat.zero_le _) ?_
  exact p_rI rfl
theorem m_X7_behind {l : Launch} {G : xG} {w : Wd} {z m i : Nat} {f : Int → Int} {t : St} (h : rdA G w m f t) (hi : i < t.L.length) : xMet l G yX7_behind cX7_behind 2 (some .int) ({ frames := 1, cells := 0, slots := 0, locals := 21 } : Room) [.ref m, .int (iI i)] w z (rI t.L[i].2.2 w z) := by
  obtain ⟨⟨un, sg, it, rw', mn, pl, wr, hh⟩, hn, hp⟩ := id h
  have hl := (np_w hp).1
  obtain ⟨-, -, -, -, c5, c6⟩ := chn_at 0 (np_w hp).2.1 i hi
  refine xMet_of RX7 rfl (by decide +kernel) false (by decide +kernel) (Nat.le_of_ble_eq_true rfl) rfl ?_
  intro P hM hR
  refine x_iload_n hM dX7_behind_0 rfl rfl ?_
  refine x_iconst hM dX7_behind_1 ?_
  refine x_iadd hM dX7_behind_2 ?_
  refine x_aload_n hM dX7_behind_3 rfl rfl ?_
  refine x_get hM wf_X7_7 wl_X7 (by first | assumption | exact md_o (by assumption)) rfl dX7_behind_4 ?_
  refine x_bipush hM dX7_behind_7 rfl ?_
  refine x_iald hM (by first | assumption | exact row_c (by first | assumption | exact sr1 (by assumption) | exact sr2 (by assumption) | exact sr3 (by assumption) | exact sr4 (by assumption) | exact sr5 (by assumption) | exact rg1 (by assumption) | exact rg2 (by assumption) | exact rg3 (by assumption))) (by omega) dX7_behind_9 ?_
  rw [np_n hp]
  refine x_icmp_ge (tgt := 23) hM dX7_behind_10 (by decide) (by omega) (by omega) (fun c_10 => ?_) (fun c_10 => ?_)
  · refine x_sipush hM dX7_behind_23 rfl ?_
    refine hR.i dX7_behind_26 (Nat.zero_le _) (Nat.zero_le _) ?_
    first | exact p_rI (c5 (by omega)).symm | exact p_rI (c6 (by omega)).symm
  · refine x_aload_n hM dX7_behind_13 rfl rfl ?_
    refine x_iload_n hM dX7_behind_14 rfl rfl ?_
    refine x_iconst hM dX7_behind_15 ?_
    refine x_iadd hM dX7_behind_16 ?_
    rw [show (i : Int) + 1 = ((i + 1 : Nat) : Int) by omega]
    refine x_callV hM wv_X7_81 (m_X7_first (by assumption) (by omega)) ⟨Nat.le_of_ble_eq_true rfl, Nat.le_of_ble_eq_true rfl⟩ (by first | assumption | exact md_o (by assumption)) rfl rfl rfl rfl (Nat.le_of_ble_eq_true rfl) ⟨Nat.le_of_ble_eq_true rfl, Nat.le_of_ble_eq_true rfl⟩ dX7_behind_17 (k_rI ?_)
    refine x_goto (tgt := 26) hM dX7_behind_20 (by decide) ?_
    refine hR.i dX7_behind_26 (Nat.zero_le _) (Nat.zero_le _) ?_
    first | exact p_rI (c5 (by omega)).symm | exact p_rI (c6 (by omega)).symm
theorem m_X7_length {l : Launch} {G : xG} {w : Wd} {z m i : Nat} {f : Int → Int} {t : St} (h : rdA G w m f t) (hi : i < t.L.length) : xMet l G yX7_length cX7_length 2 (some .int) ({ frames := 2, cells := 0, slots := 0, locals := 42 } : Room) [.ref m, .int (iI i)] w z (rI (t.L[i].2.2 - t.L[i].2.1) w z) := by
  obtain ⟨⟨un, sg, it, rw', mn, pl, wr, hh⟩, hn, hp⟩ := id h
  refine xMet_of RX7 rfl (by decide +kernel) false (by decide +kernel) (Nat.le_of_ble_eq_true rfl) rfl ?_
  intro P hM hR
  refine x_aload_n hM dX7_length_0 rfl rfl ?_
  refine x_iload_n hM dX7_length_1 rfl rfl ?_
  refine x_callV hM wv_X7_84 (m_X7_behind (by assumption) (by omega)) ⟨Nat.le_of_ble_eq_true rfl, Nat.le_of_ble_eq_true rfl⟩ (by first | assumption | exact md_o (by assumption)) rfl rfl rfl rfl (Nat.le_of_ble_eq_true rfl) ⟨Nat.le_of_ble_eq_true rfl, Nat.le_of_ble_eq_true rfl⟩ dX7_length_2 (k_rI ?_)
  refine x_aload_n hM dX7_length_5 rfl rfl ?_
  refine x_iload_n hM dX7_length_6 rfl rfl ?_
  refine x_callV hM wv_X7_81 (m_X7_first (by assumption) (by omega)) ⟨Nat.le_of_ble_eq_true rfl, Nat.le_of_ble_eq_true rfl⟩ (by first | assumption | exact md_o (by assumption)) rfl rfl rfl rfl (Nat.le_of_ble_eq_true rfl) ⟨Nat.le_of_ble_eq_true rfl, Nat.le_of_ble_eq_true rfl⟩ dX7_length_7 (k_rI ?_)
  refine x_isub hM dX7_length_10 ?_
  refine hR.i dX7_length_11 (Nat.zero_le _) (Nat.zero_le _) ?_
  exact p_rI rfl
