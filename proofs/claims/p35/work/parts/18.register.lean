/-! Register: (ranges, settings, money, taxes, losses, deal, owners, day, closed, fees) -/
abbrev St : Type := List Sg × (Int → Int) × (Int → Int64) × (Int → Int) × (Int → Int) × List Tr × Int × Int × Int × Int
abbrev St.L (s : St) : List Sg := s.1
abbrev St.set (s : St) : Int → Int := s.2.1
abbrev St.mon (s : St) : Int → Int64 := s.2.2.1
abbrev St.tax (s : St) : Int → Int := s.2.2.2.1
abbrev St.los (s : St) : Int → Int := s.2.2.2.2.1
abbrev St.D (s : St) : List Tr := s.2.2.2.2.2.1
abbrev St.own (s : St) : Int := s.2.2.2.2.2.2.1
abbrev St.day (s : St) : Int := s.2.2.2.2.2.2.2.1
abbrev St.clo (s : St) : Int := s.2.2.2.2.2.2.2.2.1
abbrev St.fee (s : St) : Int := s.2.2.2.2.2.2.2.2.2
abbrev mkS (L : List Sg) (se : Int → Int) (mo : Int → Int64) (ta lo : Int → Int) (D : List Tr) (ow da cl fe : Int) : St := (L, se, mo, ta, lo, D, ow, da, cl, fe)
def regR (G : xG) (w : Wd) (r : Nat) (L : List Sg) (D : List Tr) (fs : Int → Int) (fp : Int → Int64) (ft fx : Int → Int) (ow da cl fe : Int) : Prop :=
  w r = some (.inr (3, [.ref (r + 1), .ref (r + 12), .ref (r + 15), .ref (r + 17), .ref (r + 18), .ref (r + 20), .int (iI ow), .int (iI da), .int (iI cl), .int (iI fe)])) ∧ strA G w (r + 1) L ∧ dealA G w (r + 12) D ∧ rowA G w (r + 15) 5 fs ∧ w (r + 17) = some (aJ G 10 fp) ∧ rowA G w (r + 18) 10 ft ∧ rowA G w (r + 20) 10 fx
section RR
variable {G : xG} {w w1 : Wd} {r : Nat} {L L2 : List Sg} {D D2 : List Tr} {fs ft fx g : Int → Int} {fp gp : Int → Int64} {ow da cl fe ow2 da2 cl2 fe2 : Int}
theorem reg_o (h : regR G w r L D fs fp ft fx ow da cl fe) : w r = some (.inr (3, [.ref (r + 1), .ref (r + 12), .ref (r + 15), .ref (r + 17), .ref (r + 18), .ref (r + 20), .int (iI ow), .int (iI da), .int (iI cl), .int (iI fe)])) := h.1
theorem rgS (h : regR G w r L D fs fp ft fx ow da cl fe) : strA G w (r + 1) L := h.2.1
theorem rgD (h : regR G w r L D fs fp ft fx ow da cl fe) : dealA G w (r + 12) D := h.2.2.1
theorem rg1 (h : regR G w r L D fs fp ft fx ow da cl fe) : rowA G w (r + 15) 5 fs := h.2.2.2.1
theorem rgJ (h : regR G w r L D fs fp ft fx ow da cl fe) : w (r + 17) = some (aJ G 10 fp) := h.2.2.2.2.1
theorem rg2 (h : regR G w r L D fs fp ft fx ow da cl fe) : rowA G w (r + 18) 10 ft := h.2.2.2.2.2.1
theorem rg3 (h : regR G w r L D fs fp ft fx ow da cl fe) : rowA G w (r + 20) 10 fx := h.2.2.2.2.2.2
theorem regR.kp {lo hi : Nat} (h : regR G w r L D fs fp ft fx ow da cl fe) (k : Fr lo hi w w1) (a : r + 22 ≤ lo ∨ hi ≤ r) : regR G w1 r L D fs fp ft fx ow da cl fe :=
  ⟨(k r (by omega)).trans h.1, (rgS h).kp k (by omega), (rgD h).kp k (by omega), (rg1 h).kp k (by omega), (k _ (by omega)).trans (rgJ h), (rg2 h).kp k (by omega), (rg3 h).kp k (by omega)⟩
theorem regR.uS (h : regR G w r L D fs fp ft fx ow da cl fe) (k : Fr (r + 1) (r + 1 + 11) w w1) (s : strA G w1 (r + 1) L2) : regR G w1 r L2 D fs fp ft fx ow da cl fe :=
  ⟨(k r (by omega)).trans h.1, s, (rgD h).kp k (by omega), (rg1 h).kp k (by omega), (k _ (by omega)).trans (rgJ h), (rg2 h).kp k (by omega), (rg3 h).kp k (by omega)⟩
theorem regR.uD (h : regR G w r L D fs fp ft fx ow da cl fe) (k : Fr (r + 12) (r + 12 + 3) w w1) (s : dealA G w1 (r + 12) D2) : regR G w1 r L D2 fs fp ft fx ow da cl fe :=
  ⟨(k r (by omega)).trans h.1, (rgS h).kp k (by omega), s, (rg1 h).kp k (by omega), (k _ (by omega)).trans (rgJ h), (rg2 h).kp k (by omega), (rg3 h).kp k (by omega)⟩
theorem wF {q : Nat} {e : va_E} : Fr q (q + 1) w (wS w q e) := Fr.wS (Nat.le_refl _) (by omega)
theorem regR.u1 (h : regR G w r L D fs fp ft fx ow da cl fe) : regR G (wS w (r + 15 + 1) (aI G 5 g)) r L D g fp ft fx ow da cl fe :=
  ⟨(wS_ne (by omega)).trans h.1, (rgS h).kp wF (by omega), (rgD h).kp wF (by omega), (rg1 h).up, (wS_ne (by omega)).trans (rgJ h), (rg2 h).kp wF (by omega), (rg3 h).kp wF (by omega)⟩
theorem regR.uJ (h : regR G w r L D fs fp ft fx ow da cl fe) : regR G (wS w (r + 17) (aJ G 10 gp)) r L D fs gp ft fx ow da cl fe :=
  ⟨(wS_ne (by omega)).trans h.1, (rgS h).kp wF (by omega), (rgD h).kp wF (by omega), (rg1 h).kp wF (by omega), wS_eq, (rg2 h).kp wF (by omega), (rg3 h).kp wF (by omega)⟩
theorem regR.u2 (h : regR G w r L D fs fp ft fx ow da cl fe) : regR G (wS w (r + 18 + 1) (aI G 10 g)) r L D fs fp g fx ow da cl fe :=
  ⟨(wS_ne (by omega)).trans h.1, (rgS h).kp wF (by omega), (rgD h).kp wF (by omega), (rg1 h).kp wF (by omega), (wS_ne (by omega)).trans (rgJ h), (rg2 h).up, (rg3 h).kp wF (by omega)⟩
theorem regR.u3 (h : regR G w r L D fs fp ft fx ow da cl fe) : regR G (wS w (r + 20 + 1) (aI G 10 g)) r L D fs fp ft g ow da cl fe :=
  ⟨(wS_ne (by omega)).trans h.1, (rgS h).kp wF (by omega), (rgD h).kp wF (by omega), (rg1 h).kp wF (by omega), (wS_ne (by omega)).trans (rgJ h), (rg2 h).kp wF (by omega), (rg3 h).up⟩
theorem regR.u0 (h : regR G w r L D fs fp ft fx ow da cl fe) : regR G (wS w r (.inr (3, [.ref (r + 1), .ref (r + 12), .ref (r + 15), .ref (r + 17), .ref (r + 18), .ref (r + 20), .int (iI ow2), .int (iI da2), .int (iI cl2), .int (iI fe2)]))) r L D fs fp ft fx ow2 da2 cl2 fe2 :=
  ⟨wS_eq, (rgS h).kp wF (by omega), (rgD h).kp wF (by omega), (rg1 h).kp wF (by omega), (wS_ne (by omega)).trans (rgJ h), (rg2 h).kp wF (by omega), (rg3 h).kp wF (by omega)⟩
end RR
def eqR {α : Type} (n : Int) (f g : Int → α) : Prop := ∀ j : Int, 0 ≤ j → j < n → f j = g j
theorem eqR_up {α : Type} {n : Int} {f g : Int → α} (h : eqR n f g) (i : Int) (v : α) : eqR n (fU f i v) (fU g i v) := fun j a b => by
  by_cases e : j = i
  · subst e; rw [fU_eq, fU_eq]
  · rw [fU_ne e, fU_ne e]; exact h j a b
def regW (s : St) : Prop := 0 ≤ s.own ∧ s.own ≤ 10 ∧ (0 ≤ s.set 0 ∧ s.set 0 ≤ 1000) ∧ (0 ≤ s.set 1 ∧ s.set 1 ≤ 1000) ∧ (0 ≤ s.set 2 ∧ s.set 2 ≤ 1000) ∧ (1 ≤ s.set 3 ∧ s.set 3 ≤ 100) ∧ (1 ≤ s.set 4 ∧ s.set 4 ≤ 10000)
def regA (G : xG) (w : Wd) (r : Nat) (s : St) : Prop := regW s ∧ ∃ (fs : Int → Int) (fp : Int → Int64) (ft fx : Int → Int), regR G w r s.L s.D fs fp ft fx s.own s.day s.clo s.fee ∧ eqR 5 fs s.set ∧ eqR 10 fp s.mon ∧ eqR 10 ft s.tax ∧ eqR 10 fx s.los
theorem reg_a {G : xG} {w : Wd} {r : Nat} {s : St} (h : regA G w r s) : w r = some (.inr (3, [.ref (r + 1), .ref (r + 12), .ref (r + 15), .ref (r + 17), .ref (r + 18), .ref (r + 20), .int (iI s.own), .int (iI s.day), .int (iI s.clo), .int (iI s.fee)])) := by
  obtain ⟨-, fs, fp, ft, fx, h, -⟩ := h
  exact h.1
theorem regA.kp {G : xG} {w w1 : Wd} {r lo hi : Nat} {s : St} (h : regA G w r s) (k : Fr lo hi w w1) (a : r + 22 ≤ lo ∨ hi ≤ r) : regA G w1 r s := by
  obtain ⟨h0, fs, fp, ft, fx, h1, h2⟩ := h
  exact ⟨h0, fs, fp, ft, fx, h1.kp k a, h2⟩
theorem rgaS {G : xG} {w : Wd} {r : Nat} {s : St} (h : regA G w r s) : strA G w (r + 1) s.L := by
  obtain ⟨-, fs, fp, ft, fx, h, -⟩ := h
  exact rgS h
theorem rgaD {G : xG} {w : Wd} {r : Nat} {s : St} (h : regA G w r s) : dealA G w (r + 12) s.D := by
  obtain ⟨-, fs, fp, ft, fx, h, -⟩ := h
  exact rgD h
theorem m_X3_hasOwner {l : Launch} {G : xG} {w : Wd} {z r : Nat} {s : St} {o : Int} (h1 : regA G w r s) (ho : iR o) : xMet l G yX3_hasOwner cX3_hasOwner 2 (some .boolean) ({ frames := 0, cells := 0, slots := 0, locals := 0 } : Room) [.ref r, .int (iI o)] w z (rI (if 0 ≤ o ∧ o < s.own then 1 else 0) w z) := by
  obtain ⟨⟨w1, w2, -⟩, fs, fp, ft, fx, hr, -⟩ := id h1
  refine xMet_of RX3 rfl (by decide +kernel) false (by decide +kernel) (Nat.le_of_ble_eq_true rfl) rfl ?_
  intro P hM hR
  refine x_iload_n hM dX3_hasOwner_0 rfl rfl ?_
  refine x_if_lt (tgt := 16) hM dX3_hasOwner_1 (by decide) (by omega) (fun c_1 => ?_) (fun c_1 => ?_)
  · refine x_iconst hM dX3_hasOwner_16 ?_
    refine hR.b dX3_hasOwner_17 rfl (Nat.zero_le _) (Nat.zero_le _) ?_
    exact p_rI (by first | rw [if_pos (by omega)] | rw [if_neg (by omega)])
  · refine x_iload_n hM dX3_hasOwner_4 rfl rfl ?_
    refine x_aload_n hM dX3_hasOwner_5 rfl rfl ?_
    refine x_get hM wf_X3_74 wl_X3 (by first | assumption | exact reg_o (by assumption) | exact reg_a (by assumption)) rfl dX3_hasOwner_6 ?_
    refine x_icmp_ge (tgt := 16) hM dX3_hasOwner_9 (by decide) (by omega) (by omega) (fun c_9 => ?_) (fun c_9 => ?_)
    · refine x_iconst hM dX3_hasOwner_16 ?_
      refine hR.b dX3_hasOwner_17 rfl (Nat.zero_le _) (Nat.zero_le _) ?_
      exact p_rI (by first | rw [if_pos (by omega)] | rw [if_neg (by omega)])
    · refine x_iconst hM dX3_hasOwner_12 ?_
      refine x_goto (tgt := 17) hM dX3_hasOwner_13 (by decide) ?_
      refine hR.b dX3_hasOwner_17 rfl (Nat.zero_le _) (Nat.zero_le _) ?_
      exact p_rI (by first | rw [if_pos (by omega)] | rw [if_neg (by omega)])
theorem m_X3_purseOf {l : Launch} {G : xG} {w : Wd} {z r : Nat} {s : St} {o : Int} (h1 : regA G w r s) (ho : 0 ≤ o ∧ o < 10) : xMet l G yX3_purseOf cX3_purseOf 2 (some .long) ({ frames := 0, cells := 0, slots := 0, locals := 0 } : Room) [.ref r, .int (iI o)] w z (rL (s.mon o) w z) := by
  obtain ⟨-, fs, fp, ft, fx, hr, e1, e2, e3, e4⟩ := id h1
  refine xMet_of RX3 rfl (by decide +kernel) false (by decide +kernel) (Nat.le_of_ble_eq_true rfl) rfl ?_
  intro P hM hR
  refine x_iload_n hM dX3_purseOf_0 rfl rfl ?_
  refine x_if_lt (tgt := 22) hM dX3_purseOf_1 (by decide) (by omega) (fun c_1 => ?_) (fun c_1 => ?_)
  · exfalso; omega
  · refine x_iload_n hM dX3_purseOf_4 rfl rfl ?_
    refine x_aload_n hM dX3_purseOf_5 rfl rfl ?_
    refine x_get hM wf_X3_34 wl_X3 (by first | assumption | exact reg_o (by assumption) | exact reg_a (by assumption)) rfl dX3_purseOf_6 ?_
    refine x_alenJ hM (rgJ hr) dX3_purseOf_9 ?_
    refine x_icmp_ge (tgt := 22) hM dX3_purseOf_10 (by decide) (by omega) (by omega) (fun c_10 => ?_) (fun c_10 => ?_)
    · exfalso; omega
    · refine x_aload_n hM dX3_purseOf_13 rfl rfl ?_
      refine x_get hM wf_X3_34 wl_X3 (by first | assumption | exact reg_o (by assumption) | exact reg_a (by assumption)) rfl dX3_purseOf_14 ?_
      refine x_iload_n hM dX3_purseOf_17 rfl rfl ?_
      refine x_lald hM (rgJ hr) (by omega) dX3_purseOf_18 ?_
      refine x_goto (tgt := 23) hM dX3_purseOf_19 (by decide) ?_
      refine hR.j dX3_purseOf_23 (Nat.zero_le _) (Nat.zero_le _) ?_
      exact p_rL (e2 o ho.1 ho.2)
def earnF (s : St) (o : Int) (c : Int64) : St := mkS s.L s.set (fU s.mon o (s.mon o + c)) s.tax s.los s.D s.own s.day s.clo s.fee
theorem m_X3_earn {l : Launch} {G : xG} {w : Wd} {z r : Nat} {s : St} {o : Int} {c : Int64} (h1 : regA G w r s) (ho : 0 ≤ o ∧ o < 10) : xMet l G yX3_earn cX3_earn 4 none ({ frames := 0, cells := 0, slots := 0, locals := 0 } : Room) [.ref r, .int (iI o), .long c] w z (qV z fun w1 => regA G w1 r (earnF s o c) ∧ Fr r (r + 22) w w1) := by
  obtain ⟨hW, fs, fp, ft, fx, hr, e1, e2, e3, e4⟩ := id h1
  refine xMet_of RX3 rfl (by decide +kernel) false (by decide +kernel) (Nat.le_of_ble_eq_true rfl) rfl ?_
  intro P hM hR
  refine x_iload_n hM dX3_earn_0 rfl rfl ?_
  refine x_if_lt (tgt := 23) hM dX3_earn_1 (by decide) (by omega) (fun c_1 => ?_) (fun c_1 => ?_)
  · exfalso; omega
  · refine x_iload_n hM dX3_earn_4 rfl rfl ?_
    refine x_aload_n hM dX3_earn_5 rfl rfl ?_
    refine x_get hM wf_X3_34 wl_X3 (by first | assumption | exact reg_o (by assumption) | exact reg_a (by assumption)) rfl dX3_earn_6 ?_
    refine x_alenJ hM (rgJ hr) dX3_earn_9 ?_
    refine x_icmp_ge (tgt := 23) hM dX3_earn_10 (by decide) (by omega) (by omega) (fun c_10 => ?_) (fun c_10 => ?_)
    · exfalso; omega
    · refine x_aload_n hM dX3_earn_13 rfl rfl ?_
      refine x_get hM wf_X3_34 wl_X3 (by first | assumption | exact reg_o (by assumption) | exact reg_a (by assumption)) rfl dX3_earn_14 ?_
      refine x_iload_n hM dX3_earn_17 rfl rfl ?_
      refine x_dup2 hM dX3_earn_18 rfl rfl ?_
      refine x_lald hM (rgJ hr) (by omega) dX3_earn_19 ?_
      refine x_lload_n hM dX3_earn_20 rfl rfl ?_
      refine x_ladd hM dX3_earn_21 ?_
      refine x_last hM (rgJ hr) (by omega) dX3_earn_22 ?_
      refine hR.v dX3_earn_23 (Nat.zero_le _) (Nat.zero_le _) ?_
      refine p_qV ⟨⟨hW, _, _, _, _, hr.uJ, e1, ?_, e3, e4⟩, Fr.wS (by omega) (by omega)⟩
      rw [e2 o ho.1 ho.2]
      exact eqR_up e2 o _
theorem m_X3_mayGet {l : Launch} {G : xG} {w : Wd} {z r : Nat} {s : St} {o m : Int} (h1 : regA G w r s) (ho : 0 ≤ o ∧ o < 10) (hm : -10000000 ≤ m ∧ m ≤ 10000000) : xMet l G yX3_mayGet cX3_mayGet 3 (some .boolean) ({ frames := 1, cells := 0, slots := 0, locals := 21 } : Room) [.ref r, .int (iI o), .int (iI m)] w z (rI (if m = 0 ∨ mtsO s.L o + m ≤ s.set 4 then 1 else 0) w z) := by
  obtain ⟨hW, fs, fp, ft, fx, hr, e1, e2, e3, e4⟩ := id h1
  obtain ⟨-, -, -, -, -, -, w4⟩ := hW
  obtain ⟨sW, go, gs, gl, gr, gm, hs, hL⟩ := rgS hr
  have sW1 := sW.1
  have b := mtsO_nn s.L o sW.2
  have e5 := (hL.2 o ho.1 ho.2).2
  have e6 := e1 4 (by omega) (by omega)
  refine xMet_of RX3 rfl (by decide +kernel) false (by decide +kernel) (Nat.le_of_ble_eq_true rfl) rfl ?_
  intro P hM hR
  refine x_iload_n hM dX3_mayGet_0 rfl rfl ?_
  refine x_if_eq (tgt := 28) hM dX3_mayGet_1 (by decide) (by omega) (fun c_1 => ?_) (fun c_1 => ?_)
  · refine x_iconst hM dX3_mayGet_28 ?_
    refine x_goto (tgt := 33) hM dX3_mayGet_29 (by decide) ?_
    refine hR.b dX3_mayGet_33 rfl (Nat.zero_le _) (Nat.zero_le _) ?_
    exact p_rI (by first | rw [if_pos (by omega)] | rw [if_neg (by omega)])
  · refine x_aload_n hM dX3_mayGet_4 rfl rfl ?_
    refine x_get hM wf_X3_12 wl_X3 (by first | assumption | exact reg_o (by assumption) | exact reg_a (by assumption)) rfl dX3_mayGet_5 ?_
    refine x_get hM wf_X3_87 wl_X5 (by first | assumption | exact str_o (by assumption) | exact str_a (by assumption)) rfl dX3_mayGet_8 ?_
    refine x_iload_n hM dX3_mayGet_11 rfl rfl ?_
    refine x_callV hM wv_X3_90 (m_X4_at (by first | assumption | exact sr1 (by assumption) | exact sr2 (by assumption) | exact sr3 (by assumption) | exact sr4 (by assumption) | exact sr5 (by assumption) | exact rg1 (by assumption) | exact rg2 (by assumption) | exact rg3 (by assumption)) (by omega)) ⟨Nat.le_of_ble_eq_true rfl, Nat.le_of_ble_eq_true rfl⟩ (by first | assumption | exact row_o (by first | assumption | exact sr1 (by assumption) | exact sr2 (by assumption) | exact sr3 (by assumption) | exact sr4 (by assumption) | exact sr5 (by assumption) | exact rg1 (by assumption) | exact rg2 (by assumption) | exact rg3 (by assumption))) rfl rfl rfl rfl (Nat.le_of_ble_eq_true rfl) ⟨Nat.le_of_ble_eq_true rfl, Nat.le_of_ble_eq_true rfl⟩ dX3_mayGet_12 (k_rI ?_)
    refine x_iload_n hM dX3_mayGet_15 rfl rfl ?_
    refine x_iadd hM dX3_mayGet_16 ?_
    refine x_aload_n hM dX3_mayGet_17 rfl rfl ?_
    refine x_get hM wf_X3_30 wl_X3 (by first | assumption | exact reg_o (by assumption) | exact reg_a (by assumption)) rfl dX3_mayGet_18 ?_
    refine x_iconst hM dX3_mayGet_21 ?_
    refine x_callV hM wv_X3_90 (m_X4_at (by first | assumption | exact sr1 (by assumption) | exact sr2 (by assumption) | exact sr3 (by assumption) | exact sr4 (by assumption) | exact sr5 (by assumption) | exact rg1 (by assumption) | exact rg2 (by assumption) | exact rg3 (by assumption)) (by omega)) ⟨Nat.le_of_ble_eq_true rfl, Nat.le_of_ble_eq_true rfl⟩ (by first | assumption | exact row_o (by first | assumption | exact sr1 (by assumption) | exact sr2 (by assumption) | exact sr3 (by assumption) | exact sr4 (by assumption) | exact sr5 (by assumption) | exact rg1 (by assumption) | exact rg2 (by assumption) | exact rg3 (by assumption))) rfl rfl rfl rfl (Nat.le_of_ble_eq_true rfl) ⟨Nat.le_of_ble_eq_true rfl, Nat.le_of_ble_eq_true rfl⟩ dX3_mayGet_22 (k_rI ?_)
    refine x_icmp_gt (tgt := 32) hM dX3_mayGet_25 (by decide) (by omega) (by omega) (fun c_25 => ?_) (fun c_25 => ?_)
    · refine x_iconst hM dX3_mayGet_32 ?_
      refine hR.b dX3_mayGet_33 rfl (Nat.zero_le _) (Nat.zero_le _) ?_
      exact p_rI (by first | rw [if_pos (by omega)] | rw [if_neg (by omega)])
    · refine x_iconst hM dX3_mayGet_28 ?_
      refine x_goto (tgt := 33) hM dX3_mayGet_29 (by decide) ?_
      refine hR.b dX3_mayGet_33 rfl (Nat.zero_le _) (Nat.zero_le _) ?_
      exact p_rI (by first | rw [if_pos (by omega)] | rw [if_neg (by omega)])
def taxV (s : St) (o : Int) : Int := cntO s.L o * s.set 1 + (mtsO s.L o + 9) / 10 * s.set 0
theorem m_X3_taxOf {l : Launch} {G : xG} {w : Wd} {z r : Nat} {s : St} {o : Int} (h1 : regA G w r s) (ho : 0 ≤ o ∧ o < 10) : xMet l G yX3_taxOf cX3_taxOf 3 (some .int) ({ frames := 1, cells := 0, slots := 0, locals := 21 } : Room) [.ref r, .int (iI o)] w z (rI (taxV s o) w z) := by
  obtain ⟨hW, fs, fp, ft, fx, hr, e1, e2, e3, e4⟩ := id h1
  obtain ⟨sW, go, gs, gl, gr, gm, hs, hL⟩ := rgS hr
  have sW1 := sW.1
  have b := mtsO_nn s.L o sW.2
  have e5 := hL.2 o ho.1 ho.2
  have e6 := e1 0 (by omega) (by omega)
  have e7 := e1 1 (by omega) (by omega)
  refine xMet_of RX3 rfl (by decide +kernel) false (by decide +kernel) (Nat.le_of_ble_eq_true rfl) rfl ?_
  intro P hM hR
  refine x_aload_n hM dX3_taxOf_0 rfl rfl ?_
  refine x_get hM wf_X3_12 wl_X3 (by first | assumption | exact reg_o (by assumption) | exact reg_a (by assumption)) rfl dX3_taxOf_1 ?_
  refine x_get hM wf_X3_87 wl_X5 (by first | assumption | exact str_o (by assumption) | exact str_a (by assumption)) rfl dX3_taxOf_4 ?_
  refine x_iload_n hM dX3_taxOf_7 rfl rfl ?_
  refine x_callV hM wv_X3_90 (m_X4_at (by first | assumption | exact sr1 (by assumption) | exact sr2 (by assumption) | exact sr3 (by assumption) | exact sr4 (by assumption) | exact sr5 (by assumption) | exact rg1 (by assumption) | exact rg2 (by assumption) | exact rg3 (by assumption)) (by omega)) ⟨Nat.le_of_ble_eq_true rfl, Nat.le_of_ble_eq_true rfl⟩ (by first | assumption | exact row_o (by first | assumption | exact sr1 (by assumption) | exact sr2 (by assumption) | exact sr3 (by assumption) | exact sr4 (by assumption) | exact sr5 (by assumption) | exact rg1 (by assumption) | exact rg2 (by assumption) | exact rg3 (by assumption))) rfl rfl rfl rfl (Nat.le_of_ble_eq_true rfl) ⟨Nat.le_of_ble_eq_true rfl, Nat.le_of_ble_eq_true rfl⟩ dX3_taxOf_8 (k_rI ?_)
  refine x_bipush hM dX3_taxOf_11 rfl ?_
  refine x_iadd hM dX3_taxOf_13 ?_
  refine x_bipush hM dX3_taxOf_14 rfl ?_
  refine x_idiv hM dX3_taxOf_16 (by omega) (by omega) (by omega) (by omega) ?_
  refine x_istore_n hM dX3_taxOf_17 rfl rfl (Nat.le_of_ble_eq_true rfl) rfl ?_
  refine x_aload_n hM dX3_taxOf_18 rfl rfl ?_
  refine x_get hM wf_X3_12 wl_X3 (by first | assumption | exact reg_o (by assumption) | exact reg_a (by assumption)) rfl dX3_taxOf_19 ?_
  refine x_get hM wf_X3_94 wl_X5 (by first | assumption | exact str_o (by assumption) | exact str_a (by assumption)) rfl dX3_taxOf_22 ?_
  refine x_iload_n hM dX3_taxOf_25 rfl rfl ?_
  refine x_callV hM wv_X3_90 (m_X4_at (by first | assumption | exact sr1 (by assumption) | exact sr2 (by assumption) | exact sr3 (by assumption) | exact sr4 (by assumption) | exact sr5 (by assumption) | exact rg1 (by assumption) | exact rg2 (by assumption) | exact rg3 (by assumption)) (by omega)) ⟨Nat.le_of_ble_eq_true rfl, Nat.le_of_ble_eq_true rfl⟩ (by first | assumption | exact row_o (by first | assumption | exact sr1 (by assumption) | exact sr2 (by assumption) | exact sr3 (by assumption) | exact sr4 (by assumption) | exact sr5 (by assumption) | exact rg1 (by assumption) | exact rg2 (by assumption) | exact rg3 (by assumption))) rfl rfl rfl rfl (Nat.le_of_ble_eq_true rfl) ⟨Nat.le_of_ble_eq_true rfl, Nat.le_of_ble_eq_true rfl⟩ dX3_taxOf_26 (k_rI ?_)
  refine x_aload_n hM dX3_taxOf_29 rfl rfl ?_
  refine x_get hM wf_X3_30 wl_X3 (by first | assumption | exact reg_o (by assumption) | exact reg_a (by assumption)) rfl dX3_taxOf_30 ?_
  refine x_iconst hM dX3_taxOf_33 ?_
  refine x_callV hM wv_X3_90 (m_X4_at (by first | assumption | exact sr1 (by assumption) | exact sr2 (by assumption) | exact sr3 (by assumption) | exact sr4 (by assumption) | exact sr5 (by assumption) | exact rg1 (by assumption) | exact rg2 (by assumption) | exact rg3 (by assumption)) (by omega)) ⟨Nat.le_of_ble_eq_true rfl, Nat.le_of_ble_eq_true rfl⟩ (by first | assumption | exact row_o (by first | assumption | exact sr1 (by assumption) | exact sr2 (by assumption) | exact sr3 (by assumption) | exact sr4 (by assumption) | exact sr5 (by assumption) | exact rg1 (by assumption) | exact rg2 (by assumption) | exact rg3 (by assumption))) rfl rfl rfl rfl (Nat.le_of_ble_eq_true rfl) ⟨Nat.le_of_ble_eq_true rfl, Nat.le_of_ble_eq_true rfl⟩ dX3_taxOf_34 (k_rI ?_)
  refine x_imul hM dX3_taxOf_37 ?_
  refine x_iload_n hM dX3_taxOf_38 rfl rfl ?_
  refine x_aload_n hM dX3_taxOf_39 rfl rfl ?_
  refine x_get hM wf_X3_30 wl_X3 (by first | assumption | exact reg_o (by assumption) | exact reg_a (by assumption)) rfl dX3_taxOf_40 ?_
  refine x_iconst hM dX3_taxOf_43 ?_
  refine x_callV hM wv_X3_90 (m_X4_at (by first | assumption | exact sr1 (by assumption) | exact sr2 (by assumption) | exact sr3 (by assumption) | exact sr4 (by assumption) | exact sr5 (by assumption) | exact rg1 (by assumption) | exact rg2 (by assumption) | exact rg3 (by assumption)) (by omega)) ⟨Nat.le_of_ble_eq_true rfl, Nat.le_of_ble_eq_true rfl⟩ (by first | assumption | exact row_o (by first | assumption | exact sr1 (by assumption) | exact sr2 (by assumption) | exact sr3 (by assumption) | exact sr4 (by assumption) | exact sr5 (by assumption) | exact rg1 (by assumption) | exact rg2 (by assumption) | exact rg3 (by assumption))) rfl rfl rfl rfl (Nat.le_of_ble_eq_true rfl) ⟨Nat.le_of_ble_eq_true rfl, Nat.le_of_ble_eq_true rfl⟩ dX3_taxOf_44 (k_rI ?_)
  refine x_imul hM dX3_taxOf_47 ?_
  refine x_iadd hM dX3_taxOf_48 ?_
  refine hR.i dX3_taxOf_49 (Nat.zero_le _) (Nat.zero_le _) ?_
  exact p_rI (by unfold taxV; rw [e5.1, e5.2, e6, e7])
theorem tax_b {s : St} (o : Int) (h : regW s) (hL : strW s.L) : 0 ≤ taxV s o ∧ taxV s o ≤ 43000000 := by
  have b1 := cntO_nn s.L o
  have b2 := mtsO_nn s.L o hL.2
  have b3 := hL.1
  obtain ⟨-, -, ⟨a1, a2⟩, ⟨a3, a4⟩, -⟩ := h
  unfold taxV
  have c1 : cntO s.L o * s.set 1 ≤ 42 * 1000 := Int.mul_le_mul (by omega) a4 a3 (by omega)
  have c2 : 0 ≤ cntO s.L o * s.set 1 := Int.mul_nonneg b1.1 a3
  have c3 : (mtsO s.L o + 9) / 10 * s.set 0 ≤ 42001 * 1000 := Int.mul_le_mul (by omega) a2 a1 (by omega)
  have c4 : 0 ≤ (mtsO s.L o + 9) / 10 * s.set 0 := Int.mul_nonneg (by omega) a1
  omega
def chgF (s : St) (o c : Int) : St := mkS s.L s.set (fU s.mon o (s.mon o + jJ (-c))) (fU s.tax o (s.tax o + c)) s.los s.D s.own s.day s.clo s.fee
theorem m_X3_chargeTax {l : Launch} {G : xG} {w : Wd} {z r : Nat} {s : St} {o c : Int} (h1 : regA G w r s) (ho : 0 ≤ o ∧ o < 10) (hc : -100000000 ≤ c ∧ c ≤ 100000000) : xMet l G yX3_chargeTax cX3_chargeTax 3 none ({ frames := 1, cells := 0, slots := 0, locals := 23 } : Room) [.ref r, .int (iI o), .int (iI c)] w z (qV z fun w1 => regA G w1 r (chgF s o c) ∧ Fr r (r + 22) w w1) := by
  refine xMet_of RX3 rfl (by decide +kernel) false (by decide +kernel) (Nat.le_of_ble_eq_true rfl) rfl ?_
  intro P hM hR
  refine x_aload_n hM dX3_chargeTax_0 rfl rfl ?_
  refine x_iload_n hM dX3_chargeTax_1 rfl rfl ?_
  refine x_iload_n hM dX3_chargeTax_2 rfl rfl ?_
  refine x_ineg hM dX3_chargeTax_3 ?_
  refine x_i2l hM dX3_chargeTax_4 ?_
  rw [iI_long (by omega : iR (-c))]
  refine x_callV hM wv_X3_106 (m_X3_earn (by assumption) (by omega)) ⟨Nat.le_of_ble_eq_true rfl, Nat.le_of_ble_eq_true rfl⟩ (by first | assumption | exact reg_o (by assumption) | exact reg_a (by assumption)) rfl rfl rfl rfl (Nat.le_of_ble_eq_true rfl) ⟨Nat.le_of_ble_eq_true rfl, Nat.le_of_ble_eq_true rfl⟩ dX3_chargeTax_5 (k_qV fun w_5 q_5 => ?_)
  obtain ⟨qa, qf⟩ := q_5
  obtain ⟨hW, fs, fp, ft, fx, hr, e1, e2, e3, e4⟩ := id qa
  refine x_aload_n hM dX3_chargeTax_8 rfl rfl ?_
  refine x_get hM wf_X3_38 wl_X3 (by first | assumption | exact reg_o (by assumption) | exact reg_a (by assumption)) rfl dX3_chargeTax_9 ?_
  refine x_iload_n hM dX3_chargeTax_12 rfl rfl ?_
  refine x_iload_n hM dX3_chargeTax_13 rfl rfl ?_
  refine x_callV hM wv_X3_110 (m_X4_add (by first | assumption | exact sr1 (by assumption) | exact sr2 (by assumption) | exact sr3 (by assumption) | exact sr4 (by assumption) | exact sr5 (by assumption) | exact rg1 (by assumption) | exact rg2 (by assumption) | exact rg3 (by assumption)) (by omega)) ⟨Nat.le_of_ble_eq_true rfl, Nat.le_of_ble_eq_true rfl⟩ (by first | assumption | exact row_o (by first | assumption | exact sr1 (by assumption) | exact sr2 (by assumption) | exact sr3 (by assumption) | exact sr4 (by assumption) | exact sr5 (by assumption) | exact rg1 (by assumption) | exact rg2 (by assumption) | exact rg3 (by assumption))) rfl rfl rfl rfl (Nat.le_of_ble_eq_true rfl) ⟨Nat.le_of_ble_eq_true rfl, Nat.le_of_ble_eq_true rfl⟩ dX3_chargeTax_14 (k_qV fun w_14 q_14 => ?_)
  subst q_14
  refine hR.v dX3_chargeTax_17 (Nat.zero_le _) (Nat.zero_le _) ?_
  refine p_qV ⟨⟨hW, _, _, _, _, hr.u2, e1, e2, ?_, e4⟩, qf.tr (Fr.wS (by omega) (by omega))⟩
  rw [e3 o ho.1 ho.2]
  exact eqR_up e3 o _
