/-! RangeDeeds: undo, slots, the constructor -/
theorem rowA.kpf {G : xG} {w w1 : Wd} {h n : Nat} {f : Int → Int} (x : rowA G w h n f) (r : ∀ q : Nat, h ≤ q → q < h + 2 → w1 q = w q) : rowA G w1 h n f := ⟨(r h (by omega) (by omega)).trans x.1, (r (h + 1) (by omega) (by omega)).trans x.2⟩
theorem strA.kpf {G : xG} {w w1 : Wd} {a : Nat} {L : List Sg} (h : strA G w a L) (k : ∀ q : Nat, a ≤ q → q < a + 11 → w1 q = w q) : strA G w1 a L := by
  obtain ⟨h1, fo, fs, fl, fr, fm, h2, h3⟩ := h
  exact ⟨h1, fo, fs, fl, fr, fm, ⟨(k a (by omega) (by omega)).trans h2.1, h2.2.1.kpf fun q a b => k q (by omega) (by omega), h2.2.2.1.kpf fun q a b => k q (by omega) (by omega), h2.2.2.2.1.kpf fun q a b => k q (by omega) (by omega), h2.2.2.2.2.1.kpf fun q a b => k q (by omega) (by omega), h2.2.2.2.2.2.kpf fun q a b => k q (by omega) (by omega)⟩, h3⟩
theorem dealA.kpf {G : xG} {w w1 : Wd} {d : Nat} {D : List Tr} (h : dealA G w d D) (r : ∀ q : Nat, d ≤ q → q < d + 3 → w1 q = w q) : dealA G w1 d D := by
  obtain ⟨h1, h2, f, h3, h4⟩ := h
  exact ⟨h1, (r d (by omega) (by omega)).trans h2, f, h3.kpf fun q a b => r q (by omega) (by omega), h4⟩
theorem regA.kpf {G : xG} {w w1 : Wd} {r : Nat} {s : St} (h : regA G w r s) (k : ∀ q : Nat, r ≤ q → q < r + 22 → w1 q = w q) : regA G w1 r s := by
  obtain ⟨h0, fs, fp, ft, fx, h1, h2⟩ := h
  exact ⟨h0, fs, fp, ft, fx, ⟨(k r (by omega) (by omega)).trans h1.1, (rgS h1).kpf fun q a b => k q (by omega) (by omega), (rgD h1).kpf fun q a b => k q (by omega) (by omega), (rg1 h1).kpf fun q a b => k q (by omega) (by omega), (k _ (by omega) (by omega)).trans (rgJ h1), (rg2 h1).kpf fun q a b => k q (by omega) (by omega), (rg3 h1).kpf fun q a b => k q (by omega) (by omega)⟩, h2⟩
def undF (s : St) (hs : List St) : Int × St × List St := match hs.getLast? with
  | none => (-5, s, hs)
  | some t => ((hs.length : Int) - 1, t, hs.dropLast)
theorem m_X6_undo {l : Launch} {G : xG} {w : Wd} {z x : Nat} {hs : List St} {s : St} (hc : coA G w x s) (hh : hisA G w (x + 56) hs) : xMet l G yX6_undo cX6_undo 1 (some .int) ({ frames := 5, cells := 0, slots := 0, locals := 120 } : Room) [.ref x] w z (qI z fun y w1 => y = (undF s hs).1 ∧ coA G w1 x (undF s hs).2.1 ∧ hisA G w1 (x + 56) (undF s hs).2.2 ∧ Fr (x + 1) (x + 212) w w1) := by
  obtain ⟨hd, hr, ⟨s1, hH⟩, T0, hT⟩ := id hc
  refine xMet_of RX6 rfl (by decide +kernel) false (by decide +kernel) (Nat.le_of_ble_eq_true rfl) rfl ?_
  intro P hM hR
  cases hl : hs.getLast? with
  | none =>
    have e1 : undF s hs = (-5, s, hs) := by unfold undF; rw [hl]
    have e2 : hs = [] := List.getLast?_eq_none_iff.mp hl
    refine x_aload_n hM dX6_undo_0 rfl rfl ?_
    refine x_get hM wf_X6_29 wl_X6 (by first | assumption | exact dd_o (by assumption)) rfl dX6_undo_1 ?_
    refine x_aload_n hM dX6_undo_4 rfl rfl ?_
    refine x_get hM wf_X6_12 wl_X6 (by first | assumption | exact dd_o (by assumption)) rfl dX6_undo_5 ?_
    refine x_callV hM wv_X6_249 (m_X1_takeBack hh hr (by omega)) ⟨Nat.le_of_ble_eq_true rfl, Nat.le_of_ble_eq_true rfl⟩ (his_a hh) rfl rfl rfl rfl (Nat.le_of_ble_eq_true rfl) ⟨Nat.le_of_ble_eq_true rfl, Nat.le_of_ble_eq_true rfl⟩ dX6_undo_8 (k_qI fun x_8 w_8 q_8 => ?_)
    obtain ⟨q1, -⟩ := q_8
    obtain ⟨rfl, rfl⟩ := q1 e2
    refine x_if_eq (tgt := 24) hM dX6_undo_11 (by decide) (by omega) (fun c_11 => ?_) (fun c_11 => ?_)
    · refine x_bipush hM dX6_undo_24 rfl ?_
      refine hR.i dX6_undo_26 (Nat.zero_le _) (Nat.zero_le _) ?_
      exact p_qI (show _ ∧ _ from by rw [e1]; exact ⟨rfl, hc, hh, Fr.rf⟩)
    · exfalso; omega
  | some t =>
    have e1 : undF s hs = ((hs.length : Int) - 1, t, hs.dropLast) := by unfold undF; rw [hl]
    have e2 : (hs.dropLast.length : Int) = (hs.length : Int) - 1 := by
      have : 0 < hs.length := by cases hs; cases hl; simp
      rw [List.length_dropLast]; omega
    refine x_aload_n hM dX6_undo_0 rfl rfl ?_
    refine x_get hM wf_X6_29 wl_X6 (by first | assumption | exact dd_o (by assumption)) rfl dX6_undo_1 ?_
    refine x_aload_n hM dX6_undo_4 rfl rfl ?_
    refine x_get hM wf_X6_12 wl_X6 (by first | assumption | exact dd_o (by assumption)) rfl dX6_undo_5 ?_
    refine x_callV hM wv_X6_249 (m_X1_takeBack hh hr (by omega)) ⟨Nat.le_of_ble_eq_true rfl, Nat.le_of_ble_eq_true rfl⟩ (his_a hh) rfl rfl rfl rfl (Nat.le_of_ble_eq_true rfl) ⟨Nat.le_of_ble_eq_true rfl, Nat.le_of_ble_eq_true rfl⟩ dX6_undo_8 (k_qI fun x_8 w_8 q_8 => ?_)
    obtain ⟨-, q1⟩ := q_8
    obtain ⟨rfl, qr, qh, qf⟩ := q1 t hl
    have qF : Fr (x + 1) (x + 212) w w_8 := qf.one (by omega) (by omega) (by omega) (by omega)
    have hr2 : Fr2 (x + 1) (x + 1 + 22) (x + 56) (x + 56 + 156) w w_8 := qf
    have hc2 : coA G w_8 x t := ⟨(qF x (by omega)).trans hd, qr, ⟨s1, hH.kpf fun q a b => hr2 q (by omega) (by omega)⟩, T0, hT.kpf fun q a b => hr2 q (by omega) (by omega)⟩
    refine x_if_eq (tgt := 24) hM dX6_undo_11 (by decide) (by omega) (fun c_11 => ?_) (fun c_11 => ?_)
    · exfalso; omega
    · refine x_aload_n hM dX6_undo_14 rfl rfl ?_
      refine x_get hM wf_X6_29 wl_X6 hc2.1 rfl dX6_undo_15 ?_
      refine x_get hM wf_X6_186 wl_X1 (his_a qh) rfl dX6_undo_18 ?_
      refine x_goto (tgt := 26) hM dX6_undo_21 (by decide) ?_
      refine hR.i dX6_undo_26 (Nat.zero_le _) (Nat.zero_le _) ?_
      exact p_qI (show _ ∧ _ from by rw [e1]; exact ⟨e2, hc2, qh, qF⟩)
/-- the slots: the array at x + 212, registers behind the model's cells -/
def slA (G : xG) (w : Wd) (x z : Nat) (sl : Nat → Option St) : Prop := ∃ (f : Int → Option Nat) (ad : Nat → Nat), w (x + 212) = some (aQ G 2 f) ∧ (∀ i : Nat, i < 2 → sl i = none → f i = none) ∧ (∀ (i : Nat) (s : St), i < 2 → sl i = some s → f i = some (ad i) ∧ x + 230 ≤ ad i ∧ ad i + 22 ≤ z ∧ regA G w (ad i) s) ∧ (∀ s t : St, sl 0 = some s → sl 1 = some t → ad 0 + 22 ≤ ad 1 ∨ ad 1 + 22 ≤ ad 0)
theorem slA.kp {G : xG} {w w1 : Wd} {x z lo hi : Nat} {sl : Nat → Option St} (h : slA G w x z sl) (k : Fr lo hi w w1) (a : hi ≤ x + 212 ∨ (x + 213 ≤ lo ∧ hi ≤ x + 230)) : slA G w1 x z sl := by
  obtain ⟨f, ad, h1, h2, h3, h4⟩ := h
  refine ⟨f, ad, (k _ (by omega)).trans h1, h2, fun i s hi e => ?_, h4⟩
  obtain ⟨g1, g2, g3, g4⟩ := h3 i s hi e
  exact ⟨g1, g2, g3, g4.kp k (by omega)⟩
theorem slA.kp2 {G : xG} {w w1 : Wd} {x z a b c d : Nat} {sl : Nat → Option St} (h : slA G w x z sl) (k : Fr2 a b c d w w1) (hb : b ≤ x + 212) (hd : x + 213 ≤ c ∧ d ≤ x + 230) : slA G w1 x z sl := by
  obtain ⟨f, ad, h1, h2, h3, h4⟩ := h
  refine ⟨f, ad, (k _ (by omega) (by omega)).trans h1, h2, fun i s hi e => ?_, h4⟩
  obtain ⟨g1, g2, g3, g4⟩ := h3 i s hi e
  exact ⟨g1, g2, g3, g4.kpf fun q a b => k q (by omega) (by omega)⟩
def cbF (s : St) (sl : Nat → Option St) (i : Int) : Int × St := if 0 ≤ i ∧ i < 2 then (match sl i.toNat with | none => (-5, s) | some t => (t.day, t)) else (-2, s)
theorem m_X6_copyBack {l : Launch} {G : xG} {w : Wd} {z x : Nat} {s : St} {sl : Nat → Option St} {i : Int} (hc : coA G w x s) (hs : slA G w x z sl) (hi : iR i) : xMet l G yX6_copyBack cX6_copyBack 3 (some .int) ({ frames := 4, cells := 0, slots := 0, locals := 98 } : Room) [.ref x, .int (iI i)] w z (opP G w z x (cbF s sl i)) := by
  obtain ⟨hd, hr, -⟩ := id hc
  obtain ⟨f, ad, h1, h2, h3, h4⟩ := id hs
  refine xMet_of RX6 rfl (by decide +kernel) false (by decide +kernel) (Nat.le_of_ble_eq_true rfl) rfl ?_
  intro P hM hR
  by_cases c1 : 0 ≤ i ∧ i < 2
  · obtain ⟨n, rfl⟩ : ∃ n : Nat, i = n := ⟨i.toNat, by omega⟩
    cases e : sl n with
    | none =>
      have e1 : cbF s sl n = (-5, s) := by unfold cbF; rw [if_pos c1, Int.toNat_natCast, e]
      have e2 := h2 n (by omega) e
      refine x_iload_n hM dX6_copyBack_0 rfl rfl ?_
      refine x_callS hM ws_X6_253 (m_X6_isSlot (by omega)) ⟨Nat.le_of_ble_eq_true rfl, Nat.le_of_ble_eq_true rfl⟩ rfl rfl (Nat.le_of_ble_eq_true rfl) ⟨Nat.le_of_ble_eq_true rfl, Nat.le_of_ble_eq_true rfl⟩ dX6_copyBack_1 (k_rI ?_)
      rw [if_pos c1]
      refine x_if_ne (tgt := 10) hM dX6_copyBack_4 (by decide) (by omega) (fun c_4 => ?_) (fun c_4 => ?_)
      · refine x_aload_n hM dX6_copyBack_10 rfl rfl ?_
        refine x_get hM wf_X6_33 wl_X6 (by first | assumption | exact dd_o (by assumption)) rfl dX6_copyBack_11 ?_
        refine x_iload_n hM dX6_copyBack_14 rfl rfl ?_
        refine x_aald hM h1 (by omega) dX6_copyBack_15 ?_
        rw [e2]
        change P _ _ [.null] _ _
        refine x_astore_nN hM dX6_copyBack_16 rfl rfl (Nat.le_of_ble_eq_true rfl) rfl ?_
        refine x_aload_nN hM dX6_copyBack_17 rfl rfl ?_
        refine x_ifnonnullN hM dX6_copyBack_18 ?_
        refine x_bipush hM dX6_copyBack_21 rfl ?_
        refine hR.i dX6_copyBack_23 (Nat.zero_le _) (Nat.zero_le _) ?_
        exact p_op e1 hc Fr.rf
      · exfalso; omega
    | some t =>
      have e1 : cbF s sl n = (t.day, t) := by unfold cbF; rw [if_pos c1, Int.toNat_natCast, e]
      obtain ⟨g1, g2, g3, g4⟩ := h3 n t (by omega) e
      refine x_iload_n hM dX6_copyBack_0 rfl rfl ?_
      refine x_callS hM ws_X6_253 (m_X6_isSlot (by omega)) ⟨Nat.le_of_ble_eq_true rfl, Nat.le_of_ble_eq_true rfl⟩ rfl rfl (Nat.le_of_ble_eq_true rfl) ⟨Nat.le_of_ble_eq_true rfl, Nat.le_of_ble_eq_true rfl⟩ dX6_copyBack_1 (k_rI ?_)
      rw [if_pos c1]
      refine x_if_ne (tgt := 10) hM dX6_copyBack_4 (by decide) (by omega) (fun c_4 => ?_) (fun c_4 => ?_)
      · refine x_aload_n hM dX6_copyBack_10 rfl rfl ?_
        refine x_get hM wf_X6_33 wl_X6 (by first | assumption | exact dd_o (by assumption)) rfl dX6_copyBack_11 ?_
        refine x_iload_n hM dX6_copyBack_14 rfl rfl ?_
        refine x_aald hM h1 (by omega) dX6_copyBack_15 ?_
        rw [g1, va_some]
        refine x_astore_n hM dX6_copyBack_16 rfl rfl (Nat.le_of_ble_eq_true rfl) rfl ?_
        refine x_aload_n hM dX6_copyBack_17 rfl rfl ?_
        refine x_ifnonnull (tgt := 24) hM dX6_copyBack_18 (by decide) ?_
        refine x_aload_n hM dX6_copyBack_24 rfl rfl ?_
        refine x_get hM wf_X6_12 wl_X6 (by first | assumption | exact dd_o (by assumption)) rfl dX6_copyBack_25 ?_
        refine x_aload_n hM dX6_copyBack_28 rfl rfl ?_
        refine x_callV hM wv_X6_256 (m_X3_copy hr g4 (by omega)) ⟨Nat.le_of_ble_eq_true rfl, Nat.le_of_ble_eq_true rfl⟩ (reg_a hr) rfl rfl rfl rfl (Nat.le_of_ble_eq_true rfl) ⟨Nat.le_of_ble_eq_true rfl, Nat.le_of_ble_eq_true rfl⟩ dX6_copyBack_29 (k_qV fun w_29 q_29 => ?_)
        obtain ⟨qa, qf⟩ := q_29
        have hc2 := hc.uR qf qa
        refine x_aload_n hM dX6_copyBack_32 rfl rfl ?_
        refine x_get hM wf_X6_12 wl_X6 hc2.1 rfl dX6_copyBack_33 ?_
        refine x_get hM wf_X6_156 wl_X3 (reg_a qa) rfl dX6_copyBack_36 ?_
        refine hR.i dX6_copyBack_39 (Nat.zero_le _) (Nat.zero_le _) ?_
        exact p_op e1 hc2 (qf.mo (by omega) (by omega))
      · exfalso; omega
  · skip
    refine x_iload_n hM dX6_copyBack_0 rfl rfl ?_
    refine x_callS hM ws_X6_253 (m_X6_isSlot (by omega)) ⟨Nat.le_of_ble_eq_true rfl, Nat.le_of_ble_eq_true rfl⟩ rfl rfl (Nat.le_of_ble_eq_true rfl) ⟨Nat.le_of_ble_eq_true rfl, Nat.le_of_ble_eq_true rfl⟩ dX6_copyBack_1 (k_rI ?_)
    rw [if_neg c1]
    refine x_if_ne (tgt := 10) hM dX6_copyBack_4 (by decide) (by omega) (fun c_4 => ?_) (fun c_4 => ?_)
    · exfalso; omega
    · refine x_bipush hM dX6_copyBack_7 rfl ?_
      refine hR.i dX6_copyBack_9 (Nat.zero_le _) (Nat.zero_le _) ?_
      exact p_op (if_neg c1) hc Fr.rf
theorem m_X6_restore {l : Launch} {G : xG} {w : Wd} {z x : Nat} {hs : List St} {s : St} {sl : Nat → Option St} {i : Int} (hc : coA G w x s) (hh : hisA G w (x + 56) hs) (hS : slA G w x z sl) (hi : iR i) (hb : iR (cbF s sl i).1) : xMet l G yX6_restore cX6_restore 2 (some .int) ({ frames := 5, cells := 0, slots := 0, locals := 120 } : Room) [.ref x, .int (iI i)] w z (muP G w z x hs s (cbF s sl i)) := by
  obtain ⟨hd, hr, -⟩ := id hc
  refine xMet_of RX6 rfl (by decide +kernel) false (by decide +kernel) (Nat.le_of_ble_eq_true rfl) rfl ?_
  intro P hM hR
  refine x_aload_n hM dX6_restore_0 rfl rfl ?_
  refine x_get hM wf_X6_29 wl_X6 (by first | assumption | exact dd_o (by assumption)) rfl dX6_restore_1 ?_
  refine x_aload_n hM dX6_restore_4 rfl rfl ?_
  refine x_get hM wf_X6_12 wl_X6 (by first | assumption | exact dd_o (by assumption)) rfl dX6_restore_5 ?_
  refine x_callV hM wv_X6_44 (m_X1_prepare hh hr (by omega)) ⟨Nat.le_of_ble_eq_true rfl, Nat.le_of_ble_eq_true rfl⟩ (his_a hh) rfl rfl rfl rfl (Nat.le_of_ble_eq_true rfl) ⟨Nat.le_of_ble_eq_true rfl, Nat.le_of_ble_eq_true rfl⟩ dX6_restore_8 (k_qV fun w_8 q_8 => ?_)
  obtain ⟨qp, qf⟩ := q_8
  have hc1 := hc.kp qf (by omega)
  have hS1 := hS.kp qf (by omega)
  refine x_aload_n hM dX6_restore_11 rfl rfl ?_
  refine x_get hM wf_X6_29 wl_X6 hc1.1 rfl dX6_restore_12 ?_
  refine x_aload_n hM dX6_restore_15 rfl rfl ?_
  refine x_iload_n hM dX6_restore_16 rfl rfl ?_
  refine x_callV hM wv_X6_259 (m_X6_copyBack hc1 hS1 (by omega)) ⟨Nat.le_of_ble_eq_true rfl, Nat.le_of_ble_eq_true rfl⟩ hc1.1 rfl rfl rfl rfl (Nat.le_of_ble_eq_true rfl) ⟨Nat.le_of_ble_eq_true rfl, Nat.le_of_ble_eq_true rfl⟩ dX6_restore_17 (k_qI fun x_17 w_17 q_17 => ?_)
  obtain ⟨rfl, qc, qg⟩ := q_17
  have hp1 := qp.kp qg (by omega)
  refine x_callV hM wv_X6_52 (m_X1_finish hp1 hb) ⟨Nat.le_of_ble_eq_true rfl, Nat.le_of_ble_eq_true rfl⟩ (his_a hp1.a) rfl rfl rfl rfl (Nat.le_of_ble_eq_true rfl) ⟨Nat.le_of_ble_eq_true rfl, Nat.le_of_ble_eq_true rfl⟩ dX6_restore_20 (k_qI fun x_20 w_20 q_20 => ?_)
  refine hR.i dX6_restore_23 (Nat.zero_le _) (Nat.zero_le _) ?_
  obtain ⟨e9, f9, n1, n2⟩ := q_20
  exact p_mu e9 qc qf qg f9 n1 n2
def savF (s : St) (sl : Nat → Option St) (i : Int) : Int × (Nat → Option St) := if 0 ≤ i ∧ i < 2 then (s.day, fun j => if j = i.toNat then some s else sl j) else (-2, sl)
theorem m_X6_save {l : Launch} {G : xG} {w : Wd} {z x : Nat} {s : St} {sl : Nat → Option St} {i : Int} (hc : coA G w x s) (hs : slA G w x z sl) (hi : iR i) (hz : x + 230 ≤ z) : xMet l G yX6_save cX6_save 3 (some .int) ({ frames := 4, cells := 22, slots := 248, locals := 98 } : Room) [.ref x, .int (iI i)] w z (eI fun y w1 z1 => y = (savF s sl i).1 ∧ coA G w1 x s ∧ slA G w1 x z1 (savF s sl i).2 ∧ z ≤ z1 ∧ ∀ q : Nat, q < x + 230 → q ≠ x + 212 → w1 q = w q) := by
  obtain ⟨hd, hr, -⟩ := id hc
  obtain ⟨f, ad, h1, h2, h3, h4⟩ := id hs
  refine xMet_of RX6 rfl (by decide +kernel) false (by decide +kernel) (Nat.le_of_ble_eq_true rfl) rfl ?_
  intro P hM hR
  by_cases c1 : 0 ≤ i ∧ i < 2
  · obtain ⟨n, rfl⟩ : ∃ n : Nat, i = n := ⟨i.toNat, by omega⟩
    have hn2 : n < 2 := by omega
    have e1 : savF s sl n = (s.day, fun j => if j = n then some s else sl j) := by unfold savF; rw [if_pos c1, Int.toNat_natCast]
    cases e : sl n with
    | none =>
      have e2 := h2 n hn2 e
      refine x_iload_n hM dX6_save_0 rfl rfl ?_
      refine x_callS hM ws_X6_253 (m_X6_isSlot (by omega)) ⟨Nat.le_of_ble_eq_true rfl, Nat.le_of_ble_eq_true rfl⟩ rfl rfl (Nat.le_of_ble_eq_true rfl) ⟨Nat.le_of_ble_eq_true rfl, Nat.le_of_ble_eq_true rfl⟩ dX6_save_1 (k_rI ?_)
      rw [if_pos c1]
      refine x_if_ne (tgt := 10) hM dX6_save_4 (by decide) (by omega) (fun c_4 => ?_) (fun c_4 => ?_)
      · refine x_aload_n hM dX6_save_10 rfl rfl ?_
        refine x_get hM wf_X6_33 wl_X6 (by first | assumption | exact dd_o (by assumption)) rfl dX6_save_11 ?_
        refine x_iload_n hM dX6_save_14 rfl rfl ?_
        refine x_aald hM h1 (by omega) dX6_save_15 ?_
        rw [e2]
        change P _ _ [.null] _ _
        refine x_astore_nN hM dX6_save_16 rfl rfl (Nat.le_of_ble_eq_true rfl) rfl ?_
        refine x_aload_nN hM dX6_save_17 rfl rfl ?_
        refine x_ifnonnullN hM dX6_save_18 ?_
        refine x_new (ci := 3) (fs := [.null, .null, .null, .null, .null, .null, .int 0, .int 0, .int 0, .int 0]) hM rfl wl_X3 wk_X6_9 wn_X3 wz_X3 tyX3 tyX3_ok (by decide +kernel) (Nat.le_of_ble_eq_true rfl) (Nat.le_of_ble_eq_true rfl) dX6_save_21 ?_
        refine x_dup hM dX6_save_24 rfl ?_
        refine x_callI hM wi_X6_11 (m_X3_init (h := z) wS_eq) ⟨Nat.le_of_ble_eq_true rfl, Nat.le_of_ble_eq_true rfl⟩ rfl rfl (Nat.le_of_ble_eq_true rfl) ⟨Nat.le_of_ble_eq_true rfl, Nat.le_of_ble_eq_true rfl⟩ dX6_save_25 (k_aV fun w_25 z_25 q_25 => ?_)
        obtain ⟨rfl, qr, qf⟩ := q_25
        have fA : Fr z (z + 22) w w_25 := (Fr.wS (q := z) (by omega) (by omega)).tr qf
        have hc2 := hc.kp fA (by omega)
        have h12 := (fA (x + 212) (by omega)).trans h1
        refine x_astore_n hM dX6_save_28 rfl rfl (Nat.le_of_ble_eq_true rfl) rfl ?_
        refine x_aload_n hM dX6_save_29 rfl rfl ?_
        refine x_get hM wf_X6_33 wl_X6 hc2.1 rfl dX6_save_30 ?_
        refine x_iload_n hM dX6_save_33 rfl rfl ?_
        refine x_aload_n hM dX6_save_34 rfl rfl ?_
        refine x_aast hM h12 (reg_a qr) (by omega) dX6_save_35 ?_
        have fB := wF (w := w_25) (q := x + 212) (e := aQ G 2 (fU f n (some z)))
        have hc3 := hc2.kp fB (by omega)
        have qr3 := qr.kp fB (by omega)
        refine x_aload_n hM dX6_save_36 rfl rfl ?_
        refine x_aload_n hM dX6_save_37 rfl rfl ?_
        refine x_get hM wf_X6_12 wl_X6 hc3.1 rfl dX6_save_38 ?_
        refine x_callV hM wv_X6_256 (m_X3_copy qr3 hc3.2.1 (by omega)) ⟨Nat.le_of_ble_eq_true rfl, Nat.le_of_ble_eq_true rfl⟩ (reg_a qr3) rfl rfl rfl rfl (Nat.le_of_ble_eq_true rfl) ⟨Nat.le_of_ble_eq_true rfl, Nat.le_of_ble_eq_true rfl⟩ dX6_save_41 (k_qV fun w_41 q_41 => ?_)
        obtain ⟨qa, qg⟩ := q_41
        have hc4 := hc3.kp qg (by omega)
        refine x_aload_n hM dX6_save_44 rfl rfl ?_
        refine x_get hM wf_X6_12 wl_X6 hc4.1 rfl dX6_save_45 ?_
        refine x_get hM wf_X6_156 wl_X3 (reg_a hc4.2.1) rfl dX6_save_48 ?_
        refine hR.i dX6_save_51 (Nat.le_of_ble_eq_true rfl) (Nat.le_of_ble_eq_true rfl) ?_
        refine ⟨_, rfl, ?_⟩
        show _ ∧ _
        rw [e1]
        refine ⟨rfl, hc4, ⟨fU f n (some z), fun j => if j = n then z else ad j, (qg _ (by omega)).trans wS_eq, fun j hj => ?_, fun j t hj => ?_, fun a b => ?_⟩, by omega, fun q hq hq2 => (qg q (by omega)).trans ((fB q (by omega)).trans (fA q (by omega)))⟩
        · dsimp only; intro ej; by_cases q : j = n
          · rw [if_pos q] at ej; cases ej
          · rw [if_neg q] at ej; rw [fU_ne (by omega)]; exact h2 j hj ej
        · dsimp only; intro ej; by_cases q : j = n
          · rw [if_pos q] at ej ⊢; cases ej; subst q; exact ⟨fU_eq, by omega, by omega, qa⟩
          · rw [if_neg q] at ej ⊢; obtain ⟨g1, g2, g3, g4⟩ := h3 j t hj ej; exact ⟨(fU_ne (by omega)).trans g1, g2, by omega, ((g4.kp fA (by omega)).kp fB (by omega)).kp qg (by omega)⟩
        · dsimp only; intro ea eb; by_cases q : 0 = n
          · rw [if_neg (by omega)] at eb; obtain ⟨g1, g2, g3, g4⟩ := h3 1 b (by omega) eb; rw [if_pos q, if_neg (by omega)]; omega
          · rw [if_neg q] at ea; obtain ⟨g1, g2, g3, g4⟩ := h3 0 a (by omega) ea; rw [if_neg q, if_pos (by omega)]; omega
      · exfalso; omega
    | some t =>
      obtain ⟨g1, g2, g3, g4⟩ := h3 n t hn2 e
      refine x_iload_n hM dX6_save_0 rfl rfl ?_
      refine x_callS hM ws_X6_253 (m_X6_isSlot (by omega)) ⟨Nat.le_of_ble_eq_true rfl, Nat.le_of_ble_eq_true rfl⟩ rfl rfl (Nat.le_of_ble_eq_true rfl) ⟨Nat.le_of_ble_eq_true rfl, Nat.le_of_ble_eq_true rfl⟩ dX6_save_1 (k_rI ?_)
      rw [if_pos c1]
      refine x_if_ne (tgt := 10) hM dX6_save_4 (by decide) (by omega) (fun c_4 => ?_) (fun c_4 => ?_)
      · refine x_aload_n hM dX6_save_10 rfl rfl ?_
        refine x_get hM wf_X6_33 wl_X6 (by first | assumption | exact dd_o (by assumption)) rfl dX6_save_11 ?_
        refine x_iload_n hM dX6_save_14 rfl rfl ?_
        refine x_aald hM h1 (by omega) dX6_save_15 ?_
        rw [g1, va_some]
        refine x_astore_n hM dX6_save_16 rfl rfl (Nat.le_of_ble_eq_true rfl) rfl ?_
        refine x_aload_n hM dX6_save_17 rfl rfl ?_
        refine x_ifnonnull (tgt := 36) hM dX6_save_18 (by decide) ?_
        refine x_aload_n hM dX6_save_36 rfl rfl ?_
        refine x_aload_n hM dX6_save_37 rfl rfl ?_
        refine x_get hM wf_X6_12 wl_X6 (by first | assumption | exact dd_o (by assumption)) rfl dX6_save_38 ?_
        refine x_callV hM wv_X6_256 (m_X3_copy g4 hr (by omega)) ⟨Nat.le_of_ble_eq_true rfl, Nat.le_of_ble_eq_true rfl⟩ (reg_a g4) rfl rfl rfl rfl (Nat.le_of_ble_eq_true rfl) ⟨Nat.le_of_ble_eq_true rfl, Nat.le_of_ble_eq_true rfl⟩ dX6_save_41 (k_qV fun w_41 q_41 => ?_)
        obtain ⟨qa, qg⟩ := q_41
        have hc4 := hc.kp qg (by omega)
        refine x_aload_n hM dX6_save_44 rfl rfl ?_
        refine x_get hM wf_X6_12 wl_X6 hc4.1 rfl dX6_save_45 ?_
        refine x_get hM wf_X6_156 wl_X3 (reg_a hc4.2.1) rfl dX6_save_48 ?_
        refine hR.i dX6_save_51 (Nat.zero_le _) (Nat.zero_le _) ?_
        refine ⟨_, rfl, ?_⟩
        show _ ∧ _
        rw [e1]
        refine ⟨rfl, hc4, ⟨f, ad, (qg _ (by omega)).trans h1, fun j hj => ?_, fun j u hj => ?_, fun a b => ?_⟩, Nat.le_refl _, fun q hq hq2 => qg q (by omega)⟩
        · dsimp only; intro ej; by_cases q : j = n
          · rw [if_pos q] at ej; cases ej
          · rw [if_neg q] at ej; exact h2 j hj ej
        · dsimp only; intro ej; by_cases q : j = n
          · rw [if_pos q] at ej; cases ej; subst q; exact ⟨g1, g2, g3, qa⟩
          · rw [if_neg q] at ej; obtain ⟨k1, k2, k3, k4⟩ := h3 j u hj ej; refine ⟨k1, k2, k3, k4.kp qg ?_⟩; rcases (show (j = 0 ∧ n = 1) ∨ (j = 1 ∧ n = 0) by omega) with ⟨rfl, rfl⟩ | ⟨rfl, rfl⟩
            · have := h4 u t ej e; omega
            · have := h4 t u e ej; omega
        · dsimp only; intro ea eb; by_cases q : 0 = n
          · rw [if_neg (by omega)] at eb; subst q; exact h4 t b e eb
          · rw [if_neg q] at ea; have q1 : n = 1 := by omega
            subst q1; exact h4 a t ea e
      · exfalso; omega
  · skip
    refine x_iload_n hM dX6_save_0 rfl rfl ?_
    refine x_callS hM ws_X6_253 (m_X6_isSlot (by omega)) ⟨Nat.le_of_ble_eq_true rfl, Nat.le_of_ble_eq_true rfl⟩ rfl rfl (Nat.le_of_ble_eq_true rfl) ⟨Nat.le_of_ble_eq_true rfl, Nat.le_of_ble_eq_true rfl⟩ dX6_save_1 (k_rI ?_)
    rw [if_neg c1]
    refine x_if_ne (tgt := 10) hM dX6_save_4 (by decide) (by omega) (fun c_4 => ?_) (fun c_4 => ?_)
    · exfalso; omega
    · refine x_bipush hM dX6_save_7 rfl ?_
      refine hR.i dX6_save_9 (Nat.zero_le _) (Nat.zero_le _) ?_
      refine ⟨_, rfl, (show _ ∧ _ from by rw [show savF s sl i = (-2, sl) from if_neg c1]; exact ⟨rfl, hc, hs, Nat.le_refl _, fun _ _ _ => rfl⟩)⟩
theorem m_X6_init {l : Launch} {G : xG} {w : Wd} {h : Nat} (h1 : w h = some (.inr (6, [.null, .null, .null, .null, .null, .null]))) : xMet l G yX6_init cX6_init 1 none ({ frames := 5, cells := 214, slots := 2487, locals := 104 } : Room) [.ref h] w (h + 1) (aV fun w1 z1 => z1 = h + 215 ∧ coA G w1 h St0 ∧ hisA G w1 (h + 56) [] ∧ padE G w1 (h + 213) [] ∧ w1 (h + 212) = some (aQ G 2 (fun _ => none)) ∧ Fr h (h + 215) w w1) := by
  refine xMet_of RX6 rfl (by decide +kernel) true (by decide +kernel) (Nat.le_of_ble_eq_true rfl) rfl ?_
  intro P hM hR
  have ho := h1
  have fA : Fr h (h + 215) w w := Fr.rf
  refine x_aload_n hM dX6_init_0 rfl rfl ?_
  refine x_objInit hM wo_X6_3 (Nat.le_of_ble_eq_true rfl) (Nat.le_of_ble_eq_true rfl) dX6_init_1 ?_
  refine x_aload_n hM dX6_init_4 rfl rfl ?_
  refine x_new (ci := 3) (fs := [.null, .null, .null, .null, .null, .null, .int 0, .int 0, .int 0, .int 0]) hM rfl wl_X3 wk_X6_9 wn_X3 wz_X3 tyX3 tyX3_ok (by decide +kernel) (Nat.le_of_ble_eq_true rfl) (Nat.le_of_ble_eq_true rfl) dX6_init_5 ?_
  have fN := wF (w := w) (q := h + 1) (e := .inr (3, [.null, .null, .null, .null, .null, .null, .int 0, .int 0, .int 0, .int 0]))
  have ho := (fN h (by omega)).trans ho
  have fA := fA.tr (fN.mo (by omega) (by omega))
  refine x_dup hM dX6_init_8 rfl ?_
  refine x_callI hM wi_X6_11 (m_X3_init (h := h + 1) wS_eq) ⟨Nat.le_of_ble_eq_true rfl, Nat.le_of_ble_eq_true rfl⟩ rfl rfl (Nat.le_of_ble_eq_true rfl) ⟨Nat.le_of_ble_eq_true rfl, Nat.le_of_ble_eq_true rfl⟩ dX6_init_9 (k_aV fun w_9 z_9 q_9 => ?_)
  obtain ⟨rfl, R0, qf⟩ := q_9
  have ho := (qf h (by omega)).trans ho
  have fA := fA.tr (qf.mo (by omega) (by omega))
  refine x_putF hM wl_X6 ho wp_X6_12 rfl rfl (Nat.le_of_ble_eq_true rfl) rfl dX6_init_12 ?_
  have fP := wF (w := w_9) (q := h) (e := .inr (6, [.ref (h + 1), .null, .null, .null, .null, .null]))
  have ho : (wS w_9 h (.inr (6, [.ref (h + 1), .null, .null, .null, .null, .null]))) h = _ := wS_eq
  have R0 := R0.kp fP (by omega)
  have fA := fA.tr (fP.mo (by omega) (by omega))
  refine x_aload_n hM dX6_init_15 rfl rfl ?_
  refine x_new (ci := 3) (fs := [.null, .null, .null, .null, .null, .null, .int 0, .int 0, .int 0, .int 0]) hM rfl wl_X3 wk_X6_9 wn_X3 wz_X3 tyX3 tyX3_ok (by decide +kernel) (Nat.le_of_ble_eq_true rfl) (Nat.le_of_ble_eq_true rfl) dX6_init_16 ?_
  have fN := wF (w := (wS w_9 h (.inr (6, [.ref (h + 1), .null, .null, .null, .null, .null])))) (q := h + 23) (e := .inr (3, [.null, .null, .null, .null, .null, .null, .int 0, .int 0, .int 0, .int 0]))
  have ho := (fN h (by omega)).trans ho
  have R0 := R0.kp fN (by omega)
  have fA := fA.tr (fN.mo (by omega) (by omega))
  refine x_dup hM dX6_init_19 rfl ?_
  refine x_callI hM wi_X6_11 (m_X3_init (h := h + 23) wS_eq) ⟨Nat.le_of_ble_eq_true rfl, Nat.le_of_ble_eq_true rfl⟩ rfl rfl (Nat.le_of_ble_eq_true rfl) ⟨Nat.le_of_ble_eq_true rfl, Nat.le_of_ble_eq_true rfl⟩ dX6_init_20 (k_aV fun w_20 z_20 q_20 => ?_)
  obtain ⟨rfl, R1, qf⟩ := q_20
  have ho := (qf h (by omega)).trans ho
  have R0 := R0.kp qf (by omega)
  have fA := fA.tr (qf.mo (by omega) (by omega))
  refine x_putF hM wl_X6 ho wp_X6_16 rfl rfl (Nat.le_of_ble_eq_true rfl) rfl dX6_init_23 ?_
  have fP := wF (w := w_20) (q := h) (e := .inr (6, [.ref (h + 1), .ref (h + 23), .null, .null, .null, .null]))
  have ho : (wS w_20 h (.inr (6, [.ref (h + 1), .ref (h + 23), .null, .null, .null, .null]))) h = _ := wS_eq
  have R0 := R0.kp fP (by omega)
  have R1 := R1.kp fP (by omega)
  have fA := fA.tr (fP.mo (by omega) (by omega))
  refine x_aload_n hM dX6_init_26 rfl rfl ?_
  refine x_new (ci := 5) (fs := [.null, .null, .null, .null, .null, .int 0]) hM rfl wl_X5 wk_X6_19 wn_X5 wz_X5 tyX5 tyX5_ok (by decide +kernel) (Nat.le_of_ble_eq_true rfl) (Nat.le_of_ble_eq_true rfl) dX6_init_27 ?_
  have fN := wF (w := (wS w_20 h (.inr (6, [.ref (h + 1), .ref (h + 23), .null, .null, .null, .null])))) (q := h + 45) (e := .inr (5, [.null, .null, .null, .null, .null, .int 0]))
  have ho := (fN h (by omega)).trans ho
  have R0 := R0.kp fN (by omega)
  have R1 := R1.kp fN (by omega)
  have fA := fA.tr (fN.mo (by omega) (by omega))
  refine x_dup hM dX6_init_30 rfl ?_
  refine x_callI hM wi_X6_21 (m_X5_init (h := h + 45) wS_eq) ⟨Nat.le_of_ble_eq_true rfl, Nat.le_of_ble_eq_true rfl⟩ rfl rfl (Nat.le_of_ble_eq_true rfl) ⟨Nat.le_of_ble_eq_true rfl, Nat.le_of_ble_eq_true rfl⟩ dX6_init_31 (k_aV fun w_31 z_31 q_31 => ?_)
  obtain ⟨rfl, T, qf⟩ := q_31
  have ho := (qf h (by omega)).trans ho
  have R0 := R0.kp qf (by omega)
  have R1 := R1.kp qf (by omega)
  have fA := fA.tr (qf.mo (by omega) (by omega))
  refine x_putF hM wl_X6 ho wp_X6_22 rfl rfl (Nat.le_of_ble_eq_true rfl) rfl dX6_init_34 ?_
  have fP := wF (w := w_31) (q := h) (e := .inr (6, [.ref (h + 1), .ref (h + 23), .ref (h + 45), .null, .null, .null]))
  have ho : (wS w_31 h (.inr (6, [.ref (h + 1), .ref (h + 23), .ref (h + 45), .null, .null, .null]))) h = _ := wS_eq
  have R0 := R0.kp fP (by omega)
  have R1 := R1.kp fP (by omega)
  have T := T.kp fP (by omega)
  have fA := fA.tr (fP.mo (by omega) (by omega))
  refine x_aload_n hM dX6_init_37 rfl rfl ?_
  refine x_new (ci := 1) (fs := [.null, .int 0]) hM rfl wl_X1 wk_X6_26 wn_X1 wz_X1 tyX1 tyX1_ok (by decide +kernel) (Nat.le_of_ble_eq_true rfl) (Nat.le_of_ble_eq_true rfl) dX6_init_38 ?_
  have fN := wF (w := (wS w_31 h (.inr (6, [.ref (h + 1), .ref (h + 23), .ref (h + 45), .null, .null, .null])))) (q := h + 56) (e := .inr (1, [.null, .int 0]))
  have ho := (fN h (by omega)).trans ho
  have R0 := R0.kp fN (by omega)
  have R1 := R1.kp fN (by omega)
  have T := T.kp fN (by omega)
  have fA := fA.tr (fN.mo (by omega) (by omega))
  refine x_dup hM dX6_init_41 rfl ?_
  refine x_callI hM wi_X6_28 (m_X1_init (h := h + 56) wS_eq) ⟨Nat.le_of_ble_eq_true rfl, Nat.le_of_ble_eq_true rfl⟩ rfl rfl (Nat.le_of_ble_eq_true rfl) ⟨Nat.le_of_ble_eq_true rfl, Nat.le_of_ble_eq_true rfl⟩ dX6_init_42 (k_aV fun w_42 z_42 q_42 => ?_)
  obtain ⟨rfl, H, qf⟩ := q_42
  have ho := (qf h (by omega)).trans ho
  have R0 := R0.kp qf (by omega)
  have R1 := R1.kp qf (by omega)
  have T := T.kp qf (by omega)
  have fA := fA.tr (qf.mo (by omega) (by omega))
  refine x_putF hM wl_X6 ho wp_X6_29 rfl rfl (Nat.le_of_ble_eq_true rfl) rfl dX6_init_45 ?_
  have fP := wF (w := w_42) (q := h) (e := .inr (6, [.ref (h + 1), .ref (h + 23), .ref (h + 45), .ref (h + 56), .null, .null]))
  have ho : (wS w_42 h (.inr (6, [.ref (h + 1), .ref (h + 23), .ref (h + 45), .ref (h + 56), .null, .null]))) h = _ := wS_eq
  have R0 := R0.kp fP (by omega)
  have R1 := R1.kp fP (by omega)
  have T := T.kp fP (by omega)
  have H := H.kp fP (by omega)
  have fA := fA.tr (fP.mo (by omega) (by omega))
  refine x_aload_n hM dX6_init_48 rfl rfl ?_
  refine x_iconst hM dX6_init_49 ?_
  refine x_newQ  hM wk_X6_9 (by omega) rfl (by omega) (Nat.le_of_ble_eq_true rfl) (Nat.le_of_ble_eq_true rfl) dX6_init_50 ?_
  have fN := wF (w := (wS w_42 h (.inr (6, [.ref (h + 1), .ref (h + 23), .ref (h + 45), .ref (h + 56), .null, .null])))) (q := h + 212) (e := aQ G 2 (fun _ => none))
  have ho := (fN h (by omega)).trans ho
  have R0 := R0.kp fN (by omega)
  have R1 := R1.kp fN (by omega)
  have T := T.kp fN (by omega)
  have H := H.kp fN (by omega)
  have fA := fA.tr (fN.mo (by omega) (by omega))
  have S : (wS (wS w_42 h (.inr (6, [.ref (h + 1), .ref (h + 23), .ref (h + 45), .ref (h + 56), .null, .null]))) (h + 212) (aQ G 2 (fun _ => none))) (h + 212) = _ := wS_eq
  refine x_putF hM wl_X6 ho wp_X6_33 rfl rfl (Nat.le_of_ble_eq_true rfl) rfl dX6_init_53 ?_
  have fP := wF (w := (wS (wS w_42 h (.inr (6, [.ref (h + 1), .ref (h + 23), .ref (h + 45), .ref (h + 56), .null, .null]))) (h + 212) (aQ G 2 (fun _ => none)))) (q := h) (e := .inr (6, [.ref (h + 1), .ref (h + 23), .ref (h + 45), .ref (h + 56), .ref (h + 212), .null]))
  have ho : (wS (wS (wS w_42 h (.inr (6, [.ref (h + 1), .ref (h + 23), .ref (h + 45), .ref (h + 56), .null, .null]))) (h + 212) (aQ G 2 (fun _ => none))) h (.inr (6, [.ref (h + 1), .ref (h + 23), .ref (h + 45), .ref (h + 56), .ref (h + 212), .null]))) h = _ := wS_eq
  have R0 := R0.kp fP (by omega)
  have R1 := R1.kp fP (by omega)
  have T := T.kp fP (by omega)
  have H := H.kp fP (by omega)
  have S := (fP _ (by omega)).trans S
  have fA := fA.tr (fP.mo (by omega) (by omega))
  refine x_aload_n hM dX6_init_56 rfl rfl ?_
  refine x_new (ci := 2) (fs := [.null, .int 0, .int 0, .int 0, .int 0, .int 0, .int 0]) hM rfl wl_X2 wk_X6_37 wn_X2 wz_X2 tyX2 tyX2_ok (by decide +kernel) (Nat.le_of_ble_eq_true rfl) (Nat.le_of_ble_eq_true rfl) dX6_init_57 ?_
  have fN := wF (w := (wS (wS (wS w_42 h (.inr (6, [.ref (h + 1), .ref (h + 23), .ref (h + 45), .ref (h + 56), .null, .null]))) (h + 212) (aQ G 2 (fun _ => none))) h (.inr (6, [.ref (h + 1), .ref (h + 23), .ref (h + 45), .ref (h + 56), .ref (h + 212), .null])))) (q := h + 213) (e := .inr (2, [.null, .int 0, .int 0, .int 0, .int 0, .int 0, .int 0]))
  have ho := (fN h (by omega)).trans ho
  have R0 := R0.kp fN (by omega)
  have R1 := R1.kp fN (by omega)
  have T := T.kp fN (by omega)
  have H := H.kp fN (by omega)
  have S := (fN _ (by omega)).trans S
  have fA := fA.tr (fN.mo (by omega) (by omega))
  refine x_dup hM dX6_init_60 rfl ?_
  refine x_callI hM wi_X6_39 (m_X2_init (h := h + 213) wS_eq) ⟨Nat.le_of_ble_eq_true rfl, Nat.le_of_ble_eq_true rfl⟩ rfl rfl (Nat.le_of_ble_eq_true rfl) ⟨Nat.le_of_ble_eq_true rfl, Nat.le_of_ble_eq_true rfl⟩ dX6_init_61 (k_aV fun w_61 z_61 q_61 => ?_)
  obtain ⟨rfl, B, qf⟩ := q_61
  have ho := (qf h (by omega)).trans ho
  have R0 := R0.kp qf (by omega)
  have R1 := R1.kp qf (by omega)
  have T := T.kp qf (by omega)
  have H := H.kp qf (by omega)
  have S := (qf _ (by omega)).trans S
  have fA := fA.tr (qf.mo (by omega) (by omega))
  refine x_putF hM wl_X6 ho wp_X6_40 rfl rfl (Nat.le_of_ble_eq_true rfl) rfl dX6_init_64 ?_
  have fP := wF (w := w_61) (q := h) (e := .inr (6, [.ref (h + 1), .ref (h + 23), .ref (h + 45), .ref (h + 56), .ref (h + 212), .ref (h + 213)]))
  have ho : (wS w_61 h (.inr (6, [.ref (h + 1), .ref (h + 23), .ref (h + 45), .ref (h + 56), .ref (h + 212), .ref (h + 213)]))) h = _ := wS_eq
  have R0 := R0.kp fP (by omega)
  have R1 := R1.kp fP (by omega)
  have T := T.kp fP (by omega)
  have H := H.kp fP (by omega)
  have S := (fP _ (by omega)).trans S
  have B := B.kp fP (by omega)
  have fA := fA.tr (fP.mo (by omega) (by omega))
  refine hR.v dX6_init_67 (Nat.le_of_ble_eq_true rfl) (Nat.le_of_ble_eq_true rfl) ?_
  exact ⟨rfl, rfl, ⟨ho, R0, ⟨_, R1⟩, _, T⟩, H, ⟨_, _, _, _, _, B⟩, S, fA⟩
