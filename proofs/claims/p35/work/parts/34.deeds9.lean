/-! RangeDeeds: undo, slots, the constructor -/
theorem rowA.kpf {G : xG} {w w1 : Wd} {h n : Nat} {f : Int → Int} (x : rowA G w h n f) (r : ∀ q : Nat, h ≤ q → q < h + 2 → w1 q = w q) : rowA G w1 h n f := ⟨(r h (by omega) (by omega)).trans x.1, (r (h + 1) (by omega) (by omega)).trans x.2⟩
theorem strA.kpf {G : xG} {w w1 : Wd} {a : Nat} {L : List Sg} (h : strA G w a L) (k : ∀ q : Nat, a ≤ q → q < a + 11 → w1 q = w q) : strA G w1 a L := by
  obtain ⟨h1, fo, fs, fl, fr, fm, h2, h3⟩ := h
  exact ⟨h1, fo, fs, fl, fr, fm, ⟨(k a (by omega) (by omega)).trans h2.1, h2.2.1.kpf fun q a b => k q (by omega) (by omega), h2.2.2.1.kpf fun q a b => k q (by omega) (by omega), h2.2.2.2.1.kpf fun q a b => k q (by omega) (by omega), h2.2.2.2.2.1.kpf fun q a b => k q (by omega) (by omega), h2.2.2.2.2.2.kpf fun q a b => k q (by omega) (by omega)⟩, h3⟩
theorem dealA.kpf {G : xG} {w w1 : Wd} {d : Nat} {D : List Tr} (h : dealA G w d D) (r : ∀ q : Nat, d ≤ q → q < d + 3 → w1 q = w q) : dealA G w1 d D := by
  obtain ⟨h1, h2, f, h3, h4⟩ := h
  exact ⟨h1, (r d (by omega) (by omega)).trans h2, f, h3.kpf fun q a b => r q (by omega) (by omega), h4⟩
theorem regA.kpf {G : xG} {w w1 : Wd} {r : Nat} {s : St} (h : regA G w r s) (k : ∀ q : Nat, r ≤ q → q < r + 22 → w1 q = w q) : regA G w1 r s := by
  obtain ⟨h0, fs, fp, ft, fx, h1, h2⟩ := h
  exact ⟨h0, fs, fp, ft, fx, ⟨(k r (by omega) (by omega)).trans h1.1, (rgS h1).kpf fun q a b => k q (by omega) (by omega), (rgD h1).kpf fun q a b => k q (by omega) (by omega), (rg1 h1).kpf fun q a b => k q (by omega) (by omega), (k _ (by omega) (by omega)).trans (rgJ h1), (rg2 h1).kpf fun q a b => k q (by omega) (by omega), (rg3 h1).kpf fun q a b => k q (by omega) (by omega)⟩, h2⟩
def undF (s : St) (hs : List St) : Int × St × List St := match hs.getLast? with
  | none => (-5, s, hs)
  | some t => ((hs.length : Int) - 1, t, hs.dropLast)
/-- the slots: the array at x + 212, registers behind the model's cells -/
def slA (G : xG) (w : Wd) (x z : Nat) (sl : Nat → Option St) : Prop := ∃ (f : Int → Option Nat) (ad : Nat → Nat), w (x + 212) = some (aQ G 2 f) ∧ (∀ i : Nat, i < 2 → sl i = none → f i = none) ∧ (∀ (i : Nat) (s : St), i < 2 → sl i = some s → f i = some (ad i) ∧ x + 230 ≤ ad i ∧ ad i + 22 ≤ z ∧ regA G w (ad i) s) ∧ (∀ s t : St, sl 0 = some s → sl 1 = some t → ad 0 + 22 ≤ ad 1 ∨ ad 1 + 22 ≤ ad 0)
theorem slA.kp {G : xG} {w w1 : Wd} {x z lo hi : Nat} {sl : Nat → Option St} (h : slA G w x z sl) (k : Fr lo hi w w1) (a : hi ≤ x + 212 ∨ (x + 213 ≤ lo ∧ hi ≤ x + 230)) : slA G w1 x z sl := by
  obtain ⟨f, ad, h1, h2, h3, h4⟩ := h
  refine ⟨f, ad, (k _ (by omega)).trans h1, h2, fun i s hi e => ?_, h4⟩
  obtain ⟨g1, g2, g3, g4⟩ := h3 i s hi e
  exact ⟨g1, g2, g3, g4.kp k (by omega)⟩
theorem slA.kp2 {G : xG} {w w1 : Wd} {x z a b c d : Nat} {sl : Nat → Option St} (h : slA G w x z sl) (k : Fr2 a b c d w w1) (hb : b ≤ x + 212) (hd : x + 213 ≤ c ∧ d ≤ x + 230) : slA G w1 x z sl := by
  obtain ⟨f, ad, h1, h2, h3, h4⟩ := h
  refine ⟨f, ad, (k _ (by omega) (by omega)).trans h1, h2, fun i s hi e => ?_, h4⟩
  obtain ⟨g1, g2, g3, g4⟩ := h3 i s hi e
  exact ⟨g1, g2, g3, g4.kpf fun q a b => k q (by omega) (by omega)⟩
def cbF (s : St) (sl : Nat → Option St) (i : Int) : Int × St := if 0 ≤ i ∧ i < 2 then (match sl i.toNat with | none => (-5, s) | some t => (t.day, t)) else (-2, s)
def savF (s : St) (sl : Nat → Option St) (i : Int) : Int × (Nat → Option St) := if 0 ≤ i ∧ i < 2 then (s.day, fun j => if j = i.toNat then some s else sl j) else (-2, sl)
theorem m_X6_init {l : Launch} {G : xG} {w : Wd} {h : Nat} (h1 : w h = some (.inr (6, [.null, .null, .null, .null, .null, .null]))) : xMet l G yX6_init cX6_init 1 none ({ frames := 5, cells := 214, slots := 2487, locals := 104 } : Room) [.ref h] w (h + 1) (aV fun w1 z1 => z1 = h + 215 ∧ coA G w1 h St0 ∧ hisA G w1 (h + 56) [] ∧ padE G w1 (h + 213) [] ∧ w1 (h + 212) = some (aQ G 2 (fun _ => none)) ∧ Fr h (h + 215) w w1) := by
  refine xMet_of RX6 rfl (by decide +kernel) true (by decide +kernel) (Nat.le_of_ble_eq_true rfl) rfl ?_
  intro P hM hR
  have ho := h1
  have fA : Fr h (h + 215) w w := Fr.rf
  refine x_aload_n hM dX6_init_0 rfl rfl ?_
  refine x_objInit hM wo_X6_3 (Nat.le_of_ble_eq_true rfl) (Nat.le_of_ble_eq_true rfl) dX6_init_1 ?_
  refine x_aload_n hM dX6_init_4 rfl rfl ?_
  refine x_new (ci := 3) (fs := [.null, .null, .null, .null, .null, .null, .int 0, .int 0, .int 0, .int 0]) hM rfl wl_X3 wk_X6_9 wn_X3 wz_X3 tyX3 tyX3_ok (by decide +kernel) (Nat.le_of_ble_eq_true rfl) (Nat.le_of_ble_eq_true rfl) dX6_init_5 ?_
  have fN := wF (w := w) (q := h + 1) (e := .inr (3, [.null, .null, .null, .null, .null, .null, .int 0, .int 0, .int 0, .int 0]))
  have ho := (fN h (by omega)).trans ho
  have fA := fA.tr (fN.mo (by omega) (by omega))
  refine x_dup hM dX6_init_8 rfl ?_
  refine x_callI hM wi_X6_11 (m_X3_init (h := h + 1) wS_eq) ⟨Nat.le_of_ble_eq_true rfl, Nat.le_of_ble_eq_true rfl⟩ rfl rfl (Nat.le_of_ble_eq_true rfl) ⟨Nat.le_of_ble_eq_true rfl, Nat.le_of_ble_eq_true rfl⟩ dX6_init_9 (k_aV fun w_9 z_9 q_9 => ?_)
  obtain ⟨rfl, R0, qf⟩ := q_9
  have ho := (qf h (by omega)).trans ho
  have fA := fA.tr (qf.mo (by omega) (by omega))
  refine x_putF hM wl_X6 ho wp_X6_12 rfl rfl (Nat.le_of_ble_eq_true rfl) rfl dX6_init_12 ?_
  have fP := wF (w := w_9) (q := h) (e := .inr (6, [.ref (h + 1), .null, .null, .null, .null, .null]))
  have ho : (wS w_9 h (.inr (6, [.ref (h + 1), .null, .null, .null, .null, .null]))) h = _ := wS_eq
  have R0 := R0.kp fP (by omega)
  have fA := fA.tr (fP.mo (by omega) (by omega))
  refine x_aload_n hM dX6_init_15 rfl rfl ?_
  refine x_new (ci := 3) (fs := [.null, .null, .null, .null, .null, .null, .int 0, .int 0, .int 0, .int 0]) hM rfl wl_X3 wk_X6_9 wn_X3 wz_X3 tyX3 tyX3_ok (by decide +kernel) (Nat.le_of_ble_eq_true rfl) (Nat.le_of_ble_eq_true rfl) dX6_init_16 ?_
  have fN := wF (w := (wS w_9 h (.inr (6, [.ref (h + 1), .null, .null, .null, .null, .null])))) (q := h + 23) (e := .inr (3, [.null, .null, .null, .null, .null, .null, .int 0, .int 0, .int 0, .int 0]))
  have ho := (fN h (by omega)).trans ho
  have R0 := R0.kp fN (by omega)
  have fA := fA.tr (fN.mo (by omega) (by omega))
  refine x_dup hM dX6_init_19 rfl ?_
  refine x_callI hM wi_X6_11 (m_X3_init (h := h + 23) wS_eq) ⟨Nat.le_of_ble_eq_true rfl, Nat.le_of_ble_eq_true rfl⟩ rfl rfl (Nat.le_of_ble_eq_true rfl) ⟨Nat.le_of_ble_eq_true rfl, Nat.le_of_ble_eq_true rfl⟩ dX6_init_20 (k_aV fun w_20 z_20 q_20 => ?_)
  obtain ⟨rfl, R1, qf⟩ := q_20
  have ho := (qf h (by omega)).trans ho
  have R0 := R0.kp qf (by omega)
  have fA := fA.tr (qf.mo (by omega) (by omega))
  refine x_putF hM wl_X6 ho wp_X6_16 rfl rfl (Nat.le_of_ble_eq_true rfl) rfl dX6_init_23 ?_
  have fP := wF (w := w_20) (q := h) (e := .inr (6, [.ref (h + 1), .ref (h + 23), .null, .null, .null, .null]))
  have ho : (wS w_20 h (.inr (6, [.ref (h + 1), .ref (h + 23), .null, .null, .null, .null]))) h = _ := wS_eq
  have R0 := R0.kp fP (by omega)
  have R1 := R1.kp fP (by omega)
  have fA := fA.tr (fP.mo (by omega) (by omega))
  refine x_aload_n hM dX6_init_26 rfl rfl ?_
  refine x_new (ci := 5) (fs := [.null, .null, .null, .null, .null, .int 0]) hM rfl wl_X5 wk_X6_19 wn_X5 wz_X5 tyX5 tyX5_ok (by decide +kernel) (Nat.le_of_ble_eq_true rfl) (Nat.le_of_ble_eq_true rfl) dX6_init_27 ?_
  have fN := wF (w := (wS w_20 h (.inr (6, [.ref (h + 1), .ref (h + 23), .null, .null, .null, .null])))) (q := h + 45) (e := .inr (5, [.null, .null, .null, .null, .null, .int 0]))
  have ho := (fN h (by omega)).trans ho
  have R0 := R0.kp fN (by omega)
  have R1 := R1.kp fN (by omega)
  have fA := fA.tr (fN.mo (by omega) (by omega))
  refine x_dup hM dX6_init_30 rfl ?_
  refine x_callI hM wi_X6_21 (m_X5_init (h := h + 45) wS_eq) ⟨Nat.le_of_ble_eq_true rfl, Nat.le_of_ble_eq_true rfl⟩ rfl rfl (Nat.le_of_ble_eq_true rfl) ⟨Nat.le_of_ble_eq_true rfl, Nat.le_of_ble_eq_true rfl⟩ dX6_init_31 (k_aV fun w_31 z_31 q_31 => ?_)
  obtain ⟨rfl, T, qf⟩ := q_31
  have ho := (qf h (by omega)).trans ho
  have R0 := R0.kp qf (by omega)
  have R1 := R1.kp qf (by omega)
  have fA := fA.tr (qf.mo (by omega) (by omega))
  refine x_putF hM wl_X6 ho wp_X6_22 rfl rfl (Nat.le_of_ble_eq_true rfl) rfl dX6_init_34 ?_
  have fP := wF (w := w_31) (q := h) (e := .inr (6, [.ref (h + 1), .ref (h + 23), .ref (h + 45), .null, .null, .null]))
  have ho : (wS w_31 h (.inr (6, [.ref (h + 1), .ref (h + 23), .ref (h + 45), .null, .null, .null]))) h = _ := wS_eq
  have R0 := R0.kp fP (by omega)
  have R1 := R1.kp fP (by omega)
  have T := T.kp fP (by omega)
  have fA := fA.tr (fP.mo (by omega) (by omega))
  refine x_aload_n hM dX6_init_37 rfl rfl ?_
  refine x_new (ci := 1) (fs := [.null, .int 0]) hM rfl wl_X1 wk_X6_26 wn_X1 wz_X1 tyX1 tyX1_ok (by decide +kernel) (Nat.le_of_ble_eq_true rfl) (Nat.le_of_ble_eq_true rfl) dX6_init_38 ?_
  have fN := wF (w := (wS w_31 h (.inr (6, [.ref (h + 1), .ref (h + 23), .ref (h + 45), .null, .null, .null])))) (q := h + 56) (e := .inr (1, [.null, .int 0]))
  have ho := (fN h (by omega)).trans ho
  have R0 := R0.kp fN (by omega)
  have R1 := R1.kp fN (by omega)
  have T := T.kp fN (by omega)
  have fA := fA.tr (fN.mo (by omega) (by omega))
  refine x_dup hM dX6_init_41 rfl ?_
  refine x_callI hM wi_X6_28 (m_X1_init (h := h + 56) wS_eq) ⟨Nat.le_of_ble_eq_true rfl, Nat.le_of_ble_eq_true rfl⟩ rfl rfl (Nat.le_of_ble_eq_true rfl) ⟨Nat.le_of_ble_eq_true rfl, Nat.le_of_ble_eq_true rfl⟩ dX6_init_42 (k_aV fun w_42 z_42 q_42 => ?_)
  obtain ⟨rfl, H, qf⟩ := q_42
  have ho := (qf h (by omega)).trans ho
  have R0 := R0.kp qf (by omega)
  have R1 := R1.kp qf (by omega)
  have T := T.kp qf (by omega)
  have fA := fA.tr (qf.mo (by omega) (by omega))
  refine x_putF hM wl_X6 ho wp_X6_29 rfl rfl (Nat.le_of_ble_eq_true rfl) rfl dX6_init_45 ?_
  have fP := wF (w := w_42) (q := h) (e := .inr (6, [.ref (h + 1), .ref (h + 23), .ref (h + 45), .ref (h + 56), .null, .null]))
  have ho : (wS w_42 h (.inr (6, [.ref (h + 1), .ref (h + 23), .ref (h + 45), .ref (h + 56), .null, .null]))) h = _ := wS_eq
  have R0 := R0.kp fP (by omega)
  have R1 := R1.kp fP (by omega)
  have T := T.kp fP (by omega)
  have H := H.kp fP (by omega)
  have fA := fA.tr (fP.mo (by omega) (by omega))
  refine x_aload_n hM dX6_init_48 rfl rfl ?_
  refine x_iconst hM dX6_init_49 ?_
  refine x_newQ  hM wk_X6_9 (by omega) rfl (by omega) (Nat.le_of_ble_eq_true rfl) (Nat.le_of_ble_eq_true rfl) dX6_init_50 ?_
  have fN := wF (w := (wS w_42 h (.inr (6, [.ref (h + 1), .ref (h + 23), .ref (h + 45), .ref (h + 56), .null, .null])))) (q := h + 212) (e := aQ G 2 (fun _ => none))
  have ho := (fN h (by omega)).trans ho
  have R0 := R0.kp fN (by omega)
  have R1 := R1.kp fN (by omega)
  have T := T.kp fN (by omega)
  have H := H.kp fN (by omega)
  have fA := fA.tr (fN.mo (by omega) (by omega))
  have S : (wS (wS w_42 h (.inr (6, [.ref (h + 1), .ref (h + 23), .ref (h + 45), .ref (h + 56), .null, .null]))) (h + 212) (aQ G 2 (fun _ => none))) (h + 212) = _ := wS_eq
  refine x_putF hM wl_X6 ho wp_X6_33 rfl rfl (Nat.le_of_ble_eq_true rfl) rfl dX6_init_53 ?_
  have fP := wF (w := (wS (wS w_42 h (.inr (6, [.ref (h + 1), .ref (h + 23), .ref (h + 45), .ref (h + 56), .null, .null]))) (h + 212) (aQ G 2 (fun _ => none)))) (q := h) (e := .inr (6, [.ref (h + 1), .ref (h + 23), .ref (h + 45), .ref (h + 56), .ref (h + 212), .null]))
  have ho : (wS (wS (wS w_42 h (.inr (6, [.ref (h + 1), .ref (h + 23), .ref (h + 45), .ref (h + 56), .null, .null]))) (h + 212) (aQ G 2 (fun _ => none))) h (.inr (6, [.ref (h + 1), .ref (h + 23), .ref (h + 45), .ref (h + 56), .ref (h + 212), .null]))) h = _ := wS_eq
  have R0 := R0.kp fP (by omega)
  have R1 := R1.kp fP (by omega)
  have T := T.kp fP (by omega)
  have H := H.kp fP (by omega)
  have S := (fP _ (by omega)).trans S
  have fA := fA.tr (fP.mo (by omega) (by omega))
  refine x_aload_n hM dX6_init_56 rfl rfl ?_
  refine x_new (ci := 2) (fs := [.null, .int 0, .int 0, .int 0, .int 0, .int 0, .int 0]) hM rfl wl_X2 wk_X6_37 wn_X2 wz_X2 tyX2 tyX2_ok (by decide +kernel) (Nat.le_of_ble_eq_true rfl) (Nat.le_of_ble_eq_true rfl) dX6_init_57 ?_
  have fN := wF (w := (wS (wS (wS w_42 h (.inr (6, [.ref (h + 1), .ref (h + 23), .ref (h + 45), .ref (h + 56), .null, .null]))) (h + 212) (aQ G 2 (fun _ => none))) h (.inr (6, [.ref (h + 1), .ref (h + 23), .ref (h + 45), .ref (h + 56), .ref (h + 212), .null])))) (q := h + 213) (e := .inr (2, [.null, .int 0, .int 0, .int 0, .int 0, .int 0, .int 0]))
  have ho := (fN h (by omega)).trans ho
  have R0 := R0.kp fN (by omega)
  have R1 := R1.kp fN (by omega)
  have T := T.kp fN (by omega)
  have H := H.kp fN (by omega)
  have S := (fN _ (by omega)).trans S
  have fA := fA.tr (fN.mo (by omega) (by omega))
  refine x_dup hM dX6_init_60 rfl ?_
  refine x_callI hM wi_X6_39 (m_X2_init (h := h + 213) wS_eq) ⟨Nat.le_of_ble_eq_true rfl, Nat.le_of_ble_eq_true rfl⟩ rfl rfl (Nat.le_of_ble_eq_true rfl) ⟨Nat.le_of_ble_eq_true rfl, Nat.le_of_ble_eq_true rfl⟩ dX6_init_61 (k_aV fun w_61 z_61 q_61 => ?_)
  obtain ⟨rfl, B, qf⟩ := q_61
  have ho := (qf h (by omega)).trans ho
  have R0 := R0.kp qf (by omega)
  have R1 := R1.kp qf (by omega)
  have T := T.kp qf (by omega)
  have H := H.kp qf (by omega)
  have S := (qf _ (by omega)).trans S
  have fA := fA.tr (qf.mo (by omega) (by omega))
  refine x_putF hM wl_X6 ho wp_X6_40 rfl rfl (Nat.le_of_ble_eq_true rfl) rfl dX6_init_64 ?_
  have fP := wF (w := w_61) (q := h) (e := .inr (6, [.ref (h + 1), .ref (h + 23), .ref (h + 45), .ref (h + 56), .ref (h + 212), .ref (h + 213)]))
  have ho : (wS w_61 h (.inr (6, [.ref (h + 1), .ref (h + 23), .ref (h + 45), .ref (h + 56), .ref (h + 212), .ref (h + 213)]))) h = _ := wS_eq
  have R0 := R0.kp fP (by omega)
  have R1 := R1.kp fP (by omega)
  have T := T.kp fP (by omega)
  have H := H.kp fP (by omega)
  have S := (fP _ (by omega)).trans S
  have B := B.kp fP (by omega)
  have fA := fA.tr (fP.mo (by omega) (by omega))
  refine hR.v dX6_init_67 (Nat.le_of_ble_eq_true rfl) (Nat.le_of_ble_eq_true rfl) ?_
  exact ⟨rfl, rfl, ⟨ho, R0, ⟨_, R1⟩, _, T⟩, H, ⟨_, _, _, _, _, B⟩, S, fA⟩
