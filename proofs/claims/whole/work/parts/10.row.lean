/-! Row -/
def rowA (G : xG) (w : Wd) (h n : Nat) (f : Int → Int) : Prop := w h = some (.inr (4, [.ref (h + 1)])) ∧ w (h + 1) = some (aI G n f)
theorem row_o {G : xG} {w : Wd} {h n : Nat} {f : Int → Int} (x : rowA G w h n f) : w h = some (.inr (4, [.ref (h + 1)])) := x.1
theorem row_c {G : xG} {w : Wd} {h n : Nat} {f : Int → Int} (x : rowA G w h n f) : w (h + 1) = some (aI G n f) := x.2
/-- outside [lo, hi) nothing has changed -/
def Fr (lo hi : Nat) (w w1 : Wd) : Prop := ∀ q : Nat, (q < lo ∨ hi ≤ q) → w1 q = w q
theorem Fr.rf {lo hi : Nat} {w : Wd} : Fr lo hi w w := fun _ _ => rfl
theorem Fr.tr {lo hi : Nat} {w w1 w2 : Wd} (h1 : Fr lo hi w w1) (h2 : Fr lo hi w1 w2) : Fr lo hi w w2 := fun q hq => (h2 q hq).trans (h1 q hq)
theorem Fr.mo {lo hi lo2 hi2 : Nat} {w w1 : Wd} (h : Fr lo hi w w1) (a : lo2 ≤ lo) (b : hi ≤ hi2) : Fr lo2 hi2 w w1 := fun q hq => h q (by omega)
theorem Fr.wS {q lo hi : Nat} {w : Wd} {e : va_E} (a : lo ≤ q) (b : q < hi) : Fr lo hi w (wS w q e) := fun x hx => wS_ne (by omega)
theorem rowA.fr {G : xG} {w w1 : Wd} {h n lo hi : Nat} {f : Int → Int} (x : rowA G w h n f) (r : Fr lo hi w w1) (a : h + 2 ≤ lo ∨ hi ≤ h) : rowA G w1 h n f := ⟨(r h (by omega)).trans x.1, (r (h + 1) (by omega)).trans x.2⟩
theorem rowA.up {G : xG} {w : Wd} {h n : Nat} {f g : Int → Int} (x : rowA G w h n f) : rowA G (wS w (h + 1) (aI G n g)) h n g := ⟨(wS_ne (by omega)).trans x.1, wS_eq⟩
theorem p_rI {v x : Int} {w : Wd} {z : Nat} (h : x = v) : rI v w z (some (.int (iI x))) w z := ⟨by rw [h], rfl, rfl⟩
theorem p_qI {f : Int → Wd → Prop} {x : Int} {w : Wd} {z : Nat} (h : f x w) : qI z f (some (.int (iI x))) w z := ⟨rfl, x, rfl, h⟩
theorem p_qV {f : Wd → Prop} {w : Wd} {z : Nat} (h : f w) : qV z f none w z := ⟨rfl, rfl, h⟩
theorem p_rL {v x : Int64} {w : Wd} {z : Nat} (h : x = v) : rL v w z (some (.long x)) w z := ⟨by rw [h], rfl, rfl⟩
theorem wS_same {w : Wd} {q : Nat} {e : va_E} (h : w q = some e) : wS w q e = w := by
  funext x
  by_cases hx : x = q
  · subst hx; rw [wS_eq, h]
  · rw [wS_ne hx]
theorem wS_2 {w : Wd} {q : Nat} {e e2 : va_E} : wS (wS w q e) q e2 = wS w q e2 := by
  funext x
  by_cases hx : x = q
  · subst hx; rw [wS_eq, wS_eq]
  · rw [wS_ne hx, wS_ne hx, wS_ne hx]
theorem m_X4_at {l : Launch} {G : xG} {w : Wd} {z h n : Nat} {f : Int → Int} {i : Int} (h1 : rowA G w h n f) (hi : 0 ≤ i ∧ i < n ∧ n ≤ 2147483647) : xMet l G yX4_at cX4_at 2 (some .int) ({ frames := 0, cells := 0, slots := 0, locals := 0 } : Room) [.ref h, .int (iI i)] w z (rI (f i) w z) := by
  refine xMet_of RX4 rfl (by decide +kernel) false (by decide +kernel) (Nat.le_of_ble_eq_true rfl) rfl ?_
  intro P hM hR
  refine x_iload_n hM dX4_at_0 rfl rfl ?_
  refine x_if_lt (tgt := 22) hM dX4_at_1 (by decide) (by omega) (fun c_1 => ?_) (fun c_1 => ?_)
  · exfalso; omega
  · refine x_iload_n hM dX4_at_4 rfl rfl ?_
    refine x_aload_n hM dX4_at_5 rfl rfl ?_
    refine x_get hM wf_X4_13 wl_X4 (by first | assumption | exact row_o (by assumption)) rfl dX4_at_6 ?_
    refine x_alenI hM (by first | assumption | exact row_c (by assumption)) dX4_at_9 ?_
    refine x_icmp_ge (tgt := 22) hM dX4_at_10 (by decide) (by omega) (by omega) (fun c_10 => ?_) (fun c_10 => ?_)
    · exfalso; omega
    · refine x_aload_n hM dX4_at_13 rfl rfl ?_
      refine x_get hM wf_X4_13 wl_X4 (by first | assumption | exact row_o (by assumption)) rfl dX4_at_14 ?_
      refine x_iload_n hM dX4_at_17 rfl rfl ?_
      refine x_iald hM (by first | assumption | exact row_c (by assumption)) (by omega) dX4_at_18 ?_
      refine x_goto (tgt := 23) hM dX4_at_19 (by decide) ?_
      refine hR.i dX4_at_23 (Nat.zero_le _) (Nat.zero_le _) ?_
      exact p_rI rfl
theorem m_X4_store {l : Launch} {G : xG} {w : Wd} {z h n : Nat} {f : Int → Int} {i v : Int} (h1 : rowA G w h n f) (hi : 0 ≤ i ∧ i < n ∧ n ≤ 2147483647) : xMet l G yX4_store cX4_store 3 none ({ frames := 0, cells := 0, slots := 0, locals := 0 } : Room) [.ref h, .int (iI i), .int (iI v)] w z (qV z fun w1 => w1 = wS w (h + 1) (aI G n (fU f i v))) := by
  refine xMet_of RX4 rfl (by decide +kernel) false (by decide +kernel) (Nat.le_of_ble_eq_true rfl) rfl ?_
  intro P hM hR
  refine x_iload_n hM dX4_store_0 rfl rfl ?_
  refine x_if_lt (tgt := 20) hM dX4_store_1 (by decide) (by omega) (fun c_1 => ?_) (fun c_1 => ?_)
  · exfalso; omega
  · refine x_iload_n hM dX4_store_4 rfl rfl ?_
    refine x_aload_n hM dX4_store_5 rfl rfl ?_
    refine x_get hM wf_X4_13 wl_X4 (by first | assumption | exact row_o (by assumption)) rfl dX4_store_6 ?_
    refine x_alenI hM (by first | assumption | exact row_c (by assumption)) dX4_store_9 ?_
    refine x_icmp_ge (tgt := 20) hM dX4_store_10 (by decide) (by omega) (by omega) (fun c_10 => ?_) (fun c_10 => ?_)
    · exfalso; omega
    · refine x_aload_n hM dX4_store_13 rfl rfl ?_
      refine x_get hM wf_X4_13 wl_X4 (by first | assumption | exact row_o (by assumption)) rfl dX4_store_14 ?_
      refine x_iload_n hM dX4_store_17 rfl rfl ?_
      refine x_iload_n hM dX4_store_18 rfl rfl ?_
      refine x_iast hM (by first | assumption | exact row_c (by assumption)) (by omega) dX4_store_19 ?_
      refine hR.v dX4_store_20 (Nat.zero_le _) (Nat.zero_le _) ?_
      exact p_qV rfl
theorem m_X4_add {l : Launch} {G : xG} {w : Wd} {z h n : Nat} {f : Int → Int} {i v : Int} (h1 : rowA G w h n f) (hi : 0 ≤ i ∧ i < n ∧ n ≤ 2147483647) : xMet l G yX4_add cX4_add 3 none ({ frames := 0, cells := 0, slots := 0, locals := 0 } : Room) [.ref h, .int (iI i), .int (iI v)] w z (qV z fun w1 => w1 = wS w (h + 1) (aI G n (fU f i (f i + v)))) := by
  refine xMet_of RX4 rfl (by decide +kernel) false (by decide +kernel) (Nat.le_of_ble_eq_true rfl) rfl ?_
  intro P hM hR
  refine x_iload_n hM dX4_add_0 rfl rfl ?_
  refine x_if_lt (tgt := 23) hM dX4_add_1 (by decide) (by omega) (fun c_1 => ?_) (fun c_1 => ?_)
  · exfalso; omega
  · refine x_iload_n hM dX4_add_4 rfl rfl ?_
    refine x_aload_n hM dX4_add_5 rfl rfl ?_
    refine x_get hM wf_X4_13 wl_X4 (by first | assumption | exact row_o (by assumption)) rfl dX4_add_6 ?_
    refine x_alenI hM (by first | assumption | exact row_c (by assumption)) dX4_add_9 ?_
    refine x_icmp_ge (tgt := 23) hM dX4_add_10 (by decide) (by omega) (by omega) (fun c_10 => ?_) (fun c_10 => ?_)
    · exfalso; omega
    · refine x_aload_n hM dX4_add_13 rfl rfl ?_
      refine x_get hM wf_X4_13 wl_X4 (by first | assumption | exact row_o (by assumption)) rfl dX4_add_14 ?_
      refine x_iload_n hM dX4_add_17 rfl rfl ?_
      refine x_dup2 hM dX4_add_18 rfl rfl ?_
      refine x_iald hM (by first | assumption | exact row_c (by assumption)) (by omega) dX4_add_19 ?_
      refine x_iload_n hM dX4_add_20 rfl rfl ?_
      refine x_iadd hM dX4_add_21 ?_
      refine x_iast hM (by first | assumption | exact row_c (by assumption)) (by omega) dX4_add_22 ?_
      refine hR.v dX4_add_23 (Nat.zero_le _) (Nat.zero_le _) ?_
      exact p_qV rfl
