/-! Row -/
def rowA (G : xG) (w : Wd) (h n : Nat) (f : Int → Int) : Prop := w h = some (.inr (4, [.ref (h + 1)])) ∧ w (h + 1) = some (aI G n f)
theorem row_o {G : xG} {w : Wd} {h n : Nat} {f : Int → Int} (x : rowA G w h n f) : w h = some (.inr (4, [.ref (h + 1)])) := x.1
theorem row_c {G : xG} {w : Wd} {h n : Nat} {f : Int → Int} (x : rowA G w h n f) : w (h + 1) = some (aI G n f) := x.2
/-- outside [lo, hi) nothing has changed -/
def Fr (lo hi : Nat) (w w1 : Wd) : Prop := ∀ q : Nat, (q < lo ∨ hi ≤ q) → w1 q = w q
theorem Fr.rf {lo hi : Nat} {w : Wd} : Fr lo hi w w := fun _ _ => rfl
theorem Fr.tr {lo hi : Nat} {w w1 w2 : Wd} (h1 : Fr lo hi w w1) (h2 : Fr lo hi w1 w2) : Fr lo hi w w2 := fun q hq => (h2 q hq).trans (h1 q hq)
theorem Fr.mo {lo hi lo2 hi2 : Nat} {w w1 : Wd} (h : Fr lo hi w w1) (a : lo2 ≤ lo) (b : hi ≤ hi2) : Fr lo2 hi2 w w1 := fun q hq => h q (by omega)
theorem Fr.wS {q lo hi : Nat} {w : Wd} {e : va_E} (a : lo ≤ q) (b : q < hi) : Fr lo hi w (wS w q e) := fun x hx => wS_ne (by omega)
theorem rowA.kp {G : xG} {w w1 : Wd} {h n lo hi : Nat} {f : Int → Int} (x : rowA G w h n f) (r : Fr lo hi w w1) (a : h + 2 ≤ lo ∨ hi ≤ h) : rowA G w1 h n f := ⟨(r h (by omega)).trans x.1, (r (h + 1) (by omega)).trans x.2⟩
theorem rowA.up {G : xG} {w : Wd} {h n : Nat} {f g : Int → Int} (x : rowA G w h n f) : rowA G (wS w (h + 1) (aI G n g)) h n g := ⟨(wS_ne (by omega)).trans x.1, wS_eq⟩
theorem p_rI {v x : Int} {w : Wd} {z : Nat} (h : x = v) : rI v w z (some (.int (iI x))) w z := ⟨by rw [h], rfl, rfl⟩
theorem p_qI {f : Int → Wd → Prop} {x : Int} {w : Wd} {z : Nat} (h : f x w) : qI z f (some (.int (iI x))) w z := ⟨rfl, x, rfl, h⟩
theorem p_qV {f : Wd → Prop} {w : Wd} {z : Nat} (h : f w) : qV z f none w z := ⟨rfl, rfl, h⟩
theorem p_rL {v x : Int64} {w : Wd} {z : Nat} (h : x = v) : rL v w z (some (.long x)) w z := ⟨by rw [h], rfl, rfl⟩
theorem wS_same {w : Wd} {q : Nat} {e : va_E} (h : w q = some e) : wS w q e = w := by
  funext x
  by_cases hx : x = q
  · subst hx; rw [wS_eq, h]
  · rw [wS_ne hx]
theorem wS_2 {w : Wd} {q : Nat} {e e2 : va_E} : wS (wS w q e) q e2 = wS w q e2 := by
  funext x
  by_cases hx : x = q
  · subst hx; rw [wS_eq, wS_eq]
  · rw [wS_ne hx, wS_ne hx, wS_ne hx]
theorem m_X4_at {l : Launch} {G : xG} {w : Wd} {z h n : Nat} {f : Int → Int} {i : Int} (h1 : rowA G w h n f) (hi : 0 ≤ i ∧ i < n ∧ n ≤ 2147483647) : xMet l G yX4_at cX4_at 2 (some .int) ({ frames := 0, cells := 0, slots := 0, locals := 0 } : Room) [.ref h, .int (iI i)] w z (rI (f i) w z) := by
  refine xMet_of RX4 rfl (by decide +kernel) false (by decide +kernel) (Nat.le_of_ble_eq_true rfl) rfl ?_
  intro P hM hR
  refine x_iload_n hM dX4_at_0 rfl rfl ?_
  refine x_if_lt (tgt := 22) hM dX4_at_1 (by decide) (by omega) (fun c_1 => ?_) (fun c_1 => ?_)
  · exfalso; omega
  · refine x_iload_n hM dX4_at_4 rfl rfl ?_
    refine x_aload_n hM dX4_at_5 rfl rfl ?_
    refine x_get hM wf_X4_13 wl_X4 (by first | assumption | exact row_o (by first | assumption | exact sr1 (by assumption) | exact sr2 (by assumption) | exact sr3 (by assumption) | exact sr4 (by assumption) | exact sr5 (by assumption) | exact rg1 (by assumption) | exact rg2 (by assumption) | exact rg3 (by assumption))) rfl dX4_at_6 ?_
    refine x_alenI hM (by first | assumption | exact row_c (by first | assumption | exact sr1 (by assumption) | exact sr2 (by assumption) | exact sr3 (by assumption) | exact sr4 (by assumption) | exact sr5 (by assumption) | exact rg1 (by assumption) | exact rg2 (by assumption) | exact rg3 (by assumption))) dX4_at_9 ?_
    refine x_icmp_ge (tgt := 22) hM dX4_at_10 (by decide) (by omega) (by omega) (fun c_10 => ?_) (fun c_10 => ?_)
    · exfalso; omega
    · refine x_aload_n hM dX4_at_13 rfl rfl ?_
      refine x_get hM wf_X4_13 wl_X4 (by first | assumption | exact row_o (by first | assumption | exact sr1 (by assumption) | exact sr2 (by assumption) | exact sr3 (by assumption) | exact sr4 (by assumption) | exact sr5 (by assumption) | exact rg1 (by assumption) | exact rg2 (by assumption) | exact rg3 (by assumption))) rfl dX4_at_14 ?_
      refine x_iload_n hM dX4_at_17 rfl rfl ?_
      refine x_iald hM (by first | assumption | exact row_c (by first | assumption | exact sr1 (by assumption) | exact sr2 (by assumption) | exact sr3 (by assumption) | exact sr4 (by assumption) | exact sr5 (by assumption) | exact rg1 (by assumption) | exact rg2 (by assumption) | exact rg3 (by assumption))) (by omega) dX4_at_18 ?_
      refine x_goto (tgt := 23) hM dX4_at_19 (by decide) ?_
      refine hR.i dX4_at_23 (Nat.zero_le _) (Nat.zero_le _) ?_
      exact p_rI rfl
theorem m_X4_store {l : Launch} {G : xG} {w : Wd} {z h n : Nat} {f : Int → Int} {i v : Int} (h1 : rowA G w h n f) (hi : 0 ≤ i ∧ i < n ∧ n ≤ 2147483647) : xMet l G yX4_store cX4_store 3 none ({ frames := 0, cells := 0, slots := 0, locals := 0 } : Room) [.ref h, .int (iI i), .int (iI v)] w z (qV z fun w1 => w1 = wS w (h + 1) (aI G n (fU f i v))) := by
  refine xMet_of RX4 rfl (by decide +kernel) false (by decide +kernel) (Nat.le_of_ble_eq_true rfl) rfl ?_
  intro P hM hR
  refine x_iload_n hM dX4_store_0 rfl rfl ?_
  refine x_if_lt (tgt := 20) hM dX4_store_1 (by decide) (by omega) (fun c_1 => ?_) (fun c_1 => ?_)
  · exfalso; omega
  · refine x_iload_n hM dX4_store_4 rfl rfl ?_
    refine x_aload_n hM dX4_store_5 rfl rfl ?_
    refine x_get hM wf_X4_13 wl_X4 (by first | assumption | exact row_o (by first | assumption | exact sr1 (by assumption) | exact sr2 (by assumption) | exact sr3 (by assumption) | exact sr4 (by assumption) | exact sr5 (by assumption) | exact rg1 (by assumption) | exact rg2 (by assumption) | exact rg3 (by assumption))) rfl dX4_store_6 ?_
    refine x_alenI hM (by first | assumption | exact row_c (by first | assumption | exact sr1 (by assumption) | exact sr2 (by assumption) | exact sr3 (by assumption) | exact sr4 (by assumption) | exact sr5 (by assumption) | exact rg1 (by assumption) | exact rg2 (by assumption) | exact rg3 (by assumption))) dX4_store_9 ?_
    refine x_icmp_ge (tgt := 20) hM dX4_store_10 (by decide) (by omega) (by omega) (fun c_10 => ?_) (fun c_10 => ?_)
    · exfalso; omega
    · refine x_aload_n hM dX4_store_13 rfl rfl ?_
      refine x_get hM wf_X4_13 wl_X4 (by first | assumption | exact row_o (by first | assumption | exact sr1 (by assumption) | exact sr2 (by assumption) | exact sr3 (by assumption) | exact sr4 (by assumption) | exact sr5 (by assumption) | exact rg1 (by assumption) | exact rg2 (by assumption) | exact rg3 (by assumption))) rfl dX4_store_14 ?_
      refine x_iload_n hM dX4_store_17 rfl rfl ?_
      refine x_iload_n hM dX4_store_18 rfl rfl ?_
      refine x_iast hM (by first | assumption | exact row_c (by first | assumption | exact sr1 (by assumption) | exact sr2 (by assumption) | exact sr3 (by assumption) | exact sr4 (by assumption) | exact sr5 (by assumption) | exact rg1 (by assumption) | exact rg2 (by assumption) | exact rg3 (by assumption))) (by omega) dX4_store_19 ?_
      refine hR.v dX4_store_20 (Nat.zero_le _) (Nat.zero_le _) ?_
      exact p_qV rfl
theorem m_X4_add {l : Launch} {G : xG} {w : Wd} {z h n : Nat} {f : Int → Int} {i v : Int} (h1 : rowA G w h n f) (hi : 0 ≤ i ∧ i < n ∧ n ≤ 2147483647) : xMet l G yX4_add cX4_add 3 none ({ frames := 0, cells := 0, slots := 0, locals := 0 } : Room) [.ref h, .int (iI i), .int (iI v)] w z (qV z fun w1 => w1 = wS w (h + 1) (aI G n (fU f i (f i + v)))) := by
  refine xMet_of RX4 rfl (by decide +kernel) false (by decide +kernel) (Nat.le_of_ble_eq_true rfl) rfl ?_
  intro P hM hR
  refine x_iload_n hM dX4_add_0 rfl rfl ?_
  refine x_if_lt (tgt := 23) hM dX4_add_1 (by decide) (by omega) (fun c_1 => ?_) (fun c_1 => ?_)
  · exfalso; omega
  · refine x_iload_n hM dX4_add_4 rfl rfl ?_
    refine x_aload_n hM dX4_add_5 rfl rfl ?_
    refine x_get hM wf_X4_13 wl_X4 (by first | assumption | exact row_o (by first | assumption | exact sr1 (by assumption) | exact sr2 (by assumption) | exact sr3 (by assumption) | exact sr4 (by assumption) | exact sr5 (by assumption) | exact rg1 (by assumption) | exact rg2 (by assumption) | exact rg3 (by assumption))) rfl dX4_add_6 ?_
    refine x_alenI hM (by first | assumption | exact row_c (by first | assumption | exact sr1 (by assumption) | exact sr2 (by assumption) | exact sr3 (by assumption) | exact sr4 (by assumption) | exact sr5 (by assumption) | exact rg1 (by assumption) | exact rg2 (by assumption) | exact rg3 (by assumption))) dX4_add_9 ?_
    refine x_icmp_ge (tgt := 23) hM dX4_add_10 (by decide) (by omega) (by omega) (fun c_10 => ?_) (fun c_10 => ?_)
    · exfalso; omega
    · refine x_aload_n hM dX4_add_13 rfl rfl ?_
      refine x_get hM wf_X4_13 wl_X4 (by first | assumption | exact row_o (by first | assumption | exact sr1 (by assumption) | exact sr2 (by assumption) | exact sr3 (by assumption) | exact sr4 (by assumption) | exact sr5 (by assumption) | exact rg1 (by assumption) | exact rg2 (by assumption) | exact rg3 (by assumption))) rfl dX4_add_14 ?_
      refine x_iload_n hM dX4_add_17 rfl rfl ?_
      refine x_dup2 hM dX4_add_18 rfl rfl ?_
      refine x_iald hM (by first | assumption | exact row_c (by first | assumption | exact sr1 (by assumption) | exact sr2 (by assumption) | exact sr3 (by assumption) | exact sr4 (by assumption) | exact sr5 (by assumption) | exact rg1 (by assumption) | exact rg2 (by assumption) | exact rg3 (by assumption))) (by omega) dX4_add_19 ?_
      refine x_iload_n hM dX4_add_20 rfl rfl ?_
      refine x_iadd hM dX4_add_21 ?_
      refine x_iast hM (by first | assumption | exact row_c (by first | assumption | exact sr1 (by assumption) | exact sr2 (by assumption) | exact sr3 (by assumption) | exact sr4 (by assumption) | exact sr5 (by assumption) | exact rg1 (by assumption) | exact rg2 (by assumption) | exact rg3 (by assumption))) (by omega) dX4_add_22 ?_
      refine hR.v dX4_add_23 (Nat.zero_le _) (Nat.zero_le _) ?_
      exact p_qV rfl
theorem m_X4_clear {l : Launch} {G : xG} {w : Wd} {z h n : Nat} {f : Int → Int} (h1 : rowA G w h n f) (hn : n ≤ 2147483647) : xMet l G yX4_clear cX4_clear 2 none ({ frames := 0, cells := 0, slots := 0, locals := 0 } : Room) [.ref h] w z (qV z fun w1 => ∃ g : Int → Int, (∀ j : Int, 0 ≤ j → j < n → g j = 0) ∧ w1 = wS w (h + 1) (aI G n g)) := by
  refine xMet_of RX4 rfl (by decide +kernel) false (by decide +kernel) (Nat.le_of_ble_eq_true rfl) rfl ?_
  intro P hM hR
  have K : ∀ (k i : Nat) (g : Int → Int), n - i < k → i ≤ n → (∀ j : Int, 0 ≤ j → j < i → g j = 0) → P 2 [some (.ref h), some (.int (iI i))] [] (wS w (h + 1) (aI G n g)) (z, 0, 0) := by
    intro k
    induction k with
    | zero => intro i g hk; omega
    | succ k ih =>
      intro i g hk hi hg
      have h2 := h1.up (g := g)
      refine x_iload_n hM dX4_clear_2 rfl rfl ?_
      refine x_aload_n hM dX4_clear_3 rfl rfl ?_
      refine x_get hM wf_X4_13 wl_X4 (by first | assumption | exact row_o (by first | assumption | exact sr1 (by assumption) | exact sr2 (by assumption) | exact sr3 (by assumption) | exact sr4 (by assumption) | exact sr5 (by assumption) | exact rg1 (by assumption) | exact rg2 (by assumption) | exact rg3 (by assumption))) rfl dX4_clear_4 ?_
      refine x_alenI hM (by first | assumption | exact row_c (by first | assumption | exact sr1 (by assumption) | exact sr2 (by assumption) | exact sr3 (by assumption) | exact sr4 (by assumption) | exact sr5 (by assumption) | exact rg1 (by assumption) | exact rg2 (by assumption) | exact rg3 (by assumption))) dX4_clear_7 ?_
      refine x_icmp_ge (tgt := 24) hM dX4_clear_8 (by decide) (by omega) (by omega) (fun c_8 => ?_) (fun c_8 => ?_)
      · refine hR.v dX4_clear_24 (Nat.zero_le _) (Nat.zero_le _) ?_
        exact p_qV ⟨g, fun j a b => hg j a (by omega), rfl⟩
      · refine x_aload_n hM dX4_clear_11 rfl rfl ?_
        refine x_get hM wf_X4_13 wl_X4 (by first | assumption | exact row_o (by first | assumption | exact sr1 (by assumption) | exact sr2 (by assumption) | exact sr3 (by assumption) | exact sr4 (by assumption) | exact sr5 (by assumption) | exact rg1 (by assumption) | exact rg2 (by assumption) | exact rg3 (by assumption))) rfl dX4_clear_12 ?_
        refine x_iload_n hM dX4_clear_15 rfl rfl ?_
        refine x_iconst hM dX4_clear_16 ?_
        refine x_iast hM (by first | assumption | exact row_c (by first | assumption | exact sr1 (by assumption) | exact sr2 (by assumption) | exact sr3 (by assumption) | exact sr4 (by assumption) | exact sr5 (by assumption) | exact rg1 (by assumption) | exact rg2 (by assumption) | exact rg3 (by assumption))) (by omega) dX4_clear_17 ?_
        refine x_iinc hM dX4_clear_18 rfl rfl rfl ?_
        refine x_goto (tgt := 2) hM dX4_clear_21 (by decide) ?_
        rw [wS_2]
        exact ih (i + 1) _ (by omega) (by omega) (fun j a b => (Decidable.em (j = i)).elim (fun e => by rw [e, fU_eq]) (fun e => by rw [fU_ne e]; exact hg j a (by omega)))
  refine x_iconst hM dX4_clear_0 ?_
  refine x_istore_n hM dX4_clear_1 rfl rfl (Nat.le_of_ble_eq_true rfl) rfl ?_
  have q := K (n + 1) 0 f (by omega) (by omega) (fun j a b => by omega)
  rw [wS_same h1.2] at q
  exact q
def sumF (f : Int → Int) : Nat → Int
  | 0 => 0
  | n + 1 => sumF f n + f n
theorem m_X4_sum {l : Launch} {G : xG} {w : Wd} {z h n : Nat} {f : Int → Int} (h1 : rowA G w h n f) (hn : n ≤ 2147483647) : xMet l G yX4_sum cX4_sum 3 (some .int) ({ frames := 0, cells := 0, slots := 0, locals := 0 } : Room) [.ref h] w z (rI (sumF f n) w z) := by
  refine xMet_of RX4 rfl (by decide +kernel) false (by decide +kernel) (Nat.le_of_ble_eq_true rfl) rfl ?_
  intro P hM hR
  have K : ∀ (k i : Nat), n - i < k → i ≤ n → P 4 [some (.ref h), some (.int (iI (sumF f i))), some (.int (iI i))] [] w (z, 0, 0) := by
    intro k
    induction k with
    | zero => intro i hk; omega
    | succ k ih =>
      intro i hk hi
      refine x_iload_n hM dX4_sum_4 rfl rfl ?_
      refine x_aload_n hM dX4_sum_5 rfl rfl ?_
      refine x_get hM wf_X4_13 wl_X4 (by first | assumption | exact row_o (by first | assumption | exact sr1 (by assumption) | exact sr2 (by assumption) | exact sr3 (by assumption) | exact sr4 (by assumption) | exact sr5 (by assumption) | exact rg1 (by assumption) | exact rg2 (by assumption) | exact rg3 (by assumption))) rfl dX4_sum_6 ?_
      refine x_alenI hM (by first | assumption | exact row_c (by first | assumption | exact sr1 (by assumption) | exact sr2 (by assumption) | exact sr3 (by assumption) | exact sr4 (by assumption) | exact sr5 (by assumption) | exact rg1 (by assumption) | exact rg2 (by assumption) | exact rg3 (by assumption))) dX4_sum_9 ?_
      refine x_icmp_ge (tgt := 28) hM dX4_sum_10 (by decide) (by omega) (by omega) (fun c_10 => ?_) (fun c_10 => ?_)
      · refine x_iload_n hM dX4_sum_28 rfl rfl ?_
        refine hR.i dX4_sum_29 (Nat.zero_le _) (Nat.zero_le _) ?_
        exact p_rI (by rw [show i = n by omega])
      · refine x_iload_n hM dX4_sum_13 rfl rfl ?_
        refine x_aload_n hM dX4_sum_14 rfl rfl ?_
        refine x_get hM wf_X4_13 wl_X4 (by first | assumption | exact row_o (by first | assumption | exact sr1 (by assumption) | exact sr2 (by assumption) | exact sr3 (by assumption) | exact sr4 (by assumption) | exact sr5 (by assumption) | exact rg1 (by assumption) | exact rg2 (by assumption) | exact rg3 (by assumption))) rfl dX4_sum_15 ?_
        refine x_iload_n hM dX4_sum_18 rfl rfl ?_
        refine x_iald hM (by first | assumption | exact row_c (by first | assumption | exact sr1 (by assumption) | exact sr2 (by assumption) | exact sr3 (by assumption) | exact sr4 (by assumption) | exact sr5 (by assumption) | exact rg1 (by assumption) | exact rg2 (by assumption) | exact rg3 (by assumption))) (by omega) dX4_sum_19 ?_
        refine x_iadd hM dX4_sum_20 ?_
        refine x_istore_n hM dX4_sum_21 rfl rfl (Nat.le_of_ble_eq_true rfl) rfl ?_
        refine x_iinc hM dX4_sum_22 rfl rfl rfl ?_
        refine x_goto (tgt := 4) hM dX4_sum_25 (by decide) ?_
        exact ih (i + 1) (by omega) (by omega)
  refine x_iconst hM dX4_sum_0 ?_
  refine x_istore_n hM dX4_sum_1 rfl rfl (Nat.le_of_ble_eq_true rfl) rfl ?_
  refine x_iconst hM dX4_sum_2 ?_
  refine x_istore_n hM dX4_sum_3 rfl rfl (Nat.le_of_ble_eq_true rfl) rfl ?_
  exact K (n + 1) 0 (by omega) (by omega)
theorem m_X4_copy {l : Launch} {G : xG} {w : Wd} {z h h2 n : Nat} {f g : Int → Int} (h1 : rowA G w h n f) (h3 : rowA G w h2 n g) (hn : n ≤ 2147483647) : xMet l G yX4_copy cX4_copy 2 none ({ frames := 1, cells := 0, slots := 0, locals := 35 } : Room) [.ref h, .ref h2] w z (qV z fun w1 => w1 = wS w (h + 1) (aI G n (fC g f n))) := by
  refine xMet_of RX4 rfl (by decide +kernel) false (by decide +kernel) (Nat.le_of_ble_eq_true rfl) rfl ?_
  intro P hM hR
  refine x_aload_n hM dX4_copy_0 rfl rfl ?_
  refine x_get hM wf_X4_13 wl_X4 (by first | assumption | exact row_o (by first | assumption | exact sr1 (by assumption) | exact sr2 (by assumption) | exact sr3 (by assumption) | exact sr4 (by assumption) | exact sr5 (by assumption) | exact rg1 (by assumption) | exact rg2 (by assumption) | exact rg3 (by assumption))) rfl dX4_copy_1 ?_
  refine x_iconst hM dX4_copy_4 ?_
  refine x_aload_n hM dX4_copy_5 rfl rfl ?_
  refine x_get hM wf_X4_13 wl_X4 (by first | assumption | exact row_o (by first | assumption | exact sr1 (by assumption) | exact sr2 (by assumption) | exact sr3 (by assumption) | exact sr4 (by assumption) | exact sr5 (by assumption) | exact rg1 (by assumption) | exact rg2 (by assumption) | exact rg3 (by assumption))) rfl dX4_copy_6 ?_
  refine x_iconst hM dX4_copy_9 ?_
  refine x_aload_n hM dX4_copy_10 rfl rfl ?_
  refine x_get hM wf_X4_13 wl_X4 (by first | assumption | exact row_o (by first | assumption | exact sr1 (by assumption) | exact sr2 (by assumption) | exact sr3 (by assumption) | exact sr4 (by assumption) | exact sr5 (by assumption) | exact rg1 (by assumption) | exact rg2 (by assumption) | exact rg3 (by assumption))) rfl dX4_copy_11 ?_
  refine x_alenI hM (by first | assumption | exact row_c (by first | assumption | exact sr1 (by assumption) | exact sr2 (by assumption) | exact sr3 (by assumption) | exact sr4 (by assumption) | exact sr5 (by assumption) | exact rg1 (by assumption) | exact rg2 (by assumption) | exact rg3 (by assumption))) dX4_copy_14 ?_
  refine x_aload_n hM dX4_copy_15 rfl rfl ?_
  refine x_get hM wf_X4_13 wl_X4 (by first | assumption | exact row_o (by first | assumption | exact sr1 (by assumption) | exact sr2 (by assumption) | exact sr3 (by assumption) | exact sr4 (by assumption) | exact sr5 (by assumption) | exact rg1 (by assumption) | exact rg2 (by assumption) | exact rg3 (by assumption))) rfl dX4_copy_16 ?_
  refine x_alenI hM (by first | assumption | exact row_c (by first | assumption | exact sr1 (by assumption) | exact sr2 (by assumption) | exact sr3 (by assumption) | exact sr4 (by assumption) | exact sr5 (by assumption) | exact rg1 (by assumption) | exact rg2 (by assumption) | exact rg3 (by assumption))) dX4_copy_19 ?_
  refine x_min hM wm_X4_19 (by omega) (by omega) (Nat.le_of_ble_eq_true rfl) (Nat.le_of_ble_eq_true rfl) ⟨Nat.le_of_ble_eq_true rfl, Nat.le_of_ble_eq_true rfl⟩ dX4_copy_20 ?_
  rw [if_neg (Int.lt_irrefl _)]
  refine x_copyI hM wa_X4_22 h3.2 h1.2 (by omega) (by omega) (by omega) (Nat.le_of_ble_eq_true rfl) (by decide +kernel) dX4_copy_23 ?_
  refine hR.v dX4_copy_26 (Nat.zero_le _) (Nat.zero_le _) ?_
  exact p_qV rfl
theorem m_X4_init {l : Launch} {G : xG} {w : Wd} {h N : Nat} {x : Int} (h1 : w h = some (.inr (4, [.null]))) (hx : 0 ≤ x) (hxN : x.toNat = N) (hN : N ≤ 100000) : xMet l G yX4_init cX4_init 2 none ({ frames := 1, cells := 1, slots := N, locals := 21 } : Room) [.ref h, .int (iI x)] w (h + 1) (aV fun w1 z1 => z1 = h + 2 ∧ rowA G w1 h N (fun _ => 0) ∧ Fr h (h + 2) w w1) := by
  refine xMet_of RX4 rfl (by decide +kernel) true (by decide +kernel) (Nat.le_of_ble_eq_true rfl) rfl ?_
  intro P hM hR
  refine x_aload_n hM dX4_init_0 rfl rfl ?_
  refine x_objInit hM wo_X4_1 (Nat.le_of_ble_eq_true rfl) (Nat.le_of_ble_eq_true rfl) dX4_init_1 ?_
  refine x_aload_n hM dX4_init_4 rfl rfl ?_
  refine x_iload_n hM dX4_init_5 rfl rfl ?_
  refine x_iconst hM dX4_init_6 ?_
  refine x_max hM wm_X4_7 (by omega) (by omega) (Nat.le_of_ble_eq_true rfl) (Nat.le_of_ble_eq_true rfl) ⟨Nat.le_of_ble_eq_true rfl, Nat.le_of_ble_eq_true rfl⟩ dX4_init_7 ?_
  rw [show (if x < 0 then (0 : Int) else x) = x by rw [if_neg (by omega)]]
  refine x_newI  hM wy_int hx hxN hN (Nat.le_refl _) (Nat.le_of_eq (Nat.zero_add _)) dX4_init_10 ?_
  refine x_putF hM wl_X4 ((wS_ne (by omega)).trans h1) wp_X4_13 rfl rfl (Nat.le_of_ble_eq_true rfl) rfl dX4_init_12 ?_
  refine hR.v dX4_init_15 (Nat.le_refl _) (Nat.le_of_eq (Nat.zero_add _)) ?_
  refine ⟨rfl, rfl, ⟨wS_eq, (wS_ne (by omega)).trans wS_eq⟩, (Fr.wS (by omega) (by omega)).tr (Fr.wS (by omega) (by omega))⟩
