/-! History: seven registers, the states before the latest changes first -/
def hisG (G : xG) (w : Wd) (t : Nat) (n : Int) (p : Nat → Nat) (g : Nat → St) : Prop :=
  w t = some (.inr (1, [.ref (t + 1), .int (iI n)])) ∧ (∃ f : Int → Option Nat, w (t + 1) = some (aQ G 7 f) ∧ ∀ i : Nat, i < 7 → f i = some (t + 2 + 22 * p i)) ∧ (∀ i, i < 7 → p i < 7) ∧ (∀ i j, i < 7 → j < 7 → p i = p j → i = j) ∧ ∀ i, i < 7 → regA G w (t + 2 + 22 * p i) (g i)
theorem his_o {G : xG} {w : Wd} {t : Nat} {n : Int} {p : Nat → Nat} {g : Nat → St} (h : hisG G w t n p g) : w t = some (.inr (1, [.ref (t + 1), .int (iI n)])) := h.1
theorem hisG.kp {G : xG} {w w1 : Wd} {t lo hi : Nat} {n : Int} {p : Nat → Nat} {g : Nat → St} (h : hisG G w t n p g) (k : Fr lo hi w w1) (a : t + 156 ≤ lo ∨ hi ≤ t) : hisG G w1 t n p g := by
  obtain ⟨h1, ⟨f, h2, h3⟩, h4, h5, h6⟩ := h
  refine ⟨(k _ (by omega)).trans h1, ⟨f, (k _ (by omega)).trans h2, h3⟩, h4, h5, fun i hi => (h6 i hi).kp k ?_⟩
  have := h4 i hi
  omega
def hisA (G : xG) (w : Wd) (t : Nat) (hs : List St) : Prop := hs.length ≤ 6 ∧ ∃ (p : Nat → Nat) (g : Nat → St), hisG G w t hs.length p g ∧ ∀ (i : Nat) (h : i < hs.length), g i = hs[i]
def hisP (G : xG) (w : Wd) (t : Nat) (hs : List St) (s : St) : Prop := hs.length ≤ 6 ∧ ∃ (p : Nat → Nat) (g : Nat → St), hisG G w t hs.length p g ∧ (∀ (i : Nat) (h : i < hs.length), g i = hs[i]) ∧ g hs.length = s
theorem hisP.a {G : xG} {w : Wd} {t : Nat} {hs : List St} {s : St} (h : hisP G w t hs s) : hisA G w t hs := by
  obtain ⟨h1, p, g, h2, h3, -⟩ := h
  exact ⟨h1, p, g, h2, h3⟩
theorem hisA.kp {G : xG} {w w1 : Wd} {t lo hi : Nat} {hs : List St} (h : hisA G w t hs) (k : Fr lo hi w w1) (a : t + 156 ≤ lo ∨ hi ≤ t) : hisA G w1 t hs := by
  obtain ⟨h1, p, g, h2, h3⟩ := h
  exact ⟨h1, p, g, h2.kp k a, h3⟩
theorem hisP.kp {G : xG} {w w1 : Wd} {t lo hi : Nat} {hs : List St} {s : St} (h : hisP G w t hs s) (k : Fr lo hi w w1) (a : t + 156 ≤ lo ∨ hi ≤ t) : hisP G w1 t hs s := by
  obtain ⟨h1, p, g, h2, h3, h4⟩ := h
  exact ⟨h1, p, g, h2.kp k a, h3, h4⟩
def pushH (hs : List St) (s : St) : List St := if hs.length < 6 then hs ++ [s] else hs.tail ++ [s]
def rotA {α : Type} (p : Nat → α) (i : Nat) : α := if i < 6 then p (i + 1) else p 0
theorem rotA_t {α : Type} {p : Nat → α} {i : Nat} (h : i < 6) : rotA p i = p (i + 1) := if_pos h
theorem rotA_f {α : Type} {p : Nat → α} {i : Nat} (h : ¬ i < 6) : rotA p i = p 0 := if_neg h
def updA {α : Type} (g : Nat → α) (n : Nat) (v : α) (i : Nat) : α := if i = n then v else g i
theorem updA_t {α : Type} {g : Nat → α} {n : Nat} {v : α} : updA g n v n = v := if_pos rfl
theorem updA_f {α : Type} {g : Nat → α} {n i : Nat} {v : α} (h : i ≠ n) : updA g n v i = g i := if_neg h
theorem va_some {a : Nat} : va_rf (some a) = .ref a := rfl
theorem m_X1_prepare {l : Launch} {G : xG} {w : Wd} {z t r : Nat} {hs : List St} {s : St} (h1 : hisA G w t hs) (h2 : regA G w r s) (hd : r + 22 ≤ t ∨ t + 156 ≤ r) : xMet l G yX1_prepare cX1_prepare 3 none ({ frames := 4, cells := 0, slots := 0, locals := 98 } : Room) [.ref t, .ref r] w z (qV z fun w1 => hisP G w1 t hs s ∧ Fr t (t + 156) w w1) := by
  obtain ⟨hl, p, g, hG, hg⟩ := h1
  obtain ⟨ho, ⟨f, hf, hfv⟩, hp, hi, hr⟩ := id hG
  have hpn := hp hs.length (by omega)
  have hrn := hr hs.length (by omega)
  refine xMet_of RX1 rfl (by decide +kernel) false (by decide +kernel) (Nat.le_of_ble_eq_true rfl) rfl ?_
  intro P hM hR
  refine x_aload_n hM dX1_prepare_0 rfl rfl ?_
  refine x_get hM wf_X1_18 wl_X1 (by first | assumption | exact his_o (by assumption)) rfl dX1_prepare_1 ?_
  refine x_if_lt (tgt := 31) hM dX1_prepare_4 (by decide) (by omega) (fun c_4 => ?_) (fun c_4 => ?_)
  · exfalso; omega
  · refine x_aload_n hM dX1_prepare_7 rfl rfl ?_
    refine x_get hM wf_X1_18 wl_X1 (by first | assumption | exact his_o (by assumption)) rfl dX1_prepare_8 ?_
    refine x_aload_n hM dX1_prepare_11 rfl rfl ?_
    refine x_get hM wf_X1_11 wl_X1 (by first | assumption | exact his_o (by assumption)) rfl dX1_prepare_12 ?_
    refine x_alenQ hM hf dX1_prepare_15 ?_
    refine x_icmp_ge (tgt := 31) hM dX1_prepare_16 (by decide) (by omega) (by omega) (fun c_16 => ?_) (fun c_16 => ?_)
    · exfalso; omega
    · refine x_aload_n hM dX1_prepare_19 rfl rfl ?_
      refine x_get hM wf_X1_11 wl_X1 (by first | assumption | exact his_o (by assumption)) rfl dX1_prepare_20 ?_
      refine x_aload_n hM dX1_prepare_23 rfl rfl ?_
      refine x_get hM wf_X1_18 wl_X1 (by first | assumption | exact his_o (by assumption)) rfl dX1_prepare_24 ?_
      refine x_aald hM hf (by omega) dX1_prepare_27 ?_
      rw [hfv _ (by omega), va_some]
      refine x_goto (tgt := 32) hM dX1_prepare_28 (by decide) ?_
      refine x_astore_n hM dX1_prepare_32 rfl rfl (Nat.le_of_ble_eq_true rfl) rfl ?_
      refine x_aload_n hM dX1_prepare_33 rfl rfl ?_
      refine x_ifnull hM dX1_prepare_34 ?_
      refine x_aload_n hM dX1_prepare_37 rfl rfl ?_
      refine x_aload_n hM dX1_prepare_38 rfl rfl ?_
      refine x_callV hM wv_X1_22 (m_X3_copy hrn h2 (by omega)) ⟨Nat.le_of_ble_eq_true rfl, Nat.le_of_ble_eq_true rfl⟩ (reg_a hrn) rfl rfl rfl rfl (Nat.le_of_ble_eq_true rfl) ⟨Nat.le_of_ble_eq_true rfl, Nat.le_of_ble_eq_true rfl⟩ dX1_prepare_39 (k_qV fun w_39 q_39 => ?_)
      obtain ⟨qa, qf⟩ := q_39
      refine hR.v dX1_prepare_42 (Nat.zero_le _) (Nat.zero_le _) ?_
      refine p_qV ⟨⟨hl, p, updA g hs.length s, ⟨(qf t (by omega)).trans ho, ⟨f, (qf _ (by omega)).trans hf, hfv⟩, hp, hi, fun i hi7 => ?_⟩, fun i h => by rw [updA_f (by omega)]; exact hg i h, updA_t⟩, qf.mo (by omega) (by omega)⟩
      by_cases e : i = hs.length
      · subst e; rw [updA_t]; exact qa
      · rw [updA_f e]
        have h9 : p i ≠ p hs.length := fun q => e (hi i hs.length hi7 (by omega) q)
        exact (hr i hi7).kp qf (by omega)
theorem m_X1_dropOldest {l : Launch} {G : xG} {w : Wd} {z t : Nat} {n : Int} {p : Nat → Nat} {g : Nat → St} (h1 : hisG G w t n p g) : xMet l G yX1_dropOldest cX1_dropOldest 3 none ({ frames := 0, cells := 0, slots := 0, locals := 0 } : Room) [.ref t] w z (qV z fun w1 => hisG G w1 t n (rotA p) (rotA g) ∧ Fr t (t + 156) w w1) := by
  obtain ⟨ho, ⟨f, hf, hfv⟩, hp, hi, hr⟩ := id h1
  refine xMet_of RX1 rfl (by decide +kernel) false (by decide +kernel) (Nat.le_of_ble_eq_true rfl) rfl ?_
  intro P hM hR
  have hr' : ∀ (fi : Int → Option Nat) (i : Nat), i < 7 → regA G (wS w (t + 1) (aQ G 7 fi)) (t + 2 + 22 * p i) (g i) := fun fi i h => (hr i h).kp wF (by omega)
  have K : ∀ (k i : Nat) (fi : Int → Option Nat), 7 - i < k → 1 ≤ i → i ≤ 7 → (∀ j : Nat, j < 7 → fi j = if j + 1 < i then f (j + 1 : Nat) else f j) → P 9 [some (.ref t), some (.ref (t + 2 + 22 * p 0)), some (.int (iI i))] [] (wS w (t + 1) (aQ G 7 fi)) (z, 0, 0) := by
    intro k
    induction k with
    | zero => intro i fi hk; omega
    | succ k ih =>
      intro i fi hk h1i hi7 hinv
      have hc : wS w (t + 1) (aQ G 7 fi) (t + 1) = some (aQ G 7 fi) := wS_eq
      have ho2 : wS w (t + 1) (aQ G 7 fi) t = some (.inr (1, [.ref (t + 1), .int (iI n)])) := (wS_ne (by omega)).trans ho
      by_cases hlt : i < 7
      · have e1 : fi i = some (t + 2 + 22 * p i) := by rw [hinv i hlt, if_neg (by omega), hfv i hlt]
        refine x_iload_n hM dX1_dropOldest_9 rfl rfl ?_
        refine x_aload_n hM dX1_dropOldest_10 rfl rfl ?_
        refine x_get hM wf_X1_11 wl_X1 (by first | assumption | exact his_o (by assumption)) rfl dX1_dropOldest_11 ?_
        refine x_alenQ hM hc dX1_dropOldest_14 ?_
        refine x_icmp_ge (tgt := 38) hM dX1_dropOldest_15 (by decide) (by omega) (by omega) (fun c_15 => ?_) (fun c_15 => ?_)
        · exfalso; omega
        · refine x_aload_n hM dX1_dropOldest_18 rfl rfl ?_
          refine x_get hM wf_X1_11 wl_X1 (by first | assumption | exact his_o (by assumption)) rfl dX1_dropOldest_19 ?_
          refine x_iload_n hM dX1_dropOldest_22 rfl rfl ?_
          refine x_iconst hM dX1_dropOldest_23 ?_
          refine x_isub hM dX1_dropOldest_24 ?_
          refine x_aload_n hM dX1_dropOldest_25 rfl rfl ?_
          refine x_get hM wf_X1_11 wl_X1 (by first | assumption | exact his_o (by assumption)) rfl dX1_dropOldest_26 ?_
          refine x_iload_n hM dX1_dropOldest_29 rfl rfl ?_
          refine x_aald hM hc (by omega) dX1_dropOldest_30 ?_
          rw [e1, va_some]
          refine x_aast hM hc (reg_a (hr' fi i hlt)) (by omega) dX1_dropOldest_31 ?_
          refine x_iinc hM dX1_dropOldest_32 rfl rfl rfl ?_
          refine x_goto (tgt := 9) hM dX1_dropOldest_35 (by decide) ?_
          rw [wS_2]
          refine ih (i + 1) _ (by omega) (by omega) (by omega) (fun j hj => ?_)
          by_cases e : (j : Int) = (i : Int) - 1
          · rw [e, fU_eq, if_pos (by omega), show j + 1 = i by omega, hfv i hlt]
          · rw [fU_ne e, hinv j hj]
            by_cases h9 : j + 1 < i
            · rw [if_pos h9, if_pos (by omega)]
            · rw [if_neg h9, if_neg (by omega)]
      · have h0 := hr' fi 0 (by omega)
        refine x_iload_n hM dX1_dropOldest_9 rfl rfl ?_
        refine x_aload_n hM dX1_dropOldest_10 rfl rfl ?_
        refine x_get hM wf_X1_11 wl_X1 (by first | assumption | exact his_o (by assumption)) rfl dX1_dropOldest_11 ?_
        refine x_alenQ hM hc dX1_dropOldest_14 ?_
        refine x_icmp_ge (tgt := 38) hM dX1_dropOldest_15 (by decide) (by omega) (by omega) (fun c_15 => ?_) (fun c_15 => ?_)
        · refine x_aload_n hM dX1_dropOldest_38 rfl rfl ?_
          refine x_get hM wf_X1_11 wl_X1 (by first | assumption | exact his_o (by assumption)) rfl dX1_dropOldest_39 ?_
          refine x_bipush hM dX1_dropOldest_42 rfl ?_
          refine x_aload_n hM dX1_dropOldest_44 rfl rfl ?_
          refine x_aast hM hc (reg_a h0) (by omega) dX1_dropOldest_45 ?_
          refine hR.v dX1_dropOldest_46 (Nat.zero_le _) (Nat.zero_le _) ?_
          rw [wS_2]
          refine p_qV ⟨⟨(wS_ne (by omega)).trans ho, ⟨_, wS_eq, fun j hj => ?_⟩, fun j hj => ?_, fun j1 j2 a b e => ?_, fun j hj => ?_⟩, Fr.wS (by omega) (by omega)⟩
          · by_cases e : j < 6
            · rw [fU_ne (by omega), hinv j hj, if_pos (by omega), hfv (j + 1) (by omega), rotA_t e]
            · rw [show (j : Int) = 6 by omega, fU_eq, rotA_f e]
          · by_cases e : j < 6
            · rw [rotA_t e]; exact hp _ (by omega)
            · rw [rotA_f e]; exact hp _ (by omega)
          · by_cases e1 : j1 < 6 <;> by_cases e2 : j2 < 6
            · rw [rotA_t e1, rotA_t e2] at e; have := hi _ _ (by omega) (by omega) e; omega
            · rw [rotA_t e1, rotA_f e2] at e; have := hi _ _ (by omega) (by omega) e; omega
            · rw [rotA_f e1, rotA_t e2] at e; have := hi _ _ (by omega) (by omega) e; omega
            · omega
          · by_cases e : j < 6
            · rw [rotA_t e, rotA_t e]; exact (hr (j + 1) (by omega)).kp wF (by have := hp (j + 1) (by omega); omega)
            · rw [rotA_f e, rotA_f e]; exact (hr 0 (by omega)).kp wF (by have := hp 0 (by omega); omega)
        · exfalso; omega
  refine x_aload_n hM dX1_dropOldest_0 rfl rfl ?_
  refine x_get hM wf_X1_11 wl_X1 (by first | assumption | exact his_o (by assumption)) rfl dX1_dropOldest_1 ?_
  refine x_iconst hM dX1_dropOldest_4 ?_
  refine x_aald hM hf (by omega) dX1_dropOldest_5 ?_
  rw [show f 0 = some (t + 2 + 22 * p 0) from hfv 0 (by omega), va_some]
  refine x_astore_n hM dX1_dropOldest_6 rfl rfl (Nat.le_of_ble_eq_true rfl) rfl ?_
  refine x_iconst hM dX1_dropOldest_7 ?_
  refine x_istore_n hM dX1_dropOldest_8 rfl rfl (Nat.le_of_ble_eq_true rfl) rfl ?_
  have q := K 8 1 f (by omega) (by omega) (by omega) (fun j hj => by rw [if_neg (by omega)])
  rw [wS_same hf] at q
  exact q
theorem his_push1 {G : xG} {w : Wd} {t : Nat} {hs : List St} {s : St} {p : Nat → Nat} {g : Nat → St} (hG : hisG G w t (hs.length + 1 : Nat) p g) (hg : ∀ (i : Nat) (h : i < hs.length), g i = hs[i]) (hgs : g hs.length = s) (hl : hs.length < 6) : hisA G w t (pushH hs s) := by
  unfold pushH
  rw [if_pos hl]
  have e9 : (hs ++ [s]).length = hs.length + 1 := by simp
  refine ⟨by omega, p, g, by rw [e9]; exact hG, fun i hi => ?_⟩
  by_cases e : i < hs.length
  · rw [List.getElem_append_left e]; exact hg i e
  · have hie : i = hs.length := by omega
    subst hie
    rw [List.getElem_append_right (Nat.le_refl _)]
    simpa using hgs
theorem his_push2 {G : xG} {w : Wd} {t : Nat} {hs : List St} {s : St} {p : Nat → Nat} {g : Nat → St} (hG : hisG G w t hs.length (rotA p) (rotA g)) (hg : ∀ (i : Nat) (h : i < hs.length), g i = hs[i]) (hgs : g hs.length = s) (hl : hs.length = 6) : hisA G w t (pushH hs s) := by
  unfold pushH
  rw [if_neg (by omega)]
  have e9 : (hs.tail ++ [s]).length = hs.length := by simp; omega
  refine ⟨by omega, _, _, by rw [e9]; exact hG, fun i hi => ?_⟩
  have hi6 : i < 6 := by omega
  rw [rotA_t hi6]
  by_cases e : i < 5
  · rw [List.getElem_append_left (by simp; omega), List.getElem_tail]
    exact hg (i + 1) (by omega)
  · have hie : i = 5 := by omega
    subst hie
    rw [List.getElem_append_right (by simp; omega)]
    simp only [List.length_tail, hl, Nat.sub_self, List.getElem_cons_zero]
    rw [← hgs, hl]
theorem m_X1_finish {l : Launch} {G : xG} {w : Wd} {z t : Nat} {hs : List St} {s : St} {a : Int} (h1 : hisP G w t hs s) (ha : iR a) : xMet l G yX1_finish cX1_finish 2 (some .int) ({ frames := 1, cells := 0, slots := 0, locals := 22 } : Room) [.ref t, .int (iI a)] w z (qI z fun x w1 => x = a ∧ Fr t (t + 156) w w1 ∧ (a < 0 → hisA G w1 t hs) ∧ (0 ≤ a → hisA G w1 t (pushH hs s))) := by
  have h0 := h1.a
  obtain ⟨hl, p, g, hG, hg, hgs⟩ := h1
  refine xMet_of RX1 rfl (by decide +kernel) false (by decide +kernel) (Nat.le_of_ble_eq_true rfl) rfl ?_
  intro P hM hR
  refine x_iload_n hM dX1_finish_0 rfl rfl ?_
  refine x_if_ge (tgt := 6) hM dX1_finish_1 (by decide) (by omega) (fun c_1 => ?_) (fun c_1 => ?_)
  · refine x_aload_n hM dX1_finish_6 rfl rfl ?_
    refine x_get hM wf_X1_18 wl_X1 (by first | assumption | exact his_o (by assumption)) rfl dX1_finish_7 ?_
    refine x_bipush hM dX1_finish_10 rfl ?_
    refine x_icmp_ge (tgt := 28) hM dX1_finish_12 (by decide) (by omega) (by omega) (fun c_12 => ?_) (fun c_12 => ?_)
    · refine x_aload_n hM dX1_finish_28 rfl rfl ?_
      refine x_callV hM wv_X1_26 (m_X1_dropOldest hG) ⟨Nat.le_of_ble_eq_true rfl, Nat.le_of_ble_eq_true rfl⟩ (his_o hG) rfl rfl rfl rfl (Nat.le_of_ble_eq_true rfl) ⟨Nat.le_of_ble_eq_true rfl, Nat.le_of_ble_eq_true rfl⟩ dX1_finish_29 (k_qV fun w_29 q_29 => ?_)
      obtain ⟨qa, qf⟩ := q_29
      have fin := his_push2 qa hg hgs (by omega)
      have fin2 := qf
      refine x_iload_n hM dX1_finish_32 rfl rfl ?_
      refine hR.i dX1_finish_33 (Nat.zero_le _) (Nat.zero_le _) ?_
      exact p_qI ⟨rfl, fin2, fun q => by omega, fun _ => fin⟩
    · refine x_aload_n hM dX1_finish_15 rfl rfl ?_
      refine x_dup hM dX1_finish_16 rfl ?_
      refine x_get hM wf_X1_18 wl_X1 (by first | assumption | exact his_o (by assumption)) rfl dX1_finish_17 ?_
      refine x_iconst hM dX1_finish_20 ?_
      refine x_iadd hM dX1_finish_21 ?_
      refine x_put hM wf_X1_18 wl_X1 (by first | assumption | exact his_o (by assumption)) wq_X1_18 rfl rfl (Nat.le_of_ble_eq_true rfl) rfl dX1_finish_22 ?_
      obtain ⟨hh1, ⟨f, hh2, hh3⟩, hh4, hh5, hh6⟩ := id hG
      have fin := his_push1 (G := G) (w := wS w t (.inr (1, [.ref (t + 1), .int (iI (hs.length + 1))]))) (t := t) (hs := hs) (s := s) (p := p) (g := g) ⟨wS_eq, ⟨f, (wS_ne (by omega)).trans hh2, hh3⟩, hh4, hh5, fun i hi => (hh6 i hi).kp wF (by omega)⟩ hg hgs (by omega)
      have fin2 : Fr t (t + 156) w (wS w t (.inr (1, [.ref (t + 1), .int (iI (hs.length + 1))]))) := Fr.wS (by omega) (by omega)
      refine x_goto (tgt := 32) hM dX1_finish_25 (by decide) ?_
      refine x_iload_n hM dX1_finish_32 rfl rfl ?_
      refine hR.i dX1_finish_33 (Nat.zero_le _) (Nat.zero_le _) ?_
      exact p_qI ⟨rfl, fin2, fun q => by omega, fun _ => fin⟩
  · refine x_iload_n hM dX1_finish_4 rfl rfl ?_
    refine hR.i dX1_finish_5 (Nat.zero_le _) (Nat.zero_le _) ?_
    exact p_qI ⟨rfl, Fr.rf, fun _ => h0, fun q => by omega⟩
