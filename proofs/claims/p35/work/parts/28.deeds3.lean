/-! RangeDeeds: the public changes -/
theorem his_a {G : xG} {w : Wd} {t : Nat} {hs : List St} (h : hisA G w t hs) : w t = some (.inr (1, [.ref (t + 1), .int (iI hs.length)])) := by
  obtain ⟨-, p, g, h2, -⟩ := h
  exact h2.1
def hisN (hs : List St) (s : St) (y : Int) : List St := if y < 0 then hs else pushH hs s
abbrev muP (G : xG) (w : Wd) (z x : Nat) (hs : List St) (s : St) (r : Int × St) : xPo := qI z fun y w1 => y = r.1 ∧ coA G w1 x r.2 ∧ hisA G w1 (x + 56) (hisN hs s r.1) ∧ Fr (x + 1) (x + 212) w w1
theorem p_mu {G : xG} {w w1 w2 w3 : Wd} {z x : Nat} {hs : List St} {s : St} {r : Int × St} {y : Int} (e : y = r.1) (hc : coA G w2 x r.2) (f1 : Fr (x + 56) (x + 56 + 156) w w1) (f2 : Fr (x + 1) (x + 56) w1 w2) (f3 : Fr (x + 56) (x + 56 + 156) w2 w3) (n1 : r.1 < 0 → hisA G w3 (x + 56) hs) (n2 : 0 ≤ r.1 → hisA G w3 (x + 56) (pushH hs s)) : muP G w z x hs s r (some (.int (iI y))) w3 z := by
  subst e
  refine p_qI ⟨rfl, hc.kp f3 (by omega), ?_, ((f1.mo (by omega) (by omega)).tr (f2.mo (by omega) (by omega))).tr (f3.mo (by omega) (by omega))⟩
  unfold hisN
  split
  · exact n1 (by omega)
  · exact n2 (by omega)

theorem m_X6_set {l : Launch} {G : xG} {w : Wd} {z x : Nat} {hs : List St} {s : St} {i v : Int} (hc : coA G w x s) (hh : hisA G w (x + 56) hs) (hi_ : iR i) (hv_ : iR v) (hb : iR (setF s i v).1) : xMet l G yX6_set cX6_set 3 (some .int) ({ frames := 5, cells := 0, slots := 0, locals := 120 } : Room) [.ref x, .int (iI i), .int (iI v)] w z (muP G w z x hs s (setF s i v)) := by
  obtain ⟨hd, hr, -⟩ := id hc
  refine xMet_of RX6 rfl (by decide +kernel) false (by decide +kernel) (Nat.le_of_ble_eq_true rfl) rfl ?_
  intro P hM hR
  refine x_aload_n hM dX6_set_0 rfl rfl ?_
  refine x_get hM wf_X6_29 wl_X6 (by first | assumption | exact dd_o (by assumption)) rfl dX6_set_1 ?_
  refine x_aload_n hM dX6_set_4 rfl rfl ?_
  refine x_get hM wf_X6_12 wl_X6 (by first | assumption | exact dd_o (by assumption)) rfl dX6_set_5 ?_
  refine x_callV hM wv_X6_44 (m_X1_prepare hh hr (by omega)) ⟨Nat.le_of_ble_eq_true rfl, Nat.le_of_ble_eq_true rfl⟩ (his_a hh) rfl rfl rfl rfl (Nat.le_of_ble_eq_true rfl) ⟨Nat.le_of_ble_eq_true rfl, Nat.le_of_ble_eq_true rfl⟩ dX6_set_8 (k_qV fun w_8 q_8 => ?_)
  obtain ⟨qp, qf⟩ := q_8
  have hc1 := hc.kp qf (by omega)
  refine x_aload_n hM dX6_set_11 rfl rfl ?_
  refine x_get hM wf_X6_29 wl_X6 hc1.1 rfl dX6_set_12 ?_
  refine x_aload_n hM dX6_set_15 rfl rfl ?_
  refine x_iload_n hM dX6_set_16 rfl rfl ?_
  refine x_iload_n hM dX6_set_17 rfl rfl ?_
  refine x_callV hM wv_X6_48 (m_X6_changeSetting hc1 (by omega) (by omega)) ⟨Nat.le_of_ble_eq_true rfl, Nat.le_of_ble_eq_true rfl⟩ hc1.1 rfl rfl rfl rfl (Nat.le_of_ble_eq_true rfl) ⟨Nat.le_of_ble_eq_true rfl, Nat.le_of_ble_eq_true rfl⟩ dX6_set_18 (k_qI fun x_18 w_18 q_18 => ?_)
  obtain ⟨rfl, qc, qg⟩ := q_18
  have hp1 := qp.kp qg (by omega)
  refine x_callV hM wv_X6_52 (m_X1_finish hp1 hb) ⟨Nat.le_of_ble_eq_true rfl, Nat.le_of_ble_eq_true rfl⟩ (his_a hp1.a) rfl rfl rfl rfl (Nat.le_of_ble_eq_true rfl) ⟨Nat.le_of_ble_eq_true rfl, Nat.le_of_ble_eq_true rfl⟩ dX6_set_21 (k_qI fun x_21 w_21 q_21 => ?_)
  refine hR.i dX6_set_24 (Nat.zero_le _) (Nat.zero_le _) ?_
  obtain ⟨e9, f9, n1, n2⟩ := q_21
  exact p_mu e9 qc qf qg f9 n1 n2
theorem m_X6_owner {l : Launch} {G : xG} {w : Wd} {z x : Nat} {hs : List St} {s : St} {m : Int} (hc : coA G w x s) (hh : hisA G w (x + 56) hs) (hm_ : iR m) (hb : iR (ownF s m).1) : xMet l G yX6_owner cX6_owner 2 (some .int) ({ frames := 5, cells := 0, slots := 0, locals := 120 } : Room) [.ref x, .int (iI m)] w z (muP G w z x hs s (ownF s m)) := by
  obtain ⟨hd, hr, -⟩ := id hc
  refine xMet_of RX6 rfl (by decide +kernel) false (by decide +kernel) (Nat.le_of_ble_eq_true rfl) rfl ?_
  intro P hM hR
  refine x_aload_n hM dX6_owner_0 rfl rfl ?_
  refine x_get hM wf_X6_29 wl_X6 (by first | assumption | exact dd_o (by assumption)) rfl dX6_owner_1 ?_
  refine x_aload_n hM dX6_owner_4 rfl rfl ?_
  refine x_get hM wf_X6_12 wl_X6 (by first | assumption | exact dd_o (by assumption)) rfl dX6_owner_5 ?_
  refine x_callV hM wv_X6_44 (m_X1_prepare hh hr (by omega)) ⟨Nat.le_of_ble_eq_true rfl, Nat.le_of_ble_eq_true rfl⟩ (his_a hh) rfl rfl rfl rfl (Nat.le_of_ble_eq_true rfl) ⟨Nat.le_of_ble_eq_true rfl, Nat.le_of_ble_eq_true rfl⟩ dX6_owner_8 (k_qV fun w_8 q_8 => ?_)
  obtain ⟨qp, qf⟩ := q_8
  have hc1 := hc.kp qf (by omega)
  refine x_aload_n hM dX6_owner_11 rfl rfl ?_
  refine x_get hM wf_X6_29 wl_X6 hc1.1 rfl dX6_owner_12 ?_
  refine x_aload_n hM dX6_owner_15 rfl rfl ?_
  refine x_iload_n hM dX6_owner_16 rfl rfl ?_
  refine x_callV hM wv_X6_56 (m_X6_addOwner hc1 (by omega)) ⟨Nat.le_of_ble_eq_true rfl, Nat.le_of_ble_eq_true rfl⟩ hc1.1 rfl rfl rfl rfl (Nat.le_of_ble_eq_true rfl) ⟨Nat.le_of_ble_eq_true rfl, Nat.le_of_ble_eq_true rfl⟩ dX6_owner_17 (k_qI fun x_17 w_17 q_17 => ?_)
  obtain ⟨rfl, qc, qg⟩ := q_17
  have hp1 := qp.kp qg (by omega)
  refine x_callV hM wv_X6_52 (m_X1_finish hp1 hb) ⟨Nat.le_of_ble_eq_true rfl, Nat.le_of_ble_eq_true rfl⟩ (his_a hp1.a) rfl rfl rfl rfl (Nat.le_of_ble_eq_true rfl) ⟨Nat.le_of_ble_eq_true rfl, Nat.le_of_ble_eq_true rfl⟩ dX6_owner_20 (k_qI fun x_20 w_20 q_20 => ?_)
  refine hR.i dX6_owner_23 (Nat.zero_le _) (Nat.zero_le _) ?_
  obtain ⟨e9, f9, n1, n2⟩ := q_20
  exact p_mu e9 qc qf qg f9 n1 n2
theorem m_X6_pay {l : Launch} {G : xG} {w : Wd} {z x : Nat} {hs : List St} {s : St} {o c : Int} (hc : coA G w x s) (hh : hisA G w (x + 56) hs) (ho_ : iR o) (hc_ : iR c) (hb : iR (payF s o c).1) : xMet l G yX6_pay cX6_pay 3 (some .int) ({ frames := 5, cells := 0, slots := 0, locals := 120 } : Room) [.ref x, .int (iI o), .int (iI c)] w z (muP G w z x hs s (payF s o c)) := by
  obtain ⟨hd, hr, -⟩ := id hc
  refine xMet_of RX6 rfl (by decide +kernel) false (by decide +kernel) (Nat.le_of_ble_eq_true rfl) rfl ?_
  intro P hM hR
  refine x_aload_n hM dX6_pay_0 rfl rfl ?_
  refine x_get hM wf_X6_29 wl_X6 (by first | assumption | exact dd_o (by assumption)) rfl dX6_pay_1 ?_
  refine x_aload_n hM dX6_pay_4 rfl rfl ?_
  refine x_get hM wf_X6_12 wl_X6 (by first | assumption | exact dd_o (by assumption)) rfl dX6_pay_5 ?_
  refine x_callV hM wv_X6_44 (m_X1_prepare hh hr (by omega)) ⟨Nat.le_of_ble_eq_true rfl, Nat.le_of_ble_eq_true rfl⟩ (his_a hh) rfl rfl rfl rfl (Nat.le_of_ble_eq_true rfl) ⟨Nat.le_of_ble_eq_true rfl, Nat.le_of_ble_eq_true rfl⟩ dX6_pay_8 (k_qV fun w_8 q_8 => ?_)
  obtain ⟨qp, qf⟩ := q_8
  have hc1 := hc.kp qf (by omega)
  refine x_aload_n hM dX6_pay_11 rfl rfl ?_
  refine x_get hM wf_X6_29 wl_X6 hc1.1 rfl dX6_pay_12 ?_
  refine x_aload_n hM dX6_pay_15 rfl rfl ?_
  refine x_iload_n hM dX6_pay_16 rfl rfl ?_
  refine x_iload_n hM dX6_pay_17 rfl rfl ?_
  refine x_callV hM wv_X6_59 (m_X6_payIn hc1 (by omega) (by omega)) ⟨Nat.le_of_ble_eq_true rfl, Nat.le_of_ble_eq_true rfl⟩ hc1.1 rfl rfl rfl rfl (Nat.le_of_ble_eq_true rfl) ⟨Nat.le_of_ble_eq_true rfl, Nat.le_of_ble_eq_true rfl⟩ dX6_pay_18 (k_qI fun x_18 w_18 q_18 => ?_)
  obtain ⟨rfl, qc, qg⟩ := q_18
  have hp1 := qp.kp qg (by omega)
  refine x_callV hM wv_X6_52 (m_X1_finish hp1 hb) ⟨Nat.le_of_ble_eq_true rfl, Nat.le_of_ble_eq_true rfl⟩ (his_a hp1.a) rfl rfl rfl rfl (Nat.le_of_ble_eq_true rfl) ⟨Nat.le_of_ble_eq_true rfl, Nat.le_of_ble_eq_true rfl⟩ dX6_pay_21 (k_qI fun x_21 w_21 q_21 => ?_)
  refine hR.i dX6_pay_24 (Nat.zero_le _) (Nat.zero_le _) ?_
  obtain ⟨e9, f9, n1, n2⟩ := q_21
  exact p_mu e9 qc qf qg f9 n1 n2
theorem m_X6_give {l : Launch} {G : xG} {w : Wd} {z x : Nat} {hs : List St} {s : St} {o f n : Int} (hc : coA G w x s) (hh : hisA G w (x + 56) hs) (ho_ : iR o) (hf_ : iR f) (hn_ : iR n) (hb : iR (gvF s o f n).1) : xMet l G yX6_give cX6_give 4 (some .int) ({ frames := 5, cells := 0, slots := 0, locals := 120 } : Room) [.ref x, .int (iI o), .int (iI f), .int (iI n)] w z (muP G w z x hs s (gvF s o f n)) := by
  obtain ⟨hd, hr, -⟩ := id hc
  refine xMet_of RX6 rfl (by decide +kernel) false (by decide +kernel) (Nat.le_of_ble_eq_true rfl) rfl ?_
  intro P hM hR
  refine x_aload_n hM dX6_give_0 rfl rfl ?_
  refine x_get hM wf_X6_29 wl_X6 (by first | assumption | exact dd_o (by assumption)) rfl dX6_give_1 ?_
  refine x_aload_n hM dX6_give_4 rfl rfl ?_
  refine x_get hM wf_X6_12 wl_X6 (by first | assumption | exact dd_o (by assumption)) rfl dX6_give_5 ?_
  refine x_callV hM wv_X6_44 (m_X1_prepare hh hr (by omega)) ⟨Nat.le_of_ble_eq_true rfl, Nat.le_of_ble_eq_true rfl⟩ (his_a hh) rfl rfl rfl rfl (Nat.le_of_ble_eq_true rfl) ⟨Nat.le_of_ble_eq_true rfl, Nat.le_of_ble_eq_true rfl⟩ dX6_give_8 (k_qV fun w_8 q_8 => ?_)
  obtain ⟨qp, qf⟩ := q_8
  have hc1 := hc.kp qf (by omega)
  refine x_aload_n hM dX6_give_11 rfl rfl ?_
  refine x_get hM wf_X6_29 wl_X6 hc1.1 rfl dX6_give_12 ?_
  refine x_aload_n hM dX6_give_15 rfl rfl ?_
  refine x_iload_n hM dX6_give_16 rfl rfl ?_
  refine x_iload_n hM dX6_give_17 rfl rfl ?_
  refine x_iload_n hM dX6_give_18 rfl rfl ?_
  refine x_callV hM wv_X6_62 (m_X6_givePiece hc1 (by omega) (by omega) (by omega)) ⟨Nat.le_of_ble_eq_true rfl, Nat.le_of_ble_eq_true rfl⟩ hc1.1 rfl rfl rfl rfl (Nat.le_of_ble_eq_true rfl) ⟨Nat.le_of_ble_eq_true rfl, Nat.le_of_ble_eq_true rfl⟩ dX6_give_19 (k_qI fun x_19 w_19 q_19 => ?_)
  obtain ⟨rfl, qc, qg⟩ := q_19
  have hp1 := qp.kp qg (by omega)
  refine x_callV hM wv_X6_52 (m_X1_finish hp1 hb) ⟨Nat.le_of_ble_eq_true rfl, Nat.le_of_ble_eq_true rfl⟩ (his_a hp1.a) rfl rfl rfl rfl (Nat.le_of_ble_eq_true rfl) ⟨Nat.le_of_ble_eq_true rfl, Nat.le_of_ble_eq_true rfl⟩ dX6_give_22 (k_qI fun x_22 w_22 q_22 => ?_)
  refine hR.i dX6_give_25 (Nat.zero_le _) (Nat.zero_le _) ?_
  obtain ⟨e9, f9, n1, n2⟩ := q_22
  exact p_mu e9 qc qf qg f9 n1 n2
theorem m_X6_free {l : Launch} {G : xG} {w : Wd} {z x : Nat} {hs : List St} {s : St} {f n : Int} (hc : coA G w x s) (hh : hisA G w (x + 56) hs) (hf_ : iR f) (hn_ : iR n) (hb : iR (frF s f n).1) : xMet l G yX6_free cX6_free 3 (some .int) ({ frames := 5, cells := 0, slots := 0, locals := 120 } : Room) [.ref x, .int (iI f), .int (iI n)] w z (muP G w z x hs s (frF s f n)) := by
  obtain ⟨hd, hr, -⟩ := id hc
  refine xMet_of RX6 rfl (by decide +kernel) false (by decide +kernel) (Nat.le_of_ble_eq_true rfl) rfl ?_
  intro P hM hR
  refine x_aload_n hM dX6_free_0 rfl rfl ?_
  refine x_get hM wf_X6_29 wl_X6 (by first | assumption | exact dd_o (by assumption)) rfl dX6_free_1 ?_
  refine x_aload_n hM dX6_free_4 rfl rfl ?_
  refine x_get hM wf_X6_12 wl_X6 (by first | assumption | exact dd_o (by assumption)) rfl dX6_free_5 ?_
  refine x_callV hM wv_X6_44 (m_X1_prepare hh hr (by omega)) ⟨Nat.le_of_ble_eq_true rfl, Nat.le_of_ble_eq_true rfl⟩ (his_a hh) rfl rfl rfl rfl (Nat.le_of_ble_eq_true rfl) ⟨Nat.le_of_ble_eq_true rfl, Nat.le_of_ble_eq_true rfl⟩ dX6_free_8 (k_qV fun w_8 q_8 => ?_)
  obtain ⟨qp, qf⟩ := q_8
  have hc1 := hc.kp qf (by omega)
  refine x_aload_n hM dX6_free_11 rfl rfl ?_
  refine x_get hM wf_X6_29 wl_X6 hc1.1 rfl dX6_free_12 ?_
  refine x_aload_n hM dX6_free_15 rfl rfl ?_
  refine x_iload_n hM dX6_free_16 rfl rfl ?_
  refine x_iload_n hM dX6_free_17 rfl rfl ?_
  refine x_callV hM wv_X6_66 (m_X6_freePiece hc1 (by omega) (by omega)) ⟨Nat.le_of_ble_eq_true rfl, Nat.le_of_ble_eq_true rfl⟩ hc1.1 rfl rfl rfl rfl (Nat.le_of_ble_eq_true rfl) ⟨Nat.le_of_ble_eq_true rfl, Nat.le_of_ble_eq_true rfl⟩ dX6_free_18 (k_qI fun x_18 w_18 q_18 => ?_)
  obtain ⟨rfl, qc, qg⟩ := q_18
  have hp1 := qp.kp qg (by omega)
  refine x_callV hM wv_X6_52 (m_X1_finish hp1 hb) ⟨Nat.le_of_ble_eq_true rfl, Nat.le_of_ble_eq_true rfl⟩ (his_a hp1.a) rfl rfl rfl rfl (Nat.le_of_ble_eq_true rfl) ⟨Nat.le_of_ble_eq_true rfl, Nat.le_of_ble_eq_true rfl⟩ dX6_free_21 (k_qI fun x_21 w_21 q_21 => ?_)
  refine hR.i dX6_free_24 (Nat.zero_le _) (Nat.zero_le _) ?_
  obtain ⟨e9, f9, n1, n2⟩ := q_21
  exact p_mu e9 qc qf qg f9 n1 n2
theorem m_X6_grab {l : Launch} {G : xG} {w : Wd} {z x : Nat} {hs : List St} {s : St} {o n : Int} (hc : coA G w x s) (hh : hisA G w (x + 56) hs) (ho_ : iR o) (hn_ : iR n) (hb : iR (grF s o n).1) : xMet l G yX6_grab cX6_grab 3 (some .int) ({ frames := 5, cells := 0, slots := 0, locals := 125 } : Room) [.ref x, .int (iI o), .int (iI n)] w z (muP G w z x hs s (grF s o n)) := by
  obtain ⟨hd, hr, -⟩ := id hc
  refine xMet_of RX6 rfl (by decide +kernel) false (by decide +kernel) (Nat.le_of_ble_eq_true rfl) rfl ?_
  intro P hM hR
  refine x_aload_n hM dX6_grab_0 rfl rfl ?_
  refine x_get hM wf_X6_29 wl_X6 (by first | assumption | exact dd_o (by assumption)) rfl dX6_grab_1 ?_
  refine x_aload_n hM dX6_grab_4 rfl rfl ?_
  refine x_get hM wf_X6_12 wl_X6 (by first | assumption | exact dd_o (by assumption)) rfl dX6_grab_5 ?_
  refine x_callV hM wv_X6_44 (m_X1_prepare hh hr (by omega)) ⟨Nat.le_of_ble_eq_true rfl, Nat.le_of_ble_eq_true rfl⟩ (his_a hh) rfl rfl rfl rfl (Nat.le_of_ble_eq_true rfl) ⟨Nat.le_of_ble_eq_true rfl, Nat.le_of_ble_eq_true rfl⟩ dX6_grab_8 (k_qV fun w_8 q_8 => ?_)
  obtain ⟨qp, qf⟩ := q_8
  have hc1 := hc.kp qf (by omega)
  refine x_aload_n hM dX6_grab_11 rfl rfl ?_
  refine x_get hM wf_X6_29 wl_X6 hc1.1 rfl dX6_grab_12 ?_
  refine x_aload_n hM dX6_grab_15 rfl rfl ?_
  refine x_iload_n hM dX6_grab_16 rfl rfl ?_
  refine x_iload_n hM dX6_grab_17 rfl rfl ?_
  refine x_callV hM wv_X6_69 (m_X6_grabPiece hc1 (by omega) (by omega)) ⟨Nat.le_of_ble_eq_true rfl, Nat.le_of_ble_eq_true rfl⟩ hc1.1 rfl rfl rfl rfl (Nat.le_of_ble_eq_true rfl) ⟨Nat.le_of_ble_eq_true rfl, Nat.le_of_ble_eq_true rfl⟩ dX6_grab_18 (k_qI fun x_18 w_18 q_18 => ?_)
  obtain ⟨rfl, qc, qg⟩ := q_18
  have hp1 := qp.kp qg (by omega)
  refine x_callV hM wv_X6_52 (m_X1_finish hp1 hb) ⟨Nat.le_of_ble_eq_true rfl, Nat.le_of_ble_eq_true rfl⟩ (his_a hp1.a) rfl rfl rfl rfl (Nat.le_of_ble_eq_true rfl) ⟨Nat.le_of_ble_eq_true rfl, Nat.le_of_ble_eq_true rfl⟩ dX6_grab_21 (k_qI fun x_21 w_21 q_21 => ?_)
  refine hR.i dX6_grab_24 (Nat.zero_le _) (Nat.zero_le _) ?_
  obtain ⟨e9, f9, n1, n2⟩ := q_21
  exact p_mu e9 qc qf qg f9 n1 n2
theorem m_X6_inherit {l : Launch} {G : xG} {w : Wd} {z x : Nat} {hs : List St} {s : St} {o h : Int} (hc : coA G w x s) (hh : hisA G w (x + 56) hs) (ho_ : iR o) (hh_ : iR h) (hb : iR (inF s o h).1) : xMet l G yX6_inherit cX6_inherit 3 (some .int) ({ frames := 5, cells := 0, slots := 0, locals := 120 } : Room) [.ref x, .int (iI o), .int (iI h)] w z (muP G w z x hs s (inF s o h)) := by
  obtain ⟨hd, hr, -⟩ := id hc
  refine xMet_of RX6 rfl (by decide +kernel) false (by decide +kernel) (Nat.le_of_ble_eq_true rfl) rfl ?_
  intro P hM hR
  refine x_aload_n hM dX6_inherit_0 rfl rfl ?_
  refine x_get hM wf_X6_29 wl_X6 (by first | assumption | exact dd_o (by assumption)) rfl dX6_inherit_1 ?_
  refine x_aload_n hM dX6_inherit_4 rfl rfl ?_
  refine x_get hM wf_X6_12 wl_X6 (by first | assumption | exact dd_o (by assumption)) rfl dX6_inherit_5 ?_
  refine x_callV hM wv_X6_44 (m_X1_prepare hh hr (by omega)) ⟨Nat.le_of_ble_eq_true rfl, Nat.le_of_ble_eq_true rfl⟩ (his_a hh) rfl rfl rfl rfl (Nat.le_of_ble_eq_true rfl) ⟨Nat.le_of_ble_eq_true rfl, Nat.le_of_ble_eq_true rfl⟩ dX6_inherit_8 (k_qV fun w_8 q_8 => ?_)
  obtain ⟨qp, qf⟩ := q_8
  have hc1 := hc.kp qf (by omega)
  refine x_aload_n hM dX6_inherit_11 rfl rfl ?_
  refine x_get hM wf_X6_29 wl_X6 hc1.1 rfl dX6_inherit_12 ?_
  refine x_aload_n hM dX6_inherit_15 rfl rfl ?_
  refine x_iload_n hM dX6_inherit_16 rfl rfl ?_
  refine x_iload_n hM dX6_inherit_17 rfl rfl ?_
  refine x_callV hM wv_X6_72 (m_X6_handOver hc1 (by omega) (by omega)) ⟨Nat.le_of_ble_eq_true rfl, Nat.le_of_ble_eq_true rfl⟩ hc1.1 rfl rfl rfl rfl (Nat.le_of_ble_eq_true rfl) ⟨Nat.le_of_ble_eq_true rfl, Nat.le_of_ble_eq_true rfl⟩ dX6_inherit_18 (k_qI fun x_18 w_18 q_18 => ?_)
  obtain ⟨rfl, qc, qg⟩ := q_18
  have hp1 := qp.kp qg (by omega)
  refine x_callV hM wv_X6_52 (m_X1_finish hp1 hb) ⟨Nat.le_of_ble_eq_true rfl, Nat.le_of_ble_eq_true rfl⟩ (his_a hp1.a) rfl rfl rfl rfl (Nat.le_of_ble_eq_true rfl) ⟨Nat.le_of_ble_eq_true rfl, Nat.le_of_ble_eq_true rfl⟩ dX6_inherit_21 (k_qI fun x_21 w_21 q_21 => ?_)
  refine hR.i dX6_inherit_24 (Nat.zero_le _) (Nat.zero_le _) ?_
  obtain ⟨e9, f9, n1, n2⟩ := q_21
  exact p_mu e9 qc qf qg f9 n1 n2
theorem m_X6_transfer {l : Launch} {G : xG} {w : Wd} {z x : Nat} {hs : List St} {s : St} {a b f n p : Int} (hc : coA G w x s) (hh : hisA G w (x + 56) hs) (ha_ : iR a) (hb_ : iR b) (hf_ : iR f) (hn_ : iR n) (hp_ : iR p) (hb : iR (trF s a b f n p).1) : xMet l G yX6_transfer cX6_transfer 6 (some .int) ({ frames := 5, cells := 0, slots := 0, locals := 120 } : Room) [.ref x, .int (iI a), .int (iI b), .int (iI f), .int (iI n), .int (iI p)] w z (muP G w z x hs s (trF s a b f n p)) := by
  obtain ⟨hd, hr, -⟩ := id hc
  refine xMet_of RX6 rfl (by decide +kernel) false (by decide +kernel) (Nat.le_of_ble_eq_true rfl) rfl ?_
  intro P hM hR
  refine x_aload_n hM dX6_transfer_0 rfl rfl ?_
  refine x_get hM wf_X6_29 wl_X6 (by first | assumption | exact dd_o (by assumption)) rfl dX6_transfer_1 ?_
  refine x_aload_n hM dX6_transfer_4 rfl rfl ?_
  refine x_get hM wf_X6_12 wl_X6 (by first | assumption | exact dd_o (by assumption)) rfl dX6_transfer_5 ?_
  refine x_callV hM wv_X6_44 (m_X1_prepare hh hr (by omega)) ⟨Nat.le_of_ble_eq_true rfl, Nat.le_of_ble_eq_true rfl⟩ (his_a hh) rfl rfl rfl rfl (Nat.le_of_ble_eq_true rfl) ⟨Nat.le_of_ble_eq_true rfl, Nat.le_of_ble_eq_true rfl⟩ dX6_transfer_8 (k_qV fun w_8 q_8 => ?_)
  obtain ⟨qp, qf⟩ := q_8
  have hc1 := hc.kp qf (by omega)
  refine x_aload_n hM dX6_transfer_11 rfl rfl ?_
  refine x_get hM wf_X6_29 wl_X6 hc1.1 rfl dX6_transfer_12 ?_
  refine x_aload_n hM dX6_transfer_15 rfl rfl ?_
  refine x_iload_n hM dX6_transfer_16 rfl rfl ?_
  refine x_iload_n hM dX6_transfer_17 rfl rfl ?_
  refine x_iload_n hM dX6_transfer_18 rfl rfl ?_
  refine x_iload hM dX6_transfer_19 rfl ?_
  refine x_iload hM dX6_transfer_21 rfl ?_
  refine x_callV hM wv_X6_75 (m_X6_addTransfer hc1 (by omega) (by omega) (by omega) (by omega) (by omega)) ⟨Nat.le_of_ble_eq_true rfl, Nat.le_of_ble_eq_true rfl⟩ hc1.1 rfl rfl rfl rfl (Nat.le_of_ble_eq_true rfl) ⟨Nat.le_of_ble_eq_true rfl, Nat.le_of_ble_eq_true rfl⟩ dX6_transfer_23 (k_qI fun x_23 w_23 q_23 => ?_)
  obtain ⟨rfl, qc, qg⟩ := q_23
  have hp1 := qp.kp qg (by omega)
  refine x_callV hM wv_X6_52 (m_X1_finish hp1 hb) ⟨Nat.le_of_ble_eq_true rfl, Nat.le_of_ble_eq_true rfl⟩ (his_a hp1.a) rfl rfl rfl rfl (Nat.le_of_ble_eq_true rfl) ⟨Nat.le_of_ble_eq_true rfl, Nat.le_of_ble_eq_true rfl⟩ dX6_transfer_26 (k_qI fun x_26 w_26 q_26 => ?_)
  refine hR.i dX6_transfer_29 (Nat.zero_le _) (Nat.zero_le _) ?_
  obtain ⟨e9, f9, n1, n2⟩ := q_26
  exact p_mu e9 qc qf qg f9 n1 n2
theorem m_X6_drop {l : Launch} {G : xG} {w : Wd} {z x : Nat} {hs : List St} {s : St} (hc : coA G w x s) (hh : hisA G w (x + 56) hs) (hb : iR (drF s).1) : xMet l G yX6_drop cX6_drop 1 (some .int) ({ frames := 5, cells := 0, slots := 0, locals := 120 } : Room) [.ref x] w z (muP G w z x hs s (drF s)) := by
  obtain ⟨hd, hr, -⟩ := id hc
  refine xMet_of RX6 rfl (by decide +kernel) false (by decide +kernel) (Nat.le_of_ble_eq_true rfl) rfl ?_
  intro P hM hR
  refine x_aload_n hM dX6_drop_0 rfl rfl ?_
  refine x_get hM wf_X6_29 wl_X6 (by first | assumption | exact dd_o (by assumption)) rfl dX6_drop_1 ?_
  refine x_aload_n hM dX6_drop_4 rfl rfl ?_
  refine x_get hM wf_X6_12 wl_X6 (by first | assumption | exact dd_o (by assumption)) rfl dX6_drop_5 ?_
  refine x_callV hM wv_X6_44 (m_X1_prepare hh hr (by omega)) ⟨Nat.le_of_ble_eq_true rfl, Nat.le_of_ble_eq_true rfl⟩ (his_a hh) rfl rfl rfl rfl (Nat.le_of_ble_eq_true rfl) ⟨Nat.le_of_ble_eq_true rfl, Nat.le_of_ble_eq_true rfl⟩ dX6_drop_8 (k_qV fun w_8 q_8 => ?_)
  obtain ⟨qp, qf⟩ := q_8
  have hc1 := hc.kp qf (by omega)
  refine x_aload_n hM dX6_drop_11 rfl rfl ?_
  refine x_get hM wf_X6_29 wl_X6 hc1.1 rfl dX6_drop_12 ?_
  refine x_aload_n hM dX6_drop_15 rfl rfl ?_
  refine x_callV hM wv_X6_79 (m_X6_dropTransfer hc1) ⟨Nat.le_of_ble_eq_true rfl, Nat.le_of_ble_eq_true rfl⟩ hc1.1 rfl rfl rfl rfl (Nat.le_of_ble_eq_true rfl) ⟨Nat.le_of_ble_eq_true rfl, Nat.le_of_ble_eq_true rfl⟩ dX6_drop_16 (k_qI fun x_16 w_16 q_16 => ?_)
  obtain ⟨rfl, qc, qg⟩ := q_16
  have hp1 := qp.kp qg (by omega)
  refine x_callV hM wv_X6_52 (m_X1_finish hp1 hb) ⟨Nat.le_of_ble_eq_true rfl, Nat.le_of_ble_eq_true rfl⟩ (his_a hp1.a) rfl rfl rfl rfl (Nat.le_of_ble_eq_true rfl) ⟨Nat.le_of_ble_eq_true rfl, Nat.le_of_ble_eq_true rfl⟩ dX6_drop_19 (k_qI fun x_19 w_19 q_19 => ?_)
  refine hR.i dX6_drop_22 (Nat.zero_le _) (Nat.zero_le _) ?_
  obtain ⟨e9, f9, n1, n2⟩ := q_19
  exact p_mu e9 qc qf qg f9 n1 n2
theorem m_X6_close {l : Launch} {G : xG} {w : Wd} {z x : Nat} {hs : List St} {s : St} (hc : coA G w x s) (hh : hisA G w (x + 56) hs) (hb : iR (clF s).1) : xMet l G yX6_close cX6_close 1 (some .int) ({ frames := 6, cells := 0, slots := 0, locals := 147 } : Room) [.ref x] w z (muP G w z x hs s (clF s)) := by
  obtain ⟨hd, hr, -⟩ := id hc
  refine xMet_of RX6 rfl (by decide +kernel) false (by decide +kernel) (Nat.le_of_ble_eq_true rfl) rfl ?_
  intro P hM hR
  refine x_aload_n hM dX6_close_0 rfl rfl ?_
  refine x_get hM wf_X6_29 wl_X6 (by first | assumption | exact dd_o (by assumption)) rfl dX6_close_1 ?_
  refine x_aload_n hM dX6_close_4 rfl rfl ?_
  refine x_get hM wf_X6_12 wl_X6 (by first | assumption | exact dd_o (by assumption)) rfl dX6_close_5 ?_
  refine x_callV hM wv_X6_44 (m_X1_prepare hh hr (by omega)) ⟨Nat.le_of_ble_eq_true rfl, Nat.le_of_ble_eq_true rfl⟩ (his_a hh) rfl rfl rfl rfl (Nat.le_of_ble_eq_true rfl) ⟨Nat.le_of_ble_eq_true rfl, Nat.le_of_ble_eq_true rfl⟩ dX6_close_8 (k_qV fun w_8 q_8 => ?_)
  obtain ⟨qp, qf⟩ := q_8
  have hc1 := hc.kp qf (by omega)
  refine x_aload_n hM dX6_close_11 rfl rfl ?_
  refine x_get hM wf_X6_29 wl_X6 hc1.1 rfl dX6_close_12 ?_
  refine x_aload_n hM dX6_close_15 rfl rfl ?_
  refine x_callV hM wv_X6_83 (m_X6_closeDeal hc1) ⟨Nat.le_of_ble_eq_true rfl, Nat.le_of_ble_eq_true rfl⟩ hc1.1 rfl rfl rfl rfl (Nat.le_of_ble_eq_true rfl) ⟨Nat.le_of_ble_eq_true rfl, Nat.le_of_ble_eq_true rfl⟩ dX6_close_16 (k_qI fun x_16 w_16 q_16 => ?_)
  obtain ⟨rfl, qc, qg⟩ := q_16
  have hp1 := qp.kp qg (by omega)
  refine x_callV hM wv_X6_52 (m_X1_finish hp1 hb) ⟨Nat.le_of_ble_eq_true rfl, Nat.le_of_ble_eq_true rfl⟩ (his_a hp1.a) rfl rfl rfl rfl (Nat.le_of_ble_eq_true rfl) ⟨Nat.le_of_ble_eq_true rfl, Nat.le_of_ble_eq_true rfl⟩ dX6_close_19 (k_qI fun x_19 w_19 q_19 => ?_)
  refine hR.i dX6_close_22 (Nat.zero_le _) (Nat.zero_le _) ?_
  obtain ⟨e9, f9, n1, n2⟩ := q_19
  exact p_mu e9 qc qf qg f9 n1 n2
theorem m_X6_days {l : Launch} {G : xG} {w : Wd} {z x : Nat} {hs : List St} {s : St} {d : Int} (hc : coA G w x s) (hh : hisA G w (x + 56) hs) (hd_ : iR d) (hb : iR (daF s d).1) : xMet l G yX6_days cX6_days 2 (some .int) ({ frames := 5, cells := 0, slots := 0, locals := 120 } : Room) [.ref x, .int (iI d)] w z (muP G w z x hs s (daF s d)) := by
  obtain ⟨hd, hr, -⟩ := id hc
  refine xMet_of RX6 rfl (by decide +kernel) false (by decide +kernel) (Nat.le_of_ble_eq_true rfl) rfl ?_
  intro P hM hR
  refine x_aload_n hM dX6_days_0 rfl rfl ?_
  refine x_get hM wf_X6_29 wl_X6 (by first | assumption | exact dd_o (by assumption)) rfl dX6_days_1 ?_
  refine x_aload_n hM dX6_days_4 rfl rfl ?_
  refine x_get hM wf_X6_12 wl_X6 (by first | assumption | exact dd_o (by assumption)) rfl dX6_days_5 ?_
  refine x_callV hM wv_X6_44 (m_X1_prepare hh hr (by omega)) ⟨Nat.le_of_ble_eq_true rfl, Nat.le_of_ble_eq_true rfl⟩ (his_a hh) rfl rfl rfl rfl (Nat.le_of_ble_eq_true rfl) ⟨Nat.le_of_ble_eq_true rfl, Nat.le_of_ble_eq_true rfl⟩ dX6_days_8 (k_qV fun w_8 q_8 => ?_)
  obtain ⟨qp, qf⟩ := q_8
  have hc1 := hc.kp qf (by omega)
  refine x_aload_n hM dX6_days_11 rfl rfl ?_
  refine x_get hM wf_X6_29 wl_X6 hc1.1 rfl dX6_days_12 ?_
  refine x_aload_n hM dX6_days_15 rfl rfl ?_
  refine x_iload_n hM dX6_days_16 rfl rfl ?_
  refine x_callV hM wv_X6_89 (m_X6_passDays hc1 (by omega)) ⟨Nat.le_of_ble_eq_true rfl, Nat.le_of_ble_eq_true rfl⟩ hc1.1 rfl rfl rfl rfl (Nat.le_of_ble_eq_true rfl) ⟨Nat.le_of_ble_eq_true rfl, Nat.le_of_ble_eq_true rfl⟩ dX6_days_17 (k_qI fun x_17 w_17 q_17 => ?_)
  obtain ⟨rfl, qc, qg⟩ := q_17
  have hp1 := qp.kp qg (by omega)
  refine x_callV hM wv_X6_52 (m_X1_finish hp1 hb) ⟨Nat.le_of_ble_eq_true rfl, Nat.le_of_ble_eq_true rfl⟩ (his_a hp1.a) rfl rfl rfl rfl (Nat.le_of_ble_eq_true rfl) ⟨Nat.le_of_ble_eq_true rfl, Nat.le_of_ble_eq_true rfl⟩ dX6_days_20 (k_qI fun x_20 w_20 q_20 => ?_)
  refine hR.i dX6_days_23 (Nat.zero_le _) (Nat.zero_le _) ?_
  obtain ⟨e9, f9, n1, n2⟩ := q_20
  exact p_mu e9 qc qf qg f9 n1 n2
