/-! The reference: changes -/
def muA (G : xG) (w : Wd) (m : Nat) (it : Int) (t : St) (hs : List St) (sg mn pl wr : Int) : Prop := ∃ R : List Sg, w m = some (hdV m hs.length sg it R.length mn pl wr) ∧ nowA G w m t ∧ hmA G w m hs ∧ rwA G w m R
def Fm (m : Nat) (w w1 : Wd) : Prop := ∀ q : Nat, q ≠ m → q ≠ m + 1 → q ≠ m + 2 → q ≠ m + 6 → q ≠ m + 7 → q ≠ m + 12 → q ≠ m + 13 → w1 q = w q
theorem Fm.rf {m : Nat} {w : Wd} : Fm m w w := fun _ _ _ _ _ _ _ _ => rfl
theorem Fm.tr {m : Nat} {w w1 w2 : Wd} (h1 : Fm m w w1) (h2 : Fm m w1 w2) : Fm m w w2 := fun q a b c d e f g => (h2 q a b c d e f g).trans (h1 q a b c d e f g)
theorem Fm.h {m : Nat} {w w1 : Wd} (h : Fr2 m (m + 1) (m + 6) (m + 8) w w1) : Fm m w w1 := fun q a b c d e f g => h q (by omega) (by omega)
theorem Fm.r {m : Nat} {w w1 : Wd} (h : Fr2 m (m + 1) (m + 12) (m + 14) w w1) : Fm m w w1 := fun q a b c d e f g => h q (by omega) (by omega)
theorem Fm.n {m : Nat} {w w1 : Wd} (h : Fr (m + 1) (m + 2) w w1) : Fm m w w1 := fun q a b c d e f g => h q (by omega)
theorem Fm.m {m : Nat} {w w1 : Wd} (h : Fr (m + 1) (m + 3) w w1) : Fm m w w1 := fun q a b c d e f g => h q (by omega)
def hisR (it : Int) (hs : List St) (t : St) (y : Int) : List St := if y < 0 then hs else recN it hs t
abbrev mrP (G : xG) (w : Wd) (z m : Nat) (it : Int) (t : St) (hs : List St) (sg mn pl wr : Int) (r : Int × St) : xPo := qI z fun y w1 => y = r.1 ∧ muA G w1 m it r.2 (hisR it hs t r.1) sg mn pl wr ∧ Fm m w w1
theorem p_mr0 {G : xG} {w : Wd} {z m : Nat} {it y : Int} {t : St} {hs : List St} {sg mn pl wr : Int} {r : Int × St} (e : r = (y, t)) (hy : y < 0) (h : muA G w m it t hs sg mn pl wr) : mrP G w z m it t hs sg mn pl wr r (some (.int (iI y))) w z := by
  subst e
  exact p_qI ⟨rfl, by unfold hisR; rw [if_pos hy]; exact h, Fm.rf⟩
theorem p_mr {G : xG} {w w1 : Wd} {z m : Nat} {it y : Int} {t t2 : St} {hs : List St} {sg mn pl wr : Int} {r : Int × St} (e : r = (y, t2)) (hy : 0 ≤ y) (h : muA G w1 m it t2 (recN it hs t) sg mn pl wr) (k : Fm m w w1) : mrP G w z m it t hs sg mn pl wr r (some (.int (iI y))) w1 z := by
  subst e
  exact p_qI ⟨rfl, by unfold hisR; rw [if_neg (by omega)]; exact h, k⟩
/-- after the record -/
theorem mu_rec {G : xG} {w w1 : Wd} {m : Nat} {it : Int} {t : St} {hs h2 : List St} {R : List Sg} {sg mn pl wr : Int} (hn : nowA G w m t) (hr : rwA G w m R) (q1 : w1 m = some (hdV m h2.length sg it R.length mn pl wr)) (q2 : hmA G w1 m h2) (q3 : Fr2 m (m + 1) (m + 6) (m + 8) w w1) : muA G w1 m it t h2 sg mn pl wr :=
  ⟨R, q1, hn.kpf (q3 _ (by omega) (by omega)) (q3 _ (by omega) (by omega)), q2, hr.kpf (q3 _ (by omega) (by omega)) (q3 _ (by omega) (by omega))⟩
theorem nowP_set {f : Int → Int} {t : St} {i v : Int} (h : nowP f t) (hW : regW (mkS t.L (fU t.set i v) t.mon t.tax t.los t.D t.own t.day t.clo t.fee)) (hi : 0 ≤ i ∧ i < 5) : nowP (fU f i v) (mkS t.L (fU t.set i v) t.mon t.tax t.los t.D t.own t.day t.clo t.fee) := by
  obtain ⟨p1, p2, p3, p4, p5, p6, p7, p8, p9, p10, p11, p12, p13⟩ := h
  refine ⟨hW, p2, p3, fun j a b => ?_, (fU_ne (by omega)).trans p5, (fU_ne (by omega)).trans p6, (fU_ne (by omega)).trans p7, (fU_ne (by omega)).trans p8, (fU_ne (by omega)).trans p9, (fU_ne (by omega)).trans p10, fun q a b => ?_, fun j hj k a b => (fU_ne (by omega)).trans (p12 j hj k a b), fun j hj => ?_⟩
  · show fU f i v j = fU t.set i v j
    by_cases q : j = i
    · subst q; rw [fU_eq, fU_eq]
    · rw [fU_ne q, fU_ne q]; exact p4 j a b
  · rw [fU_ne (by omega), fU_ne (by omega)]; exact p11 q a b
  · rw [fU_ne (by omega), fU_ne (by omega)]; exact p13 j hj
theorem m_X7_set {l : Launch} {G : xG} {w : Wd} {z m : Nat} {it : Int} {t : St} {hs : List St} {sg mn pl wr i v : Int} (h : muA G w m it t hs sg mn pl wr) (hit : it = 0 ∨ it = 1) (hi : iR i) (hv : iR v) : xMet l G yX7_set cX7_set 4 (some .int) ({ frames := 1, cells := 0, slots := 0, locals := 22 } : Room) [.ref m, .int (iI i), .int (iI v)] w z (mrP G w z m it t hs sg mn pl wr (setF t i v)) := by
  obtain ⟨R, hh, hn, hm, hr⟩ := id h
  obtain ⟨f, g, hn1, hp, hn2, hg⟩ := id hn
  have hW := np_r hp
  obtain ⟨r1, r2, r3, r4, r5, r6, r7⟩ := id hW
  have hlo : (0 ≤ i ∧ i < 5) → sv_f 1 i = if i < 3 then 0 else 1 := by intro q; unfold sv_f; simp only; split <;> (try split) <;> (try split) <;> (try split) <;> (try split) <;> omega
  have hhi : (0 ≤ i ∧ i < 5) → sv_f 2 i = if i < 3 then 1000 else if i = 3 then 100 else 10000 := by intro q; unfold sv_f; simp only; repeat' split <;> try omega
  refine xMet_of RX7 rfl (by decide +kernel) false (by decide +kernel) (Nat.le_of_ble_eq_true rfl) rfl ?_
  intro P hM hR
  by_cases c1 : 0 ≤ i ∧ i < 5
  · by_cases c2 : sv_f 1 i ≤ v ∧ v ≤ sv_f 2 i
    · have e1 : setF t i v = (t.set i, mkS t.L (fU t.set i v) t.mon t.tax t.los t.D t.own t.day t.clo t.fee) := by unfold setF; rw [if_pos c1, if_neg (by omega), if_neg (by omega)]
      refine x_iload_n hM dX7_set_0 rfl rfl ?_
      refine x_iconst hM dX7_set_1 ?_
      refine x_iconst hM dX7_set_2 ?_
      refine x_callS hM ws_X7_62 (m_X7_in (by omega) (by omega) (by omega)) ⟨Nat.le_of_ble_eq_true rfl, Nat.le_of_ble_eq_true rfl⟩ rfl rfl (Nat.le_of_ble_eq_true rfl) ⟨Nat.le_of_ble_eq_true rfl, Nat.le_of_ble_eq_true rfl⟩ dX7_set_3 (k_rI ?_)
      rw [if_pos (by omega)]
      refine x_if_eq (tgt := 24) hM dX7_set_6 (by decide) (by omega) (fun c_6 => ?_) (fun c_6 => ?_)
      · exfalso; omega
      · refine x_iload_n hM dX7_set_9 rfl rfl ?_
        refine x_iload_n hM dX7_set_10 rfl rfl ?_
        refine x_callS hM ws_X7_66 (m_X7_least (by omega)) ⟨Nat.le_of_ble_eq_true rfl, Nat.le_of_ble_eq_true rfl⟩ rfl rfl (Nat.le_of_ble_eq_true rfl) ⟨Nat.le_of_ble_eq_true rfl, Nat.le_of_ble_eq_true rfl⟩ dX7_set_11 (k_rI ?_)
        rw [← hlo c1]
        refine x_iload_n hM dX7_set_14 rfl rfl ?_
        refine x_callS hM ws_X7_70 (m_X7_most (by omega)) ⟨Nat.le_of_ble_eq_true rfl, Nat.le_of_ble_eq_true rfl⟩ rfl rfl (Nat.le_of_ble_eq_true rfl) ⟨Nat.le_of_ble_eq_true rfl, Nat.le_of_ble_eq_true rfl⟩ dX7_set_15 (k_rI ?_)
        rw [← hhi c1]
        refine x_callS hM ws_X7_62 (m_X7_in (by omega) (by rw [hlo c1]; split <;> omega) (by rw [hhi c1]; split <;> (try split) <;> omega)) ⟨Nat.le_of_ble_eq_true rfl, Nat.le_of_ble_eq_true rfl⟩ rfl rfl (Nat.le_of_ble_eq_true rfl) ⟨Nat.le_of_ble_eq_true rfl, Nat.le_of_ble_eq_true rfl⟩ dX7_set_18 (k_rI ?_)
        rw [if_pos c2]
        refine x_if_ne (tgt := 27) hM dX7_set_21 (by decide) (by omega) (fun c_21 => ?_) (fun c_21 => ?_)
        · refine x_aload_n hM dX7_set_27 rfl rfl ?_
          refine x_callV hM wv_X7_73 (m_X7_record hh hn hm hit) ⟨Nat.le_of_ble_eq_true rfl, Nat.le_of_ble_eq_true rfl⟩ hh rfl rfl rfl rfl (Nat.le_of_ble_eq_true rfl) ⟨Nat.le_of_ble_eq_true rfl, Nat.le_of_ble_eq_true rfl⟩ dX7_set_28 (k_qV fun w_28 q_28 => ?_)
          obtain ⟨q1, q2, q3⟩ := q_28
          have hn1b := (q3 (m + 1) (by omega) (by omega)).trans hn1
          refine x_aload_n hM dX7_set_31 rfl rfl ?_
          refine x_get hM wf_X7_7 wl_X7 q1 rfl dX7_set_32 ?_
          refine x_iload_n hM dX7_set_35 rfl rfl ?_
          refine x_iald hM hn1b (by omega) dX7_set_36 ?_
          rw [np_set hp c1.1 c1.2]
          refine x_istore_n hM dX7_set_37 rfl rfl (Nat.le_of_ble_eq_true rfl) rfl ?_
          refine x_aload_n hM dX7_set_38 rfl rfl ?_
          refine x_get hM wf_X7_7 wl_X7 q1 rfl dX7_set_39 ?_
          refine x_iload_n hM dX7_set_42 rfl rfl ?_
          refine x_iload_n hM dX7_set_43 rfl rfl ?_
          refine x_iast hM hn1b (by omega) dX7_set_44 ?_
          refine x_iload_n hM dX7_set_45 rfl rfl ?_
          refine hR.i dX7_set_46 (Nat.zero_le _) (Nat.zero_le _) ?_
          refine p_mr e1 (by have hi2 := (by omega : i = 0 ∨ i = 1 ∨ i = 2 ∨ i = 3 ∨ i = 4); rcases hi2 with rfl | rfl | rfl | rfl | rfl <;> omega) ⟨R, (wS_ne (by omega)).trans q1, ⟨_, g, wS_eq, nowP_set hp (setF_W hW c1 c2.1 c2.2) c1, (wS_ne (by omega)).trans ((q3 _ (by omega) (by omega)).trans hn2), hg⟩, q2.kpf (wS_ne (by omega)) (wS_ne (by omega)), (hr.kpf (q3 _ (by omega) (by omega)) (q3 _ (by omega) (by omega))).kpf (wS_ne (by omega)) (wS_ne (by omega))⟩ ((Fm.h q3).tr (Fm.n wF))
        · exfalso; omega
    · have e1 : setF t i v = (-2, t) := by unfold setF; rw [if_pos c1]; split; rfl; rw [if_pos (by omega)]
      refine x_iload_n hM dX7_set_0 rfl rfl ?_
      refine x_iconst hM dX7_set_1 ?_
      refine x_iconst hM dX7_set_2 ?_
      refine x_callS hM ws_X7_62 (m_X7_in (by omega) (by omega) (by omega)) ⟨Nat.le_of_ble_eq_true rfl, Nat.le_of_ble_eq_true rfl⟩ rfl rfl (Nat.le_of_ble_eq_true rfl) ⟨Nat.le_of_ble_eq_true rfl, Nat.le_of_ble_eq_true rfl⟩ dX7_set_3 (k_rI ?_)
      rw [if_pos (by omega)]
      refine x_if_eq (tgt := 24) hM dX7_set_6 (by decide) (by omega) (fun c_6 => ?_) (fun c_6 => ?_)
      · exfalso; omega
      · refine x_iload_n hM dX7_set_9 rfl rfl ?_
        refine x_iload_n hM dX7_set_10 rfl rfl ?_
        refine x_callS hM ws_X7_66 (m_X7_least (by omega)) ⟨Nat.le_of_ble_eq_true rfl, Nat.le_of_ble_eq_true rfl⟩ rfl rfl (Nat.le_of_ble_eq_true rfl) ⟨Nat.le_of_ble_eq_true rfl, Nat.le_of_ble_eq_true rfl⟩ dX7_set_11 (k_rI ?_)
        rw [← hlo c1]
        refine x_iload_n hM dX7_set_14 rfl rfl ?_
        refine x_callS hM ws_X7_70 (m_X7_most (by omega)) ⟨Nat.le_of_ble_eq_true rfl, Nat.le_of_ble_eq_true rfl⟩ rfl rfl (Nat.le_of_ble_eq_true rfl) ⟨Nat.le_of_ble_eq_true rfl, Nat.le_of_ble_eq_true rfl⟩ dX7_set_15 (k_rI ?_)
        rw [← hhi c1]
        refine x_callS hM ws_X7_62 (m_X7_in (by omega) (by rw [hlo c1]; split <;> omega) (by rw [hhi c1]; split <;> (try split) <;> omega)) ⟨Nat.le_of_ble_eq_true rfl, Nat.le_of_ble_eq_true rfl⟩ rfl rfl (Nat.le_of_ble_eq_true rfl) ⟨Nat.le_of_ble_eq_true rfl, Nat.le_of_ble_eq_true rfl⟩ dX7_set_18 (k_rI ?_)
        rw [if_neg c2]
        refine x_if_ne (tgt := 27) hM dX7_set_21 (by decide) (by omega) (fun c_21 => ?_) (fun c_21 => ?_)
        · exfalso; omega
        · refine x_bipush hM dX7_set_24 rfl ?_
          refine hR.i dX7_set_26 (Nat.zero_le _) (Nat.zero_le _) ?_
          exact p_mr0 e1 (by decide) h
  · have e1 : setF t i v = (-2, t) := if_neg c1
    refine x_iload_n hM dX7_set_0 rfl rfl ?_
    refine x_iconst hM dX7_set_1 ?_
    refine x_iconst hM dX7_set_2 ?_
    refine x_callS hM ws_X7_62 (m_X7_in (by omega) (by omega) (by omega)) ⟨Nat.le_of_ble_eq_true rfl, Nat.le_of_ble_eq_true rfl⟩ rfl rfl (Nat.le_of_ble_eq_true rfl) ⟨Nat.le_of_ble_eq_true rfl, Nat.le_of_ble_eq_true rfl⟩ dX7_set_3 (k_rI ?_)
    rw [if_neg (by omega)]
    refine x_if_eq (tgt := 24) hM dX7_set_6 (by decide) (by omega) (fun c_6 => ?_) (fun c_6 => ?_)
    · refine x_bipush hM dX7_set_24 rfl ?_
      refine hR.i dX7_set_26 (Nat.zero_le _) (Nat.zero_le _) ?_
      exact p_mr0 e1 (by decide) h
    · exfalso; omega
theorem nowP_own {f : Int → Int} {t : St} (h : nowP f t) (hl : t.own < 10) (mo : Int → Int64) : nowP (fU f 6 (t.own + 1)) (mkS t.L t.set mo t.tax t.los t.D (t.own + 1) t.day t.clo t.fee) := by
  obtain ⟨p1, p2, p3, p4, p5, p6, p7, p8, p9, p10, p11, p12, p13⟩ := h
  refine ⟨⟨by show 0 ≤ t.own + 1; have := p1.1; omega, by show t.own + 1 ≤ 10; omega, p1.2.2⟩, p2, p3, fun j a b => (fU_ne (by omega)).trans (p4 j a b), (fU_ne (by omega)).trans p5, fU_eq, (fU_ne (by omega)).trans p7, (fU_ne (by omega)).trans p8, (fU_ne (by omega)).trans p9, (fU_ne (by omega)).trans p10, fun q a b => ?_, fun j hj k a b => (fU_ne (by omega)).trans (p12 j hj k a b), fun j hj => ?_⟩
  · rw [fU_ne (by omega), fU_ne (by omega)]; exact p11 q a b
  · rw [fU_ne (by omega), fU_ne (by omega)]; exact p13 j hj
theorem eqR_fU {α : Type} {n : Int} {f g : Int → α} (h : eqR n f g) (i : Int) {v u : α} (e : v = u) : eqR n (fU f i v) (fU g i u) := e ▸ eqR_up h i v
theorem m_X7_owner {l : Launch} {G : xG} {w : Wd} {z m : Nat} {it : Int} {t : St} {hs : List St} {sg mn pl wr v : Int} (h : muA G w m it t hs sg mn pl wr) (hit : it = 0 ∨ it = 1) (hz : t.mon t.own = 0) (hv : iR v) : xMet l G yX7_owner cX7_owner 2 (some .int) ({ frames := 1, cells := 0, slots := 0, locals := 22 } : Room) [.ref m, .int (iI v)] w z (mrP G w z m it t hs sg mn pl wr (ownF t v)) := by
  obtain ⟨R, hh, hn, hm, hr⟩ := id h
  obtain ⟨f, g, hn1, hp, hn2, hg⟩ := id hn
  have hW := np_r hp
  obtain ⟨r1, r2, r3⟩ := id hW
  refine xMet_of RX7 rfl (by decide +kernel) false (by decide +kernel) (Nat.le_of_ble_eq_true rfl) rfl ?_
  intro P hM hR
  by_cases c1 : 0 ≤ v ∧ v ≤ 1000000
  · by_cases c2 : t.own = 10
    · have e1 : ownF t v = (-4, t) := by unfold ownF; rw [if_pos c1, if_pos (by omega)]
      refine x_iload_n hM dX7_owner_0 rfl rfl ?_
      refine x_iconst hM dX7_owner_1 ?_
      refine x_ldc hM dX7_owner_2 wc_X7_76 ?_
      refine x_callS hM ws_X7_62 (m_X7_in (by omega) (by omega) (by omega)) ⟨Nat.le_of_ble_eq_true rfl, Nat.le_of_ble_eq_true rfl⟩ rfl rfl (Nat.le_of_ble_eq_true rfl) ⟨Nat.le_of_ble_eq_true rfl, Nat.le_of_ble_eq_true rfl⟩ dX7_owner_4 (k_rI ?_)
      rw [if_pos c1]
      refine x_if_ne (tgt := 13) hM dX7_owner_7 (by decide) (by omega) (fun c_7 => ?_) (fun c_7 => ?_)
      · refine x_aload_n hM dX7_owner_13 rfl rfl ?_
        refine x_get hM wf_X7_7 wl_X7 (by first | assumption | exact md_o (by assumption)) rfl dX7_owner_14 ?_
        refine x_bipush hM dX7_owner_17 rfl ?_
        refine x_iald hM (by first | assumption | exact row_c (by first | assumption | exact sr1 (by assumption) | exact sr2 (by assumption) | exact sr3 (by assumption) | exact sr4 (by assumption) | exact sr5 (by assumption) | exact rg1 (by assumption) | exact rg2 (by assumption) | exact rg3 (by assumption))) (by omega) dX7_owner_19 ?_
        rw [np_own hp]
        refine x_bipush hM dX7_owner_20 rfl ?_
        refine x_icmp_ne (tgt := 28) hM dX7_owner_22 (by decide) (by omega) (by omega) (fun c_22 => ?_) (fun c_22 => ?_)
        · exfalso; omega
        · refine x_bipush hM dX7_owner_25 rfl ?_
          refine hR.i dX7_owner_27 (Nat.zero_le _) (Nat.zero_le _) ?_
          exact p_mr0 e1 (by decide) h
      · exfalso; omega
    · have e1 : ownF t v = (t.own, mkS t.L t.set (fU t.mon t.own (t.mon t.own + jJ v)) t.tax t.los t.D (t.own + 1) t.day t.clo t.fee) := by unfold ownF; rw [if_pos c1, if_neg (by omega)]
      refine x_iload_n hM dX7_owner_0 rfl rfl ?_
      refine x_iconst hM dX7_owner_1 ?_
      refine x_ldc hM dX7_owner_2 wc_X7_76 ?_
      refine x_callS hM ws_X7_62 (m_X7_in (by omega) (by omega) (by omega)) ⟨Nat.le_of_ble_eq_true rfl, Nat.le_of_ble_eq_true rfl⟩ rfl rfl (Nat.le_of_ble_eq_true rfl) ⟨Nat.le_of_ble_eq_true rfl, Nat.le_of_ble_eq_true rfl⟩ dX7_owner_4 (k_rI ?_)
      rw [if_pos c1]
      refine x_if_ne (tgt := 13) hM dX7_owner_7 (by decide) (by omega) (fun c_7 => ?_) (fun c_7 => ?_)
      · refine x_aload_n hM dX7_owner_13 rfl rfl ?_
        refine x_get hM wf_X7_7 wl_X7 (by first | assumption | exact md_o (by assumption)) rfl dX7_owner_14 ?_
        refine x_bipush hM dX7_owner_17 rfl ?_
        refine x_iald hM (by first | assumption | exact row_c (by first | assumption | exact sr1 (by assumption) | exact sr2 (by assumption) | exact sr3 (by assumption) | exact sr4 (by assumption) | exact sr5 (by assumption) | exact rg1 (by assumption) | exact rg2 (by assumption) | exact rg3 (by assumption))) (by omega) dX7_owner_19 ?_
        rw [np_own hp]
        refine x_bipush hM dX7_owner_20 rfl ?_
        refine x_icmp_ne (tgt := 28) hM dX7_owner_22 (by decide) (by omega) (by omega) (fun c_22 => ?_) (fun c_22 => ?_)
        · refine x_aload_n hM dX7_owner_28 rfl rfl ?_
          refine x_callV hM wv_X7_73 (m_X7_record hh hn hm hit) ⟨Nat.le_of_ble_eq_true rfl, Nat.le_of_ble_eq_true rfl⟩ hh rfl rfl rfl rfl (Nat.le_of_ble_eq_true rfl) ⟨Nat.le_of_ble_eq_true rfl, Nat.le_of_ble_eq_true rfl⟩ dX7_owner_29 (k_qV fun w_29 q_29 => ?_)
          obtain ⟨q1, q2, q3⟩ := q_29
          have hn1b := (q3 (m + 1) (by omega) (by omega)).trans hn1
          have hn2b := (q3 (m + 2) (by omega) (by omega)).trans hn2
          refine x_aload_n hM dX7_owner_32 rfl rfl ?_
          refine x_get hM wf_X7_13 wl_X7 q1 rfl dX7_owner_33 ?_
          refine x_aload_n hM dX7_owner_36 rfl rfl ?_
          refine x_get hM wf_X7_7 wl_X7 q1 rfl dX7_owner_37 ?_
          refine x_bipush hM dX7_owner_40 rfl ?_
          refine x_iald hM hn1b (by omega) dX7_owner_42 ?_
          rw [np_own hp]
          refine x_iload_n hM dX7_owner_43 rfl rfl ?_
          refine x_i2l hM dX7_owner_44 ?_
          rw [iI_long hv]
          refine x_last hM hn2b (by omega) dX7_owner_45 ?_
          refine x_aload_n hM dX7_owner_46 rfl rfl ?_
          refine x_get hM wf_X7_7 wl_X7 ((wS_ne (by omega)).trans q1) rfl dX7_owner_47 ?_
          refine x_bipush hM dX7_owner_50 rfl ?_
          refine x_dup2 hM dX7_owner_52 rfl rfl ?_
          refine x_iald hM ((wS_ne (by omega)).trans hn1b) (by omega) dX7_owner_53 ?_
          rw [np_own hp]
          refine x_iconst hM dX7_owner_54 ?_
          refine x_iadd hM dX7_owner_55 ?_
          refine x_iast hM ((wS_ne (by omega)).trans hn1b) (by omega) dX7_owner_56 ?_
          refine x_aload_n hM dX7_owner_57 rfl rfl ?_
          refine x_get hM wf_X7_7 wl_X7 ((wS_ne (by omega)).trans ((wS_ne (by omega)).trans q1)) rfl dX7_owner_58 ?_
          refine x_bipush hM dX7_owner_61 rfl ?_
          refine x_iald hM wS_eq (by omega) dX7_owner_63 ?_
          rw [fU_eq]
          refine x_iconst hM dX7_owner_64 ?_
          refine x_isub hM dX7_owner_65 ?_
          refine hR.i dX7_owner_66 (Nat.zero_le _) (Nat.zero_le _) ?_
          rw [show t.own + 1 - 1 = t.own by omega]
          refine p_mr e1 r1 ⟨R, (wS_ne (by omega)).trans ((wS_ne (by omega)).trans q1), ⟨_, _, wS_eq, nowP_own hp (by omega) _, (wS_ne (by omega)).trans wS_eq, eqR_fU hg _ (by rw [hz]; exact (Int64.zero_add _).symm)⟩, (q2.kpf (wS_ne (by omega)) (wS_ne (by omega))).kpf (wS_ne (by omega)) (wS_ne (by omega)), ((hr.kpf (q3 _ (by omega) (by omega)) (q3 _ (by omega) (by omega))).kpf (wS_ne (by omega)) (wS_ne (by omega))).kpf (wS_ne (by omega)) (wS_ne (by omega))⟩ ((Fm.h q3).tr (Fm.m ((Fr.wS (by omega) (by omega)).tr (Fr.wS (by omega) (by omega)))))
        · exfalso; omega
      · exfalso; omega
  · have e1 : ownF t v = (-2, t) := if_neg c1
    refine x_iload_n hM dX7_owner_0 rfl rfl ?_
    refine x_iconst hM dX7_owner_1 ?_
    refine x_ldc hM dX7_owner_2 wc_X7_76 ?_
    refine x_callS hM ws_X7_62 (m_X7_in (by omega) (by omega) (by omega)) ⟨Nat.le_of_ble_eq_true rfl, Nat.le_of_ble_eq_true rfl⟩ rfl rfl (Nat.le_of_ble_eq_true rfl) ⟨Nat.le_of_ble_eq_true rfl, Nat.le_of_ble_eq_true rfl⟩ dX7_owner_4 (k_rI ?_)
    rw [if_neg c1]
    refine x_if_ne (tgt := 13) hM dX7_owner_7 (by decide) (by omega) (fun c_7 => ?_) (fun c_7 => ?_)
    · exfalso; omega
    · refine x_bipush hM dX7_owner_10 rfl ?_
      refine hR.i dX7_owner_12 (Nat.zero_le _) (Nat.zero_le _) ?_
      exact p_mr0 e1 (by decide) h
theorem m_X7_pay {l : Launch} {G : xG} {w : Wd} {z m : Nat} {it : Int} {t : St} {hs : List St} {sg mn pl wr o c : Int} (h : muA G w m it t hs sg mn pl wr) (hit : it = 0 ∨ it = 1) (ho : iR o) (hv : iR c) : xMet l G yX7_pay cX7_pay 3 (some .int) ({ frames := 2, cells := 0, slots := 0, locals := 43 } : Room) [.ref m, .int (iI o), .int (iI c)] w z (mrP G w z m it t hs sg mn pl wr (payF t o c)) := by
  obtain ⟨R, hh, hn, hm, hr⟩ := id h
  obtain ⟨f, g, hn1, hp, hn2, hg⟩ := id hn
  have hrd := rd_mk hh hn1 hp
  have hW := np_r hp
  obtain ⟨r1, r2, r3⟩ := id hW
  refine xMet_of RX7 rfl (by decide +kernel) false (by decide +kernel) (Nat.le_of_ble_eq_true rfl) rfl ?_
  intro P hM hR
  by_cases c1 : 0 ≤ o ∧ o < t.own
  · by_cases c2 : 0 ≤ c ∧ c ≤ 1000000
    · have e0 : (fU t.mon o (t.mon o + jJ c)) o = t.mon o + jJ c := fU_eq
      have e1 : payF t o c = ((if t.mon o + jJ c < jJ 0 then 0 else 1), earnF t o (jJ c)) := by unfold payF; rw [if_pos c1, if_pos c2]
      refine x_aload_n hM dX7_pay_0 rfl rfl ?_
      refine x_iload_n hM dX7_pay_1 rfl rfl ?_
      refine x_callV hM wv_X7_77 (m_X7_isOwner (by assumption) (by omega)) ⟨Nat.le_of_ble_eq_true rfl, Nat.le_of_ble_eq_true rfl⟩ (by first | assumption | exact md_o (by assumption)) rfl rfl rfl rfl (Nat.le_of_ble_eq_true rfl) ⟨Nat.le_of_ble_eq_true rfl, Nat.le_of_ble_eq_true rfl⟩ dX7_pay_2 (k_rI ?_)
      rw [if_pos c1]
      refine x_if_ne (tgt := 10) hM dX7_pay_5 (by decide) (by omega) (fun c_5 => ?_) (fun c_5 => ?_)
      · refine x_iload_n hM dX7_pay_10 rfl rfl ?_
        refine x_iconst hM dX7_pay_11 ?_
        refine x_ldc hM dX7_pay_12 wc_X7_76 ?_
        refine x_callS hM ws_X7_62 (m_X7_in (by omega) (by omega) (by omega)) ⟨Nat.le_of_ble_eq_true rfl, Nat.le_of_ble_eq_true rfl⟩ rfl rfl (Nat.le_of_ble_eq_true rfl) ⟨Nat.le_of_ble_eq_true rfl, Nat.le_of_ble_eq_true rfl⟩ dX7_pay_14 (k_rI ?_)
        rw [if_pos c2]
        refine x_if_ne (tgt := 23) hM dX7_pay_17 (by decide) (by omega) (fun c_17 => ?_) (fun c_17 => ?_)
        · refine x_aload_n hM dX7_pay_23 rfl rfl ?_
          refine x_callV hM wv_X7_73 (m_X7_record hh hn hm hit) ⟨Nat.le_of_ble_eq_true rfl, Nat.le_of_ble_eq_true rfl⟩ hh rfl rfl rfl rfl (Nat.le_of_ble_eq_true rfl) ⟨Nat.le_of_ble_eq_true rfl, Nat.le_of_ble_eq_true rfl⟩ dX7_pay_24 (k_qV fun w_24 q_24 => ?_)
          obtain ⟨q1, q2, q3⟩ := q_24
          have hn1b := (q3 (m + 1) (by omega) (by omega)).trans hn1
          have hn2b := (q3 (m + 2) (by omega) (by omega)).trans hn2
          refine x_aload_n hM dX7_pay_27 rfl rfl ?_
          refine x_get hM wf_X7_13 wl_X7 q1 rfl dX7_pay_28 ?_
          refine x_iload_n hM dX7_pay_31 rfl rfl ?_
          refine x_dup2 hM dX7_pay_32 rfl rfl ?_
          refine x_lald hM hn2b (by omega) dX7_pay_33 ?_
          rw [hg o c1.1 (by omega)]
          refine x_iload_n hM dX7_pay_34 rfl rfl ?_
          refine x_i2l hM dX7_pay_35 ?_
          rw [iI_long hv]
          refine x_ladd hM dX7_pay_36 ?_
          refine x_last hM hn2b (by omega) dX7_pay_37 ?_
          have hmu : muA G (wS w_24 (m + 2) (aJ G 10 (fU g o (t.mon o + jJ c)))) m it (earnF t o (jJ c)) (recN it hs t) sg mn pl wr := ⟨R, (wS_ne (by omega)).trans q1, ⟨f, _, (wS_ne (by omega)).trans hn1b, hp, wS_eq, eqR_up hg _ _⟩, q2.kpf (wS_ne (by omega)) (wS_ne (by omega)), (hr.kpf (q3 _ (by omega) (by omega)) (q3 _ (by omega) (by omega))).kpf (wS_ne (by omega)) (wS_ne (by omega))⟩
          have hfm : Fm m w (wS w_24 (m + 2) (aJ G 10 (fU g o (t.mon o + jJ c)))) := (Fm.h q3).tr (Fm.m (Fr.wS (by omega) (by omega)))
          refine x_aload_n hM dX7_pay_38 rfl rfl ?_
          refine x_get hM wf_X7_13 wl_X7 ((wS_ne (by omega)).trans q1) rfl dX7_pay_39 ?_
          refine x_iload_n hM dX7_pay_42 rfl rfl ?_
          refine x_lald hM wS_eq (by omega) dX7_pay_43 ?_
          rw [fU_eq]
          refine x_lconst (z := 0) hM dX7_pay_44 rfl ?_
          refine x_lcmp hM dX7_pay_45 (fun z_45 z_45r z_45l z_45e => ?_)
          refine x_if_lt (tgt := 53) hM dX7_pay_46 (by decide) (by omega) (fun c_46 => ?_) (fun c_46 => ?_)
          · refine x_iconst hM dX7_pay_53 ?_
            refine hR.i dX7_pay_54 (Nat.zero_le _) (Nat.zero_le _) ?_
            first | exact p_mr (e1.trans (by rw [if_neg (fun q => absurd (z_45l.mpr q) (by omega))])) (by decide) hmu hfm | exact p_mr (e1.trans (by rw [if_pos (z_45l.mp (by assumption))])) (by decide) hmu hfm
          · refine x_iconst hM dX7_pay_49 ?_
            refine x_goto (tgt := 54) hM dX7_pay_50 (by decide) ?_
            refine hR.i dX7_pay_54 (Nat.zero_le _) (Nat.zero_le _) ?_
            first | exact p_mr (e1.trans (by rw [if_neg (fun q => absurd (z_45l.mpr q) (by omega))])) (by decide) hmu hfm | exact p_mr (e1.trans (by rw [if_pos (z_45l.mp (by assumption))])) (by decide) hmu hfm
        · exfalso; omega
      · exfalso; omega
    · have e1 : payF t o c = (-2, t) := by unfold payF; rw [if_pos c1, if_neg c2]
      refine x_aload_n hM dX7_pay_0 rfl rfl ?_
      refine x_iload_n hM dX7_pay_1 rfl rfl ?_
      refine x_callV hM wv_X7_77 (m_X7_isOwner (by assumption) (by omega)) ⟨Nat.le_of_ble_eq_true rfl, Nat.le_of_ble_eq_true rfl⟩ (by first | assumption | exact md_o (by assumption)) rfl rfl rfl rfl (Nat.le_of_ble_eq_true rfl) ⟨Nat.le_of_ble_eq_true rfl, Nat.le_of_ble_eq_true rfl⟩ dX7_pay_2 (k_rI ?_)
      rw [if_pos c1]
      refine x_if_ne (tgt := 10) hM dX7_pay_5 (by decide) (by omega) (fun c_5 => ?_) (fun c_5 => ?_)
      · refine x_iload_n hM dX7_pay_10 rfl rfl ?_
        refine x_iconst hM dX7_pay_11 ?_
        refine x_ldc hM dX7_pay_12 wc_X7_76 ?_
        refine x_callS hM ws_X7_62 (m_X7_in (by omega) (by omega) (by omega)) ⟨Nat.le_of_ble_eq_true rfl, Nat.le_of_ble_eq_true rfl⟩ rfl rfl (Nat.le_of_ble_eq_true rfl) ⟨Nat.le_of_ble_eq_true rfl, Nat.le_of_ble_eq_true rfl⟩ dX7_pay_14 (k_rI ?_)
        rw [if_neg c2]
        refine x_if_ne (tgt := 23) hM dX7_pay_17 (by decide) (by omega) (fun c_17 => ?_) (fun c_17 => ?_)
        · exfalso; omega
        · refine x_bipush hM dX7_pay_20 rfl ?_
          refine hR.i dX7_pay_22 (Nat.zero_le _) (Nat.zero_le _) ?_
          exact p_mr0 e1 (by decide) h
      · exfalso; omega
  · have e1 : payF t o c = (-1, t) := if_neg c1
    refine x_aload_n hM dX7_pay_0 rfl rfl ?_
    refine x_iload_n hM dX7_pay_1 rfl rfl ?_
    refine x_callV hM wv_X7_77 (m_X7_isOwner (by assumption) (by omega)) ⟨Nat.le_of_ble_eq_true rfl, Nat.le_of_ble_eq_true rfl⟩ (by first | assumption | exact md_o (by assumption)) rfl rfl rfl rfl (Nat.le_of_ble_eq_true rfl) ⟨Nat.le_of_ble_eq_true rfl, Nat.le_of_ble_eq_true rfl⟩ dX7_pay_2 (k_rI ?_)
    rw [if_neg c1]
    refine x_if_ne (tgt := 10) hM dX7_pay_5 (by decide) (by omega) (fun c_5 => ?_) (fun c_5 => ?_)
    · exfalso; omega
    · refine x_iconst hM dX7_pay_8 ?_
      refine hR.i dX7_pay_9 (Nat.zero_le _) (Nat.zero_le _) ?_
      exact p_mr0 e1 (by decide) h
