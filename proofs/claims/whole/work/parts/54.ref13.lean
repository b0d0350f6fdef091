/-! The reference: deals -/
def ddR : Nat → St → Int × St
  | 0, t => (-6, t)
  | k + 1, t => match t.D[t.D.length - (k + 1)]? with
    | none => (-6, t)
    | some q => if (goR t q).1 = 0 then (((t.D.length - (k + 1) : Nat) : Int), (goR t q).2) else ddR k (goR t q).2
theorem goR_y (t : St) (v : Tr) : ((goR t v).1 = 0 ∨ (goR t v).1 = 1) ∧ (goR t v).2.D = t.D := by
  unfold goR
  split
  · exact ⟨Or.inl rfl, rfl⟩
  · split
    · exact ⟨Or.inl rfl, rfl⟩
    · split
      · exact ⟨Or.inl rfl, rfl⟩
      · exact ⟨Or.inr rfl, rfl⟩
theorem ddR_y : ∀ (k : Nat) (t : St), ((ddR k t).1 = -6 ∨ (0 ≤ (ddR k t).1 ∧ (ddR k t).1 ≤ t.D.length)) ∧ (ddR k t).2.D = t.D := by
  intro k
  induction k with
  | zero => intro t; exact ⟨Or.inl rfl, rfl⟩
  | succ k ih =>
    intro t
    simp only [ddR]
    split
    · exact ⟨Or.inl rfl, rfl⟩
    · next q _ =>
      have h := goR_y t q
      split
      · refine ⟨Or.inr ⟨?_, ?_⟩, h.2⟩
        · show (0 : Int) ≤ ((t.D.length - (k + 1) : Nat) : Int); omega
        · show ((t.D.length - (k + 1) : Nat) : Int) ≤ _; omega
      · have g := ih (goR t q).2
        rw [h.2] at g
        exact g
theorem m_X7_doDeal {l : Launch} {G : xG} {w : Wd} {z m : Nat} {it : Int} {t : St} {hs : List St} {sg mn pl wr : Int} (h : muA G w m it t hs sg mn pl wr) : xMet l G yX7_doDeal cX7_doDeal 2 (some .int) ({ frames := 6, cells := 0, slots := 0, locals := 139 } : Room) [.ref m] w z (msP G w z m it hs sg mn pl wr (ddR t.D.length t)) := by
  have hdl : t.D.length ≤ 8 := by obtain ⟨R, -, ⟨f, g, -, hp, -⟩, -⟩ := id h; exact (np_d hp).1
  refine xMet_of RX7 rfl (by decide +kernel) false (by decide +kernel) (Nat.le_of_ble_eq_true rfl) rfl ?_
  intro P hM hR
  have K : ∀ (k i : Nat) (t1 : St) (w1 : Wd), i + k = t.D.length → t1.D = t.D → muA G w1 m it t1 hs sg mn pl wr → Fm m w w1 → ddR k t1 = ddR t.D.length t → P 2 [some (.ref m), some (.int (iI i))] [] w1 (z, 0, 0) := by
    intro k
    induction k with
    | zero =>
      intro i t1 w1 hi hD hmu hF hinv
      obtain ⟨R, hh, hn, hm, hr⟩ := id hmu
      obtain ⟨f, g, hn1, hp, hn2, hg⟩ := id hn
      have e0 : (t1.D.length : Int) = t.D.length := by rw [hD]
      refine x_iload_n hM dX7_doDeal_2 rfl rfl ?_
      refine x_aload_n hM dX7_doDeal_3 rfl rfl ?_
      refine x_get hM wf_X7_7 wl_X7 hh rfl dX7_doDeal_4 ?_
      refine x_bipush hM dX7_doDeal_7 rfl ?_
      refine x_iald hM hn1 (by omega) dX7_doDeal_9 ?_
      rw [np_m hp, e0]
      refine x_icmp_ge (tgt := 29) hM dX7_doDeal_10 (by decide) (by omega) (by omega) (fun c_10 => ?_) (fun c_10 => ?_)
      · refine x_bipush hM dX7_doDeal_29 rfl ?_
        refine hR.i dX7_doDeal_31 (Nat.zero_le _) (Nat.zero_le _) ?_
        exact p_ms (hinv.symm.trans rfl) hmu hF
      · exfalso; omega
    | succ k ih =>
      intro i t1 w1 hi hD hmu hF hinv
      obtain ⟨R, hh, hn, hm, hr⟩ := id hmu
      obtain ⟨f, g, hn1, hp, hn2, hg⟩ := id hn
      have e0 : (t1.D.length : Int) = t.D.length := by rw [hD]
      have hil : i < t1.D.length := by omega
      have gy := goR_y t1 t1.D[i]
      have e1 : t1.D.length - (k + 1) = i := by omega
      have e2 : ddR (k + 1) t1 = if (goR t1 t1.D[i]).1 = 0 then ((i : Int), (goR t1 t1.D[i]).2) else ddR k (goR t1 t1.D[i]).2 := by
        simp only [ddR]
        rw [e1, List.getElem?_eq_getElem hil]
      rw [e2] at hinv
      refine x_iload_n hM dX7_doDeal_2 rfl rfl ?_
      refine x_aload_n hM dX7_doDeal_3 rfl rfl ?_
      refine x_get hM wf_X7_7 wl_X7 hh rfl dX7_doDeal_4 ?_
      refine x_bipush hM dX7_doDeal_7 rfl ?_
      refine x_iald hM hn1 (by omega) dX7_doDeal_9 ?_
      rw [np_m hp, e0]
      refine x_icmp_ge (tgt := 29) hM dX7_doDeal_10 (by decide) (by omega) (by omega) (fun c_10 => ?_) (fun c_10 => ?_)
      · exfalso; omega
      · refine x_aload_n hM dX7_doDeal_13 rfl rfl ?_
        refine x_iload_n hM dX7_doDeal_14 rfl rfl ?_
        refine x_callV hM wv_X7_138 (m_X7_goes (i := i) hmu hil) ⟨Nat.le_of_ble_eq_true rfl, Nat.le_of_ble_eq_true rfl⟩ hh rfl rfl rfl rfl (Nat.le_of_ble_eq_true rfl) ⟨Nat.le_of_ble_eq_true rfl, Nat.le_of_ble_eq_true rfl⟩ dX7_doDeal_15 (k_qI fun x_15 w_15 q_15 => ?_)
        obtain ⟨rfl, qa, qf⟩ := q_15
        refine x_if_ne (tgt := 23) hM dX7_doDeal_18 (by decide) (by omega) (fun c_18 => ?_) (fun c_18 => ?_)
        · refine x_iinc hM dX7_doDeal_23 rfl rfl rfl ?_
          refine x_goto (tgt := 2) hM dX7_doDeal_26 (by decide) ?_
          exact ih (i + 1) _ _ (by omega) (gy.2.trans hD) qa (hF.tr qf) ((if_neg (by assumption)).symm.trans hinv)
        · refine x_iload_n hM dX7_doDeal_21 rfl rfl ?_
          refine hR.i dX7_doDeal_22 (Nat.zero_le _) (Nat.zero_le _) ?_
          exact p_ms (hinv.symm.trans (if_pos (by omega))) qa (hF.tr qf)
  refine x_iconst hM dX7_doDeal_0 ?_
  refine x_istore_n hM dX7_doDeal_1 rfl rfl (Nat.le_of_ble_eq_true rfl) rfl ?_
  exact K t.D.length 0 t w (by omega) rfl h Fm.rf rfl
def Fk (m : Nat) (w w1 : Wd) : Prop := ∀ q : Nat, q ≠ m → q ≠ m + 1 → q ≠ m + 2 → q ≠ m + 3 → q ≠ m + 4 → q ≠ m + 6 → q ≠ m + 7 → q ≠ m + 12 → q ≠ m + 13 → w1 q = w q
theorem Fk.rf {m : Nat} {w : Wd} : Fk m w w := fun _ _ _ _ _ _ _ _ _ _ => rfl
theorem Fk.tr {m : Nat} {w w1 w2 : Wd} (h1 : Fk m w w1) (h2 : Fk m w1 w2) : Fk m w w2 := fun q a b c d e f g x y => (h2 q a b c d e f g x y).trans (h1 q a b c d e f g x y)
theorem Fm.k {m : Nat} {w w1 : Wd} (h : Fm m w w1) : Fk m w w1 := fun q a b c _ _ f g x y => h q a b c f g x y
theorem Fk.ke {m : Nat} {w w1 : Wd} (h : Fr (m + 3) (m + 5) w w1) : Fk m w w1 := fun q a b c d e f g x y => h q (by omega)
theorem Fm.kpA {G : xG} {m : Nat} {w w1 : Wd} (h : Fm m w w1) (k : kpA G w m) : kpA G w1 m := by
  obtain ⟨f, g, h1, h2⟩ := k
  exact ⟨f, g, (h _ (by omega) (by omega) (by omega) (by omega) (by omega) (by omega) (by omega)).trans h1, (h _ (by omega) (by omega) (by omega) (by omega) (by omega) (by omega) (by omega)).trans h2⟩
theorem Fm.kpT {G : xG} {m : Nat} {w w1 : Wd} {t : St} (h : Fm m w w1) (k : kpT G w m t) : kpT G w1 m t := by
  obtain ⟨f, g, h1, h2, h3, h4⟩ := k
  exact ⟨f, g, (h _ (by omega) (by omega) (by omega) (by omega) (by omega) (by omega) (by omega)).trans h1, h2, (h _ (by omega) (by omega) (by omega) (by omega) (by omega) (by omega) (by omega)).trans h3, h4⟩
theorem muA.ke {G : xG} {w w1 : Wd} {m : Nat} {it : Int} {t : St} {hs : List St} {sg mn pl wr : Int} (h : muA G w m it t hs sg mn pl wr) (k : Fr (m + 3) (m + 5) w w1) : muA G w1 m it t hs sg mn pl wr := by
  obtain ⟨R, hh, hn, hm, hr⟩ := h
  exact ⟨R, (k _ (by omega)).trans hh, hn.kpf (k _ (by omega)) (k _ (by omega)), hm.kpf (k _ (by omega)) (k _ (by omega)), hr.kpf (k _ (by omega)) (k _ (by omega))⟩
theorem muA.cb {G : xG} {w w1 : Wd} {m : Nat} {it : Int} {t t2 : St} {hs : List St} {sg mn pl wr : Int} (h : muA G w m it t hs sg mn pl wr) (k : Fr (m + 1) (m + 3) w w1) (hn2 : nowA G w1 m t2) : muA G w1 m it t2 hs sg mn pl wr := by
  obtain ⟨R, hh, hn, hm, hr⟩ := h
  exact ⟨R, (k _ (by omega)).trans hh, hn2, hm.kpf (k _ (by omega)) (k _ (by omega)), hr.kpf (k _ (by omega)) (k _ (by omega))⟩
abbrev mkP (G : xG) (w : Wd) (z m : Nat) (it : Int) (t : St) (hs : List St) (sg mn pl wr v : Int) : xPo := qI z fun y w1 => y = v ∧ muA G w1 m it t hs sg mn pl wr ∧ kpA G w1 m ∧ Fk m w w1
theorem m_X7_failing {l : Launch} {G : xG} {w : Wd} {z m : Nat} {it : Int} {t : St} {hs : List St} {sg mn pl wr : Int} (h : muA G w m it t hs sg mn pl wr) (hk : kpA G w m) : xMet l G yX7_failing cX7_failing 2 (some .int) ({ frames := 7, cells := 0, slots := 0, locals := 160 } : Room) [.ref m] w z (mkP G w z m it t hs sg mn pl wr (ddR t.D.length t).1) := by
  obtain ⟨R, hh, hn, hm, hr⟩ := id h
  refine xMet_of RX7 rfl (by decide +kernel) false (by decide +kernel) (Nat.le_of_ble_eq_true rfl) rfl ?_
  intro P hM hR
  refine x_aload_n hM dX7_failing_0 rfl rfl ?_
  refine x_callV hM wv_X7_141 (m_X7_keep ⟨_, _, _, _, _, _, _, hh⟩ hn hk) ⟨Nat.le_of_ble_eq_true rfl, Nat.le_of_ble_eq_true rfl⟩ hh rfl rfl rfl rfl (Nat.le_of_ble_eq_true rfl) ⟨Nat.le_of_ble_eq_true rfl, Nat.le_of_ble_eq_true rfl⟩ dX7_failing_1 (k_qV fun w_1 q_1 => ?_)
  obtain ⟨k1, k2⟩ := q_1
  have h2 := h.ke k2
  obtain ⟨R2, hh2, -⟩ := id h2
  refine x_aload_n hM dX7_failing_4 rfl rfl ?_
  refine x_callV hM wv_X7_144 (m_X7_doDeal h2) ⟨Nat.le_of_ble_eq_true rfl, Nat.le_of_ble_eq_true rfl⟩ hh2 rfl rfl rfl rfl (Nat.le_of_ble_eq_true rfl) ⟨Nat.le_of_ble_eq_true rfl, Nat.le_of_ble_eq_true rfl⟩ dX7_failing_5 (k_qI fun x_5 w_5 q_5 => ?_)
  obtain ⟨rfl, h3, f3⟩ := q_5
  have kt3 := f3.kpT k1
  obtain ⟨R3, hh3, hn3, -⟩ := id h3
  refine x_istore_n hM dX7_failing_8 rfl rfl (Nat.le_of_ble_eq_true rfl) rfl ?_
  refine x_aload_n hM dX7_failing_9 rfl rfl ?_
  refine x_callV hM wv_X7_147 (m_X7_comeBack ⟨_, _, _, _, _, _, _, hh3⟩ hn3 kt3) ⟨Nat.le_of_ble_eq_true rfl, Nat.le_of_ble_eq_true rfl⟩ hh3 rfl rfl rfl rfl (Nat.le_of_ble_eq_true rfl) ⟨Nat.le_of_ble_eq_true rfl, Nat.le_of_ble_eq_true rfl⟩ dX7_failing_10 (k_qV fun w_10 q_10 => ?_)
  obtain ⟨n4, f4⟩ := q_10
  have h4 := h3.cb f4 n4
  have k4 : kpA G w_10 m := by obtain ⟨fa, ga, b1, b2⟩ := kt3.a; exact ⟨fa, ga, (f4 _ (by omega)).trans b1, (f4 _ (by omega)).trans b2⟩
  refine x_iload_n hM dX7_failing_13 rfl rfl ?_
  refine hR.i dX7_failing_14 (Nat.zero_le _) (Nat.zero_le _) ?_
  exact p_qI ⟨rfl, h4, k4, ((Fk.ke k2).tr f3.k).tr (Fm.m f4).k⟩
theorem nowP_cl {f : Int → Int} {t : St} (h : nowP f t) : nowP (fU (fU f 8 0) 9 (t.clo + 1)) (mkS t.L t.set t.mon t.tax t.los [] t.own t.day (t.clo + 1) t.fee) := by
  obtain ⟨p1, p2, p3, p4, p5, p6, p7, p8, p9, p10, p11, p12, p13⟩ := h
  have e : ∀ j : Int, j ≠ 8 → j ≠ 9 → (fU (fU f 8 0) 9 (t.clo + 1)) j = f j := fun j a b => by rw [fU_ne b, fU_ne a]
  refine ⟨p1, ⟨Nat.zero_le 8, fun v hv => absurd hv List.not_mem_nil⟩, p3, fun j a b => (e j (by omega) (by omega)).trans (p4 j a b), (e 5 (by omega) (by omega)).trans p5, (e 6 (by omega) (by omega)).trans p6, (e 7 (by omega) (by omega)).trans p7, ?_, fU_eq, (e 10 (by omega) (by omega)).trans p10, fun q a b => ?_, fun i hi => absurd hi (Nat.not_lt_zero _), fun i hi => ?_⟩
  · rw [fU_ne (by omega), fU_eq]; rfl
  · rw [e _ (by omega) (by omega), e _ (by omega) (by omega)]; exact p11 q a b
  · rw [e _ (by omega) (by omega), e _ (by omega) (by omega)]; exact p13 i hi
def clR (t : St) : Int × St := if (t.D.length : Int) = 0 ∨ 0 ≤ (ddR t.D.length t).1 then (-5, t) else ((t.D.length : Int), mkS (ddR t.D.length t).2.L (ddR t.D.length t).2.set (ddR t.D.length t).2.mon (ddR t.D.length t).2.tax (ddR t.D.length t).2.los [] (ddR t.D.length t).2.own (ddR t.D.length t).2.day ((ddR t.D.length t).2.clo + 1) (ddR t.D.length t).2.fee)
abbrev mcP (G : xG) (w : Wd) (z m : Nat) (it : Int) (t : St) (hs : List St) (sg mn pl wr : Int) (r : Int × St) : xPo := qI z fun y w1 => y = r.1 ∧ muA G w1 m it r.2 (hisR it hs t r.1) sg mn pl wr ∧ kpA G w1 m ∧ Fk m w w1
theorem p_mc0 {G : xG} {w w1 : Wd} {z m : Nat} {it y : Int} {t : St} {hs : List St} {sg mn pl wr : Int} {r : Int × St} (e : r = (y, t)) (hy : y < 0) (h : muA G w1 m it t hs sg mn pl wr) (hk : kpA G w1 m) (k : Fk m w w1) : mcP G w z m it t hs sg mn pl wr r (some (.int (iI y))) w1 z := by
  subst e
  exact p_qI ⟨rfl, by unfold hisR; rw [if_pos hy]; exact h, hk, k⟩
theorem p_mc {G : xG} {w w1 : Wd} {z m : Nat} {it y : Int} {t t2 : St} {hs : List St} {sg mn pl wr : Int} {r : Int × St} (e : r = (y, t2)) (hy : 0 ≤ y) (h : muA G w1 m it t2 (recN it hs t) sg mn pl wr) (hk : kpA G w1 m) (k : Fk m w w1) : mcP G w z m it t hs sg mn pl wr r (some (.int (iI y))) w1 z := by
  subst e
  exact p_qI ⟨rfl, by unfold hisR; rw [if_neg (by omega)]; exact h, hk, k⟩
theorem m_X7_close {l : Launch} {G : xG} {w : Wd} {z m : Nat} {it : Int} {t : St} {hs : List St} {sg mn pl wr : Int} (h : muA G w m it t hs sg mn pl wr) (hit : it = 0 ∨ it = 1) (hk : kpA G w m) : xMet l G yX7_close cX7_close 2 (some .int) ({ frames := 8, cells := 0, slots := 0, locals := 181 } : Room) [.ref m] w z (mcP G w z m it t hs sg mn pl wr (clR t)) := by
  obtain ⟨R, hh, hn, hm, hr⟩ := id h
  obtain ⟨f, g, hn1, hp, hn2, hg⟩ := id hn
  have hdl := (np_d hp).1
  have hy := ddR_y t.D.length t
  have hD2 : ((ddR t.D.length t).2.D.length : Int) = t.D.length := by rw [hy.2]
  refine xMet_of RX7 rfl (by decide +kernel) false (by decide +kernel) (Nat.le_of_ble_eq_true rfl) rfl ?_
  intro P hM hR
  by_cases c1 : (t.D.length : Int) = 0
  · skip
    refine x_aload_n hM dX7_close_0 rfl rfl ?_
    refine x_get hM wf_X7_7 wl_X7 hh rfl dX7_close_1 ?_
    refine x_bipush hM dX7_close_4 rfl ?_
    refine x_iald hM hn1 (by omega) dX7_close_6 ?_
    rw [np_m hp]
    refine x_if_eq (tgt := 17) hM dX7_close_7 (by decide) (by omega) (fun c_7 => ?_) (fun c_7 => ?_)
    · refine x_bipush hM dX7_close_17 rfl ?_
      refine hR.i dX7_close_19 (Nat.zero_le _) (Nat.zero_le _) ?_
      exact p_mc0 (if_pos (Or.inl c1)) (by decide) h hk Fk.rf
    · exfalso; omega
  · skip
    refine x_aload_n hM dX7_close_0 rfl rfl ?_
    refine x_get hM wf_X7_7 wl_X7 hh rfl dX7_close_1 ?_
    refine x_bipush hM dX7_close_4 rfl ?_
    refine x_iald hM hn1 (by omega) dX7_close_6 ?_
    rw [np_m hp]
    refine x_if_eq (tgt := 17) hM dX7_close_7 (by decide) (by omega) (fun c_7 => ?_) (fun c_7 => ?_)
    · exfalso; omega
    · refine x_aload_n hM dX7_close_10 rfl rfl ?_
      refine x_callV hM wv_X7_150 (m_X7_failing h hk) ⟨Nat.le_of_ble_eq_true rfl, Nat.le_of_ble_eq_true rfl⟩ hh rfl rfl rfl rfl (Nat.le_of_ble_eq_true rfl) ⟨Nat.le_of_ble_eq_true rfl, Nat.le_of_ble_eq_true rfl⟩ dX7_close_11 (k_qI fun x_11 w_11 q_11 => ?_)
      obtain ⟨rfl, h2, k2, f2⟩ := q_11
      obtain ⟨R2, hh2, hnb, hmb, hrb⟩ := id h2
      refine x_if_lt (tgt := 20) hM dX7_close_14 (by decide) (by omega) (fun c_14 => ?_) (fun c_14 => ?_)
      · refine x_aload_n hM dX7_close_20 rfl rfl ?_
        refine x_callV hM wv_X7_73 (m_X7_record hh2 hnb hmb hit) ⟨Nat.le_of_ble_eq_true rfl, Nat.le_of_ble_eq_true rfl⟩ hh2 rfl rfl rfl rfl (Nat.le_of_ble_eq_true rfl) ⟨Nat.le_of_ble_eq_true rfl, Nat.le_of_ble_eq_true rfl⟩ dX7_close_21 (k_qV fun w_21 q_21 => ?_)
        obtain ⟨g1, g2, g3⟩ := q_21
        have h3 := mu_rec (hs := hs) hnb hrb g1 g2 g3
        have k3 := (Fm.h g3).kpA k2
        refine x_aload_n hM dX7_close_24 rfl rfl ?_
        refine x_callV hM wv_X7_144 (m_X7_doDeal h3) ⟨Nat.le_of_ble_eq_true rfl, Nat.le_of_ble_eq_true rfl⟩ g1 rfl rfl rfl rfl (Nat.le_of_ble_eq_true rfl) ⟨Nat.le_of_ble_eq_true rfl, Nat.le_of_ble_eq_true rfl⟩ dX7_close_25 (k_qI fun x_25 w_25 q_25 => ?_)
        obtain ⟨-, h4, f4⟩ := q_25
        have k4 := f4.kpA k3
        obtain ⟨R4, hh4, hn4, hm4, hr4⟩ := id h4
        obtain ⟨fa, ga, b1, pa, b2, eg⟩ := id hn4
        refine x_pop hM dX7_close_28 rfl ?_
        refine x_aload_n hM dX7_close_29 rfl rfl ?_
        refine x_get hM wf_X7_7 wl_X7 hh4 rfl dX7_close_30 ?_
        refine x_bipush hM dX7_close_33 rfl ?_
        refine x_iald hM b1 (by omega) dX7_close_35 ?_
        rw [np_m pa, hD2]
        refine x_istore_n hM dX7_close_36 rfl rfl (Nat.le_of_ble_eq_true rfl) rfl ?_
        refine x_aload_n hM dX7_close_37 rfl rfl ?_
        refine x_get hM wf_X7_7 wl_X7 hh4 rfl dX7_close_38 ?_
        refine x_bipush hM dX7_close_41 rfl ?_
        refine x_iconst hM dX7_close_43 ?_
        refine x_iast hM b1 (by omega) dX7_close_44 ?_
        refine x_aload_n hM dX7_close_45 rfl rfl ?_
        refine x_get hM wf_X7_7 wl_X7 ((wS_ne (by omega)).trans hh4) rfl dX7_close_46 ?_
        refine x_bipush hM dX7_close_49 rfl ?_
        refine x_dup2 hM dX7_close_51 rfl rfl ?_
        refine x_iald hM wS_eq (by omega) dX7_close_52 ?_
        rw [fU_ne (by omega), np_clo pa]
        refine x_iconst hM dX7_close_53 ?_
        refine x_iadd hM dX7_close_54 ?_
        refine x_iast hM wS_eq (by omega) dX7_close_55 ?_
        rw [wS_2]
        refine x_iload_n hM dX7_close_56 rfl rfl ?_
        refine hR.i dX7_close_57 (Nat.zero_le _) (Nat.zero_le _) ?_
        have fz := (Fm.n (wF (w := w_25) (q := m + 1) (e := aI G 400 (fU (fU fa 8 0) 9 ((ddR t.D.length t).2.clo + 1)))))
        exact p_mc (if_neg (fun q => by rcases q with q | q; exact c1 q; exact absurd q (by omega))) (by omega) ⟨R4, (wS_ne (by omega)).trans hh4, ⟨_, ga, wS_eq, nowP_cl pa, (wS_ne (by omega)).trans b2, eg⟩, hm4.kpf (wS_ne (by omega)) (wS_ne (by omega)), hr4.kpf (wS_ne (by omega)) (wS_ne (by omega))⟩ (fz.kpA k4) (((f2.tr (Fm.h g3).k).tr f4.k).tr fz.k)
      · refine x_bipush hM dX7_close_17 rfl ?_
        refine hR.i dX7_close_19 (Nat.zero_le _) (Nat.zero_le _) ?_
        exact p_mc0 (if_pos (Or.inr (by assumption))) (by decide) h2 k2 f2
