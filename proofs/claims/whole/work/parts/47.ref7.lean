/-! The reference: pictures of all; keep, comeBack, record -/
theorem nowP_ext {f g : Int → Int} {t : St} (h : nowP f t) (e : eqR 400 g f) : nowP g t := by
  obtain ⟨p1, p2, p3, p4, p5, p6, p7, p8, p9, p10, p11, p12, p13⟩ := h
  have hd := p2.1
  have hl := p3.1
  refine ⟨p1, p2, p3, fun j a b => (e j a (by omega)).trans (p4 j a b), (e 5 (by decide) (by decide)).trans p5, (e 6 (by decide) (by decide)).trans p6, (e 7 (by decide) (by decide)).trans p7, (e 8 (by decide) (by decide)).trans p8, (e 9 (by decide) (by decide)).trans p9, (e 10 (by decide) (by decide)).trans p10, fun q a b => ?_, fun i hi k a b => ?_, fun i hi => ?_⟩
  · rw [e _ (by omega) (by omega), e _ (by omega) (by omega)]; exact p11 q a b
  · rw [e _ (by omega) (by omega)]; exact p12 i hi k a b
  · rw [e _ (by omega) (by omega), e _ (by omega) (by omega)]; exact p13 i hi
def nowA (G : xG) (w : Wd) (m : Nat) (t : St) : Prop := ∃ (f : Int → Int) (g : Int → Int64), w (m + 1) = some (aI G 400 f) ∧ nowP f t ∧ w (m + 2) = some (aJ G 10 g) ∧ eqR 10 g t.mon
def kpA (G : xG) (w : Wd) (m : Nat) : Prop := ∃ (f : Int → Int) (g : Int → Int64), w (m + 3) = some (aI G 400 f) ∧ w (m + 4) = some (aJ G 10 g)
def kpT (G : xG) (w : Wd) (m : Nat) (t : St) : Prop := ∃ (f : Int → Int) (g : Int → Int64), w (m + 3) = some (aI G 400 f) ∧ nowP f t ∧ w (m + 4) = some (aJ G 10 g) ∧ eqR 10 g t.mon
def hmA (G : xG) (w : Wd) (m : Nat) (hs : List St) : Prop := ∃ (f : Int → Int) (g : Int → Int64), w (m + 6) = some (aI G 2400 f) ∧ w (m + 7) = some (aJ G 60 g) ∧ hs.length ≤ 6 ∧ ∀ (i : Nat) (h : i < hs.length), nowP (fun j => f (i * 400 + j)) hs[i] ∧ eqR 10 (fun j => g (i * 10 + j)) hs[i].mon
theorem nowA.kpf {G : xG} {w w1 : Wd} {m : Nat} {t : St} (h : nowA G w m t) (k1 : w1 (m + 1) = w (m + 1)) (k2 : w1 (m + 2) = w (m + 2)) : nowA G w1 m t := by
  obtain ⟨f, g, h1, h2, h3, h4⟩ := h
  exact ⟨f, g, k1.trans h1, h2, k2.trans h3, h4⟩
theorem kpA.kpf {G : xG} {w w1 : Wd} {m : Nat} (h : kpA G w m) (k1 : w1 (m + 3) = w (m + 3)) (k2 : w1 (m + 4) = w (m + 4)) : kpA G w1 m := by
  obtain ⟨f, g, h1, h2⟩ := h
  exact ⟨f, g, k1.trans h1, k2.trans h2⟩
theorem kpT.kpf {G : xG} {w w1 : Wd} {m : Nat} {t : St} (h : kpT G w m t) (k1 : w1 (m + 3) = w (m + 3)) (k2 : w1 (m + 4) = w (m + 4)) : kpT G w1 m t := by
  obtain ⟨f, g, h1, h2, h3, h4⟩ := h
  exact ⟨f, g, k1.trans h1, h2, k2.trans h3, h4⟩
theorem kpT.a {G : xG} {w : Wd} {m : Nat} {t : St} (h : kpT G w m t) : kpA G w m := by
  obtain ⟨f, g, h1, -, h3, -⟩ := h
  exact ⟨f, g, h1, h3⟩
theorem hmA.kpf {G : xG} {w w1 : Wd} {m : Nat} {hs : List St} (h : hmA G w m hs) (k1 : w1 (m + 6) = w (m + 6)) (k2 : w1 (m + 7) = w (m + 7)) : hmA G w1 m hs := by
  obtain ⟨f, g, h1, h2, h3⟩ := h
  exact ⟨f, g, k1.trans h1, k2.trans h2, h3⟩
abbrev hdE (w : Wd) (m : Nat) : Prop := ∃ un sg it rw mn pl wr : Int, w m = some (hdV m un sg it rw mn pl wr)
theorem m_X7_keep {l : Launch} {G : xG} {w : Wd} {z m : Nat} {t : St} (hd : hdE w m) (hn : nowA G w m t) (hk : kpA G w m) : xMet l G yX7_keep cX7_keep 2 none ({ frames := 0, cells := 0, slots := 0, locals := 0 } : Room) [.ref m] w z (qV z fun w1 => kpT G w1 m t ∧ Fr (m + 3) (m + 5) w w1) := by
  obtain ⟨un, sg, it, rw', mn, pl, wr, hh⟩ := id hd
  obtain ⟨fB, gB, hB1, hp, hB2, hg⟩ := id hn
  obtain ⟨fA, gA, hA1, hA2⟩ := id hk
  refine xMet_of RX7 rfl (by decide +kernel) false (by decide +kernel) (Nat.le_of_ble_eq_true rfl) rfl ?_
  intro P hM hR
  have K2 : ∀ (k i : Nat) (ga : Int → Int) (gb : Int → Int64) (w1 : Wd), i + k = 10 → w1 (m + 3) = some (aI G 400 ga) → w1 (m + 4) = some (aJ G 10 gb) → Fr (m + 3) (m + 5) w w1 → eqR 400 ga fB → eqR i gb gB → P 29 [some (.ref m), some (.int (iI i))] [] w1 (z, 0, 0) := by
    intro k
    induction k with
    | zero =>
      intro i ga gb w1 hi h1 h2 hF e1 e2
      refine x_iload_n hM dX7_keep_29 rfl rfl ?_
      refine x_bipush hM dX7_keep_30 rfl ?_
      refine x_icmp_ge (tgt := 53) hM dX7_keep_32 (by decide) (by omega) (by omega) (fun c_32 => ?_) (fun c_32 => ?_)
      · refine hR.v dX7_keep_53 (Nat.zero_le _) (Nat.zero_le _) ?_
        have hi0 : i = 10 := by omega
        subst hi0
        exact p_qV ⟨⟨ga, gb, h1, nowP_ext hp e1, h2, fun j a b => (e2 j a b).trans (hg j a b)⟩, hF⟩
      · exfalso; omega
    | succ k ih =>
      intro i ga gb w1 hi h1 h2 hF e1 e2
      have hh1 := (hF m (by omega)).trans hh
      have hb1 := (hF (m + 2) (by omega)).trans hB2
      refine x_iload_n hM dX7_keep_29 rfl rfl ?_
      refine x_bipush hM dX7_keep_30 rfl ?_
      refine x_icmp_ge (tgt := 53) hM dX7_keep_32 (by decide) (by omega) (by omega) (fun c_32 => ?_) (fun c_32 => ?_)
      · exfalso; omega
      · refine x_aload_n hM dX7_keep_35 rfl rfl ?_
        refine x_get hM wf_X7_20 wl_X7 hh1 rfl dX7_keep_36 ?_
        refine x_iload_n hM dX7_keep_39 rfl rfl ?_
        refine x_aload_n hM dX7_keep_40 rfl rfl ?_
        refine x_get hM wf_X7_13 wl_X7 hh1 rfl dX7_keep_41 ?_
        refine x_iload_n hM dX7_keep_44 rfl rfl ?_
        refine x_lald hM hb1 (by omega) dX7_keep_45 ?_
        refine x_last hM h2 (by omega) dX7_keep_46 ?_
        refine x_iinc hM dX7_keep_47 rfl rfl rfl ?_
        refine x_goto (tgt := 29) hM dX7_keep_50 (by decide) ?_
        exact ih (i + 1) ga _ _ (by omega) ((wS_ne (by omega)).trans h1) wS_eq (hF.tr (Fr.wS (by omega) (by omega))) e1 (fun j a b => by by_cases q : j = (i : Int); rw [q, fU_eq]; rw [fU_ne q]; exact e2 j a (by omega))
  have K1 : ∀ (k i : Nat) (ga : Int → Int) (w1 : Wd), i + k = 400 → w1 (m + 3) = some (aI G 400 ga) → Fr (m + 3) (m + 5) w w1 → w1 (m + 4) = w (m + 4) → eqR i ga fB → P 2 [some (.ref m), some (.int (iI i))] [] w1 (z, 0, 0) := by
    intro k
    induction k with
    | zero =>
      intro i ga w1 hi h1 hF h2 e1
      have hi0 : i = 400 := by omega
      subst hi0
      refine x_iload_n hM dX7_keep_2 rfl rfl ?_
      refine x_sipush hM dX7_keep_3 rfl ?_
      refine x_icmp_ge (tgt := 27) hM dX7_keep_6 (by decide) (by omega) (by omega) (fun c_6 => ?_) (fun c_6 => ?_)
      · refine x_iconst hM dX7_keep_27 ?_
        refine x_istore_n hM dX7_keep_28 rfl rfl (Nat.le_of_ble_eq_true rfl) rfl ?_
        exact K2 10 0 ga _ _ rfl h1 (h2.trans hA2) hF e1 (fun j a b => by omega)
      · exfalso; omega
    | succ k ih =>
      intro i ga w1 hi h1 hF h2 e1
      have hh1 := (hF m (by omega)).trans hh
      have hb1 := (hF (m + 1) (by omega)).trans hB1
      refine x_iload_n hM dX7_keep_2 rfl rfl ?_
      refine x_sipush hM dX7_keep_3 rfl ?_
      refine x_icmp_ge (tgt := 27) hM dX7_keep_6 (by decide) (by omega) (by omega) (fun c_6 => ?_) (fun c_6 => ?_)
      · exfalso; omega
      · refine x_aload_n hM dX7_keep_9 rfl rfl ?_
        refine x_get hM wf_X7_17 wl_X7 hh1 rfl dX7_keep_10 ?_
        refine x_iload_n hM dX7_keep_13 rfl rfl ?_
        refine x_aload_n hM dX7_keep_14 rfl rfl ?_
        refine x_get hM wf_X7_7 wl_X7 hh1 rfl dX7_keep_15 ?_
        refine x_iload_n hM dX7_keep_18 rfl rfl ?_
        refine x_iald hM hb1 (by omega) dX7_keep_19 ?_
        refine x_iast hM h1 (by omega) dX7_keep_20 ?_
        refine x_iinc hM dX7_keep_21 rfl rfl rfl ?_
        refine x_goto (tgt := 2) hM dX7_keep_24 (by decide) ?_
        exact ih (i + 1) _ _ (by omega) wS_eq (hF.tr (Fr.wS (by omega) (by omega))) ((wS_ne (by omega)).trans h2) (fun j a b => by by_cases q : j = (i : Int); rw [q, fU_eq]; rw [fU_ne q]; exact e1 j a (by omega))
  refine x_iconst hM dX7_keep_0 ?_
  refine x_istore_n hM dX7_keep_1 rfl rfl (Nat.le_of_ble_eq_true rfl) rfl ?_
  exact K1 400 0 _ _ rfl hA1 Fr.rf rfl (fun j a b => by omega)
theorem m_X7_comeBack {l : Launch} {G : xG} {w : Wd} {z m : Nat} {t : St} {t0 : St} (hd : hdE w m) (hn : nowA G w m t0) (hk : kpT G w m t) : xMet l G yX7_comeBack cX7_comeBack 2 none ({ frames := 0, cells := 0, slots := 0, locals := 0 } : Room) [.ref m] w z (qV z fun w1 => nowA G w1 m t ∧ Fr (m + 1) (m + 3) w w1) := by
  obtain ⟨un, sg, it, rw', mn, pl, wr, hh⟩ := id hd
  obtain ⟨fB, gB, hB1, hp, hB2, hg⟩ := id hk
  obtain ⟨fA, gA, hA1, -, hA2, -⟩ := id hn
  refine xMet_of RX7 rfl (by decide +kernel) false (by decide +kernel) (Nat.le_of_ble_eq_true rfl) rfl ?_
  intro P hM hR
  have K2 : ∀ (k i : Nat) (ga : Int → Int) (gb : Int → Int64) (w1 : Wd), i + k = 10 → w1 (m + 1) = some (aI G 400 ga) → w1 (m + 2) = some (aJ G 10 gb) → Fr (m + 1) (m + 3) w w1 → eqR 400 ga fB → eqR i gb gB → P 29 [some (.ref m), some (.int (iI i))] [] w1 (z, 0, 0) := by
    intro k
    induction k with
    | zero =>
      intro i ga gb w1 hi h1 h2 hF e1 e2
      refine x_iload_n hM dX7_comeBack_29 rfl rfl ?_
      refine x_bipush hM dX7_comeBack_30 rfl ?_
      refine x_icmp_ge (tgt := 53) hM dX7_comeBack_32 (by decide) (by omega) (by omega) (fun c_32 => ?_) (fun c_32 => ?_)
      · refine hR.v dX7_comeBack_53 (Nat.zero_le _) (Nat.zero_le _) ?_
        have hi0 : i = 10 := by omega
        subst hi0
        exact p_qV ⟨⟨ga, gb, h1, nowP_ext hp e1, h2, fun j a b => (e2 j a b).trans (hg j a b)⟩, hF⟩
      · exfalso; omega
    | succ k ih =>
      intro i ga gb w1 hi h1 h2 hF e1 e2
      have hh1 := (hF m (by omega)).trans hh
      have hb1 := (hF (m + 4) (by omega)).trans hB2
      refine x_iload_n hM dX7_comeBack_29 rfl rfl ?_
      refine x_bipush hM dX7_comeBack_30 rfl ?_
      refine x_icmp_ge (tgt := 53) hM dX7_comeBack_32 (by decide) (by omega) (by omega) (fun c_32 => ?_) (fun c_32 => ?_)
      · exfalso; omega
      · refine x_aload_n hM dX7_comeBack_35 rfl rfl ?_
        refine x_get hM wf_X7_13 wl_X7 hh1 rfl dX7_comeBack_36 ?_
        refine x_iload_n hM dX7_comeBack_39 rfl rfl ?_
        refine x_aload_n hM dX7_comeBack_40 rfl rfl ?_
        refine x_get hM wf_X7_20 wl_X7 hh1 rfl dX7_comeBack_41 ?_
        refine x_iload_n hM dX7_comeBack_44 rfl rfl ?_
        refine x_lald hM hb1 (by omega) dX7_comeBack_45 ?_
        refine x_last hM h2 (by omega) dX7_comeBack_46 ?_
        refine x_iinc hM dX7_comeBack_47 rfl rfl rfl ?_
        refine x_goto (tgt := 29) hM dX7_comeBack_50 (by decide) ?_
        exact ih (i + 1) ga _ _ (by omega) ((wS_ne (by omega)).trans h1) wS_eq (hF.tr (Fr.wS (by omega) (by omega))) e1 (fun j a b => by by_cases q : j = (i : Int); rw [q, fU_eq]; rw [fU_ne q]; exact e2 j a (by omega))
  have K1 : ∀ (k i : Nat) (ga : Int → Int) (w1 : Wd), i + k = 400 → w1 (m + 1) = some (aI G 400 ga) → Fr (m + 1) (m + 3) w w1 → w1 (m + 2) = w (m + 2) → eqR i ga fB → P 2 [some (.ref m), some (.int (iI i))] [] w1 (z, 0, 0) := by
    intro k
    induction k with
    | zero =>
      intro i ga w1 hi h1 hF h2 e1
      have hi0 : i = 400 := by omega
      subst hi0
      refine x_iload_n hM dX7_comeBack_2 rfl rfl ?_
      refine x_sipush hM dX7_comeBack_3 rfl ?_
      refine x_icmp_ge (tgt := 27) hM dX7_comeBack_6 (by decide) (by omega) (by omega) (fun c_6 => ?_) (fun c_6 => ?_)
      · refine x_iconst hM dX7_comeBack_27 ?_
        refine x_istore_n hM dX7_comeBack_28 rfl rfl (Nat.le_of_ble_eq_true rfl) rfl ?_
        exact K2 10 0 ga _ _ rfl h1 (h2.trans hA2) hF e1 (fun j a b => by omega)
      · exfalso; omega
    | succ k ih =>
      intro i ga w1 hi h1 hF h2 e1
      have hh1 := (hF m (by omega)).trans hh
      have hb1 := (hF (m + 3) (by omega)).trans hB1
      refine x_iload_n hM dX7_comeBack_2 rfl rfl ?_
      refine x_sipush hM dX7_comeBack_3 rfl ?_
      refine x_icmp_ge (tgt := 27) hM dX7_comeBack_6 (by decide) (by omega) (by omega) (fun c_6 => ?_) (fun c_6 => ?_)
      · exfalso; omega
      · refine x_aload_n hM dX7_comeBack_9 rfl rfl ?_
        refine x_get hM wf_X7_7 wl_X7 hh1 rfl dX7_comeBack_10 ?_
        refine x_iload_n hM dX7_comeBack_13 rfl rfl ?_
        refine x_aload_n hM dX7_comeBack_14 rfl rfl ?_
        refine x_get hM wf_X7_17 wl_X7 hh1 rfl dX7_comeBack_15 ?_
        refine x_iload_n hM dX7_comeBack_18 rfl rfl ?_
        refine x_iald hM hb1 (by omega) dX7_comeBack_19 ?_
        refine x_iast hM h1 (by omega) dX7_comeBack_20 ?_
        refine x_iinc hM dX7_comeBack_21 rfl rfl rfl ?_
        refine x_goto (tgt := 2) hM dX7_comeBack_24 (by decide) ?_
        exact ih (i + 1) _ _ (by omega) wS_eq (hF.tr (Fr.wS (by omega) (by omega))) ((wS_ne (by omega)).trans h2) (fun j a b => by by_cases q : j = (i : Int); rw [q, fU_eq]; rw [fU_ne q]; exact e1 j a (by omega))
  refine x_iconst hM dX7_comeBack_0 ?_
  refine x_istore_n hM dX7_comeBack_1 rfl rfl (Nat.le_of_ble_eq_true rfl) rfl ?_
  exact K1 400 0 _ _ rfl hA1 Fr.rf rfl (fun j a b => by omega)
def recN (it : Int) (hs : List St) (t : St) : List St := if it = 0 then pushH hs t else hs
theorem m_X7_record {l : Launch} {G : xG} {w : Wd} {z m : Nat} {t : St} {hs : List St} {sg it rw mn pl wr : Int} (hh : w m = some (hdV m hs.length sg it rw mn pl wr)) (hn : nowA G w m t) (hm : hmA G w m hs) (hit : it = 0 ∨ it = 1) : xMet l G yX7_record cX7_record 2 none ({ frames := 0, cells := 0, slots := 0, locals := 0 } : Room) [.ref m] w z (qV z fun w1 => w1 m = some (hdV m (recN it hs t).length sg it rw mn pl wr) ∧ hmA G w1 m (recN it hs t) ∧ Fr2 m (m + 1) (m + 6) (m + 8) w w1) := by
  obtain ⟨fB, gB, hB1, hp, hB2, hg⟩ := id hn
  obtain ⟨F0, M0, hF0, hM0, hle, hst⟩ := id hm
  refine xMet_of RX7 rfl (by decide +kernel) false (by decide +kernel) (Nat.le_of_ble_eq_true rfl) rfl ?_
  intro P hM hR
  rcases hit with hit | hit
  · subst hit
    have e0 : recN 0 hs t = pushH hs t := if_pos rfl
    -- the four loops, the last first
    have J152 : ∀ (hs1 : List St) (F : Int → Int) (M : Int → Int64) (w1 : Wd), hs1 ++ [t] = pushH hs t → hs1.length ≤ 5 → w1 m = some (hdV m hs1.length sg 0 rw mn pl wr) → w1 (m + 6) = some (aI G 2400 F) → w1 (m + 7) = some (aJ G 60 M) → (∀ (i : Nat) (h : i < hs1.length), nowP (fun j => F (i * 400 + j)) hs1[i] ∧ eqR 10 (fun j => M (i * 10 + j)) hs1[i].mon) → eqR 400 (fun j => F (hs1.length * 400 + j)) fB → eqR 10 (fun j => M (hs1.length * 10 + j)) gB → Fr2 m (m + 1) (m + 6) (m + 8) w w1 → P 152 [some (.ref m), some (.int (iI 10))] [] w1 (z, 0, 0) := by
      intro hs1 F M w1 hpu hl1 hh1 hF1 hM1 hst1 e1 e2 hF
      refine x_aload_n hM dX7_record_152 rfl rfl ?_
      refine x_dup hM dX7_record_153 rfl ?_
      refine x_get hM wf_X7_58 wl_X7 hh1 rfl dX7_record_154 ?_
      refine x_iconst hM dX7_record_157 ?_
      refine x_iadd hM dX7_record_158 ?_
      refine x_put hM wf_X7_58 wl_X7 hh1 wq_X7_58 rfl rfl (Nat.le_of_ble_eq_true rfl) rfl dX7_record_159 ?_
      refine hR.v dX7_record_162 (Nat.zero_le _) (Nat.zero_le _) ?_
      have e9 : ((pushH hs t).length : Int) = (hs1.length : Int) + 1 := by rw [← hpu]; simp
      rw [e0]
      refine p_qV ⟨by rw [e9]; exact wS_eq, ⟨F, M, (wS_ne (by omega)).trans hF1, (wS_ne (by omega)).trans hM1, by omega, ?_⟩, hF.tr (wF.l2 (by omega) (by omega))⟩
      rw [← hpu]
      intro i hi
      by_cases q : i < hs1.length
      · rw [List.getElem_append_left q]; exact hst1 i q
      · have hi2 : i < hs1.length + 1 := by simpa using hi
        have hie : i = hs1.length := by omega
        subst hie
        rw [List.getElem_append_right (Nat.le_refl _)]
        simp only [Nat.sub_self, List.getElem_cons_zero]
        exact ⟨nowP_ext hp e1, fun j a b => (e2 j a b).trans (hg j a b)⟩
    have K4 : ∀ (hs1 : List St) (F : Int → Int) (k i : Nat) (M : Int → Int64) (w1 : Wd), i + k = 10 → hs1 ++ [t] = pushH hs t → hs1.length ≤ 5 → w1 m = some (hdV m hs1.length sg 0 rw mn pl wr) → w1 (m + 6) = some (aI G 2400 F) → w1 (m + 7) = some (aJ G 60 M) → (∀ (i : Nat) (h : i < hs1.length), nowP (fun j => F (i * 400 + j)) hs1[i] ∧ eqR 10 (fun j => M (i * 10 + j)) hs1[i].mon) → eqR 400 (fun j => F (hs1.length * 400 + j)) fB → eqR i (fun j => M (hs1.length * 10 + j)) gB → Fr2 m (m + 1) (m + 6) (m + 8) w w1 → P 120 [some (.ref m), some (.int (iI i))] [] w1 (z, 0, 0) := by
      intro hs1 F k
      induction k with
      | zero =>
        intro i M w1 hi hpu hl1 hh1 hF1 hM1 hst1 e1 e2 hF
        have hi0 : i = 10 := by omega
        subst hi0
        refine x_iload_n hM dX7_record_120 rfl rfl ?_
        refine x_bipush hM dX7_record_121 rfl ?_
        refine x_icmp_ge (tgt := 152) hM dX7_record_123 (by decide) (by omega) (by omega) (fun c_123 => ?_) (fun c_123 => ?_)
        · exact J152 hs1 F M w1 hpu hl1 hh1 hF1 hM1 hst1 e1 e2 hF
        · exfalso; omega
      | succ k ih =>
        intro i M w1 hi hpu hl1 hh1 hF1 hM1 hst1 e1 e2 hF
        have hb1 := (hF (m + 2) (by omega) (by omega)).trans hB2
        refine x_iload_n hM dX7_record_120 rfl rfl ?_
        refine x_bipush hM dX7_record_121 rfl ?_
        refine x_icmp_ge (tgt := 152) hM dX7_record_123 (by decide) (by omega) (by omega) (fun c_123 => ?_) (fun c_123 => ?_)
        · exfalso; omega
        · refine x_aload_n hM dX7_record_126 rfl rfl ?_
          refine x_get hM wf_X7_29 wl_X7 hh1 rfl dX7_record_127 ?_
          refine x_aload_n hM dX7_record_130 rfl rfl ?_
          refine x_get hM wf_X7_58 wl_X7 hh1 rfl dX7_record_131 ?_
          refine x_bipush hM dX7_record_134 rfl ?_
          refine x_imul hM dX7_record_136 ?_
          refine x_iload_n hM dX7_record_137 rfl rfl ?_
          refine x_iadd hM dX7_record_138 ?_
          refine x_aload_n hM dX7_record_139 rfl rfl ?_
          refine x_get hM wf_X7_13 wl_X7 hh1 rfl dX7_record_140 ?_
          refine x_iload_n hM dX7_record_143 rfl rfl ?_
          refine x_lald hM hb1 (by omega) dX7_record_144 ?_
          refine x_last hM hM1 (by omega) dX7_record_145 ?_
          refine x_iinc hM dX7_record_146 rfl rfl rfl ?_
          refine x_goto (tgt := 120) hM dX7_record_149 (by decide) ?_
          refine ih (i + 1) _ _ (by omega) hpu hl1 ((wS_ne (by omega)).trans hh1) ((wS_ne (by omega)).trans hF1) wS_eq (fun j hj => ⟨(hst1 j hj).1, fun q a b => ?_⟩) e1 (fun j a b => ?_) (hF.tr (wF.r2 (by omega) (by omega)))
          · try dsimp only
            rw [fU_ne (by omega)]; exact (hst1 j hj).2 q a b
          · try dsimp only
            by_cases q : j = (i : Int)
            · rw [q, fU_eq]
            · rw [fU_ne (by omega)]; exact e2 j a (by omega)
    have K3 : ∀ (hs1 : List St) (M : Int → Int64) (k i : Nat) (F : Int → Int) (w1 : Wd), i + k = 400 → hs1 ++ [t] = pushH hs t → hs1.length ≤ 5 → w1 m = some (hdV m hs1.length sg 0 rw mn pl wr) → w1 (m + 6) = some (aI G 2400 F) → w1 (m + 7) = some (aJ G 60 M) → (∀ (i : Nat) (h : i < hs1.length), nowP (fun j => F (i * 400 + j)) hs1[i] ∧ eqR 10 (fun j => M (i * 10 + j)) hs1[i].mon) → eqR i (fun j => F (hs1.length * 400 + j)) fB → Fr2 m (m + 1) (m + 6) (m + 8) w w1 → P 84 [some (.ref m), some (.int (iI i))] [] w1 (z, 0, 0) := by
      intro hs1 M k
      induction k with
      | zero =>
        intro i F w1 hi hpu hl1 hh1 hF1 hM1 hst1 e1 hF
        have hi0 : i = 400 := by omega
        subst hi0
        refine x_iload_n hM dX7_record_84 rfl rfl ?_
        refine x_sipush hM dX7_record_85 rfl ?_
        refine x_icmp_ge (tgt := 118) hM dX7_record_88 (by decide) (by omega) (by omega) (fun c_88 => ?_) (fun c_88 => ?_)
        · refine x_iconst hM dX7_record_118 ?_
          refine x_istore_n hM dX7_record_119 rfl rfl (Nat.le_of_ble_eq_true rfl) rfl ?_
          exact K4 hs1 F 10 0 M w1 rfl hpu hl1 hh1 hF1 hM1 hst1 e1 (fun j a b => by omega) hF
        · exfalso; omega
      | succ k ih =>
        intro i F w1 hi hpu hl1 hh1 hF1 hM1 hst1 e1 hF
        have hb1 := (hF (m + 1) (by omega) (by omega)).trans hB1
        refine x_iload_n hM dX7_record_84 rfl rfl ?_
        refine x_sipush hM dX7_record_85 rfl ?_
        refine x_icmp_ge (tgt := 118) hM dX7_record_88 (by decide) (by omega) (by omega) (fun c_88 => ?_) (fun c_88 => ?_)
        · exfalso; omega
        · refine x_aload_n hM dX7_record_91 rfl rfl ?_
          refine x_get hM wf_X7_26 wl_X7 hh1 rfl dX7_record_92 ?_
          refine x_aload_n hM dX7_record_95 rfl rfl ?_
          refine x_get hM wf_X7_58 wl_X7 hh1 rfl dX7_record_96 ?_
          refine x_sipush hM dX7_record_99 rfl ?_
          refine x_imul hM dX7_record_102 ?_
          refine x_iload_n hM dX7_record_103 rfl rfl ?_
          refine x_iadd hM dX7_record_104 ?_
          refine x_aload_n hM dX7_record_105 rfl rfl ?_
          refine x_get hM wf_X7_7 wl_X7 hh1 rfl dX7_record_106 ?_
          refine x_iload_n hM dX7_record_109 rfl rfl ?_
          refine x_iald hM hb1 (by omega) dX7_record_110 ?_
          refine x_iast hM hF1 (by omega) dX7_record_111 ?_
          refine x_iinc hM dX7_record_112 rfl rfl rfl ?_
          refine x_goto (tgt := 84) hM dX7_record_115 (by decide) ?_
          refine ih (i + 1) _ _ (by omega) hpu hl1 ((wS_ne (by omega)).trans hh1) wS_eq ((wS_ne (by omega)).trans hM1) (fun j hj => ⟨nowP_ext (hst1 j hj).1 (fun q a b => ?_), (hst1 j hj).2⟩) (fun j a b => ?_) (hF.tr (wF.r2 (by omega) (by omega)))
          · try dsimp only
            exact fU_ne (by omega)
          · try dsimp only
            by_cases q : j = (i : Int)
            · rw [q, fU_eq]
            · rw [fU_ne (by omega)]; exact e1 j a (by omega)
    have J82 : ∀ (hs1 : List St) (F : Int → Int) (M : Int → Int64) (w1 : Wd) (x1 : Option Value), hs1 ++ [t] = pushH hs t → hs1.length ≤ 5 → w1 m = some (hdV m hs1.length sg 0 rw mn pl wr) → w1 (m + 6) = some (aI G 2400 F) → w1 (m + 7) = some (aJ G 60 M) → (∀ (i : Nat) (h : i < hs1.length), nowP (fun j => F (i * 400 + j)) hs1[i] ∧ eqR 10 (fun j => M (i * 10 + j)) hs1[i].mon) → Fr2 m (m + 1) (m + 6) (m + 8) w w1 → P 82 [some (.ref m), x1] [] w1 (z, 0, 0) := by
      intro hs1 F M w1 x1 hpu hl1 hh1 hF1 hM1 hst1 hF
      refine x_iconst hM dX7_record_82 ?_
      refine x_istore_n hM dX7_record_83 rfl rfl (Nat.le_of_ble_eq_true rfl) rfl ?_
      exact K3 hs1 M 400 0 F w1 rfl hpu hl1 hh1 hF1 hM1 hst1 (fun j a b => by omega) hF
    by_cases c6 : hs.length = 6
    · have hpu : hs.tail ++ [t] = pushH hs t := (if_neg (by omega)).symm
      have hlt : hs.tail.length = 5 := by rw [List.length_tail]; omega
      have hst5 : ∀ (i : Nat) (h : i < hs.tail.length), nowP (fun j => F0 (i * 400 + j + 400)) hs.tail[i] ∧ eqR 10 (fun j => M0 (i * 10 + j + 10)) hs.tail[i].mon := by
        intro i hi
        obtain ⟨a, b⟩ := hst (i + 1) (by omega)
        rw [List.getElem_tail]
        refine ⟨nowP_ext a (fun j _ _ => ?_), fun j x y => ?_⟩
        · congr 1; omega
        · have := b j x y; try dsimp only at this ⊢
          rw [← this]; congr 1; omega
      have K2 : ∀ (F : Int → Int) (k i : Nat) (M : Int → Int64) (w1 : Wd), i + k = 50 → w1 m = some (hdV m hs.length sg 0 rw mn pl wr) → w1 (m + 6) = some (aI G 2400 F) → w1 (m + 7) = some (aJ G 60 M) → (∀ j : Int, 0 ≤ j → j < 2000 → F j = F0 (j + 400)) → (∀ j : Int, 0 ≤ j → j < i → M j = M0 (j + 10)) → (∀ j : Int, i ≤ j → M j = M0 j) → Fr2 m (m + 1) (m + 6) (m + 8) w w1 → P 50 [some (.ref m), some (.int (iI i))] [] w1 (z, 0, 0) := by
        intro F k
        induction k with
        | zero =>
          intro i M w1 hi hh1 hF1 hM1 e1 e2 e3 hF
          refine x_iload_n hM dX7_record_50 rfl rfl ?_
          refine x_bipush hM dX7_record_51 rfl ?_
          refine x_icmp_ge (tgt := 77) hM dX7_record_53 (by decide) (by omega) (by omega) (fun c_53 => ?_) (fun c_53 => ?_)
          · refine x_aload_n hM dX7_record_77 rfl rfl ?_
            refine x_iconst hM dX7_record_78 ?_
            refine x_put hM wf_X7_58 wl_X7 hh1 wq_X7_58 rfl rfl (Nat.le_of_ble_eq_true rfl) rfl dX7_record_79 ?_
            exact J82 hs.tail F M _ _ hpu (by omega) (by rw [hlt]; exact wS_eq) ((wS_ne (by omega)).trans hF1) ((wS_ne (by omega)).trans hM1) (fun j hj => ⟨nowP_ext (hst5 j hj).1 (fun q a b => e1 _ (by omega) (by omega)), fun q a b => (e2 _ (by omega) (by omega)).trans ((hst5 j hj).2 q a b)⟩) (hF.tr (wF.l2 (by omega) (by omega)))
          · exfalso; omega
        | succ k ih =>
          intro i M w1 hi hh1 hF1 hM1 e1 e2 e3 hF
          refine x_iload_n hM dX7_record_50 rfl rfl ?_
          refine x_bipush hM dX7_record_51 rfl ?_
          refine x_icmp_ge (tgt := 77) hM dX7_record_53 (by decide) (by omega) (by omega) (fun c_53 => ?_) (fun c_53 => ?_)
          · exfalso; omega
          · refine x_aload_n hM dX7_record_56 rfl rfl ?_
            refine x_get hM wf_X7_29 wl_X7 hh1 rfl dX7_record_57 ?_
            refine x_iload_n hM dX7_record_60 rfl rfl ?_
            refine x_aload_n hM dX7_record_61 rfl rfl ?_
            refine x_get hM wf_X7_29 wl_X7 hh1 rfl dX7_record_62 ?_
            refine x_iload_n hM dX7_record_65 rfl rfl ?_
            refine x_bipush hM dX7_record_66 rfl ?_
            refine x_iadd hM dX7_record_68 ?_
            refine x_lald hM hM1 (by omega) dX7_record_69 ?_
            rw [e3 ((i : Int) + 10) (by omega)]
            refine x_last hM hM1 (by omega) dX7_record_70 ?_
            refine x_iinc hM dX7_record_71 rfl rfl rfl ?_
            refine x_goto (tgt := 50) hM dX7_record_74 (by decide) ?_
            exact ih (i + 1) _ _ (by omega) ((wS_ne (by omega)).trans hh1) ((wS_ne (by omega)).trans hF1) wS_eq e1 (fun j a b => by by_cases q : j = (i : Int); rw [q, fU_eq]; rw [fU_ne q]; exact e2 j a (by omega)) (fun j a => by rw [fU_ne (by omega)]; exact e3 j (by omega)) (hF.tr (wF.r2 (by omega) (by omega)))
      have K1 : ∀ (k i : Nat) (F : Int → Int) (w1 : Wd), i + k = 2000 → w1 m = some (hdV m hs.length sg 0 rw mn pl wr) → w1 (m + 6) = some (aI G 2400 F) → w1 (m + 7) = some (aJ G 60 M0) → (∀ j : Int, 0 ≤ j → j < i → F j = F0 (j + 400)) → (∀ j : Int, i ≤ j → F j = F0 j) → Fr2 m (m + 1) (m + 6) (m + 8) w w1 → P 19 [some (.ref m), some (.int (iI i))] [] w1 (z, 0, 0) := by
        intro k
        induction k with
        | zero =>
          intro i F w1 hi hh1 hF1 hM1 e1 e2 hF
          refine x_iload_n hM dX7_record_19 rfl rfl ?_
          refine x_sipush hM dX7_record_20 rfl ?_
          refine x_icmp_ge (tgt := 48) hM dX7_record_23 (by decide) (by omega) (by omega) (fun c_23 => ?_) (fun c_23 => ?_)
          · refine x_iconst hM dX7_record_48 ?_
            refine x_istore_n hM dX7_record_49 rfl rfl (Nat.le_of_ble_eq_true rfl) rfl ?_
            exact K2 F 50 0 M0 w1 rfl hh1 hF1 hM1 (fun j a b => e1 j a (by omega)) (fun j a b => by omega) (fun j a => rfl) hF
          · exfalso; omega
        | succ k ih =>
          intro i F w1 hi hh1 hF1 hM1 e1 e2 hF
          refine x_iload_n hM dX7_record_19 rfl rfl ?_
          refine x_sipush hM dX7_record_20 rfl ?_
          refine x_icmp_ge (tgt := 48) hM dX7_record_23 (by decide) (by omega) (by omega) (fun c_23 => ?_) (fun c_23 => ?_)
          · exfalso; omega
          · refine x_aload_n hM dX7_record_26 rfl rfl ?_
            refine x_get hM wf_X7_26 wl_X7 hh1 rfl dX7_record_27 ?_
            refine x_iload_n hM dX7_record_30 rfl rfl ?_
            refine x_aload_n hM dX7_record_31 rfl rfl ?_
            refine x_get hM wf_X7_26 wl_X7 hh1 rfl dX7_record_32 ?_
            refine x_iload_n hM dX7_record_35 rfl rfl ?_
            refine x_sipush hM dX7_record_36 rfl ?_
            refine x_iadd hM dX7_record_39 ?_
            refine x_iald hM hF1 (by omega) dX7_record_40 ?_
            rw [e2 ((i : Int) + 400) (by omega)]
            refine x_iast hM hF1 (by omega) dX7_record_41 ?_
            refine x_iinc hM dX7_record_42 rfl rfl rfl ?_
            refine x_goto (tgt := 19) hM dX7_record_45 (by decide) ?_
            exact ih (i + 1) _ _ (by omega) ((wS_ne (by omega)).trans hh1) wS_eq ((wS_ne (by omega)).trans hM1) (fun j a b => by by_cases q : j = (i : Int); rw [q, fU_eq]; rw [fU_ne q]; exact e1 j a (by omega)) (fun j a => by rw [fU_ne (by omega)]; exact e2 j (by omega)) (hF.tr (wF.r2 (by omega) (by omega)))
      refine x_aload_n hM dX7_record_0 rfl rfl ?_
      refine x_get hM wf_X7_54 wl_X7 (by first | assumption | exact md_o (by assumption)) rfl dX7_record_1 ?_
      refine x_if_eq (tgt := 8) hM dX7_record_4 (by decide) (by omega) (fun c_4 => ?_) (fun c_4 => ?_)
      · refine x_aload_n hM dX7_record_8 rfl rfl ?_
        refine x_get hM wf_X7_58 wl_X7 (by first | assumption | exact md_o (by assumption)) rfl dX7_record_9 ?_
        refine x_bipush hM dX7_record_12 rfl ?_
        refine x_icmp_ne (tgt := 82) hM dX7_record_14 (by decide) (by omega) (by omega) (fun c_14 => ?_) (fun c_14 => ?_)
        · exfalso; omega
        · refine x_iconst hM dX7_record_17 ?_
          refine x_istore_n hM dX7_record_18 rfl rfl (Nat.le_of_ble_eq_true rfl) rfl ?_
          exact K1 2000 0 F0 w rfl hh hF0 hM0 (fun j a b => by omega) (fun j a => rfl) Fr2.rf
      · exfalso; omega
    · skip
      refine x_aload_n hM dX7_record_0 rfl rfl ?_
      refine x_get hM wf_X7_54 wl_X7 (by first | assumption | exact md_o (by assumption)) rfl dX7_record_1 ?_
      refine x_if_eq (tgt := 8) hM dX7_record_4 (by decide) (by omega) (fun c_4 => ?_) (fun c_4 => ?_)
      · refine x_aload_n hM dX7_record_8 rfl rfl ?_
        refine x_get hM wf_X7_58 wl_X7 (by first | assumption | exact md_o (by assumption)) rfl dX7_record_9 ?_
        refine x_bipush hM dX7_record_12 rfl ?_
        refine x_icmp_ne (tgt := 82) hM dX7_record_14 (by decide) (by omega) (by omega) (fun c_14 => ?_) (fun c_14 => ?_)
        · exact J82 hs F0 M0 w _ (if_pos (by omega)).symm (by omega) hh hF0 hM0 hst Fr2.rf
        · exfalso; omega
      · exfalso; omega
  · subst hit
    refine x_aload_n hM dX7_record_0 rfl rfl ?_
    refine x_get hM wf_X7_54 wl_X7 (by first | assumption | exact md_o (by assumption)) rfl dX7_record_1 ?_
    refine x_if_eq (tgt := 8) hM dX7_record_4 (by decide) (by omega) (fun c_4 => ?_) (fun c_4 => ?_)
    · exfalso; omega
    · refine hR.v dX7_record_7 (Nat.zero_le _) (Nat.zero_le _) ?_
      exact p_qV ⟨hh, hm, Fr2.rf⟩
