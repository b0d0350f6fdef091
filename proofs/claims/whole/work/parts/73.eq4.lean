/-! class and reference: deals whole, losesIn, texts, undo, slots -/
theorem rhF_s {t : St} {k : Nat} {q : Tr} (h : t.D[t.D.length - (k + 1)]? = some q) : rhF (k + 1) t = @ite (Int × St) (trfC1 t q ∧ trfC2 t q) (Classical.propDecidable _) (rhF k (trfD t q)) (((t.D.length - (k + 1) : Nat) : Int), t) := by
  simp only [rhF]
  rw [h]
theorem rhF_n {t : St} {k : Nat} (h : t.D[t.D.length - (k + 1)]? = none) : rhF (k + 1) t = (-6, t) := by
  simp only [rhF]
  rw [h]
theorem ddR_s {t : St} {k : Nat} {q : Tr} (h : t.D[t.D.length - (k + 1)]? = some q) : ddR (k + 1) t = if (goR t q).1 = 0 then (((t.D.length - (k + 1) : Nat) : Int), (goR t q).2) else ddR k (goR t q).2 := by
  simp only [ddR]
  rw [h]
theorem ddR_n {t : St} {k : Nat} (h : t.D[t.D.length - (k + 1)]? = none) : ddR (k + 1) t = (-6, t) := by
  simp only [ddR]
  rw [h]
theorem e_dd {D : Int} : ∀ (k : Nat) (F : Int) (t : St), gd D F t → (rhF k (rS t)).1 = (ddR k t).1 ∧ ((ddR k t).1 = -6 → (rhF k (rS t)).2 = rS (ddR k t).2 ∧ gd D (F + 10000 * k) (ddR k t).2) := by
  intro k
  induction k with
  | zero => intro F t h; exact ⟨rfl, fun _ => ⟨rfl, h.mono (Int.le_refl _) (by omega)⟩⟩
  | succ k ih =>
    intro F t h
    cases hq : t.D[t.D.length - (k + 1)]? with
    | none =>
      rw [rhF_n (t := rS t) hq, ddR_n hq]
      exact ⟨rfl, fun _ => ⟨rfl, h.mono (Int.le_refl _) (by omega)⟩⟩
    | some q =>
      have hm := List.mem_of_getElem? hq
      have hok := (gd_D h).2 q hm
      obtain ⟨g1, g2⟩ := e_go h hok
      rw [rhF_s (t := rS t) hq, ddR_s hq]
      rcases (goR_y t q).1 with c | c
      · rw [if_neg (fun z => by have := g1.mp z; omega), if_pos c]
        refine ⟨rfl, fun z => ?_⟩
        exfalso
        have z : (((t.D.length - (k + 1) : Nat)) : Int) = -6 := z
        omega
      · rw [if_pos (g1.mpr c), if_neg (by omega), (g2 c).1]
        obtain ⟨i1, i2⟩ := ih (F + 10000) (goR t q).2 (goT_gd h hok (gd_O h q hm) c)
        refine ⟨i1, fun z => ⟨(i2 z).1, (i2 z).2.mono (Int.le_refl _) (by omega)⟩⟩
theorem e_fail {D F : Int} {t : St} (h : gd D F t) : (reF (rS t)).1 = (ddR t.D.length t).1 := (e_dd t.D.length F t h).1
theorem e_cl {D F : Int} {t : St} (h : gd D F t) : clF (rS t) = ((clR t).1, rS (clR t).2) ∧ gd D (F + 100000) (clR t).2 := by
  have hy := (ddR_y t.D.length t).1
  obtain ⟨e1, e2⟩ := e_dd t.D.length F t h
  have hdl := (gd_D h).1
  unfold clF clR
  by_cases c : (t.D.length : Int) = 0 ∨ 0 ≤ (ddR t.D.length t).1
  · rw [if_pos c, if_pos (show ((rS t).D.length : Int) = 0 ∨ (reF (rS t)).1 ≠ -6 by rcases c with c | c; exact Or.inl c; exact Or.inr (by rw [e_fail h]; omega))]
    exact ⟨rfl, h.mono (Int.le_refl _) (by omega)⟩
  · rw [if_neg c, if_neg (show ¬ (((rS t).D.length : Int) = 0 ∨ (reF (rS t)).1 ≠ -6) by rintro (z | z); exact c (Or.inl z); exact z (by rw [e_fail h]; omega))]
    have c6 : (ddR t.D.length t).1 = -6 := by omega
    obtain ⟨e3, e4⟩ := e2 c6
    have e5 : (reF (rS t)).2 = rS (ddR t.D.length t).2 := e3
    rw [e5]
    refine ⟨rfl, ?_⟩
    obtain ⟨x1, x2, x3, x4, x5, x6, x7⟩ := e4.mono (Int.le_refl _) (show F + 10000 * (t.D.length : Int) ≤ F + 100000 by omega)
    exact ⟨x1, x2, x3, ⟨⟨Nat.zero_le _, fun v hv => absurd hv List.not_mem_nil⟩, fun v hv => absurd hv List.not_mem_nil⟩, x5, x6, x7⟩
/-! losesIn -/
theorem day_ev {t : St} {o : Nat} (hS : segW t.L) (ho : (o : Int) < t.own) : (cntO t.L o = 0 → (dayRP t).los o = t.los o ∧ cntO (dayRP t).L o = 0) ∧ (cntO t.L o ≠ 0 → (t.mon o - jJ (taxV t o) < jJ 0 → t.los o < (dayRP t).los o) ∧ (¬ t.mon o - jJ (taxV t o) < jJ 0 → (dayRP t).los o = t.los o ∧ (dayRP t).mon o = t.mon o - jJ (taxV t o) ∧ cntO (dayRP t).L o = cntO t.L o ∧ taxV (dayRP t) o = taxV t o)) := by
  have hset : (dayRP t).set = t.set := (dayRF_own t t.own.toNat).2.1
  -- behind owner o nothing of it changes
  have B : ∀ k : Nat, (dayRF t (o + 1 + k)).mon o = (dayRF t (o + 1)).mon o ∧ (dayRF t (o + 1 + k)).los o = (dayRF t (o + 1)).los o ∧ cntO (dayRF t (o + 1 + k)).L o = cntO (dayRF t (o + 1)).L o ∧ mtsO (dayRF t (o + 1 + k)).L o = mtsO (dayRF t (o + 1)).L o := by
    intro k
    induction k with
    | zero => exact ⟨rfl, rfl, rfl, rfl⟩
    | succ k ih =>
      have g := dayRO_oth (q := ((o + 1 + k : Nat) : Int)) (by omega) (dayRF_ok hS (o + 1 + k)).1
      obtain ⟨b1, b2, b3⟩ := g.1 o (by omega)
      obtain ⟨b4, b5⟩ := g.2.1 o (by omega) (by omega)
      obtain ⟨i1, i2, i3, i4⟩ := ih
      exact ⟨b1.trans i1, b3.trans i2, b4.trans i3, b5.trans i4⟩
  have B := B (t.own.toNat - (o + 1))
  rw [show o + 1 + (t.own.toNat - (o + 1)) = t.own.toNat by omega] at B
  obtain ⟨b1, b2, b3, b4⟩ := B
  have b1 : (dayRP t).mon o = (dayRF t (o + 1)).mon o := b1
  have b2 : (dayRP t).los o = (dayRF t (o + 1)).los o := b2
  have b3 : cntO (dayRP t).L o = cntO (dayRF t (o + 1)).L o := b3
  have b4 : mtsO (dayRP t).L o = mtsO (dayRF t (o + 1)).L o := b4
  obtain ⟨a1, a2, a3, a4⟩ := (dayRF_oth hS o).1 o (Int.le_refl _)
  obtain ⟨a4, a5⟩ := a4 (by omega)
  have aset : (dayRF t o).set = t.set := (dayRF_own t o).2.1
  have hS1 := (dayRF_ok hS o).1
  have e1 : dayRF t (o + 1) = dayRO (dayRF t o) o := rfl
  generalize dayRF t o = u at a1 a2 a3 a4 a5 aset hS1 e1
  have etax : taxV u o = taxV t o := by unfold taxV; rw [a4, a5, aset]
  unfold dayRO at e1
  rw [etax] at e1
  have ec : cntO (chgF u o (taxV t o)).L o = cntO t.L o := a4
  rw [ec] at e1
  have em : (chgF u o (taxV t o)).mon o = t.mon o - jJ (taxV t o) := by
    show fU u.mon o (u.mon o + jJ (-(taxV t o))) o = _
    rw [fU_eq, a1, jJ_ns]
  have cb := cnt_gb t.L o
  refine ⟨fun hc => ?_, fun hc => ?_⟩
  · rw [hc] at e1
    have e1 : dayRF t (o + 1) = chgF u o (taxV t o) := e1
    rw [b2, b3, e1]
    exact ⟨a3, a4.trans hc⟩
  · obtain ⟨k, hk⟩ : ∃ k : Nat, (cntO t.L o).toNat = k + 1 := ⟨(cntO t.L o).toNat - 1, by omega⟩
    rw [hk] at e1
    simp only [losRF] at e1
    rw [em] at e1
    refine ⟨fun hneg => ?_, fun hneg => ?_⟩
    · rw [if_pos hneg] at e1
      have hne : srtF (chgF u o (taxV t o)).L o ≠ -6 := fun z => by
        have := cntO_pos.mp ((srt_ok (chgF u o (taxV t o)).L o).1 z)
        omega
      have g1 := (losR_oth (t := chgF u o (taxV t o)) (q := o) (by omega) hS1 hne).2
      obtain ⟨k1, k2, k3⟩ := losR_ok (t := chgF u o (taxV t o)) (o := o) (by omega) hS1 hne
      have g2 := ((losRF_ok (o := o) (by omega) k (losR (chgF u o (taxV t o)) o) k1 (by omega)).2 o (by omega)).2
      rw [b2, e1, ← a3]
      have g1 : u.los o < (losR (chgF u o (taxV t o)) o).los o := g1
      omega
    · rw [if_neg hneg] at e1
      refine ⟨by rw [b2, e1]; exact a3, by rw [b1, e1]; exact em, by rw [b3, e1]; exact a4, ?_⟩
      unfold taxV
      rw [b3, b4, hset, e1]
      show cntO u.L o * _ + (mtsO u.L o + 9) / 10 * _ = _
      rw [a4, a5]
theorem dayRP_own (t : St) : (dayRP t).own = t.own := (dayRF_own t t.own.toNat).1
theorem e_ls0 {o : Nat} : ∀ (k : Nat) (i : Int) (t : St), segW t.L → (o : Int) < t.own → cntO t.L o = 0 → lsR o (t.los o) k i t = -6 := by
  intro k
  induction k with
  | zero => intro i t _ _ _; rfl
  | succ k ih =>
    intro i t hS ho hc
    obtain ⟨h1, h2⟩ := (day_ev hS ho).1 hc
    simp only [lsR]
    rw [if_neg (by omega), ← h1]
    exact ih (i + 1) (dayRP t) (dayRP_ok hS).1 (by rw [dayRP_own]; exact ho) h2
theorem e_ls1 {o : Nat} : ∀ (k i : Nat) (t : St), segW t.L → (o : Int) < t.own → cntO t.L o ≠ 0 → lsR o (t.los o) k i t = dtlF (taxV t o) k i (t.mon o) := by
  intro k
  induction k with
  | zero => intro i t _ _ _; rfl
  | succ k ih =>
    intro i t hS ho hc
    obtain ⟨h1, h2⟩ := (day_ev hS ho).2 hc
    simp only [lsR, dtlF]
    by_cases c : t.mon o - jJ (taxV t o) < jJ 0
    · rw [if_pos (h1 c), if_pos c]
    · obtain ⟨g1, g2, g3, g4⟩ := h2 c
      rw [if_neg (by omega), if_neg c, ← g1, ← g2]
      have := ih (i + 1) (dayRP t) (dayRP_ok hS).1 (by rw [dayRP_own]; exact ho) (by rw [g3]; exact hc)
      rw [g4] at this
      rw [← this]
      rfl
theorem e_ls {t : St} (hS : segW t.L) (o : Int) : lsnV (rS t) o = lsV t o := by
  unfold lsnV lsV
  by_cases c : 0 ≤ o ∧ o < t.own
  · rw [if_pos (show 0 ≤ o ∧ o < (rS t).own from c), if_pos c, tax_rng c.1]
    obtain ⟨n, rfl⟩ : ∃ n : Nat, o = n := ⟨o.toNat, by omega⟩
    have hc := (cnt_rng (n : Int) c.1 t.L).1
    have cb := cnt_gb t.L n
    show (if cntO (rngS t.L) n ≤ 0 then -6 else dtlF (taxV t n) 300 1 (t.mon n)) = _
    rw [hc]
    by_cases d : cntO t.L n = 0
    · rw [if_pos (by omega)]; exact (e_ls0 300 1 t hS c.2 d).symm
    · rw [if_neg (by omega)]; exact (e_ls1 300 1 t hS c.2 d).symm
  · rw [if_neg (show ¬ (0 ≤ o ∧ o < (rS t).own) from c), if_neg c]
theorem e_wb {D F : Int} {t : St} (h : gd D F t) (o f n : Int) : wbeV (rS t) o f n = wbR t o f n := by
  have h10 := gd_10 h
  unfold wbeV wbR
  by_cases c : 0 ≤ o ∧ o < t.own
  · rw [if_pos (show 0 ≤ o ∧ o < (rS t).own from c), if_pos c]
    by_cases d : isP f n
    · rw [if_pos d, if_pos d, ← rngS_len, lr_F (gd_L h) (gd_40 h) (Or.inr (by omega)) (by omega)]
    · rw [if_neg d, if_neg d]
  · rw [if_neg (show ¬ (0 ≤ o ∧ o < (rS t).own) from c), if_neg c]
/-! texts -/
theorem e_ce {D F : Int} {t : St} (h : gd D F t) {k : Int} (hk : k = 43 ∨ k = 45 ∨ k = 100 ∨ k = 103 ∨ k = 112) (l n q : Int) : ceF (rS t) k l n q = ((ceR t k l n q).1, rS (ceR t k l n q).2) ∧ gd (D + 60) (F + 10000) (ceR t k l n q).2 := by
  have hS := gd_L h
  have h40 := gd_40 h
  have h10 := gd_10 h
  rcases hk with rfl | rfl | rfl | rfl | rfl
  · have e1 : ceR t 43 l n q = gvR t l n q := if_pos rfl
    have e2 : ceF (rS t) 43 l n q = gvF (rS t) l n q := if_pos rfl
    rw [e1, e2]
    exact ⟨e_gv hS h40 h10 _ _ _, (gd_gv h _ _ _).mono (by omega) (Int.le_refl _)⟩
  · have e1 : ceR t 45 l n q = frR t n q := (if_neg (by decide)).trans (if_pos rfl)
    have e2 : ceF (rS t) 45 l n q = frF (rS t) n q := (if_neg (by decide)).trans (if_pos rfl)
    rw [e1, e2]
    exact ⟨e_fr hS h40 _ _, (gd_fr h _ _).mono (by omega) (Int.le_refl _)⟩
  · have e1 : ceR t 100 l n q = daR t n := (if_neg (by decide)).trans ((if_neg (by decide)).trans ((if_neg (by decide)).trans (if_neg (by decide))))
    have e2 : ceF (rS t) 100 l n q = daF (rS t) n := (if_neg (by decide)).trans ((if_neg (by decide)).trans (if_pos rfl))
    rw [e1, e2]
    exact ⟨e_da hS _, gd_da h _⟩
  · have e1 : ceR t 103 l n q = grR t l n := (if_neg (by decide)).trans ((if_neg (by decide)).trans (if_pos rfl))
    have e2 : ceF (rS t) 103 l n q = grF (rS t) l n := (if_neg (by decide)).trans ((if_neg (by decide)).trans ((if_neg (by decide)).trans (if_pos rfl)))
    rw [e1, e2]
    exact ⟨e_gr hS h40 h10 _ _, (gd_gr h _ _).mono (by omega) (Int.le_refl _)⟩
  · have e1 : ceR t 112 l n q = payF t l n := (if_neg (by decide)).trans ((if_neg (by decide)).trans ((if_neg (by decide)).trans (if_pos rfl)))
    have e2 : ceF (rS t) 112 l n q = payF (rS t) l n := (if_neg (by decide)).trans ((if_neg (by decide)).trans ((if_neg (by decide)).trans ((if_neg (by decide)).trans (if_pos rfl))))
    rw [e1, e2]
    exact ⟨e_pay _ _ _, (gd_pay h _ _).mono (by omega) (Int.le_refl _)⟩
theorem e_co {cs : List Int} (hW : padW cs) : ∀ (k : Nat) (i d : Int) (D F : Int) (t : St), 0 ≤ i → gd D F t → fltP cs k i = -6 → coF cs k i d (rS t) = ((coR (enL cs k i) d t).1, rS (coR (enL cs k i) d t).2) ∧ gd (D + 60 * k) (F + 10000 * k) (coR (enL cs k i) d t).2 := by
  intro k
  induction k with
  | zero => intro i d D F t hi h hf; have hf : i = -6 := hf; omega
  | succ k ih =>
    intro i d D F t hi h hf
    have hb := entP_b hW i
    have c1 : (entP cs i).1 = 1 := by
      by_cases z : (entP cs i).1 = 0
      · have hf : (if (entP cs i).1 = 0 then (entP cs i).2.1 else _) = -6 := hf
        rw [if_pos z] at hf
        omega
      · omega
    have hle := entP_le c1
    have hf : (if (entP cs i).1 = 0 then (entP cs i).2.1 else if (entP cs i).2.1 = cs.length then -6 else if sgP cs (entP cs i).2.1 = 59 then fltP cs k ((entP cs i).2.1 + 1) else (entP cs i).2.1) = -6 := hf
    rw [if_neg (by omega)] at hf
    obtain ⟨v1, -⟩ := entP_v i c1
    have hen : enL cs (k + 1) i = entP cs i :: (if (entP cs i).2.1 = cs.length then [] else if sgP cs (entP cs i).2.1 = 59 then enL cs k ((entP cs i).2.1 + 1) else []) := rfl
    obtain ⟨g1, g2⟩ := e_ce h v1 (entP cs i).2.2.2.1 (entP cs i).2.2.2.2.1 (entP cs i).2.2.2.2.2
    rw [coF_t ⟨by omega, c1⟩, hen, g1]
    simp only [coR]
    by_cases c2 : (ceR t (entP cs i).2.2.1 (entP cs i).2.2.2.1 (entP cs i).2.2.2.2.1 (entP cs i).2.2.2.2.2).1 < 0
    · rw [if_pos c2, if_pos c2]
      exact ⟨rfl, g2.mono (by omega) (by omega)⟩
    · rw [if_neg c2, if_neg c2]
      by_cases c3 : (entP cs i).2.1 = cs.length
      · rw [if_pos c3]
        have e9 : ∀ (k : Nat) (s : St), coF cs k ((entP cs i).2.1 + 1) (d + 1) s = (d + 1, s) := by
          intro k s
          cases k with
          | zero => rfl
          | succ k => exact coF_f (fun z => by omega)
        rw [e9]
        exact ⟨rfl, g2.mono (by omega) (by omega)⟩
      · rw [if_neg c3] at hf ⊢
        by_cases c4 : sgP cs (entP cs i).2.1 = 59
        · rw [if_pos c4] at hf ⊢
          obtain ⟨i1, i2⟩ := ih ((entP cs i).2.1 + 1) (d + 1) _ _ _ (by omega) g2 hf
          exact ⟨i1, i2.mono (by omega) (by omega)⟩
        · rw [if_neg c4] at hf
          omega
theorem e_car {D F : Int} {t : St} {cs : List Int} (hW : padW cs) (h : gd D F t) : carF (rS t) cs = ((carR t cs).1, rS (carR t cs).2.1, (carR t cs).2.2) ∧ gd (D + 5000) (F + 900000) (carR t cs).2.1 := by
  unfold carF carR
  by_cases c : fltP cs 81 0 = -6
  · obtain ⟨g1, g2⟩ := e_co hW 81 0 0 D F t (Int.le_refl 0) h c
    rw [if_pos c, if_pos c, g1]
    exact ⟨rfl, g2.mono (by omega) (by omega)⟩
  · rw [if_neg c, if_neg c]
    exact ⟨rfl, h.mono (by omega) (by omega)⟩
/-! undo, slots -/
abbrev slM (sl : Nat → Option St) : Nat → Option St := fun i => (sl i).map rS
theorem e_und (t : St) (hs : List St) : undF (rS t) (hs.map rS) = ((undF t hs).1, rS (undF t hs).2.1, ((undF t hs).2.2).map rS) := by
  unfold undF
  rw [List.getLast?_map]
  cases hs.getLast? with
  | none => rfl
  | some u => simp [List.map_dropLast]
theorem e_psh (hs : List St) (t : St) : (pushH hs t).map rS = pushH (hs.map rS) (rS t) := by
  unfold pushH
  rw [List.length_map]
  split
  · simp
  · simp [List.map_tail]
theorem e_cb (t : St) (sl : Nat → Option St) (i : Int) : cbF (rS t) (slM sl) i = ((cbF t sl i).1, rS (cbF t sl i).2) := by
  unfold cbF
  split
  · show (match (sl i.toNat).map rS with | none => _ | some u => _) = _
    cases sl i.toNat with
    | none => rfl
    | some u => rfl
  · rfl
theorem e_sav (t : St) (sl : Nat → Option St) (i : Int) : savF (rS t) (slM sl) i = ((savF t sl i).1, slM (savF t sl i).2) := by
  unfold savF
  split
  · congr 1
    funext j
    show (if j = i.toNat then some (rS t) else (sl j).map rS) = (if j = i.toNat then some t else sl j).map rS
    split <;> rfl
  · rfl
