/-! The reference: the row that is laid (first meters and owners; the meters behind are known from what follows) -/
def layF (R : List Sg) (a b o : Int) : List Sg := if a < b then (match R.getLast? with
  | some s => if s.1 = o then R.dropLast ++ [(s.1, s.2.1, b)] else R ++ [(o, a, b)]
  | none => [(o, a, b)]) else R
theorem layF_len (R : List Sg) (a b o : Int) : R.length ≤ (layF R a b o).length ∧ (layF R a b o).length ≤ R.length + 1 ∧ (¬ a < b → (layF R a b o).length = R.length) := by
  unfold layF
  split
  · split
    · next s hs =>
      have : R ≠ [] := fun q => by rw [q] at hs; cases hs
      have := List.length_pos_iff.mpr this
      split
      · simp only [List.length_append, List.length_dropLast, List.length_cons, List.length_nil]; omega
      · simp only [List.length_append, List.length_cons, List.length_nil]; omega
    · next hs =>
      have : R = [] := List.getLast?_eq_none_iff.mp hs
      subst this
      simp; omega
  · omega
def rwA (G : xG) (w : Wd) (m : Nat) (R : List Sg) : Prop := ∃ rf ro : Int → Int, w (m + 12) = some (aI G 200 rf) ∧ w (m + 13) = some (aI G 200 ro) ∧ R.length ≤ 200 ∧ (∀ s ∈ R, okO s.1) ∧ ∀ (i : Nat) (h : i < R.length), rf i = R[i].2.1 ∧ ro i = R[i].1
theorem rwA.kpf {G : xG} {w w1 : Wd} {m : Nat} {R : List Sg} (h : rwA G w m R) (k1 : w1 (m + 12) = w (m + 12)) (k2 : w1 (m + 13) = w (m + 13)) : rwA G w1 m R := by
  obtain ⟨rf, ro, h1, h2, h3⟩ := h
  exact ⟨rf, ro, k1.trans h1, k2.trans h2, h3⟩
theorem rwA.up {G : xG} {w1 : Wd} {m : Nat} {R : List Sg} {a b o : Int} {rf ro : Int → Int} (hl : R.length < 200) (hv : ∀ (i : Nat) (h : i < R.length), rf i = R[i].2.1 ∧ ro i = R[i].1) (hok : ∀ s ∈ R, okO s.1) (ho : okO o) (h1 : w1 (m + 12) = some (aI G 200 (fU rf R.length a))) (h2 : w1 (m + 13) = some (aI G 200 (fU ro R.length o))) : rwA G w1 m (R ++ [(o, a, b)]) := by
  refine ⟨_, _, h1, h2, by simp; omega, fun s hs => ?_, fun i hi => ?_⟩
  · rcases List.mem_append.mp hs with q | q
    · exact hok s q
    · rw [List.mem_singleton] at q; rw [q]; exact ho
  · by_cases e : i < R.length
    · rw [List.getElem_append_left e, fU_ne (by omega), fU_ne (by omega)]; exact hv i e
    · have hi2 : i < R.length + 1 := by simpa using hi
      have hie : i = R.length := by omega
      subst hie
      rw [List.getElem_append_right (Nat.le_refl _)]
      simp only [Nat.sub_self, List.getElem_cons_zero]
      exact ⟨fU_eq, fU_eq⟩
theorem m_X7_lay {l : Launch} {G : xG} {w : Wd} {z m : Nat} {R : List Sg} {a b o un sg it mn pl wr : Int} (hh : w m = some (hdV m un sg it R.length mn pl wr)) (hr : rwA G w m R) (hl : R.length < 200) (ha : iR a) (hb : iR b) (ho : okO o) : xMet l G yX7_lay cX7_lay 4 none ({ frames := 0, cells := 0, slots := 0, locals := 0 } : Room) [.ref m, .int (iI a), .int (iI b), .int (iI o)] w z (qV z fun w1 => w1 m = some (hdV m un sg it (layF R a b o).length mn pl wr) ∧ rwA G w1 m (layF R a b o) ∧ Fr2 m (m + 1) (m + 12) (m + 14) w w1) := by
  obtain ⟨rf, ro, h12, h13, hle, hok, hv⟩ := id hr
  refine xMet_of RX7 rfl (by decide +kernel) false (by decide +kernel) (Nat.le_of_ble_eq_true rfl) rfl ?_
  intro P hM hR
  by_cases c1 : a < b
  · cases hg : R.getLast? with
    | none =>
      have hRn : R = [] := List.getLast?_eq_none_iff.mp hg
      have e1 : layF R a b o = R ++ [(o, a, b)] := by unfold layF; rw [if_pos c1, hg, hRn]; rfl
      have e2 : ((R ++ [(o, a, b)]).length : Int) = (R.length : Int) + 1 := by simp
      have e3 : R.length = 0 := by rw [hRn]; rfl
      refine x_iload_n hM dX7_lay_0 rfl rfl ?_
      refine x_iload_n hM dX7_lay_1 rfl rfl ?_
      refine x_icmp_ge (tgt := 57) hM dX7_lay_2 (by decide) (by omega) (by omega) (fun c_2 => ?_) (fun c_2 => ?_)
      · exfalso; omega
      · refine x_aload_n hM dX7_lay_5 rfl rfl ?_
        refine x_get hM wf_X7_90 wl_X7 (by first | assumption | exact md_o (by assumption)) rfl dX7_lay_6 ?_
        refine x_if_eq (tgt := 27) hM dX7_lay_9 (by decide) (by omega) (fun c_9 => ?_) (fun c_9 => ?_)
        · refine x_aload_n hM dX7_lay_27 rfl rfl ?_
          refine x_get hM wf_X7_45 wl_X7 (by first | assumption | exact md_o (by assumption)) rfl dX7_lay_28 ?_
          refine x_aload_n hM dX7_lay_31 rfl rfl ?_
          refine x_get hM wf_X7_90 wl_X7 (by first | exact hh | exact (wS_ne (by omega)).trans hh) rfl dX7_lay_32 ?_
          refine x_iload_n hM dX7_lay_35 rfl rfl ?_
          refine x_iast hM h12 (by omega) dX7_lay_36 ?_
          refine x_aload_n hM dX7_lay_37 rfl rfl ?_
          refine x_get hM wf_X7_48 wl_X7 (by first | exact hh | exact (wS_ne (by omega)).trans hh) rfl dX7_lay_38 ?_
          refine x_aload_n hM dX7_lay_41 rfl rfl ?_
          refine x_get hM wf_X7_90 wl_X7 (by first | exact hh | exact (wS_ne (by omega)).trans hh) rfl dX7_lay_42 ?_
          refine x_iload_n hM dX7_lay_45 rfl rfl ?_
          refine x_iast hM ((wS_ne (by omega)).trans h13) (by omega) dX7_lay_46 ?_
          refine x_aload_n hM dX7_lay_47 rfl rfl ?_
          refine x_dup hM dX7_lay_48 rfl ?_
          refine x_get hM wf_X7_90 wl_X7 (by exact (wS_ne (by omega)).trans ((wS_ne (by omega)).trans hh)) rfl dX7_lay_49 ?_
          refine x_iconst hM dX7_lay_52 ?_
          refine x_iadd hM dX7_lay_53 ?_
          refine x_put hM wf_X7_90 wl_X7 (by exact (wS_ne (by omega)).trans ((wS_ne (by omega)).trans hh)) wq_X7_90 rfl rfl (Nat.le_of_ble_eq_true rfl) rfl dX7_lay_54 ?_
          refine hR.v dX7_lay_57 (Nat.zero_le _) (Nat.zero_le _) ?_
          rw [e1]
          refine p_qV ⟨?_, rwA.up hl hv hok ho ((wS_ne (by omega)).trans ((wS_ne (by omega)).trans wS_eq)) ((wS_ne (by omega)).trans wS_eq), ?_⟩
          · rw [e2]; exact wS_eq
          · exact ((wF.r2 (by omega) (by omega)).tr (wF.r2 (by omega) (by omega))).tr (wF.l2 (by omega) (by omega))
        · exfalso; omega
    | some s =>
      have hne : R ≠ [] := fun q => by rw [q] at hg; cases hg
      have hpos : 0 < R.length := List.length_pos_iff.mpr hne
      have hlast : R[R.length - 1]'(by omega) = s := by rw [List.getLast?_eq_getElem?] at hg; exact (List.getElem?_eq_some_iff.mp hg).2
      have hos : okO s.1 := hok s (List.mem_of_getLast? hg)
      have e4 : ro ((R.length : Int) - 1) = s.1 := by rw [show (R.length : Int) - 1 = ((R.length - 1 : Nat) : Int) by omega, (hv _ (by omega)).2, hlast]
      by_cases c2 : s.1 = o
      · have e1 : layF R a b o = R.dropLast ++ [(s.1, s.2.1, b)] := by unfold layF; rw [if_pos c1, hg]; exact if_pos c2
        have e2 : (R.dropLast ++ [(s.1, s.2.1, b)]).length = R.length := by simp; omega
        refine x_iload_n hM dX7_lay_0 rfl rfl ?_
        refine x_iload_n hM dX7_lay_1 rfl rfl ?_
        refine x_icmp_ge (tgt := 57) hM dX7_lay_2 (by decide) (by omega) (by omega) (fun c_2 => ?_) (fun c_2 => ?_)
        · exfalso; omega
        · refine x_aload_n hM dX7_lay_5 rfl rfl ?_
          refine x_get hM wf_X7_90 wl_X7 (by first | assumption | exact md_o (by assumption)) rfl dX7_lay_6 ?_
          refine x_if_eq (tgt := 27) hM dX7_lay_9 (by decide) (by omega) (fun c_9 => ?_) (fun c_9 => ?_)
          · exfalso; omega
          · refine x_aload_n hM dX7_lay_12 rfl rfl ?_
            refine x_get hM wf_X7_48 wl_X7 (by first | assumption | exact md_o (by assumption)) rfl dX7_lay_13 ?_
            refine x_aload_n hM dX7_lay_16 rfl rfl ?_
            refine x_get hM wf_X7_90 wl_X7 (by first | assumption | exact md_o (by assumption)) rfl dX7_lay_17 ?_
            refine x_iconst hM dX7_lay_20 ?_
            refine x_isub hM dX7_lay_21 ?_
            refine x_iald hM h13 (by omega) dX7_lay_22 ?_
            rw [e4]
            refine x_iload_n hM dX7_lay_23 rfl rfl ?_
            refine x_icmp_eq (tgt := 57) hM dX7_lay_24 (by decide) (by omega) (by omega) (fun c_24 => ?_) (fun c_24 => ?_)
            · refine hR.v dX7_lay_57 (Nat.zero_le _) (Nat.zero_le _) ?_
              rw [e1]
              refine p_qV ⟨?_, ⟨rf, ro, h12, h13, by omega, fun u hu => ?_, fun i hi => ?_⟩, Fr2.rf⟩
              · rw [e2]; exact hh
              · rcases List.mem_append.mp hu with q | q
                · exact hok u ((List.dropLast_sublist R).subset q)
                · rw [List.mem_singleton] at q; rw [q]; exact hos
              · by_cases e : i < R.dropLast.length
                · rw [List.getElem_append_left e, List.getElem_dropLast]; exact hv i _
                · have hdl := List.length_dropLast (xs := R)
                  have hie : i = R.length - 1 := by omega
                  have hv2 := hv i (by omega)
                  have hl2 : R[i]'(by omega) = s := by subst hie; exact hlast
                  rw [List.getElem_append_right (by omega)]
                  simp only [show i - R.dropLast.length = 0 by omega, List.getElem_cons_zero]
                  rw [hl2] at hv2; exact hv2
            · exfalso; omega
      · have e1 : layF R a b o = R ++ [(o, a, b)] := by unfold layF; rw [if_pos c1, hg]; exact if_neg c2
        have e2 : ((R ++ [(o, a, b)]).length : Int) = (R.length : Int) + 1 := by simp
        refine x_iload_n hM dX7_lay_0 rfl rfl ?_
        refine x_iload_n hM dX7_lay_1 rfl rfl ?_
        refine x_icmp_ge (tgt := 57) hM dX7_lay_2 (by decide) (by omega) (by omega) (fun c_2 => ?_) (fun c_2 => ?_)
        · exfalso; omega
        · refine x_aload_n hM dX7_lay_5 rfl rfl ?_
          refine x_get hM wf_X7_90 wl_X7 (by first | assumption | exact md_o (by assumption)) rfl dX7_lay_6 ?_
          refine x_if_eq (tgt := 27) hM dX7_lay_9 (by decide) (by omega) (fun c_9 => ?_) (fun c_9 => ?_)
          · exfalso; omega
          · refine x_aload_n hM dX7_lay_12 rfl rfl ?_
            refine x_get hM wf_X7_48 wl_X7 (by first | assumption | exact md_o (by assumption)) rfl dX7_lay_13 ?_
            refine x_aload_n hM dX7_lay_16 rfl rfl ?_
            refine x_get hM wf_X7_90 wl_X7 (by first | assumption | exact md_o (by assumption)) rfl dX7_lay_17 ?_
            refine x_iconst hM dX7_lay_20 ?_
            refine x_isub hM dX7_lay_21 ?_
            refine x_iald hM h13 (by omega) dX7_lay_22 ?_
            rw [e4]
            refine x_iload_n hM dX7_lay_23 rfl rfl ?_
            refine x_icmp_eq (tgt := 57) hM dX7_lay_24 (by decide) (by omega) (by omega) (fun c_24 => ?_) (fun c_24 => ?_)
            · exfalso; omega
            · refine x_aload_n hM dX7_lay_27 rfl rfl ?_
              refine x_get hM wf_X7_45 wl_X7 (by first | assumption | exact md_o (by assumption)) rfl dX7_lay_28 ?_
              refine x_aload_n hM dX7_lay_31 rfl rfl ?_
              refine x_get hM wf_X7_90 wl_X7 (by first | exact hh | exact (wS_ne (by omega)).trans hh) rfl dX7_lay_32 ?_
              refine x_iload_n hM dX7_lay_35 rfl rfl ?_
              refine x_iast hM h12 (by omega) dX7_lay_36 ?_
              refine x_aload_n hM dX7_lay_37 rfl rfl ?_
              refine x_get hM wf_X7_48 wl_X7 (by first | exact hh | exact (wS_ne (by omega)).trans hh) rfl dX7_lay_38 ?_
              refine x_aload_n hM dX7_lay_41 rfl rfl ?_
              refine x_get hM wf_X7_90 wl_X7 (by first | exact hh | exact (wS_ne (by omega)).trans hh) rfl dX7_lay_42 ?_
              refine x_iload_n hM dX7_lay_45 rfl rfl ?_
              refine x_iast hM ((wS_ne (by omega)).trans h13) (by omega) dX7_lay_46 ?_
              refine x_aload_n hM dX7_lay_47 rfl rfl ?_
              refine x_dup hM dX7_lay_48 rfl ?_
              refine x_get hM wf_X7_90 wl_X7 (by exact (wS_ne (by omega)).trans ((wS_ne (by omega)).trans hh)) rfl dX7_lay_49 ?_
              refine x_iconst hM dX7_lay_52 ?_
              refine x_iadd hM dX7_lay_53 ?_
              refine x_put hM wf_X7_90 wl_X7 (by exact (wS_ne (by omega)).trans ((wS_ne (by omega)).trans hh)) wq_X7_90 rfl rfl (Nat.le_of_ble_eq_true rfl) rfl dX7_lay_54 ?_
              refine hR.v dX7_lay_57 (Nat.zero_le _) (Nat.zero_le _) ?_
              rw [e1]
              refine p_qV ⟨?_, rwA.up hl hv hok ho ((wS_ne (by omega)).trans ((wS_ne (by omega)).trans wS_eq)) ((wS_ne (by omega)).trans wS_eq), ?_⟩
              · rw [e2]; exact wS_eq
              · exact ((wF.r2 (by omega) (by omega)).tr (wF.r2 (by omega) (by omega))).tr (wF.l2 (by omega) (by omega))
  · have e1 : layF R a b o = R := if_neg c1
    refine x_iload_n hM dX7_lay_0 rfl rfl ?_
    refine x_iload_n hM dX7_lay_1 rfl rfl ?_
    refine x_icmp_ge (tgt := 57) hM dX7_lay_2 (by decide) (by omega) (by omega) (fun c_2 => ?_) (fun c_2 => ?_)
    · refine hR.v dX7_lay_57 (Nat.zero_le _) (Nat.zero_le _) ?_
      rw [e1]
      exact p_qV ⟨hh, hr, Fr2.rf⟩
    · exfalso; omega
theorem m_X7_rangesInRow {l : Launch} {G : xG} {w : Wd} {z m : Nat} {R : List Sg} {un sg it mn pl wr : Int} (hh : w m = some (hdV m un sg it R.length mn pl wr)) (hr : rwA G w m R) : xMet l G yX7_rangesInRow cX7_rangesInRow 3 (some .int) ({ frames := 0, cells := 0, slots := 0, locals := 0 } : Room) [.ref m] w z (rI (rnF R) w z) := by
  obtain ⟨rf, ro, h12, h13, hle, hok, hv⟩ := id hr
  refine xMet_of RX7 rfl (by decide +kernel) false (by decide +kernel) (Nat.le_of_ble_eq_true rfl) rfl ?_
  intro P hM hR
  have K : ∀ (k i : Nat) (c : Int), R.length - i < k → i ≤ R.length → (R.drop i).foldl rnS c = rnF R → P 4 [some (.ref m), some (.int (iI c)), some (.int (iI i))] [] w (z, 0, 0) := by
    intro k
    induction k with
    | zero => intro i c hk; omega
    | succ k ih =>
      intro i c hk hi hinv
      by_cases hlt : i < R.length
      · have hg := hok R[i] (List.getElem_mem hlt)
        have he := (hv i hlt).2
        rw [drop_fold _ _ hlt] at hinv
        refine x_iload_n hM dX7_rangesInRow_4 rfl rfl ?_
        refine x_aload_n hM dX7_rangesInRow_5 rfl rfl ?_
        refine x_get hM wf_X7_90 wl_X7 (by first | assumption | exact md_o (by assumption)) rfl dX7_rangesInRow_6 ?_
        refine x_icmp_ge (tgt := 35) hM dX7_rangesInRow_9 (by decide) (by omega) (by omega) (fun c_9 => ?_) (fun c_9 => ?_)
        · exfalso; omega
        · refine x_iload_n hM dX7_rangesInRow_12 rfl rfl ?_
          refine x_aload_n hM dX7_rangesInRow_13 rfl rfl ?_
          refine x_get hM wf_X7_48 wl_X7 (by first | assumption | exact md_o (by assumption)) rfl dX7_rangesInRow_14 ?_
          refine x_iload_n hM dX7_rangesInRow_17 rfl rfl ?_
          refine x_iald hM h13 (by omega) dX7_rangesInRow_18 ?_
          refine x_if_lt (tgt := 26) hM dX7_rangesInRow_19 (by decide) (by omega) (fun c_19 => ?_) (fun c_19 => ?_)
          · refine x_iconst hM dX7_rangesInRow_26 ?_
            refine x_iadd hM dX7_rangesInRow_27 ?_
            refine x_istore_n hM dX7_rangesInRow_28 rfl rfl (Nat.le_of_ble_eq_true rfl) rfl ?_
            refine x_iinc hM dX7_rangesInRow_29 rfl rfl rfl ?_
            refine x_goto (tgt := 4) hM dX7_rangesInRow_32 (by decide) ?_
            exact ih (i + 1) _ (by omega) (by omega) (by first | (rw [show rnS c R[i] = _ from if_pos (by omega)] at hinv; exact hinv) | (rw [show rnS c R[i] = _ from if_neg (by omega)] at hinv; rw [Int.add_zero]; exact hinv))
          · refine x_iconst hM dX7_rangesInRow_22 ?_
            refine x_goto (tgt := 27) hM dX7_rangesInRow_23 (by decide) ?_
            refine x_iadd hM dX7_rangesInRow_27 ?_
            refine x_istore_n hM dX7_rangesInRow_28 rfl rfl (Nat.le_of_ble_eq_true rfl) rfl ?_
            refine x_iinc hM dX7_rangesInRow_29 rfl rfl rfl ?_
            refine x_goto (tgt := 4) hM dX7_rangesInRow_32 (by decide) ?_
            exact ih (i + 1) _ (by omega) (by omega) (by first | (rw [show rnS c R[i] = _ from if_pos (by omega)] at hinv; exact hinv) | (rw [show rnS c R[i] = _ from if_neg (by omega)] at hinv; rw [Int.add_zero]; exact hinv))
      · rw [drop_foldE _ _ (by omega)] at hinv
        refine x_iload_n hM dX7_rangesInRow_4 rfl rfl ?_
        refine x_aload_n hM dX7_rangesInRow_5 rfl rfl ?_
        refine x_get hM wf_X7_90 wl_X7 (by first | assumption | exact md_o (by assumption)) rfl dX7_rangesInRow_6 ?_
        refine x_icmp_ge (tgt := 35) hM dX7_rangesInRow_9 (by decide) (by omega) (by omega) (fun c_9 => ?_) (fun c_9 => ?_)
        · refine x_iload_n hM dX7_rangesInRow_35 rfl rfl ?_
          refine hR.i dX7_rangesInRow_36 (Nat.zero_le _) (Nat.zero_le _) ?_
          exact p_rI hinv
        · exfalso; omega
  refine x_iconst hM dX7_rangesInRow_0 ?_
  refine x_istore_n hM dX7_rangesInRow_1 rfl rfl (Nat.le_of_ble_eq_true rfl) rfl ?_
  refine x_iconst hM dX7_rangesInRow_2 ?_
  refine x_istore_n hM dX7_rangesInRow_3 rfl rfl (Nat.le_of_ble_eq_true rfl) rfl ?_
  exact K _ 0 0 (Nat.lt_succ_self _) (Nat.zero_le _) rfl
abbrev stL (t : St) (R : List Sg) : St := mkS R t.set t.mon t.tax t.los t.D t.own t.day t.clo t.fee
theorem m_X7_takeRow {l : Launch} {G : xG} {w : Wd} {z m : Nat} {R : List Sg} {f : Int → Int} {t : St} {un sg it mn pl wr : Int} (hh : w m = some (hdV m un sg it R.length mn pl wr)) (hr : rwA G w m R) (hn : w (m + 1) = some (aI G 400 f)) (hp : nowP f t) (hR0 : segW R) : xMet l G yX7_takeRow cX7_takeRow 2 none ({ frames := 0, cells := 0, slots := 0, locals := 0 } : Room) [.ref m] w z (qV z fun w1 => (∃ g, w1 (m + 1) = some (aI G 400 g) ∧ nowP g (stL t R)) ∧ Fr (m + 1) (m + 2) w w1) := by
  obtain ⟨rf, ro, h12, h13, hle, hok, hv⟩ := id hr
  have hl := hR0.1
  refine xMet_of RX7 rfl (by decide +kernel) false (by decide +kernel) (Nat.le_of_ble_eq_true rfl) rfl ?_
  intro P hM hR
  have K : ∀ (k i : Nat) (g : Int → Int) (w1 : Wd), R.length - i < k → i ≤ R.length → w1 (m + 1) = some (aI G 400 g) → Fr (m + 1) (m + 2) w w1 → g 7 = R.length → (∀ j : Int, j < 100 → j ≠ 7 → g j = f j) → (∀ (j : Nat) (h : j < R.length), j < i → g (100 + 2 * j) = R[j].2.1 ∧ g (100 + 2 * j + 1) = R[j].1) → P 13 [some (.ref m), some (.int (iI i))] [] w1 (z, 0, 0) := by
    intro k
    induction k with
    | zero => intro i g w1 hk; omega
    | succ k ih =>
      intro i g w1 hk hi hc hF h7 hlow hpc
      have hh1 := (hF m (by omega)).trans hh
      have h121 := (hF (m + 12) (by omega)).trans h12
      have h131 := (hF (m + 13) (by omega)).trans h13
      by_cases hlt : i < R.length
      · have e1 := hv i hlt
        refine x_iload_n hM dX7_takeRow_13 rfl rfl ?_
        refine x_aload_n hM dX7_takeRow_14 rfl rfl ?_
        refine x_get hM wf_X7_90 wl_X7 (by first | assumption | exact md_o (by assumption)) rfl dX7_takeRow_15 ?_
        refine x_icmp_ge (tgt := 63) hM dX7_takeRow_18 (by decide) (by omega) (by omega) (fun c_18 => ?_) (fun c_18 => ?_)
        · exfalso; omega
        · refine x_aload_n hM dX7_takeRow_21 rfl rfl ?_
          refine x_get hM wf_X7_7 wl_X7 hh1 rfl dX7_takeRow_22 ?_
          refine x_bipush hM dX7_takeRow_25 rfl ?_
          refine x_iconst hM dX7_takeRow_27 ?_
          refine x_iload_n hM dX7_takeRow_28 rfl rfl ?_
          refine x_imul hM dX7_takeRow_29 ?_
          refine x_iadd hM dX7_takeRow_30 ?_
          refine x_aload_n hM dX7_takeRow_31 rfl rfl ?_
          refine x_get hM wf_X7_45 wl_X7 hh1 rfl dX7_takeRow_32 ?_
          refine x_iload_n hM dX7_takeRow_35 rfl rfl ?_
          refine x_iald hM h121 (by omega) dX7_takeRow_36 ?_
          refine x_iast hM hc (by omega) dX7_takeRow_37 ?_
          refine x_aload_n hM dX7_takeRow_38 rfl rfl ?_
          refine x_get hM wf_X7_7 wl_X7 ((wS_ne (by omega)).trans hh1) rfl dX7_takeRow_39 ?_
          refine x_bipush hM dX7_takeRow_42 rfl ?_
          refine x_iconst hM dX7_takeRow_44 ?_
          refine x_iload_n hM dX7_takeRow_45 rfl rfl ?_
          refine x_imul hM dX7_takeRow_46 ?_
          refine x_iadd hM dX7_takeRow_47 ?_
          refine x_iconst hM dX7_takeRow_48 ?_
          refine x_iadd hM dX7_takeRow_49 ?_
          refine x_aload_n hM dX7_takeRow_50 rfl rfl ?_
          refine x_get hM wf_X7_48 wl_X7 ((wS_ne (by omega)).trans hh1) rfl dX7_takeRow_51 ?_
          refine x_iload_n hM dX7_takeRow_54 rfl rfl ?_
          refine x_iald hM ((wS_ne (by omega)).trans h131) (by omega) dX7_takeRow_55 ?_
          refine x_iast hM wS_eq (by omega) dX7_takeRow_56 ?_
          refine x_iinc hM dX7_takeRow_57 rfl rfl rfl ?_
          refine x_goto (tgt := 13) hM dX7_takeRow_60 (by decide) ?_
          rw [wS_2]
          refine ih (i + 1) _ _ (by omega) (by omega) wS_eq (hF.tr (Fr.wS (by omega) (by omega))) (by rw [fU_ne (by omega), fU_ne (by omega)]; exact h7) (fun j hj hj7 => by rw [fU_ne (by omega), fU_ne (by omega)]; exact hlow j hj hj7) (fun j hj hj2 => ?_)
          by_cases e : j = i
          · subst e
            exact ⟨by rw [fU_ne (by omega), fU_eq]; exact e1.1, by rw [fU_eq]; exact e1.2⟩
          · rw [fU_ne (by omega), fU_ne (by omega), fU_ne (by omega), fU_ne (by omega)]; exact hpc j hj (by omega)
      · skip
        refine x_iload_n hM dX7_takeRow_13 rfl rfl ?_
        refine x_aload_n hM dX7_takeRow_14 rfl rfl ?_
        refine x_get hM wf_X7_90 wl_X7 hh1 rfl dX7_takeRow_15 ?_
        refine x_icmp_ge (tgt := 63) hM dX7_takeRow_18 (by decide) (by omega) (by omega) (fun c_18 => ?_) (fun c_18 => ?_)
        · refine hR.v dX7_takeRow_63 (Nat.zero_le _) (Nat.zero_le _) ?_
          obtain ⟨p1, p2, p3, p4, p5, p6, p7, p8, p9, p10, p11, p12, p13⟩ := hp
          have hdl := p2.1
          refine p_qV ⟨⟨g, hc, p1, p2, hR0, fun j a b => ?_, ?_, ?_, h7, ?_, ?_, ?_, fun o a b => ?_, fun j hj q a b => ?_, fun j hj => ?_⟩, hF⟩
          · exact (hlow j (by omega) (by omega)).trans (p4 j a b)
          · exact (hlow 5 (by omega) (by omega)).trans p5
          · exact (hlow 6 (by omega) (by omega)).trans p6
          · exact (hlow 8 (by omega) (by omega)).trans p8
          · exact (hlow 9 (by omega) (by omega)).trans p9
          · exact (hlow 10 (by omega) (by omega)).trans p10
          · rw [hlow _ (by omega) (by omega), hlow _ (by omega) (by omega)]; exact p11 o a b
          · have hj8 : j < t.D.length := hj
            rw [hlow _ (by omega) (by omega)]; exact p12 j hj q a b
          · exact hpc j hj (by have : j < R.length := hj; omega)
        · exfalso; omega
  refine x_aload_n hM dX7_takeRow_0 rfl rfl ?_
  refine x_get hM wf_X7_7 wl_X7 (by first | assumption | exact md_o (by assumption)) rfl dX7_takeRow_1 ?_
  refine x_bipush hM dX7_takeRow_4 rfl ?_
  refine x_aload_n hM dX7_takeRow_6 rfl rfl ?_
  refine x_get hM wf_X7_90 wl_X7 (by first | assumption | exact md_o (by assumption)) rfl dX7_takeRow_7 ?_
  refine x_iast hM hn (by omega) dX7_takeRow_10 ?_
  refine x_iconst hM dX7_takeRow_11 ?_
  refine x_istore_n hM dX7_takeRow_12 rfl rfl (Nat.le_of_ble_eq_true rfl) rfl ?_
  exact K _ 0 _ _ (Nat.lt_succ_self _) (Nat.zero_le _) wS_eq (Fr.wS (by omega) (by omega)) fU_eq (fun j hj hj7 => fU_ne hj7) (fun j hj hj2 => absurd hj2 (Nat.not_lt_zero _))
