/-! RangeDeeds: texts -/
def padE (G : xG) (w : Wd) (p : Nat) (cs : List Int) : Prop := ∃ pl kd le nu se : Int, padA G w p cs pl kd le nu se
theorem padE.kp {G : xG} {w w1 : Wd} {p lo hi : Nat} {cs : List Int} (h : padE G w p cs) (k : Fr lo hi w w1) (a : p + 2 ≤ lo ∨ hi ≤ p) : padE G w1 p cs := by
  obtain ⟨pl, kd, le, nu, se, h⟩ := h
  exact ⟨pl, kd, le, nu, se, h.kp k a⟩
theorem padA.w0 {G : xG} {w : Wd} {p : Nat} {cs : List Int} {pl kd le nu se pl2 kd2 le2 nu2 se2 : Int} (h : padA G w p cs pl kd le nu se) : padA G (wS w p (.inr (2, [.ref (p + 1), .int (iI 0), .int (iI pl2), .int (iI kd2), .int (iI le2), .int (iI nu2), .int (iI se2)]))) p [] pl2 kd2 le2 nu2 se2 := by
  obtain ⟨h1, h2, f, h3, h4⟩ := h
  exact ⟨⟨by simp, fun c hc => absurd hc List.not_mem_nil⟩, wS_eq, f, (wS_ne (by omega)).trans h3, fun i hi => absurd hi (Nat.not_lt_zero _)⟩
theorem sgn_chr : ∀ (k u c : Nat), sgnF k u c ≠ 0 → ∃ n : Nat, sgnF k u c = c + n ∧ ∀ x ∈ chrL n u, 33 ≤ x ∧ x ≤ 126 := by
  intro k
  induction k with
  | zero => intro u c _; exact ⟨0, rfl, fun x hx => absurd hx List.not_mem_nil⟩
  | succ k ih =>
    intro u c h
    by_cases h0 : u = 0
    · exact ⟨0, if_pos h0, fun x hx => absurd hx List.not_mem_nil⟩
    · by_cases h1 : u % 256 < 33 ∨ 126 < u % 256
      · exact absurd ((if_neg h0).trans (if_pos h1)) h
      · have e : sgnF (k + 1) u c = sgnF k (u / 256) (c + 1) := (if_neg h0).trans (if_neg h1)
        rw [e] at h ⊢
        obtain ⟨n, e1, e2⟩ := ih _ _ h
        refine ⟨n + 1, by omega, fun x hx => ?_⟩
        rcases List.mem_append.mp hx with q | q
        · exact e2 x q
        · rw [List.mem_singleton] at q; omega
def putF (cs : List Int) (u : Nat) : Int × List Int := if sgnF 8 u 0 = 0 then (-2, cs) else if cs.length + sgnF 8 u 0 ≤ 80 then (((cs.length + sgnF 8 u 0 : Nat) : Int), cs ++ chrL (sgnF 8 u 0) u) else (-4, cs)
theorem m_X6_put {l : Launch} {G : xG} {w : Wd} {z x u : Nat} {s : St} {cs : List Int} (hc : coA G w x s) (hp : padE G w (x + 213) cs) (hu : u < 2 ^ 64) : xMet l G yX6_put cX6_put 4 (some .int) ({ frames := 1, cells := 0, slots := 0, locals := 26 } : Room) [.ref x, .long (lN u)] w z (qI z fun y w1 => y = (putF cs u).1 ∧ padE G w1 (x + 213) (putF cs u).2 ∧ Fr (x + 213) (x + 215) w w1) := by
  obtain ⟨hd, -⟩ := id hc
  obtain ⟨pl, kd, le, nu, se, hA⟩ := id hp
  have hsb := sgnF_b 8 u 0
  by_cases c1 : sgnF 8 u 0 = 0
  · skip
    have e1 : putF cs u = (-2, cs) := if_pos c1
    rw [e1]
    refine xMet_of RX6 rfl (by decide +kernel) false (by decide +kernel) (Nat.le_of_ble_eq_true rfl) rfl ?_
    intro P hM hR
    refine x_lload_n hM dX6_put_0 rfl rfl ?_
    refine x_callS hM ws_X6_228 (m_X2_signsIn (by assumption)) ⟨Nat.le_of_ble_eq_true rfl, Nat.le_of_ble_eq_true rfl⟩ rfl rfl (Nat.le_of_ble_eq_true rfl) ⟨Nat.le_of_ble_eq_true rfl, Nat.le_of_ble_eq_true rfl⟩ dX6_put_1 (k_rI ?_)
    rw [c1]
    refine x_istore_n hM dX6_put_4 rfl rfl (Nat.le_of_ble_eq_true rfl) rfl ?_
    refine x_iload_n hM dX6_put_5 rfl rfl ?_
    refine x_if_ne (tgt := 12) hM dX6_put_6 (by decide) (by omega) (fun c_6 => ?_) (fun c_6 => ?_)
    · exfalso; omega
    · refine x_bipush hM dX6_put_9 rfl ?_
      refine hR.i dX6_put_11 (Nat.zero_le _) (Nat.zero_le _) ?_
      exact p_qI ⟨rfl, hp, Fr.rf⟩
  · obtain ⟨n, e1, e2⟩ := sgn_chr 8 u 0 c1
    rw [Nat.zero_add] at e1
    have hn : 1 ≤ n ∧ n ≤ 8 := by omega
    refine xMet_of RX6 rfl (by decide +kernel) false (by decide +kernel) (Nat.le_of_ble_eq_true rfl) rfl ?_
    intro P hM hR
    refine x_lload_n hM dX6_put_0 rfl rfl ?_
    refine x_callS hM ws_X6_228 (m_X2_signsIn (by assumption)) ⟨Nat.le_of_ble_eq_true rfl, Nat.le_of_ble_eq_true rfl⟩ rfl rfl (Nat.le_of_ble_eq_true rfl) ⟨Nat.le_of_ble_eq_true rfl, Nat.le_of_ble_eq_true rfl⟩ dX6_put_1 (k_rI ?_)
    rw [e1]
    refine x_istore_n hM dX6_put_4 rfl rfl (Nat.le_of_ble_eq_true rfl) rfl ?_
    refine x_iload_n hM dX6_put_5 rfl rfl ?_
    refine x_if_ne (tgt := 12) hM dX6_put_6 (by decide) (by omega) (fun c_6 => ?_) (fun c_6 => ?_)
    · refine x_aload_n hM dX6_put_12 rfl rfl ?_
      refine x_get hM wf_X6_40 wl_X6 (by first | assumption | exact dd_o (by assumption)) rfl dX6_put_13 ?_
      refine x_lload_n hM dX6_put_16 rfl rfl ?_
      refine x_iload_n hM dX6_put_17 rfl rfl ?_
      refine x_callV hM wv_X6_232 (m_X2_append hA hu hn e2) ⟨Nat.le_of_ble_eq_true rfl, Nat.le_of_ble_eq_true rfl⟩ (pad_o hA) rfl rfl rfl rfl (Nat.le_of_ble_eq_true rfl) ⟨Nat.le_of_ble_eq_true rfl, Nat.le_of_ble_eq_true rfl⟩ dX6_put_18 (k_qI fun x_18 w_18 q_18 => ?_)
      obtain ⟨qf, q1, q2⟩ := q_18
      by_cases c2 : cs.length + n ≤ 80
      · obtain ⟨rfl, qa⟩ := q2 c2
        have e3 : putF cs u = (((cs.length + n : Nat) : Int), cs ++ chrL n u) := by unfold putF; rw [if_neg c1, e1, if_pos c2]
        have hd1 := (qf x (by omega)).trans hd
        have e4 : ((cs ++ chrL n u).length : Int) = ((cs.length + n : Nat) : Int) := by rw [List.length_append, chrL_len]
        refine x_if_eq (tgt := 34) hM dX6_put_21 (by decide) (by omega) (fun q => absurd q (by decide)) (fun _ => ?_)
        refine x_aload_n hM dX6_put_24 rfl rfl ?_
        refine x_get hM wf_X6_40 wl_X6 hd1 rfl dX6_put_25 ?_
        refine x_get hM wf_X6_185 wl_X2 (pad_o qa) rfl dX6_put_28 ?_
        refine x_goto (tgt := 36) hM dX6_put_31 (by decide) ?_
        refine hR.i dX6_put_36 (Nat.zero_le _) (Nat.zero_le _) ?_
        rw [e4]
        exact p_qI (show _ ∧ _ from by rw [e3]; exact ⟨rfl, ⟨_, _, _, _, _, qa⟩, qf.mo (by omega) (by omega)⟩)
      obtain ⟨rfl, qa⟩ := q1 (by omega)
      have e3 : putF cs u = (-4, cs) := by unfold putF; rw [if_neg c1, e1, if_neg c2]
      refine x_if_eq (tgt := 34) hM dX6_put_21 (by decide) (by omega) (fun c_21 => ?_) (fun c_21 => ?_)
      · refine x_bipush hM dX6_put_34 rfl ?_
        refine hR.i dX6_put_36 (Nat.zero_le _) (Nat.zero_le _) ?_
        exact p_qI (show _ ∧ _ from by rw [e3]; exact ⟨rfl, ⟨_, _, _, _, _, qa⟩, qf.mo (by omega) (by omega)⟩)
      · exfalso; omega
    · exfalso; omega
theorem m_X6_wipe {l : Launch} {G : xG} {w : Wd} {z x : Nat} {s : St} {cs : List Int} (hc : coA G w x s) (hp : padE G w (x + 213) cs) : xMet l G yX6_wipe cX6_wipe 2 (some .int) ({ frames := 0, cells := 0, slots := 0, locals := 0 } : Room) [.ref x] w z (qI z fun y w1 => y = cs.length ∧ padE G w1 (x + 213) [] ∧ Fr (x + 213) (x + 215) w w1) := by
  obtain ⟨hd, -⟩ := id hc
  obtain ⟨pl, kd, le, nu, se, hA⟩ := id hp
  refine xMet_of RX6 rfl (by decide +kernel) false (by decide +kernel) (Nat.le_of_ble_eq_true rfl) rfl ?_
  intro P hM hR
  refine x_aload_n hM dX6_wipe_0 rfl rfl ?_
  refine x_get hM wf_X6_40 wl_X6 (by first | assumption | exact dd_o (by assumption)) rfl dX6_wipe_1 ?_
  refine x_get hM wf_X6_185 wl_X2 (by first | assumption | exact pad_o (by assumption)) rfl dX6_wipe_4 ?_
  refine x_istore_n hM dX6_wipe_7 rfl rfl (Nat.le_of_ble_eq_true rfl) rfl ?_
  refine x_aload_n hM dX6_wipe_8 rfl rfl ?_
  refine x_get hM wf_X6_40 wl_X6 (by first | assumption | exact dd_o (by assumption)) rfl dX6_wipe_9 ?_
  refine x_iconst hM dX6_wipe_12 ?_
  refine x_put hM wf_X6_185 wl_X2 (by first | assumption | exact pad_o (by assumption)) wq_X6_185 rfl rfl (Nat.le_of_ble_eq_true rfl) rfl dX6_wipe_13 ?_
  refine x_iload_n hM dX6_wipe_16 rfl rfl ?_
  refine hR.i dX6_wipe_17 (Nat.zero_le _) (Nat.zero_le _) ?_
  exact p_qI ⟨rfl, ⟨_, _, _, _, _, hA.w0⟩, Fr.wS (by omega) (by omega)⟩
theorem m_X6_fault {l : Launch} {G : xG} {w : Wd} {z x : Nat} {s : St} {cs : List Int} (hc : coA G w x s) (hp : padE G w (x + 213) cs) : xMet l G yX6_fault cX6_fault 1 (some .int) ({ frames := 5, cells := 0, slots := 0, locals := 104 } : Room) [.ref x] w z (qI z fun y w1 => y = fltP cs 81 0 ∧ padE G w1 (x + 213) cs ∧ Fr (x + 213) (x + 215) w w1) := by
  obtain ⟨hd, -⟩ := id hc
  obtain ⟨pl, kd, le, nu, se, hA⟩ := id hp
  refine xMet_of RX6 rfl (by decide +kernel) false (by decide +kernel) (Nat.le_of_ble_eq_true rfl) rfl ?_
  intro P hM hR
  refine x_aload_n hM dX6_fault_0 rfl rfl ?_
  refine x_get hM wf_X6_40 wl_X6 (by first | assumption | exact dd_o (by assumption)) rfl dX6_fault_1 ?_
  refine x_callV hM wv_X6_236 (m_X2_findFault (by assumption)) ⟨Nat.le_of_ble_eq_true rfl, Nat.le_of_ble_eq_true rfl⟩ (by first | assumption | exact pad_o (by assumption)) rfl rfl rfl rfl (Nat.le_of_ble_eq_true rfl) ⟨Nat.le_of_ble_eq_true rfl, Nat.le_of_ble_eq_true rfl⟩ dX6_fault_4 (k_qI fun x_4 w_4 q_4 => ?_)
  obtain ⟨qf, q1, -, qp⟩ := q_4
  refine hR.i dX6_fault_7 (Nat.zero_le _) (Nat.zero_le _) ?_
  exact p_qI ⟨q1, qp, qf.mo (by omega) (by omega)⟩
def ceF (s : St) (k l n m : Int) : Int × St := if k = 43 then gvF s l n m else if k = 45 then frF s n m else if k = 100 then daF s n else if k = 103 then grF s l n else if k = 112 then payF s l n else (-3, s)
theorem m_X6_carryEntry {l : Launch} {G : xG} {w : Wd} {z x : Nat} {s : St} {cs : List Int} {pl kd le nu se lx sx : Int} (hc : coA G w x s) (hA : padA G w (x + 213) cs pl kd le nu se) (hk : iR kd) (hl : iR lx) (hn : iR nu) (hs : iR sx) (gl : hasL kd → le = lx) (gs : has2 kd → se = sx) : xMet l G yX6_carryEntry cX6_carryEntry 1 (some .int) ({ frames := 5, cells := 0, slots := 0, locals := 125 } : Room) [.ref x] w z (opP G w z x (ceF s kd lx nu sx)) := by
  obtain ⟨hd, -⟩ := id hc
  refine xMet_of RX6 rfl (by decide +kernel) false (by decide +kernel) (Nat.le_of_ble_eq_true rfl) rfl ?_
  intro P hM hR
  refine x_aload_n hM dX6_carryEntry_0 rfl rfl ?_
  refine x_get hM wf_X6_40 wl_X6 (by first | assumption | exact dd_o (by assumption)) rfl dX6_carryEntry_1 ?_
  refine x_get hM wf_X6_304 wl_X2 (by first | assumption | exact pad_o (by assumption)) rfl dX6_carryEntry_4 ?_
  by_cases sO_7 : kd ≠ 43 ∧ kd ≠ 45 ∧ kd ≠ 100 ∧ kd ≠ 103 ∧ kd ≠ 112
  · refine x_lookup (tgt := 151) hM dX6_carryEntry_7 (by omega) (by decide) (by obtain ⟨s0, s1, s2, s3, s4⟩ := sO_7; simp [Op.lookupswitch.offset, s0, Ne.symm s0, s1, Ne.symm s1, s2, Ne.symm s2, s3, Ne.symm s3, s4, Ne.symm s4]; rfl) (by decide) ?_
    refine x_bipush hM dX6_carryEntry_151 rfl ?_
    refine hR.i dX6_carryEntry_153 (Nat.zero_le _) (Nat.zero_le _) ?_
    exact p_op (by unfold ceF; repeat rw [if_neg (by omega)]) hc Fr.rf
  rcases (by omega : kd = 43 ∨ kd = 45 ∨ kd = 100 ∨ kd = 103 ∨ kd = 112) with rfl | rfl | rfl | rfl | rfl
  · refine x_lookup (tgt := 56) hM dX6_carryEntry_7 (by omega) (by decide) rfl (by decide) ?_
    refine x_aload_n hM dX6_carryEntry_56 rfl rfl ?_
    refine x_aload_n hM dX6_carryEntry_57 rfl rfl ?_
    rw [gl (Or.inl rfl), gs (Or.inl rfl)] at hA
    refine x_get hM wf_X6_40 wl_X6 (by first | assumption | exact dd_o (by assumption)) rfl dX6_carryEntry_58 ?_
    refine x_get hM wf_X6_307 wl_X2 (by first | assumption | exact pad_o (by assumption)) rfl dX6_carryEntry_61 ?_
    refine x_aload_n hM dX6_carryEntry_64 rfl rfl ?_
    refine x_get hM wf_X6_40 wl_X6 (by first | assumption | exact dd_o (by assumption)) rfl dX6_carryEntry_65 ?_
    refine x_get hM wf_X6_310 wl_X2 (by first | assumption | exact pad_o (by assumption)) rfl dX6_carryEntry_68 ?_
    refine x_aload_n hM dX6_carryEntry_71 rfl rfl ?_
    refine x_get hM wf_X6_40 wl_X6 (by first | assumption | exact dd_o (by assumption)) rfl dX6_carryEntry_72 ?_
    refine x_get hM wf_X6_313 wl_X2 (by first | assumption | exact pad_o (by assumption)) rfl dX6_carryEntry_75 ?_
    refine x_callV hM wv_X6_62 (m_X6_givePiece (by assumption) (by omega) (by omega) (by omega)) ⟨Nat.le_of_ble_eq_true rfl, Nat.le_of_ble_eq_true rfl⟩ (by first | assumption | exact dd_o (by assumption)) rfl rfl rfl rfl (Nat.le_of_ble_eq_true rfl) ⟨Nat.le_of_ble_eq_true rfl, Nat.le_of_ble_eq_true rfl⟩ dX6_carryEntry_78 (k_qI fun x_78 w_78 q_78 => ?_)
    obtain ⟨rfl, qc, qf⟩ := q_78
    refine hR.i dX6_carryEntry_81 (Nat.zero_le _) (Nat.zero_le _) ?_
    exact p_qI ⟨rfl, qc, qf⟩
  · refine x_lookup (tgt := 82) hM dX6_carryEntry_7 (by omega) (by decide) rfl (by decide) ?_
    refine x_aload_n hM dX6_carryEntry_82 rfl rfl ?_
    refine x_aload_n hM dX6_carryEntry_83 rfl rfl ?_
    rw [gs (Or.inr rfl)] at hA
    refine x_get hM wf_X6_40 wl_X6 (by first | assumption | exact dd_o (by assumption)) rfl dX6_carryEntry_84 ?_
    refine x_get hM wf_X6_310 wl_X2 (by first | assumption | exact pad_o (by assumption)) rfl dX6_carryEntry_87 ?_
    refine x_aload_n hM dX6_carryEntry_90 rfl rfl ?_
    refine x_get hM wf_X6_40 wl_X6 (by first | assumption | exact dd_o (by assumption)) rfl dX6_carryEntry_91 ?_
    refine x_get hM wf_X6_313 wl_X2 (by first | assumption | exact pad_o (by assumption)) rfl dX6_carryEntry_94 ?_
    refine x_callV hM wv_X6_66 (m_X6_freePiece (by assumption) (by omega) (by omega)) ⟨Nat.le_of_ble_eq_true rfl, Nat.le_of_ble_eq_true rfl⟩ (by first | assumption | exact dd_o (by assumption)) rfl rfl rfl rfl (Nat.le_of_ble_eq_true rfl) ⟨Nat.le_of_ble_eq_true rfl, Nat.le_of_ble_eq_true rfl⟩ dX6_carryEntry_97 (k_qI fun x_97 w_97 q_97 => ?_)
    obtain ⟨rfl, qc, qf⟩ := q_97
    refine hR.i dX6_carryEntry_100 (Nat.zero_le _) (Nat.zero_le _) ?_
    exact p_qI ⟨rfl, qc, qf⟩
  · refine x_lookup (tgt := 139) hM dX6_carryEntry_7 (by omega) (by decide) rfl (by decide) ?_
    refine x_aload_n hM dX6_carryEntry_139 rfl rfl ?_
    refine x_aload_n hM dX6_carryEntry_140 rfl rfl ?_
    refine x_get hM wf_X6_40 wl_X6 (by first | assumption | exact dd_o (by assumption)) rfl dX6_carryEntry_141 ?_
    refine x_get hM wf_X6_310 wl_X2 (by first | assumption | exact pad_o (by assumption)) rfl dX6_carryEntry_144 ?_
    refine x_callV hM wv_X6_89 (m_X6_passDays (by assumption) (by omega)) ⟨Nat.le_of_ble_eq_true rfl, Nat.le_of_ble_eq_true rfl⟩ (by first | assumption | exact dd_o (by assumption)) rfl rfl rfl rfl (Nat.le_of_ble_eq_true rfl) ⟨Nat.le_of_ble_eq_true rfl, Nat.le_of_ble_eq_true rfl⟩ dX6_carryEntry_147 (k_qI fun x_147 w_147 q_147 => ?_)
    obtain ⟨rfl, qc, qf⟩ := q_147
    refine hR.i dX6_carryEntry_150 (Nat.zero_le _) (Nat.zero_le _) ?_
    exact p_qI ⟨rfl, qc, qf⟩
  · refine x_lookup (tgt := 101) hM dX6_carryEntry_7 (by omega) (by decide) rfl (by decide) ?_
    refine x_aload_n hM dX6_carryEntry_101 rfl rfl ?_
    refine x_aload_n hM dX6_carryEntry_102 rfl rfl ?_
    rw [gl (Or.inr (Or.inl rfl))] at hA
    refine x_get hM wf_X6_40 wl_X6 (by first | assumption | exact dd_o (by assumption)) rfl dX6_carryEntry_103 ?_
    refine x_get hM wf_X6_307 wl_X2 (by first | assumption | exact pad_o (by assumption)) rfl dX6_carryEntry_106 ?_
    refine x_aload_n hM dX6_carryEntry_109 rfl rfl ?_
    refine x_get hM wf_X6_40 wl_X6 (by first | assumption | exact dd_o (by assumption)) rfl dX6_carryEntry_110 ?_
    refine x_get hM wf_X6_310 wl_X2 (by first | assumption | exact pad_o (by assumption)) rfl dX6_carryEntry_113 ?_
    refine x_callV hM wv_X6_69 (m_X6_grabPiece (by assumption) (by omega) (by omega)) ⟨Nat.le_of_ble_eq_true rfl, Nat.le_of_ble_eq_true rfl⟩ (by first | assumption | exact dd_o (by assumption)) rfl rfl rfl rfl (Nat.le_of_ble_eq_true rfl) ⟨Nat.le_of_ble_eq_true rfl, Nat.le_of_ble_eq_true rfl⟩ dX6_carryEntry_116 (k_qI fun x_116 w_116 q_116 => ?_)
    obtain ⟨rfl, qc, qf⟩ := q_116
    refine hR.i dX6_carryEntry_119 (Nat.zero_le _) (Nat.zero_le _) ?_
    exact p_qI ⟨rfl, qc, qf⟩
  · refine x_lookup (tgt := 120) hM dX6_carryEntry_7 (by omega) (by decide) rfl (by decide) ?_
    refine x_aload_n hM dX6_carryEntry_120 rfl rfl ?_
    refine x_aload_n hM dX6_carryEntry_121 rfl rfl ?_
    rw [gl (Or.inr (Or.inr rfl))] at hA
    refine x_get hM wf_X6_40 wl_X6 (by first | assumption | exact dd_o (by assumption)) rfl dX6_carryEntry_122 ?_
    refine x_get hM wf_X6_307 wl_X2 (by first | assumption | exact pad_o (by assumption)) rfl dX6_carryEntry_125 ?_
    refine x_aload_n hM dX6_carryEntry_128 rfl rfl ?_
    refine x_get hM wf_X6_40 wl_X6 (by first | assumption | exact dd_o (by assumption)) rfl dX6_carryEntry_129 ?_
    refine x_get hM wf_X6_310 wl_X2 (by first | assumption | exact pad_o (by assumption)) rfl dX6_carryEntry_132 ?_
    refine x_callV hM wv_X6_59 (m_X6_payIn (by assumption) (by omega) (by omega)) ⟨Nat.le_of_ble_eq_true rfl, Nat.le_of_ble_eq_true rfl⟩ (by first | assumption | exact dd_o (by assumption)) rfl rfl rfl rfl (Nat.le_of_ble_eq_true rfl) ⟨Nat.le_of_ble_eq_true rfl, Nat.le_of_ble_eq_true rfl⟩ dX6_carryEntry_135 (k_qI fun x_135 w_135 q_135 => ?_)
    obtain ⟨rfl, qc, qf⟩ := q_135
    refine hR.i dX6_carryEntry_138 (Nat.zero_le _) (Nat.zero_le _) ?_
    exact p_qI ⟨rfl, qc, qf⟩
