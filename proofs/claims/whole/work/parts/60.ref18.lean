/-! The reference: carrying a text out -/
def ceR (t : St) (k l n q : Int) : Int × St := if k = 43 then gvR t l n q else if k = 45 then frR t n q else if k = 103 then grR t l n else if k = 112 then payF t l n else daR t n
theorem gvR_b {t : St} {o f n : Int} : -6 ≤ (gvR t o f n).1 ∧ (gvR t o f n).1 ≤ 10000 ∧ (gvR t o f n).2.day = t.day := by
  unfold gvR
  have := rnF_b (lrF t.L f (f + n) o)
  split
  · split
    · split
      · split
        · exact ⟨by dsimp only; omega, by dsimp only; omega, rfl⟩
        · exact ⟨by dsimp only; omega, by dsimp only; omega, rfl⟩
      · exact ⟨by dsimp only; omega, by dsimp only; omega, rfl⟩
    · exact ⟨by dsimp only; omega, by dsimp only; omega, rfl⟩
  · exact ⟨by dsimp only; omega, by dsimp only; omega, rfl⟩
theorem frR_b {t : St} {f n : Int} : -6 ≤ (frR t f n).1 ∧ (frR t f n).1 ≤ 10000 ∧ (frR t f n).2.day = t.day := by
  unfold frR
  have := rnF_b (lrF t.L f (f + n) (-6))
  split
  · split
    · exact ⟨by dsimp only; omega, by dsimp only; omega, rfl⟩
    · exact ⟨by dsimp only; omega, by dsimp only; omega, rfl⟩
  · exact ⟨by dsimp only; omega, by dsimp only; omega, rfl⟩
theorem grR_b {t : St} {o n : Int} (hL : ∀ s ∈ t.L, okG s) : -6 ≤ (grR t o n).1 ∧ (grR t o n).1 ≤ 10000 ∧ (grR t o n).2.day = t.day := by
  unfold grR
  split
  · split
    · next c =>
      have := hf_b (h := 0) hL c.1
      split
      · exact ⟨by dsimp only; omega, by dsimp only; omega, rfl⟩
      · split
        · split
          · exact ⟨by dsimp only; omega, by dsimp only; omega, rfl⟩
          · exact ⟨by dsimp only; omega, by dsimp only; omega, rfl⟩
        · exact ⟨by dsimp only; omega, by dsimp only; omega, rfl⟩
    · exact ⟨by dsimp only; omega, by dsimp only; omega, rfl⟩
  · exact ⟨by dsimp only; omega, by dsimp only; omega, rfl⟩
theorem payF_b {t : St} {o n : Int} : -6 ≤ (payF t o n).1 ∧ (payF t o n).1 ≤ 10000 ∧ (payF t o n).2.day = t.day := by
  unfold payF
  split
  · split
    · refine ⟨?_, ?_, rfl⟩
      · dsimp only; split <;> decide
      · dsimp only; split <;> decide
    · exact ⟨by dsimp only; omega, by dsimp only; omega, rfl⟩
  · exact ⟨by dsimp only; omega, by dsimp only; omega, rfl⟩
theorem daR_b {t : St} {d : Int} (hd : 0 ≤ t.day) : -6 ≤ (daR t d).1 ∧ (daR t d).1 ≤ t.day + 60 ∧ t.day ≤ (daR t d).2.day ∧ (daR t d).2.day ≤ t.day + 60 := by
  unfold daR
  split
  · have := (dnR_day t d.toNat).1
    dsimp only
    omega
  · dsimp only; omega
theorem ceR_b {t : St} (hL : ∀ s ∈ t.L, okG s) (hd : 0 ≤ t.day) (k l n q : Int) : -6 ≤ (ceR t k l n q).1 ∧ (ceR t k l n q).1 ≤ t.day + 10000 ∧ t.day ≤ (ceR t k l n q).2.day ∧ (ceR t k l n q).2.day ≤ t.day + 60 := by
  unfold ceR
  split
  · have := gvR_b (t := t) (o := l) (f := n) (n := q); omega
  · split
    · have := frR_b (t := t) (f := n) (n := q); omega
    · split
      · have := grR_b (o := l) (n := n) hL; omega
      · split
        · have := payF_b (t := t) (o := l) (n := n); omega
        · have := daR_b (d := n) hd; omega
theorem mu_all {G : xG} {w : Wd} {m : Nat} {it : Int} {t : St} {hs : List St} {sg mn pl wr : Int} (h : muA G w m it t hs sg mn pl wr) : ∀ s ∈ t.L, okG s := by
  obtain ⟨R, -, ⟨f, g, -, hp, -⟩, -⟩ := h
  exact np_all hp
theorem m_X7_carry {l : Launch} {G : xG} {w : Wd} {z m n : Nat} {t : St} {hs : List St} {E : List Ent} {sg mn pl wr : Int} (h : muA G w m 1 t hs sg mn pl wr) (hE : enA G w m E) (hn : n < E.length) (hl : E.length ≤ 59) (hv : (E[n].2.2.1 = 43 ∨ E[n].2.2.1 = 45 ∨ E[n].2.2.1 = 100 ∨ E[n].2.2.1 = 103 ∨ E[n].2.2.1 = 112) ∧ (0 ≤ E[n].2.2.2.1 ∧ E[n].2.2.2.1 < 10) ∧ (0 ≤ E[n].2.2.2.2.1 ∧ E[n].2.2.2.2.1 ≤ 9999) ∧ (0 ≤ E[n].2.2.2.2.2 ∧ E[n].2.2.2.2.2 ≤ 9999)) (hday : 0 ≤ t.day) : xMet l G yX7_carry cX7_carry 4 (some .int) ({ frames := 7, cells := 0, slots := 0, locals := 158 } : Room) [.ref m, .int (iI (4 * (n : Int)))] w z (msP G w z m 1 hs sg mn pl wr (ceR t E[n].2.2.1 E[n].2.2.2.1 E[n].2.2.2.2.1 E[n].2.2.2.2.2)) := by
  obtain ⟨R, hh, -⟩ := id h
  obtain ⟨f, hf, hfv⟩ := id hE
  obtain ⟨v1, v2, v3, v4⟩ := hfv n hn
  generalize E[n].2.2.1 = kd at *
  generalize E[n].2.2.2.1 = lx at *
  generalize E[n].2.2.2.2.1 = nx at *
  generalize E[n].2.2.2.2.2 = sx at *
  have fin : ∀ (r : Int × St) (w2 : Wd), muA G w2 m 1 r.2 (hisR 1 hs t r.1) sg mn pl wr → muA G w2 m 1 r.2 hs sg mn pl wr := by
    intro r w2 q
    have : hisR 1 hs t r.1 = hs := by unfold hisR recN; split <;> rfl
    rw [this] at q
    exact q
  have e43 : ceR t 43 lx nx sx = gvR t lx nx sx := if_pos rfl
  have e45 : ceR t 45 lx nx sx = frR t nx sx := (if_neg (by decide)).trans (if_pos rfl)
  have e103 : ceR t 103 lx nx sx = grR t lx nx := (if_neg (by decide)).trans ((if_neg (by decide)).trans (if_pos rfl))
  have e112 : ceR t 112 lx nx sx = payF t lx nx := (if_neg (by decide)).trans ((if_neg (by decide)).trans ((if_neg (by decide)).trans (if_pos rfl)))
  have e100 : ceR t 100 lx nx sx = daR t nx := (if_neg (by decide)).trans ((if_neg (by decide)).trans ((if_neg (by decide)).trans (if_neg (by decide))))
  refine xMet_of RX7 rfl (by decide +kernel) false (by decide +kernel) (Nat.le_of_ble_eq_true rfl) rfl ?_
  intro P hM hR
  refine x_aload_n hM dX7_carry_0 rfl rfl ?_
  refine x_get hM wf_X7_51 wl_X7 hh rfl dX7_carry_1 ?_
  refine x_iload_n hM dX7_carry_4 rfl rfl ?_
  refine x_iconst hM dX7_carry_5 ?_
  refine x_iadd hM dX7_carry_6 ?_
  refine x_iald hM hf (by omega) dX7_carry_7 ?_
  refine x_istore_n hM dX7_carry_8 rfl rfl (Nat.le_of_ble_eq_true rfl) rfl ?_
  refine x_aload_n hM dX7_carry_9 rfl rfl ?_
  refine x_get hM wf_X7_51 wl_X7 hh rfl dX7_carry_10 ?_
  refine x_iload_n hM dX7_carry_13 rfl rfl ?_
  refine x_iconst hM dX7_carry_14 ?_
  refine x_iadd hM dX7_carry_15 ?_
  refine x_iald hM hf (by omega) dX7_carry_16 ?_
  rw [v3]
  refine x_istore_n hM dX7_carry_17 rfl rfl (Nat.le_of_ble_eq_true rfl) rfl ?_
  refine x_aload_n hM dX7_carry_18 rfl rfl ?_
  refine x_get hM wf_X7_51 wl_X7 hh rfl dX7_carry_19 ?_
  refine x_iload_n hM dX7_carry_22 rfl rfl ?_
  refine x_iald hM hf (by omega) dX7_carry_23 ?_
  rw [v1]
  by_cases sO_24 : kd ≠ 43 ∧ kd ≠ 45 ∧ kd ≠ 103 ∧ kd ≠ 112
  · refine x_lookup (tgt := 111) hM dX7_carry_24 (by omega) (by decide) (by obtain ⟨s0, s1, s2, s3⟩ := sO_24; simp [Op.lookupswitch.offset, s0, Ne.symm s0, s1, Ne.symm s1, s2, Ne.symm s2, s3, Ne.symm s3]; rfl) (by decide) ?_
    have hk9 : kd = 100 := by omega
    subst hk9
    refine x_aload_n hM dX7_carry_111 rfl rfl ?_
    refine x_iload_n hM dX7_carry_112 rfl rfl ?_
    refine x_callV hM wv_X7_235 (m_X7_days h (Or.inr rfl) hday (by omega)) ⟨Nat.le_of_ble_eq_true rfl, Nat.le_of_ble_eq_true rfl⟩ hh rfl rfl rfl rfl (Nat.le_of_ble_eq_true rfl) ⟨Nat.le_of_ble_eq_true rfl, Nat.le_of_ble_eq_true rfl⟩ dX7_carry_113 (k_qI fun x_113 w_113 q_113 => ?_)
    refine hR.i dX7_carry_116 (Nat.zero_le _) (Nat.zero_le _) ?_
    obtain ⟨rfl, g1, g2⟩ := q_113
    exact p_qI ⟨by rw [e100], by rw [e100]; exact fin _ _ g1, g2⟩
  rcases (by omega : kd = 43 ∨ kd = 45 ∨ kd = 103 ∨ kd = 112) with rfl | rfl | rfl | rfl
  · refine x_lookup (tgt := 68) hM dX7_carry_24 (by omega) (by decide) rfl (by decide) ?_
    rw [v2 (Or.inl rfl)]
    refine x_aload_n hM dX7_carry_68 rfl rfl ?_
    refine x_iload_n hM dX7_carry_69 rfl rfl ?_
    refine x_iload_n hM dX7_carry_70 rfl rfl ?_
    refine x_aload_n hM dX7_carry_71 rfl rfl ?_
    refine x_get hM wf_X7_51 wl_X7 hh rfl dX7_carry_72 ?_
    refine x_iload_n hM dX7_carry_75 rfl rfl ?_
    refine x_iconst hM dX7_carry_76 ?_
    refine x_iadd hM dX7_carry_77 ?_
    refine x_iald hM hf (by omega) dX7_carry_78 ?_
    rw [v4 (Or.inl rfl)]
    refine x_callV hM wv_X7_223 (m_X7_give h (Or.inr rfl) (by omega) (by omega) (by omega)) ⟨Nat.le_of_ble_eq_true rfl, Nat.le_of_ble_eq_true rfl⟩ hh rfl rfl rfl rfl (Nat.le_of_ble_eq_true rfl) ⟨Nat.le_of_ble_eq_true rfl, Nat.le_of_ble_eq_true rfl⟩ dX7_carry_79 (k_qI fun x_79 w_79 q_79 => ?_)
    refine hR.i dX7_carry_82 (Nat.zero_le _) (Nat.zero_le _) ?_
    obtain ⟨rfl, g1, g2⟩ := q_79
    exact p_qI ⟨by rw [e43], by rw [e43]; exact fin _ _ g1, g2⟩
  · refine x_lookup (tgt := 83) hM dX7_carry_24 (by omega) (by decide) rfl (by decide) ?_
    refine x_aload_n hM dX7_carry_83 rfl rfl ?_
    refine x_iload_n hM dX7_carry_84 rfl rfl ?_
    refine x_aload_n hM dX7_carry_85 rfl rfl ?_
    refine x_get hM wf_X7_51 wl_X7 hh rfl dX7_carry_86 ?_
    refine x_iload_n hM dX7_carry_89 rfl rfl ?_
    refine x_iconst hM dX7_carry_90 ?_
    refine x_iadd hM dX7_carry_91 ?_
    refine x_iald hM hf (by omega) dX7_carry_92 ?_
    rw [v4 (Or.inr rfl)]
    refine x_callV hM wv_X7_226 (m_X7_free h (Or.inr rfl) (by omega) (by omega)) ⟨Nat.le_of_ble_eq_true rfl, Nat.le_of_ble_eq_true rfl⟩ hh rfl rfl rfl rfl (Nat.le_of_ble_eq_true rfl) ⟨Nat.le_of_ble_eq_true rfl, Nat.le_of_ble_eq_true rfl⟩ dX7_carry_93 (k_qI fun x_93 w_93 q_93 => ?_)
    refine hR.i dX7_carry_96 (Nat.zero_le _) (Nat.zero_le _) ?_
    obtain ⟨rfl, g1, g2⟩ := q_93
    exact p_qI ⟨by rw [e45], by rw [e45]; exact fin _ _ g1, g2⟩
  · refine x_lookup (tgt := 97) hM dX7_carry_24 (by omega) (by decide) rfl (by decide) ?_
    rw [v2 (Or.inr (Or.inl rfl))]
    refine x_aload_n hM dX7_carry_97 rfl rfl ?_
    refine x_iload_n hM dX7_carry_98 rfl rfl ?_
    refine x_iload_n hM dX7_carry_99 rfl rfl ?_
    refine x_callV hM wv_X7_229 (m_X7_grab h (Or.inr rfl) (by omega) (by omega)) ⟨Nat.le_of_ble_eq_true rfl, Nat.le_of_ble_eq_true rfl⟩ hh rfl rfl rfl rfl (Nat.le_of_ble_eq_true rfl) ⟨Nat.le_of_ble_eq_true rfl, Nat.le_of_ble_eq_true rfl⟩ dX7_carry_100 (k_qI fun x_100 w_100 q_100 => ?_)
    refine hR.i dX7_carry_103 (Nat.zero_le _) (Nat.zero_le _) ?_
    obtain ⟨rfl, g1, g2⟩ := q_100
    exact p_qI ⟨by rw [e103], by rw [e103]; exact fin _ _ g1, g2⟩
  · refine x_lookup (tgt := 104) hM dX7_carry_24 (by omega) (by decide) rfl (by decide) ?_
    rw [v2 (Or.inr (Or.inr rfl))]
    refine x_aload_n hM dX7_carry_104 rfl rfl ?_
    refine x_iload_n hM dX7_carry_105 rfl rfl ?_
    refine x_iload_n hM dX7_carry_106 rfl rfl ?_
    refine x_callV hM wv_X7_232 (m_X7_pay h (Or.inr rfl) (by omega) (by omega)) ⟨Nat.le_of_ble_eq_true rfl, Nat.le_of_ble_eq_true rfl⟩ hh rfl rfl rfl rfl (Nat.le_of_ble_eq_true rfl) ⟨Nat.le_of_ble_eq_true rfl, Nat.le_of_ble_eq_true rfl⟩ dX7_carry_107 (k_qI fun x_107 w_107 q_107 => ?_)
    refine hR.i dX7_carry_110 (Nat.zero_le _) (Nat.zero_le _) ?_
    obtain ⟨rfl, g1, g2⟩ := q_107
    exact p_qI ⟨by rw [e112], by rw [e112]; exact fin _ _ g1, g2⟩
def coR : List Ent → Int → St → Int × St
  | [], d, t => (d, t)
  | e :: E, d, t => if (ceR t e.2.2.1 e.2.2.2.1 e.2.2.2.2.1 e.2.2.2.2.2).1 < 0 then (d, (ceR t e.2.2.1 e.2.2.2.1 e.2.2.2.2.1 e.2.2.2.2.2).2) else coR E (d + 1) (ceR t e.2.2.1 e.2.2.2.1 e.2.2.2.2.1 e.2.2.2.2.2).2
def carR (t : St) (cs : List Int) : Int × St × List Int := if fltP cs 81 0 = -6 then ((coR (enL cs 81 0) 0 t).1, (coR (enL cs 81 0) 0 t).2, []) else (-3, t, cs)
def Fq (m : Nat) (w w1 : Wd) : Prop := ∀ q : Nat, q ≠ m → q ≠ m + 1 → q ≠ m + 2 → q ≠ m + 6 → q ≠ m + 7 → q ≠ m + 12 → q ≠ m + 13 → q ≠ m + 14 → w1 q = w q
theorem Fq.tr {m : Nat} {w w1 w2 : Wd} (h1 : Fq m w w1) (h2 : Fq m w1 w2) : Fq m w w2 := fun q a b c d e f g x => (h2 q a b c d e f g x).trans (h1 q a b c d e f g x)
theorem Fm.q {m : Nat} {w w1 : Wd} (h : Fm m w w1) : Fq m w w1 := fun q a b c d e f g _ => h q a b c d e f g
theorem Fe.q {m : Nat} {w w1 : Wd} (h : Fe m w w1) : Fq m w w1 := fun q a b c d e f g x => h q (by omega) (by omega)
theorem enL_v {cs : List Int} : ∀ (k : Nat) (i : Int), (∀ e ∈ enL cs k i, e.1 = 1) → ∀ e ∈ enL cs k i, (e.2.2.1 = 43 ∨ e.2.2.1 = 45 ∨ e.2.2.1 = 100 ∨ e.2.2.1 = 103 ∨ e.2.2.1 = 112) ∧ (0 ≤ e.2.2.2.1 ∧ e.2.2.2.1 < 10) ∧ (0 ≤ e.2.2.2.2.1 ∧ e.2.2.2.2.1 ≤ 9999) ∧ (0 ≤ e.2.2.2.2.2 ∧ e.2.2.2.2.2 ≤ 9999) := by
  intro k
  induction k with
  | zero => intro i h e he; exact absurd he List.not_mem_nil
  | succ k ih =>
    intro i h e he
    have hh : e = entP cs i ∨ e ∈ (if (entP cs i).2.1 = cs.length then [] else if sgP cs (entP cs i).2.1 = 59 then enL cs k ((entP cs i).2.1 + 1) else []) := List.mem_cons.mp he
    rcases hh with rfl | hh
    · exact entP_v i (h _ he)
    · split at hh
      · exact absurd hh List.not_mem_nil
      · next c1 =>
        split at hh
        · next c2 =>
          refine ih _ (fun x hx => h x ?_) e hh
          show x ∈ entP cs i :: _
          rw [if_neg c1, if_pos c2]
          exact List.mem_cons_of_mem _ hx
        · exact absurd hh List.not_mem_nil
theorem m_X7_carryOut {l : Launch} {G : xG} {w : Wd} {z m : Nat} {t : St} {hs : List St} {cs : List Int} {mn pl wr : Int} (h : muA G w m 0 t hs cs.length mn pl wr) (hd : pdA G w m cs) (hE : enE G w m) (hday : 0 ≤ t.day ∧ t.day ≤ 900000000) : xMet l G yX7_carryOut cX7_carryOut 2 (some .int) ({ frames := 8, cells := 0, slots := 0, locals := 181 } : Room) [.ref m] w z (qI z fun y w1 => y = (carR t cs).1 ∧ (∃ mn2 pl2 wr2 : Int, muA G w1 m 0 (carR t cs).2.1 (hisR 0 hs t (carR t cs).1) (carR t cs).2.2.length mn2 pl2 wr2) ∧ pdA G w1 m (carR t cs).2.2 ∧ enE G w1 m ∧ Fq m w w1) := by
  obtain ⟨R, hh, hn, hm, hr⟩ := id h
  refine xMet_of RX7 rfl (by decide +kernel) false (by decide +kernel) (Nat.le_of_ble_eq_true rfl) rfl ?_
  intro P hM hR
  have F : ∀ (n : Nat) (t1 : St) (w1 : Wd) (mn2 pl2 wr2 : Int), fltP cs 81 0 = -6 → coR (enL cs 81 0) 0 t = ((n : Int), t1) → n ≤ 60 → muA G w1 m 1 t1 (recN 0 hs t) cs.length mn2 pl2 wr2 → enE G w1 m → Fq m w w1 → P 47 [some (.ref m), some (.int (iI n))] [] w1 (z, 0, 0) := by
    intro n t1 w1 mn2 pl2 wr2 hf hco hn60 hmu hEn hF
    obtain ⟨R2, hh2, hnA, hm2, hr2⟩ := id hmu
    have e1 : carR t cs = ((n : Int), t1, []) := by unfold carR; rw [if_pos hf, hco]
    have hd2 := hd.kpf (hF (m + 11) (by omega) (by omega) (by omega) (by omega) (by omega) (by omega) (by omega) (by omega))
    obtain ⟨hW, f, hf2, hfv⟩ := id hd2
    obtain ⟨g, hg⟩ := id hEn
    refine x_aload_n hM dX7_carryOut_47 rfl rfl ?_
    refine x_iconst hM dX7_carryOut_48 ?_
    refine x_put hM wf_X7_54 wl_X7 hh2 wq_X7_54 rfl rfl (Nat.le_of_ble_eq_true rfl) rfl dX7_carryOut_49 ?_
    refine x_aload_n hM dX7_carryOut_52 rfl rfl ?_
    refine x_iconst hM dX7_carryOut_53 ?_
    refine x_put hM wf_X7_182 wl_X7 wS_eq wq_X7_182 rfl rfl (Nat.le_of_ble_eq_true rfl) rfl dX7_carryOut_54 ?_
    rw [wS_2]
    refine x_iload_n hM dX7_carryOut_57 rfl rfl ?_
    refine hR.i dX7_carryOut_58 (Nat.zero_le _) (Nat.zero_le _) ?_
    exact p_qI (show _ ∧ _ from by rw [e1]; exact ⟨rfl, ⟨mn2, pl2, wr2, R2, by unfold hisR; rw [if_neg (by omega)]; exact wS_eq, hnA.kpf (wS_ne (by omega)) (wS_ne (by omega)), by unfold hisR; rw [if_neg (by omega)]; exact hm2.kpf (wS_ne (by omega)) (wS_ne (by omega)), hr2.kpf (wS_ne (by omega)) (wS_ne (by omega))⟩, ⟨⟨Nat.zero_le _, fun c q => absurd q List.not_mem_nil⟩, f, (wS_ne (by omega)).trans hf2, fun i hi => absurd hi (Nat.not_lt_zero _)⟩, ⟨g, (wS_ne (by omega)).trans hg⟩, hF.tr (Fe.q (Fe.h wF))⟩)
  by_cases c1 : fltP cs 81 0 = -6
  · skip
    have K : ∀ (pl2 wr2 : Int), (enL cs 81 0).length ≤ 59 → (∀ e ∈ enL cs 81 0, e.1 = 1) → ∀ (k n : Nat) (t1 : St) (w1 : Wd), n + k = (enL cs 81 0).length → (0 ≤ t1.day ∧ t1.day ≤ 900000000 + 60 * n) → muA G w1 m 1 t1 (recN 0 hs t) cs.length (enL cs 81 0).length pl2 wr2 → enA G w1 m (enL cs 81 0) → Fq m w w1 → coR ((enL cs 81 0).drop n) n t1 = coR (enL cs 81 0) 0 t → P 23 [some (.ref m), some (.int (iI n))] [] w1 (z, 0, 0) := by
      intro pl2 wr2 hl hall k
      have hval := enL_v 81 0 hall
      generalize enL cs 81 0 = E at *
      induction k with
      | zero =>
        intro n t1 w1 hk hdy hmu hen hF hinv
        obtain ⟨R2, hh2, -⟩ := id hmu
        rw [List.drop_of_length_le (by omega)] at hinv
        refine x_iload_n hM dX7_carryOut_23 rfl rfl ?_
        refine x_aload_n hM dX7_carryOut_24 rfl rfl ?_
        refine x_get hM wf_X7_209 wl_X7 hh2 rfl dX7_carryOut_25 ?_
        refine x_icmp_ge (tgt := 47) hM dX7_carryOut_28 (by decide) (by omega) (by omega) (fun c_28 => ?_) (fun c_28 => ?_)
        · exact F n t1 _ _ _ _ c1 hinv.symm (by omega) hmu ⟨_, hen.choose_spec.1⟩ hF
        · exfalso; omega
      | succ k ih =>
        intro n t1 w1 hk hdy hmu hen hF hinv
        obtain ⟨R2, hh2, -⟩ := id hmu
        have hlt : n < E.length := by omega
        have hv := hval _ (List.getElem_mem hlt)
        have cb := ceR_b (mu_all hmu) hdy.1 E[n].2.2.1 E[n].2.2.2.1 E[n].2.2.2.2.1 E[n].2.2.2.2.2
        rw [List.drop_eq_getElem_cons hlt] at hinv
        have hinv : (if (ceR t1 E[n].2.2.1 E[n].2.2.2.1 E[n].2.2.2.2.1 E[n].2.2.2.2.2).1 < 0 then ((n : Int), (ceR t1 E[n].2.2.1 E[n].2.2.2.1 E[n].2.2.2.2.1 E[n].2.2.2.2.2).2) else coR (E.drop (n + 1)) ((n : Int) + 1) (ceR t1 E[n].2.2.1 E[n].2.2.2.1 E[n].2.2.2.2.1 E[n].2.2.2.2.2).2) = coR E 0 t := hinv
        refine x_iload_n hM dX7_carryOut_23 rfl rfl ?_
        refine x_aload_n hM dX7_carryOut_24 rfl rfl ?_
        refine x_get hM wf_X7_209 wl_X7 hh2 rfl dX7_carryOut_25 ?_
        refine x_icmp_ge (tgt := 47) hM dX7_carryOut_28 (by decide) (by omega) (by omega) (fun c_28 => ?_) (fun c_28 => ?_)
        · exfalso; omega
        · refine x_aload_n hM dX7_carryOut_31 rfl rfl ?_
          refine x_iconst hM dX7_carryOut_32 ?_
          refine x_iload_n hM dX7_carryOut_33 rfl rfl ?_
          refine x_imul hM dX7_carryOut_34 ?_
          refine x_callV hM wv_X7_238 (m_X7_carry (n := n) hmu hen hlt hl hv hdy.1) ⟨Nat.le_of_ble_eq_true rfl, Nat.le_of_ble_eq_true rfl⟩ hh2 rfl rfl rfl rfl (Nat.le_of_ble_eq_true rfl) ⟨Nat.le_of_ble_eq_true rfl, Nat.le_of_ble_eq_true rfl⟩ dX7_carryOut_35 (k_qI fun x_35 w_35 q_35 => ?_)
          obtain ⟨rfl, qa, qf⟩ := q_35
          have hen2 := hen.kpf (qf (m + 14) (by omega) (by omega) (by omega) (by omega) (by omega) (by omega) (by omega))
          refine x_if_lt (tgt := 47) hM dX7_carryOut_38 (by decide) (by omega) (fun c_38 => ?_) (fun c_38 => ?_)
          · exact F n _ _ _ _ _ c1 (hinv.symm.trans (if_pos (by assumption))) (by omega) qa ⟨_, hen2.choose_spec.1⟩ (hF.tr qf.q)
          · refine x_iinc hM dX7_carryOut_41 rfl rfl rfl ?_
            refine x_goto (tgt := 23) hM dX7_carryOut_44 (by decide) ?_
            exact ih (n + 1) _ _ (by omega) (by omega) qa hen2 (hF.tr qf.q) ((if_neg (by omega)).symm.trans hinv)
    refine x_aload_n hM dX7_carryOut_0 rfl rfl ?_
    refine x_callV hM wv_X7_220 (m_X7_faultOf hh hd hE) ⟨Nat.le_of_ble_eq_true rfl, Nat.le_of_ble_eq_true rfl⟩ hh rfl rfl rfl rfl (Nat.le_of_ble_eq_true rfl) ⟨Nat.le_of_ble_eq_true rfl, Nat.le_of_ble_eq_true rfl⟩ dX7_carryOut_1 (k_qI fun x_1 w_1 q_1 => ?_)
    obtain ⟨hy, hyr, f1, qc⟩ := q_1
    rw [hy, c1]
    refine x_bipush hM dX7_carryOut_4 rfl ?_
    refine x_icmp_eq (tgt := 12) hM dX7_carryOut_6 (by decide) (by omega) (by omega) (fun c_6 => ?_) (fun c_6 => ?_)
    · rcases qc with ⟨-, ⟨pl2, wr2, q1⟩, q2, q3, q4⟩ | ⟨q0, -⟩
      rotate_left
      · omega
      have hn1 := hn.kpf (f1 (m + 1) (by omega) (by omega)) (f1 (m + 2) (by omega) (by omega))
      have hm1 := hm.kpf (f1 (m + 6) (by omega) (by omega)) (f1 (m + 7) (by omega) (by omega))
      have hr1 := hr.kpf (f1 (m + 12) (by omega) (by omega)) (f1 (m + 13) (by omega) (by omega))
      refine x_aload_n hM dX7_carryOut_12 rfl rfl ?_
      refine x_callV hM wv_X7_73 (m_X7_record q1 hn1 hm1 (Or.inl rfl)) ⟨Nat.le_of_ble_eq_true rfl, Nat.le_of_ble_eq_true rfl⟩ q1 rfl rfl rfl rfl (Nat.le_of_ble_eq_true rfl) ⟨Nat.le_of_ble_eq_true rfl, Nat.le_of_ble_eq_true rfl⟩ dX7_carryOut_13 (k_qV fun w_13 q_13 => ?_)
      obtain ⟨g1, g2, g3⟩ := q_13
      have h3 := mu_rec (hs := hs) hn1 hr1 g1 g2 g3
      have q2b := q2.kpf (g3 (m + 14) (by omega) (by omega))
      obtain ⟨R3, -, hn3, hm3, hr3⟩ := id h3
      have hr3b := hr1.kpf (g3 (m + 12) (by omega) (by omega)) (g3 (m + 13) (by omega) (by omega))
      refine x_aload_n hM dX7_carryOut_16 rfl rfl ?_
      refine x_iconst hM dX7_carryOut_17 ?_
      refine x_put hM wf_X7_54 wl_X7 g1 wq_X7_54 rfl rfl (Nat.le_of_ble_eq_true rfl) rfl dX7_carryOut_18 ?_
      have hmu4 : muA G (wS w_13 m (hdV m (recN 0 hs t).length cs.length 1 R.length (enL cs 81 0).length pl2 wr2)) m 1 t (recN 0 hs t) cs.length (enL cs 81 0).length pl2 wr2 := ⟨R, wS_eq, hn3.kpf (wS_ne (by omega)) (wS_ne (by omega)), hm3.kpf (wS_ne (by omega)) (wS_ne (by omega)), hr3b.kpf (wS_ne (by omega)) (wS_ne (by omega))⟩
      have hF4 : Fq m w (wS w_13 m (hdV m (recN 0 hs t).length cs.length 1 R.length (enL cs 81 0).length pl2 wr2)) := ((Fe.q f1).tr (Fm.h g3).q).tr (Fe.q (Fe.h wF))
      refine x_iconst hM dX7_carryOut_21 ?_
      refine x_istore_n hM dX7_carryOut_22 rfl rfl (Nat.le_of_ble_eq_true rfl) rfl ?_
      exact K pl2 wr2 q3 q4 (enL cs 81 0).length 0 t _ (by omega) (by omega) hmu4 (q2b.kpf (wS_ne (by omega))) hF4 rfl
    · exfalso; omega
  · skip
    refine x_aload_n hM dX7_carryOut_0 rfl rfl ?_
    refine x_callV hM wv_X7_220 (m_X7_faultOf hh hd hE) ⟨Nat.le_of_ble_eq_true rfl, Nat.le_of_ble_eq_true rfl⟩ hh rfl rfl rfl rfl (Nat.le_of_ble_eq_true rfl) ⟨Nat.le_of_ble_eq_true rfl, Nat.le_of_ble_eq_true rfl⟩ dX7_carryOut_1 (k_qI fun x_1 w_1 q_1 => ?_)
    obtain ⟨rfl, hyr, f1, qc⟩ := q_1
    refine x_bipush hM dX7_carryOut_4 rfl ?_
    refine x_icmp_eq (tgt := 12) hM dX7_carryOut_6 (by decide) (by omega) (by omega) (fun c_6 => ?_) (fun c_6 => ?_)
    · exfalso; omega
    · refine x_bipush hM dX7_carryOut_9 rfl ?_
      refine hR.i dX7_carryOut_11 (Nat.zero_le _) (Nat.zero_le _) ?_
      have e1 : carR t cs = (-3, t, cs) := if_neg c1
      rcases qc with ⟨q0, -⟩ | ⟨-, ⟨mn2, pl2, wr2, q1⟩, q2⟩
      · exact absurd q0 c1
      exact p_qI (show _ ∧ _ from by rw [e1]; exact ⟨rfl, ⟨mn2, pl2, wr2, R, q1, hn.kpf (f1 (m + 1) (by omega) (by omega)) (f1 (m + 2) (by omega) (by omega)), hm.kpf (f1 (m + 6) (by omega) (by omega)) (f1 (m + 7) (by omega) (by omega)), hr.kpf (f1 (m + 12) (by omega) (by omega)) (f1 (m + 13) (by omega) (by omega))⟩, hd.kpf (f1 (m + 11) (by omega) (by omega)), q2, Fe.q f1⟩)
