/-! Register: copy, transfers -/
def Fr2 (a b c d : Nat) (w w1 : Wd) : Prop := ∀ q : Nat, (q < a ∨ b ≤ q) → (q < c ∨ d ≤ q) → w1 q = w q
theorem Fr2.rf {a b c d : Nat} {w : Wd} : Fr2 a b c d w w := fun _ _ _ => rfl
theorem Fr2.tr {a b c d : Nat} {w w1 w2 : Wd} (h1 : Fr2 a b c d w w1) (h2 : Fr2 a b c d w1 w2) : Fr2 a b c d w w2 := fun q h g => (h2 q h g).trans (h1 q h g)
theorem Fr.l2 {a b c d lo hi : Nat} {w w1 : Wd} (h : Fr lo hi w w1) (x : a ≤ lo) (y : hi ≤ b) : Fr2 a b c d w w1 := fun q h1 _ => h q (by omega)
theorem Fr.r2 {a b c d lo hi : Nat} {w w1 : Wd} (h : Fr lo hi w w1) (x : c ≤ lo) (y : hi ≤ d) : Fr2 a b c d w w1 := fun q _ h1 => h q (by omega)
theorem Fr2.one {a b c d lo hi : Nat} {w w1 : Wd} (h : Fr2 a b c d w w1) (x1 : lo ≤ a) (y1 : b ≤ hi) (x2 : lo ≤ c) (y2 : d ≤ hi) : Fr lo hi w w1 := fun q hq => h q (by omega) (by omega)
theorem fC_eqR {α : Type} {n : Int} {f g h : Int → α} (e : eqR n f h) : eqR n (fC f g n) h := fun j a b => by
  unfold fC
  rw [if_pos ⟨a, b⟩]
  exact e j a b
theorem m_X3_copy {l : Launch} {G : xG} {w : Wd} {z r o : Nat} {s t : St} (h1 : regA G w r s) (h2 : regA G w o t) (hd : r + 22 ≤ o ∨ o + 22 ≤ r) : xMet l G yX3_copy cX3_copy 2 none ({ frames := 3, cells := 0, slots := 0, locals := 77 } : Room) [.ref r, .ref o] w z (qV z fun w1 => regA G w1 r t ∧ Fr r (r + 22) w w1) := by
  obtain ⟨-, fs, fp, ft, fx, hr, -⟩ := h1
  obtain ⟨hW, gs, gp, gt, gx, ho, e1, e2, e3, e4⟩ := h2
  refine xMet_of RX3 rfl (by decide +kernel) false (by decide +kernel) (Nat.le_of_ble_eq_true rfl) rfl ?_
  intro P hM hR
  refine x_aload_n hM dX3_copy_0 rfl rfl ?_
  refine x_get hM wf_X3_12 wl_X3 (by first | assumption | exact reg_o (by assumption) | exact reg_a (by assumption)) rfl dX3_copy_1 ?_
  refine x_aload_n hM dX3_copy_4 rfl rfl ?_
  refine x_get hM wf_X3_12 wl_X3 (by first | assumption | exact reg_o (by assumption) | exact reg_a (by assumption)) rfl dX3_copy_5 ?_
  refine x_callV hM wv_X3_52 (m_X5_copy (rgS hr) (rgS ho) (by omega)) ⟨Nat.le_of_ble_eq_true rfl, Nat.le_of_ble_eq_true rfl⟩ (str_a (rgS hr)) rfl rfl rfl rfl (Nat.le_of_ble_eq_true rfl) ⟨Nat.le_of_ble_eq_true rfl, Nat.le_of_ble_eq_true rfl⟩ dX3_copy_8 (k_qV fun w_8 q_8 => ?_)
  obtain ⟨qa, qf⟩ := q_8
  have hr1 := hr.uS qf qa
  have ho1 := ho.kp qf (by omega)
  refine x_aload_n hM dX3_copy_11 rfl rfl ?_
  refine x_get hM wf_X3_21 wl_X3 (reg_o hr1) rfl dX3_copy_12 ?_
  refine x_aload_n hM dX3_copy_15 rfl rfl ?_
  refine x_get hM wf_X3_21 wl_X3 (reg_o ho1) rfl dX3_copy_16 ?_
  refine x_callV hM wv_X3_56 (m_X0_copy (rgD hr1) (rgD ho1) (by omega)) ⟨Nat.le_of_ble_eq_true rfl, Nat.le_of_ble_eq_true rfl⟩ (deal_o (rgD hr1)) rfl rfl rfl rfl (Nat.le_of_ble_eq_true rfl) ⟨Nat.le_of_ble_eq_true rfl, Nat.le_of_ble_eq_true rfl⟩ dX3_copy_19 (k_qV fun w_19 q_19 => ?_)
  obtain ⟨qb, qg⟩ := q_19
  have hr2 := hr1.uD qg qb
  have ho2 := ho1.kp qg (by omega)
  refine x_aload_n hM dX3_copy_22 rfl rfl ?_
  refine x_get hM wf_X3_30 wl_X3 (reg_o hr2) rfl dX3_copy_23 ?_
  refine x_aload_n hM dX3_copy_26 rfl rfl ?_
  refine x_get hM wf_X3_30 wl_X3 (reg_o ho2) rfl dX3_copy_27 ?_
  refine x_callV hM wv_X3_59 (m_X4_copy (rg1 hr2) (rg1 ho2) (by omega)) ⟨Nat.le_of_ble_eq_true rfl, Nat.le_of_ble_eq_true rfl⟩ (row_o (rg1 hr2)) rfl rfl rfl rfl (Nat.le_of_ble_eq_true rfl) ⟨Nat.le_of_ble_eq_true rfl, Nat.le_of_ble_eq_true rfl⟩ dX3_copy_30 (k_qV fun w_30 q_30 => ?_)
  subst q_30
  have hr3 := hr2.u1 (g := fC gs fs 5)
  have ho3 := ho2.kp (wF (q := r + 15 + 1) (e := aI G 5 (fC gs fs 5))) (by omega)
  refine x_aload_n hM dX3_copy_33 rfl rfl ?_
  refine x_get hM wf_X3_34 wl_X3 (reg_o ho3) rfl dX3_copy_34 ?_
  refine x_iconst hM dX3_copy_37 ?_
  refine x_aload_n hM dX3_copy_38 rfl rfl ?_
  refine x_get hM wf_X3_34 wl_X3 (reg_o hr3) rfl dX3_copy_39 ?_
  refine x_iconst hM dX3_copy_42 ?_
  refine x_aload_n hM dX3_copy_43 rfl rfl ?_
  refine x_get hM wf_X3_34 wl_X3 (reg_o hr3) rfl dX3_copy_44 ?_
  refine x_alenJ hM (rgJ hr3) dX3_copy_47 ?_
  refine x_aload_n hM dX3_copy_48 rfl rfl ?_
  refine x_get hM wf_X3_34 wl_X3 (reg_o ho3) rfl dX3_copy_49 ?_
  refine x_alenJ hM (rgJ ho3) dX3_copy_52 ?_
  refine x_min hM wm_X3_62 (by omega) (by omega) (Nat.le_of_ble_eq_true rfl) (Nat.le_of_ble_eq_true rfl) ⟨Nat.le_of_ble_eq_true rfl, Nat.le_of_ble_eq_true rfl⟩ dX3_copy_53 ?_
  rw [if_neg (Int.lt_irrefl _)]
  refine x_copyJ hM wa_X3_68 (rgJ ho3) (rgJ hr3) (by omega) (by omega) (by omega) (Nat.le_of_ble_eq_true rfl) (by decide +kernel) dX3_copy_56 ?_
  have hr4 := hr3.uJ (gp := fC gp fp 10)
  have ho4 := ho3.kp (wF (q := r + 17) (e := aJ G 10 (fC gp fp 10))) (by omega)
  refine x_aload_n hM dX3_copy_59 rfl rfl ?_
  refine x_get hM wf_X3_38 wl_X3 (reg_o hr4) rfl dX3_copy_60 ?_
  refine x_aload_n hM dX3_copy_63 rfl rfl ?_
  refine x_get hM wf_X3_38 wl_X3 (reg_o ho4) rfl dX3_copy_64 ?_
  refine x_callV hM wv_X3_59 (m_X4_copy (rg2 hr4) (rg2 ho4) (by omega)) ⟨Nat.le_of_ble_eq_true rfl, Nat.le_of_ble_eq_true rfl⟩ (row_o (rg2 hr4)) rfl rfl rfl rfl (Nat.le_of_ble_eq_true rfl) ⟨Nat.le_of_ble_eq_true rfl, Nat.le_of_ble_eq_true rfl⟩ dX3_copy_67 (k_qV fun w_67 q_67 => ?_)
  subst q_67
  have hr5 := hr4.u2 (g := fC gt ft 10)
  have ho5 := ho4.kp (wF (q := r + 18 + 1) (e := aI G 10 (fC gt ft 10))) (by omega)
  refine x_aload_n hM dX3_copy_70 rfl rfl ?_
  refine x_get hM wf_X3_41 wl_X3 (reg_o hr5) rfl dX3_copy_71 ?_
  refine x_aload_n hM dX3_copy_74 rfl rfl ?_
  refine x_get hM wf_X3_41 wl_X3 (reg_o ho5) rfl dX3_copy_75 ?_
  refine x_callV hM wv_X3_59 (m_X4_copy (rg3 hr5) (rg3 ho5) (by omega)) ⟨Nat.le_of_ble_eq_true rfl, Nat.le_of_ble_eq_true rfl⟩ (row_o (rg3 hr5)) rfl rfl rfl rfl (Nat.le_of_ble_eq_true rfl) ⟨Nat.le_of_ble_eq_true rfl, Nat.le_of_ble_eq_true rfl⟩ dX3_copy_78 (k_qV fun w_78 q_78 => ?_)
  subst q_78
  have hr6 := hr5.u3 (g := fC gx fx 10)
  have ho6 := ho5.kp (wF (q := r + 20 + 1) (e := aI G 10 (fC gx fx 10))) (by omega)
  refine x_aload_n hM dX3_copy_81 rfl rfl ?_
  refine x_aload_n hM dX3_copy_82 rfl rfl ?_
  refine x_get hM wf_X3_74 wl_X3 (reg_o ho6) rfl dX3_copy_83 ?_
  refine x_put hM wf_X3_74 wl_X3 (reg_o hr6) wq_X3_74 rfl rfl (Nat.le_of_ble_eq_true rfl) rfl dX3_copy_86 ?_
  have hr7 := hr6.u0 (ow2 := t.own) (da2 := s.day) (cl2 := s.clo) (fe2 := s.fee)
  have ho7 := ho6.kp (wF (q := r) (e := .inr (3, [.ref (r + 1), .ref (r + 12), .ref (r + 15), .ref (r + 17), .ref (r + 18), .ref (r + 20), .int (iI t.own), .int (iI s.day), .int (iI s.clo), .int (iI s.fee)]))) (by omega)
  refine x_aload_n hM dX3_copy_89 rfl rfl ?_
  refine x_aload_n hM dX3_copy_90 rfl rfl ?_
  refine x_get hM wf_X3_78 wl_X3 (reg_o ho7) rfl dX3_copy_91 ?_
  refine x_put hM wf_X3_78 wl_X3 (reg_o hr7) wq_X3_78 rfl rfl (Nat.le_of_ble_eq_true rfl) rfl dX3_copy_94 ?_
  have hr8 := hr7.u0 (ow2 := t.own) (da2 := t.day) (cl2 := s.clo) (fe2 := s.fee)
  have ho8 := ho7.kp (wF (q := r) (e := .inr (3, [.ref (r + 1), .ref (r + 12), .ref (r + 15), .ref (r + 17), .ref (r + 18), .ref (r + 20), .int (iI t.own), .int (iI t.day), .int (iI s.clo), .int (iI s.fee)]))) (by omega)
  refine x_aload_n hM dX3_copy_97 rfl rfl ?_
  refine x_aload_n hM dX3_copy_98 rfl rfl ?_
  refine x_get hM wf_X3_81 wl_X3 (reg_o ho8) rfl dX3_copy_99 ?_
  refine x_put hM wf_X3_81 wl_X3 (reg_o hr8) wq_X3_81 rfl rfl (Nat.le_of_ble_eq_true rfl) rfl dX3_copy_102 ?_
  have hr9 := hr8.u0 (ow2 := t.own) (da2 := t.day) (cl2 := t.clo) (fe2 := s.fee)
  have ho9 := ho8.kp (wF (q := r) (e := .inr (3, [.ref (r + 1), .ref (r + 12), .ref (r + 15), .ref (r + 17), .ref (r + 18), .ref (r + 20), .int (iI t.own), .int (iI t.day), .int (iI t.clo), .int (iI s.fee)]))) (by omega)
  refine x_aload_n hM dX3_copy_105 rfl rfl ?_
  refine x_aload_n hM dX3_copy_106 rfl rfl ?_
  refine x_get hM wf_X3_84 wl_X3 (reg_o ho9) rfl dX3_copy_107 ?_
  refine x_put hM wf_X3_84 wl_X3 (reg_o hr9) wq_X3_84 rfl rfl (Nat.le_of_ble_eq_true rfl) rfl dX3_copy_110 ?_
  refine hR.v dX3_copy_113 (Nat.zero_le _) (Nat.zero_le _) ?_
  have hrA := hr9.u0 (ow2 := t.own) (da2 := t.day) (cl2 := t.clo) (fe2 := t.fee)
  have f0 : ∀ (q : Nat) (e : va_E) (w0 : Wd), r ≤ q → q < r + 22 → Fr r (r + 22) w0 (wS w0 q e) := fun q e w0 a b => Fr.wS a b
  exact p_qV ⟨⟨hW, _, _, _, _, hrA, fC_eqR e1, fC_eqR e2, fC_eqR e3, fC_eqR e4⟩, (((((((((qf.mo (by omega) (by omega)).tr (qg.mo (by omega) (by omega))).tr (f0 _ _ _ (by omega) (by omega))).tr (f0 _ _ _ (by omega) (by omega))).tr (f0 _ _ _ (by omega) (by omega))).tr (f0 _ _ _ (by omega) (by omega))).tr (f0 _ _ _ (by omega) (by omega))).tr (f0 _ _ _ (by omega) (by omega))).tr (f0 _ _ _ (by omega) (by omega))).tr (f0 _ _ _ (by omega) (by omega))⟩
def mayB (s : St) (o m : Int) : Prop := m = 0 ∨ mtsO s.L o + m ≤ s.set 4
def trfC1 (s : St) (t : Tr) : Prop := mtwF s.L t.1 t.2.2.1 t.2.2.2.1 = t.2.2.2.1 ∧ ¬ s.mon t.2.1 < jJ (t.2.2.2.2 + s.set 2) ∧ mayB s t.2.1 t.2.2.2.1
def trfB (s : St) (t : Tr) : List Sg := becF s.L t.2.1 t.2.2.1 t.2.2.2.1
def trfC2 (s : St) (t : Tr) : Prop := (trfB s t).length ≤ 40 ∧ shoB (trfB s t) t.1 (s.set 3) = false ∧ shoB (trfB s t) t.2.1 (s.set 3) = false
def trfD (s : St) (t : Tr) : St := let s1 := earnF (earnF (mkS (trfB s t) s.set s.mon s.tax s.los s.D s.own s.day s.clo s.fee) t.2.1 (jJ (-t.2.2.2.2 - s.set 2))) t.1 (jJ t.2.2.2.2); mkS s1.L s1.set s1.mon s1.tax s1.los s1.D s1.own s1.day s1.clo (s1.fee + s.set 2)
theorem m_X3_carryTransfer {l : Launch} {G : xG} {w : Wd} {z r y i : Nat} {s : St} {T0 : List Sg} (h1 : regA G w r s) (h2 : strA G w y T0) (hd : r + 22 ≤ y ∨ y + 11 ≤ r) (hi : i < s.D.length) : xMet l G yX3_carryTransfer cX3_carryTransfer 9 (some .boolean) ({ frames := 3, cells := 0, slots := 0, locals := 77 } : Room) [.ref r, .int (iI i), .ref y] w z (qI z fun x w1 => ((x = 0 ∧ ¬ (trfC1 s s.D[i] ∧ trfC2 s s.D[i]) ∧ regA G w1 r s) ∨ (x = 1 ∧ (trfC1 s s.D[i] ∧ trfC2 s s.D[i]) ∧ regA G w1 r (trfD s s.D[i]))) ∧ (∃ T, strA G w1 y T) ∧ Fr2 r (r + 22) y (y + 11) w w1) := by
  obtain ⟨hW, fs, fp, ft, fx, hr, e1, e2, e3, e4⟩ := id h1
  obtain ⟨-, -, -, -, w2, w3, w4⟩ := id hW
  have hok := dealW_at (rgD hr).1 hi
  generalize hte : s.D[i] = t at hok ⊢
  obtain ⟨a1, a2, a3, a4, a5⟩ := t
  obtain ⟨k1, k2, k3, k4, k5, k6, k7, k8, k9, k10⟩ : 0 ≤ a1 ∧ a1 < 10 ∧ 0 ≤ a2 ∧ a2 < 10 ∧ a1 ≠ a2 ∧ 0 ≤ a3 ∧ 1 ≤ a4 ∧ a3 + a4 ≤ 10000 ∧ 0 ≤ a5 ∧ a5 ≤ 1000000 := hok
  have t0 : trAt s.D[i] 0 = a1 := by rw [hte]; rfl
  have t1 : trAt s.D[i] 1 = a2 := by rw [hte]; rfl
  have t2 : trAt s.D[i] 2 = a3 := by rw [hte]; rfl
  have t3 : trAt s.D[i] 3 = a4 := by rw [hte]; rfl
  have t4 : trAt s.D[i] 4 = a5 := by rw [hte]; rfl
  have s2 := e1 2 (by omega) (by omega)
  have s3 := e1 3 (by omega) (by omega)
  have sW := (rgS hr).1
  have hmt : -2147483648 ≤ mtwF s.L a1 a3 a4 ∧ mtwF s.L a1 a3 a4 ≤ 2147483647 := by
    have gen : ∀ (M : List Sg) (c : Int), (∀ x ∈ M, okS x) → 0 ≤ c → 0 ≤ M.foldl (mtwS a1 a3 a4) c ∧ M.foldl (mtwS a1 a3 a4) c ≤ c + 10000 * M.length := by
      intro M
      induction M with
      | nil => intro c _ hc; simp only [List.foldl_nil, List.length_nil]; omega
      | cons x M ih =>
        intro c hx hc
        have hx1 := ovF_b (a := a3) (n := a4) (hx x List.mem_cons_self) (by omega)
        have h5 : 0 ≤ mtwS a1 a3 a4 c x ∧ mtwS a1 a3 a4 c x ≤ c + 10000 := by unfold mtwS; split <;> omega
        have := ih (mtwS a1 a3 a4 c x) (fun y hy => hx y (List.mem_cons_of_mem _ hy)) h5.1
        simp only [List.foldl_cons, List.length_cons]
        omega
    have := gen s.L 0 sW.2 (by omega)
    have := sW.1
    unfold mtwF
    omega
  refine xMet_of RX3 rfl (by decide +kernel) false (by decide +kernel) (Nat.le_of_ble_eq_true rfl) rfl ?_
  intro P hM hR
  have no : ∀ (w1 : Wd) (T : List Sg) (ls : List (Option Value)), regA G w1 r s → strA G w1 y T → Fr2 r (r + 22) y (y + 11) w w1 → ¬ (trfC1 s (a1, a2, a3, a4, a5) ∧ trfC2 s (a1, a2, a3, a4, a5)) → P 108 ls [] w1 (z, 0, 0) ∧ P 166 ls [] w1 (z, 0, 0) := by
    intro w1 T ls hA hT hF hn
    constructor
    · skip
      refine x_iconst hM dX3_carryTransfer_108 ?_
      refine hR.b dX3_carryTransfer_109 rfl (Nat.zero_le _) (Nat.zero_le _) ?_
      exact p_qI ⟨Or.inl ⟨rfl, hn, hA⟩, ⟨T, hT⟩, hF⟩
    · skip
      refine x_iconst hM dX3_carryTransfer_166 ?_
      refine hR.b dX3_carryTransfer_167 rfl (Nat.zero_le _) (Nat.zero_le _) ?_
      exact p_qI ⟨Or.inl ⟨rfl, hn, hA⟩, ⟨T, hT⟩, hF⟩
  have go2 : mayB s a2 a4 → ¬ s.mon a2 < jJ (a5 + s.set 2) → mtwF s.L a1 a3 a4 = a4 → P 110 [some (.ref r), some (.int (iI i)), some (.ref y), some (.int (iI a1)), some (.int (iI a2)), some (.int (iI a3)), some (.int (iI a4)), some (.int (iI a5)), some (.int (iI (s.set 2)))] [] w (z, 0, 0) := by
    intro hma hmo hmt2
    have c1 : trfC1 s (a1, a2, a3, a4, a5) := ⟨hmt2, hmo, hma⟩
    refine x_aload_n hM dX3_carryTransfer_110 rfl rfl ?_
    refine x_aload_n hM dX3_carryTransfer_111 rfl rfl ?_
    refine x_get hM wf_X3_12 wl_X3 (by first | assumption | exact reg_o (by assumption) | exact reg_a (by assumption)) rfl dX3_carryTransfer_112 ?_
    refine x_iload hM dX3_carryTransfer_115 rfl ?_
    refine x_iload hM dX3_carryTransfer_117 rfl ?_
    refine x_iload hM dX3_carryTransfer_119 rfl ?_
    refine x_callV hM wv_X3_137 (m_X5_become h2 (rgS hr) (by omega) (by omega) (by omega)) ⟨Nat.le_of_ble_eq_true rfl, Nat.le_of_ble_eq_true rfl⟩ (str_a h2) rfl rfl rfl rfl (Nat.le_of_ble_eq_true rfl) ⟨Nat.le_of_ble_eq_true rfl, Nat.le_of_ble_eq_true rfl⟩ dX3_carryTransfer_121 (k_qV fun w_121 q_121 => ?_)
    obtain ⟨qa, qf⟩ := q_121
    have hr1 := hr.kp qf (by omega)
    have hA1 := h1.kp qf (by omega)
    have hlen := qa.1.1
    have hB : becF s.L a2 a3 a4 = trfB s (a1, a2, a3, a4, a5) := rfl
    rw [hB] at qa hlen
    refine x_aload_n hM dX3_carryTransfer_124 rfl rfl ?_
    refine x_get hM wf_X3_141 wl_X5 (str_a qa) rfl dX3_carryTransfer_125 ?_
    refine x_bipush hM dX3_carryTransfer_128 rfl ?_
    refine x_icmp_gt (tgt := 166) hM dX3_carryTransfer_130 (by decide) (by omega) (by omega) (fun c_130 => ?_) (fun c_130 => ?_)
    · refine (no _ _ _ hA1 qa (qf.r2 (by omega) (by omega)) ?_).2
      rintro ⟨-, q1, q2, q3⟩
      first | (have q1 : (trfB s (a1, a2, a3, a4, a5)).length ≤ 40 := q1; omega) | exact absurd (b1.symm.trans q2) (by decide) | exact absurd (b2.symm.trans q3) (by decide)
    · refine x_aload_n hM dX3_carryTransfer_133 rfl rfl ?_
      refine x_iload_n hM dX3_carryTransfer_134 rfl rfl ?_
      refine x_aload_n hM dX3_carryTransfer_135 rfl rfl ?_
      refine x_get hM wf_X3_30 wl_X3 (reg_o hr1) rfl dX3_carryTransfer_136 ?_
      refine x_iconst hM dX3_carryTransfer_139 ?_
      refine x_callV hM wv_X3_90 (m_X4_at (rg1 hr1) (by omega)) ⟨Nat.le_of_ble_eq_true rfl, Nat.le_of_ble_eq_true rfl⟩ (row_o (rg1 hr1)) rfl rfl rfl rfl (Nat.le_of_ble_eq_true rfl) ⟨Nat.le_of_ble_eq_true rfl, Nat.le_of_ble_eq_true rfl⟩ dX3_carryTransfer_140 (k_rI ?_)
      rw [s3]
      refine x_callV hM wv_X3_144 (m_X5_hasShorter qa (by omega) (by omega)) ⟨Nat.le_of_ble_eq_true rfl, Nat.le_of_ble_eq_true rfl⟩ (str_a qa) rfl rfl rfl rfl (Nat.le_of_ble_eq_true rfl) ⟨Nat.le_of_ble_eq_true rfl, Nat.le_of_ble_eq_true rfl⟩ dX3_carryTransfer_143 (k_rI ?_)
      by_cases b1 : shoB (trfB s (a1, a2, a3, a4, a5)) a1 (s.set 3) = true
      · rw [if_pos b1]
        refine x_if_ne (tgt := 166) hM dX3_carryTransfer_146 (by decide) (by omega) (fun _ => ?_) (fun q => absurd q (by decide))
        refine (no _ _ _ hA1 qa (qf.r2 (by omega) (by omega)) ?_).2
        rintro ⟨-, q1, q2, q3⟩
        first | (have q1 : (trfB s (a1, a2, a3, a4, a5)).length ≤ 40 := q1; omega) | exact absurd (b1.symm.trans q2) (by decide) | exact absurd (b2.symm.trans q3) (by decide)
      · rw [if_neg b1]
        refine x_if_ne (tgt := 166) hM dX3_carryTransfer_146 (by decide) (by omega) (fun q => absurd rfl q) (fun _ => ?_)
        refine x_aload_n hM dX3_carryTransfer_149 rfl rfl ?_
        refine x_iload hM dX3_carryTransfer_150 rfl ?_
        refine x_aload_n hM dX3_carryTransfer_152 rfl rfl ?_
        refine x_get hM wf_X3_30 wl_X3 (by first | assumption | exact reg_o (by assumption) | exact reg_a (by assumption)) rfl dX3_carryTransfer_153 ?_
        refine x_iconst hM dX3_carryTransfer_156 ?_
        refine x_callV hM wv_X3_90 (m_X4_at (rg1 hr1) (by omega)) ⟨Nat.le_of_ble_eq_true rfl, Nat.le_of_ble_eq_true rfl⟩ (row_o (rg1 hr1)) rfl rfl rfl rfl (Nat.le_of_ble_eq_true rfl) ⟨Nat.le_of_ble_eq_true rfl, Nat.le_of_ble_eq_true rfl⟩ dX3_carryTransfer_157 (k_rI ?_)
        rw [s3]
        refine x_callV hM wv_X3_144 (m_X5_hasShorter qa (by omega) (by omega)) ⟨Nat.le_of_ble_eq_true rfl, Nat.le_of_ble_eq_true rfl⟩ (str_a qa) rfl rfl rfl rfl (Nat.le_of_ble_eq_true rfl) ⟨Nat.le_of_ble_eq_true rfl, Nat.le_of_ble_eq_true rfl⟩ dX3_carryTransfer_160 (k_rI ?_)
        by_cases b2 : shoB (trfB s (a1, a2, a3, a4, a5)) a2 (s.set 3) = true
        · rw [if_pos b2]
          refine x_if_eq (tgt := 168) hM dX3_carryTransfer_163 (by decide) (by omega) (fun q => absurd q (by decide)) (fun _ => ?_)
          refine (no _ _ _ hA1 qa (qf.r2 (by omega) (by omega)) ?_).2
          rintro ⟨-, q1, q2, q3⟩
          first | (have q1 : (trfB s (a1, a2, a3, a4, a5)).length ≤ 40 := q1; omega) | exact absurd (b1.symm.trans q2) (by decide) | exact absurd (b2.symm.trans q3) (by decide)
        · rw [if_neg b2]
          refine x_if_eq (tgt := 168) hM dX3_carryTransfer_163 (by decide) (by omega) (fun _ => ?_) (fun q => absurd rfl q)
          refine x_aload_n hM dX3_carryTransfer_168 rfl rfl ?_
          refine x_get hM wf_X3_12 wl_X3 (reg_o hr1) rfl dX3_carryTransfer_169 ?_
          refine x_aload_n hM dX3_carryTransfer_172 rfl rfl ?_
          refine x_callV hM wv_X3_52 (m_X5_copy (rgS hr1) qa (by omega)) ⟨Nat.le_of_ble_eq_true rfl, Nat.le_of_ble_eq_true rfl⟩ (str_a (rgS hr1)) rfl rfl rfl rfl (Nat.le_of_ble_eq_true rfl) ⟨Nat.le_of_ble_eq_true rfl, Nat.le_of_ble_eq_true rfl⟩ dX3_carryTransfer_173 (k_qV fun w_173 q_173 => ?_)
          obtain ⟨qc, qg⟩ := q_173
          have hr2 := hr1.uS qg qc
          have qa2 := qa.kp qg (by omega)
          have hA2 : regA G w_173 r (mkS (trfB s (a1, a2, a3, a4, a5)) s.set s.mon s.tax s.los s.D s.own s.day s.clo s.fee) := ⟨hW, _, _, _, _, hr2, e1, e2, e3, e4⟩
          refine x_aload_n hM dX3_carryTransfer_176 rfl rfl ?_
          refine x_iload hM dX3_carryTransfer_177 rfl ?_
          refine x_iload hM dX3_carryTransfer_179 rfl ?_
          refine x_ineg hM dX3_carryTransfer_181 ?_
          refine x_iload hM dX3_carryTransfer_182 rfl ?_
          refine x_isub hM dX3_carryTransfer_184 ?_
          refine x_i2l hM dX3_carryTransfer_185 ?_
          rw [iI_long (by omega)]
          refine x_callV hM wv_X3_106 (m_X3_earn hA2 (by omega)) ⟨Nat.le_of_ble_eq_true rfl, Nat.le_of_ble_eq_true rfl⟩ (reg_a hA2) rfl rfl rfl rfl (Nat.le_of_ble_eq_true rfl) ⟨Nat.le_of_ble_eq_true rfl, Nat.le_of_ble_eq_true rfl⟩ dX3_carryTransfer_186 (k_qV fun w_186 q_186 => ?_)
          obtain ⟨qd, qh⟩ := q_186
          refine x_aload_n hM dX3_carryTransfer_189 rfl rfl ?_
          refine x_iload_n hM dX3_carryTransfer_190 rfl rfl ?_
          refine x_iload hM dX3_carryTransfer_191 rfl ?_
          refine x_i2l hM dX3_carryTransfer_193 ?_
          rw [iI_long (by omega)]
          refine x_callV hM wv_X3_106 (m_X3_earn qd (by omega)) ⟨Nat.le_of_ble_eq_true rfl, Nat.le_of_ble_eq_true rfl⟩ (reg_a qd) rfl rfl rfl rfl (Nat.le_of_ble_eq_true rfl) ⟨Nat.le_of_ble_eq_true rfl, Nat.le_of_ble_eq_true rfl⟩ dX3_carryTransfer_194 (k_qV fun w_194 q_194 => ?_)
          obtain ⟨qe, qi⟩ := q_194
          obtain ⟨hW9, fs9, fp9, ft9, fx9, hr9, g1, g2, g3, g4⟩ := id qe
          refine x_aload_n hM dX3_carryTransfer_197 rfl rfl ?_
          refine x_dup hM dX3_carryTransfer_198 rfl ?_
          refine x_get hM wf_X3_84 wl_X3 (reg_o hr9) rfl dX3_carryTransfer_199 ?_
          refine x_iload hM dX3_carryTransfer_202 rfl ?_
          refine x_iadd hM dX3_carryTransfer_204 ?_
          refine x_put hM wf_X3_84 wl_X3 (reg_o hr9) wq_X3_84 rfl rfl (Nat.le_of_ble_eq_true rfl) rfl dX3_carryTransfer_205 ?_
          refine x_iconst hM dX3_carryTransfer_208 ?_
          refine hR.b dX3_carryTransfer_209 rfl (Nat.zero_le _) (Nat.zero_le _) ?_
          refine p_qI ⟨Or.inr ⟨rfl, ⟨c1, ?_⟩, ⟨hW9, _, _, _, _, hr9.u0, g1, g2, g3, g4⟩⟩, ⟨_, ((qa2.kp qh (by omega)).kp qi (by omega)).kp (wF (q := r)) (by omega)⟩, ?_⟩
          · exact ⟨show (trfB s (a1, a2, a3, a4, a5)).length ≤ 40 by omega, Bool.eq_false_iff.mpr b1, Bool.eq_false_iff.mpr b2⟩
          · exact ((((qf.r2 (by omega) (by omega)).tr (qg.l2 (by omega) (by omega))).tr (qh.l2 (by omega) (by omega))).tr (qi.l2 (by omega) (by omega))).tr (wF.l2 (by omega) (by omega))
  refine x_aload_n hM dX3_carryTransfer_0 rfl rfl ?_
  refine x_get hM wf_X3_21 wl_X3 (by first | assumption | exact reg_o (by assumption) | exact reg_a (by assumption)) rfl dX3_carryTransfer_1 ?_
  refine x_iload_n hM dX3_carryTransfer_4 rfl rfl ?_
  refine x_iconst hM dX3_carryTransfer_5 ?_
  refine x_callV hM wv_X3_126 (m_X0_about (i := i) (rgD hr) hi (by omega)) ⟨Nat.le_of_ble_eq_true rfl, Nat.le_of_ble_eq_true rfl⟩ (deal_o (rgD hr)) rfl rfl rfl rfl (Nat.le_of_ble_eq_true rfl) ⟨Nat.le_of_ble_eq_true rfl, Nat.le_of_ble_eq_true rfl⟩ dX3_carryTransfer_6 (k_rI ?_)
  rw [t0]
  refine x_istore_n hM dX3_carryTransfer_9 rfl rfl (Nat.le_of_ble_eq_true rfl) rfl ?_
  refine x_aload_n hM dX3_carryTransfer_10 rfl rfl ?_
  refine x_get hM wf_X3_21 wl_X3 (by first | assumption | exact reg_o (by assumption) | exact reg_a (by assumption)) rfl dX3_carryTransfer_11 ?_
  refine x_iload_n hM dX3_carryTransfer_14 rfl rfl ?_
  refine x_iconst hM dX3_carryTransfer_15 ?_
  refine x_callV hM wv_X3_126 (m_X0_about (i := i) (rgD hr) hi (by omega)) ⟨Nat.le_of_ble_eq_true rfl, Nat.le_of_ble_eq_true rfl⟩ (deal_o (rgD hr)) rfl rfl rfl rfl (Nat.le_of_ble_eq_true rfl) ⟨Nat.le_of_ble_eq_true rfl, Nat.le_of_ble_eq_true rfl⟩ dX3_carryTransfer_16 (k_rI ?_)
  rw [t1]
  refine x_istore hM dX3_carryTransfer_19 rfl (Nat.le_of_ble_eq_true rfl) rfl ?_
  refine x_aload_n hM dX3_carryTransfer_21 rfl rfl ?_
  refine x_get hM wf_X3_21 wl_X3 (by first | assumption | exact reg_o (by assumption) | exact reg_a (by assumption)) rfl dX3_carryTransfer_22 ?_
  refine x_iload_n hM dX3_carryTransfer_25 rfl rfl ?_
  refine x_iconst hM dX3_carryTransfer_26 ?_
  refine x_callV hM wv_X3_126 (m_X0_about (i := i) (rgD hr) hi (by omega)) ⟨Nat.le_of_ble_eq_true rfl, Nat.le_of_ble_eq_true rfl⟩ (deal_o (rgD hr)) rfl rfl rfl rfl (Nat.le_of_ble_eq_true rfl) ⟨Nat.le_of_ble_eq_true rfl, Nat.le_of_ble_eq_true rfl⟩ dX3_carryTransfer_27 (k_rI ?_)
  rw [t2]
  refine x_istore hM dX3_carryTransfer_30 rfl (Nat.le_of_ble_eq_true rfl) rfl ?_
  refine x_aload_n hM dX3_carryTransfer_32 rfl rfl ?_
  refine x_get hM wf_X3_21 wl_X3 (by first | assumption | exact reg_o (by assumption) | exact reg_a (by assumption)) rfl dX3_carryTransfer_33 ?_
  refine x_iload_n hM dX3_carryTransfer_36 rfl rfl ?_
  refine x_iconst hM dX3_carryTransfer_37 ?_
  refine x_callV hM wv_X3_126 (m_X0_about (i := i) (rgD hr) hi (by omega)) ⟨Nat.le_of_ble_eq_true rfl, Nat.le_of_ble_eq_true rfl⟩ (deal_o (rgD hr)) rfl rfl rfl rfl (Nat.le_of_ble_eq_true rfl) ⟨Nat.le_of_ble_eq_true rfl, Nat.le_of_ble_eq_true rfl⟩ dX3_carryTransfer_38 (k_rI ?_)
  rw [t3]
  refine x_istore hM dX3_carryTransfer_41 rfl (Nat.le_of_ble_eq_true rfl) rfl ?_
  refine x_aload_n hM dX3_carryTransfer_43 rfl rfl ?_
  refine x_get hM wf_X3_21 wl_X3 (by first | assumption | exact reg_o (by assumption) | exact reg_a (by assumption)) rfl dX3_carryTransfer_44 ?_
  refine x_iload_n hM dX3_carryTransfer_47 rfl rfl ?_
  refine x_iconst hM dX3_carryTransfer_48 ?_
  refine x_callV hM wv_X3_126 (m_X0_about (i := i) (rgD hr) hi (by omega)) ⟨Nat.le_of_ble_eq_true rfl, Nat.le_of_ble_eq_true rfl⟩ (deal_o (rgD hr)) rfl rfl rfl rfl (Nat.le_of_ble_eq_true rfl) ⟨Nat.le_of_ble_eq_true rfl, Nat.le_of_ble_eq_true rfl⟩ dX3_carryTransfer_49 (k_rI ?_)
  rw [t4]
  refine x_istore hM dX3_carryTransfer_52 rfl (Nat.le_of_ble_eq_true rfl) rfl ?_
  refine x_aload_n hM dX3_carryTransfer_54 rfl rfl ?_
  refine x_get hM wf_X3_30 wl_X3 (by first | assumption | exact reg_o (by assumption) | exact reg_a (by assumption)) rfl dX3_carryTransfer_55 ?_
  refine x_iconst hM dX3_carryTransfer_58 ?_
  refine x_callV hM wv_X3_90 (m_X4_at (by first | assumption | exact sr1 (by assumption) | exact sr2 (by assumption) | exact sr3 (by assumption) | exact sr4 (by assumption) | exact sr5 (by assumption) | exact rg1 (by assumption) | exact rg2 (by assumption) | exact rg3 (by assumption)) (by omega)) ⟨Nat.le_of_ble_eq_true rfl, Nat.le_of_ble_eq_true rfl⟩ (by first | assumption | exact row_o (by first | assumption | exact sr1 (by assumption) | exact sr2 (by assumption) | exact sr3 (by assumption) | exact sr4 (by assumption) | exact sr5 (by assumption) | exact rg1 (by assumption) | exact rg2 (by assumption) | exact rg3 (by assumption))) rfl rfl rfl rfl (Nat.le_of_ble_eq_true rfl) ⟨Nat.le_of_ble_eq_true rfl, Nat.le_of_ble_eq_true rfl⟩ dX3_carryTransfer_59 (k_rI ?_)
  rw [s2]
  refine x_istore hM dX3_carryTransfer_62 rfl (Nat.le_of_ble_eq_true rfl) rfl ?_
  refine x_aload_n hM dX3_carryTransfer_64 rfl rfl ?_
  refine x_get hM wf_X3_12 wl_X3 (by first | assumption | exact reg_o (by assumption) | exact reg_a (by assumption)) rfl dX3_carryTransfer_65 ?_
  refine x_iload_n hM dX3_carryTransfer_68 rfl rfl ?_
  refine x_iload hM dX3_carryTransfer_69 rfl ?_
  refine x_iload hM dX3_carryTransfer_71 rfl ?_
  refine x_callV hM wv_X3_129 (m_X5_metersWithin (rgS hr) (by omega) (by omega)) ⟨Nat.le_of_ble_eq_true rfl, Nat.le_of_ble_eq_true rfl⟩ (str_a (rgS hr)) rfl rfl rfl rfl (Nat.le_of_ble_eq_true rfl) ⟨Nat.le_of_ble_eq_true rfl, Nat.le_of_ble_eq_true rfl⟩ dX3_carryTransfer_73 (k_rI ?_)
  refine x_iload hM dX3_carryTransfer_76 rfl ?_
  refine x_icmp_ne (tgt := 108) hM dX3_carryTransfer_78 (by decide) (by omega) (by omega) (fun c_78 => ?_) (fun c_78 => ?_)
  · refine (no w T0 _ h1 h2 Fr2.rf (fun q => ?_)).1
    first | exact absurd q.1.1 (by assumption) | exact absurd q.1.2.2 hma | exact q.1.2.1 (z_93l.mp (by omega))
  · refine x_aload_n hM dX3_carryTransfer_81 rfl rfl ?_
    refine x_iload hM dX3_carryTransfer_82 rfl ?_
    refine x_callV hM wv_X3_113 (m_X3_purseOf (by assumption) (by omega)) ⟨Nat.le_of_ble_eq_true rfl, Nat.le_of_ble_eq_true rfl⟩ (by first | assumption | exact reg_o (by assumption) | exact reg_a (by assumption)) rfl rfl rfl rfl (Nat.le_of_ble_eq_true rfl) ⟨Nat.le_of_ble_eq_true rfl, Nat.le_of_ble_eq_true rfl⟩ dX3_carryTransfer_84 (k_rL ?_)
    refine x_iload hM dX3_carryTransfer_87 rfl ?_
    refine x_iload hM dX3_carryTransfer_89 rfl ?_
    refine x_iadd hM dX3_carryTransfer_91 ?_
    refine x_i2l hM dX3_carryTransfer_92 ?_
    rw [iI_long (by omega)]
    refine x_lcmp hM dX3_carryTransfer_93 (fun z_93 z_93r z_93l z_93e => ?_)
    refine x_if_lt (tgt := 108) hM dX3_carryTransfer_94 (by decide) (by omega) (fun c_94 => ?_) (fun c_94 => ?_)
    · refine (no w T0 _ h1 h2 Fr2.rf (fun q => ?_)).1
      first | exact absurd q.1.1 (by assumption) | exact absurd q.1.2.2 hma | exact q.1.2.1 (z_93l.mp (by omega))
    · refine x_aload_n hM dX3_carryTransfer_97 rfl rfl ?_
      refine x_iload hM dX3_carryTransfer_98 rfl ?_
      refine x_iload hM dX3_carryTransfer_100 rfl ?_
      refine x_callV hM wv_X3_133 (m_X3_mayGet (by assumption) (by omega) (by omega)) ⟨Nat.le_of_ble_eq_true rfl, Nat.le_of_ble_eq_true rfl⟩ (by first | assumption | exact reg_o (by assumption) | exact reg_a (by assumption)) rfl rfl rfl rfl (Nat.le_of_ble_eq_true rfl) ⟨Nat.le_of_ble_eq_true rfl, Nat.le_of_ble_eq_true rfl⟩ dX3_carryTransfer_102 (k_rI ?_)
      by_cases hma : a4 = 0 ∨ mtsO s.L a2 + a4 ≤ s.set 4
      · rw [if_pos hma]
        refine x_if_ne (tgt := 110) hM dX3_carryTransfer_105 (by decide) (by omega) (fun _ => ?_) (fun q => absurd q (by decide))
        exact go2 hma (fun q => absurd (z_93l.mpr q) (by omega)) (by assumption)
      · rw [if_neg hma]
        refine x_if_ne (tgt := 110) hM dX3_carryTransfer_105 (by decide) (by omega) (fun q => absurd rfl q) (fun _ => ?_)
        refine (no w T0 _ h1 h2 Fr2.rf (fun q => ?_)).1
        first | exact absurd q.1.1 (by assumption) | exact absurd q.1.2.2 hma | exact q.1.2.1 (z_93l.mp (by omega))
