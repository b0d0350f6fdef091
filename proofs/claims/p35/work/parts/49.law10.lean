/-! THE LAW -/
/-- the law's end -/
def lwE (P : xT) : Prop := ∀ (pc : Nat) (ls : List (Option Value)) (w : Wd) (z k n : Nat), decode cL_law pc = .ok (.ireturn, 1) → k ≤ 600000 → n ≤ 7302250 → P pc ls [.int (iI 1)] w (z, k, n)
/-- before the first act: n owners -/
def stP (n : Int) (s : St) : Prop := s.L = [] ∧ s.D = [] ∧ s.day = 0 ∧ s.own = n ∧ (∀ o : Int, s.tax o = 0) ∧ (∀ o : Int, n ≤ o → s.mon o = jJ 0) ∧ (∀ o : Int, 0 ≤ o → o < n → ∃ m : Int, s.mon o = jJ m ∧ 0 ≤ m ∧ m ≤ 3000) ∧ (0 ≤ s.set 0 ∧ s.set 0 ≤ 30) ∧ (0 ≤ s.set 1 ∧ s.set 1 ≤ 60) ∧ (0 ≤ s.set 2 ∧ s.set 2 ≤ 20)
theorem stP_0 : stP 0 St0 := ⟨rfl, rfl, rfl, rfl, fun _ => rfl, fun _ _ => rfl, fun o a b => by omega, ⟨by decide, by decide⟩, ⟨by decide, by decide⟩, ⟨by decide, by decide⟩⟩
theorem stP_iv {n : Int} {s : St} (h : stP n s) (hn : 2 ≤ n ∧ n ≤ 5) : ivS 0 s := by
  obtain ⟨h1, h2, h3, h4, h5, h6, h7, h8⟩ := h
  refine ⟨by rw [h1]; exact canL_nil, by rw [h1]; exact Nat.zero_le _, fun y hy => by rw [h1] at hy; exact absurd hy List.not_mem_nil, fun y hy => by rw [h2] at hy; exact absurd hy List.not_mem_nil, by omega, by omega, fun o _ _ => h5 o, fun o a b => ?_, h8⟩
  obtain ⟨m, e, m1, m2⟩ := h7 o a (by omega)
  exact ⟨m, e, by omega, by omega⟩
/-- the settings -/
theorem set_ok {n : Int} {s : St} (h : stP n s) (hW : regW s) {i v : Int} (hi : 0 ≤ i ∧ i < 5) (h0 : i = 0 → 0 ≤ v ∧ v ≤ 30) (h1 : i = 1 → 0 ≤ v ∧ v ≤ 60) (h2 : i = 2 → 0 ≤ v ∧ v ≤ 20) (h3 : i = 3 → 1 ≤ v ∧ v ≤ 100) (h4 : i = 4 → 1 ≤ v ∧ v ≤ 10000) : iR (setF s i v).1 ∧ stP n (setF s i v).2 := by
  have e : setF s i v = (s.set i, mkS s.L (fU s.set i v) s.mon s.tax s.los s.D s.own s.day s.clo s.fee) := by
    unfold setF
    rcases (show i = 0 ∨ i = 1 ∨ i = 2 ∨ i = 3 ∨ i = 4 by omega) with q | q | q | q | q
    · have := h0 q; subst q
      rw [if_pos (by omega), show sv_f 1 0 = 0 from rfl, show sv_f 2 0 = 1000 from rfl, if_neg (show ¬ v < 0 by omega), if_neg (show ¬ 1000 < v by omega)]
    · have := h1 q; subst q
      rw [if_pos (by omega), show sv_f 1 1 = 0 from rfl, show sv_f 2 1 = 1000 from rfl, if_neg (show ¬ v < 0 by omega), if_neg (show ¬ 1000 < v by omega)]
    · have := h2 q; subst q
      rw [if_pos (by omega), show sv_f 1 2 = 0 from rfl, show sv_f 2 2 = 1000 from rfl, if_neg (show ¬ v < 0 by omega), if_neg (show ¬ 1000 < v by omega)]
    · have := h3 q; subst q
      rw [if_pos (by omega), show sv_f 1 3 = 1 from rfl, show sv_f 2 3 = 100 from rfl, if_neg (show ¬ v < 1 by omega), if_neg (show ¬ 100 < v by omega)]
    · have := h4 q; subst q
      rw [if_pos (by omega), show sv_f 1 4 = 1 from rfl, show sv_f 2 4 = 10000 from rfl, if_neg (show ¬ v < 1 by omega), if_neg (show ¬ 10000 < v by omega)]
  obtain ⟨-, -, w0, w1, w2, w3, w4⟩ := hW
  rw [e]
  refine ⟨?_, ?_⟩
  · show -2147483648 ≤ s.set i ∧ s.set i ≤ 2147483647
    rcases (show i = 0 ∨ i = 1 ∨ i = 2 ∨ i = 3 ∨ i = 4 by omega) with q | q | q | q | q <;> subst q <;> omega
  · obtain ⟨k1, k2, k3, k4, k5, k6, k7, k8, k9, k10⟩ := h
    have f : ∀ j b : Int, (0 ≤ s.set j ∧ s.set j ≤ b) → (i = j → 0 ≤ v ∧ v ≤ b) → 0 ≤ fU s.set i v j ∧ fU s.set i v j ≤ b := by
      intro j b q1 q2
      by_cases c : j = i
      · subst c; rw [fU_eq]; exact q2 rfl
      · rw [fU_ne c]; exact q1
    exact ⟨k1, k2, k3, k4, k5, k6, k7, f 0 30 k8 h0, f 1 60 k9 h1, f 2 20 k10 h2⟩
theorem own_ok {n v : Int} {s : St} (h : stP n s) (hn : 0 ≤ n ∧ n < 10) (hv : 0 ≤ v ∧ v < 3000) : ∃ t : St, ownF s v = (n, t) ∧ stP (n + 1) t := by
  obtain ⟨k1, k2, k3, k4, k5, k6, k7, k8⟩ := h
  refine ⟨mkS s.L s.set (fU s.mon s.own (s.mon s.own + jJ v)) s.tax s.los s.D (s.own + 1) s.day s.clo s.fee, ?_, ?_⟩
  · unfold ownF
    rw [if_pos (by omega), if_neg (by omega), k4]
  · refine ⟨k1, k2, k3, by show s.own + 1 = n + 1; rw [k4], k5, fun o a => ?_, fun o a b => ?_, k8⟩
    · show fU s.mon s.own (s.mon s.own + jJ v) o = jJ 0
      rw [fU_ne (by omega)]
      exact k6 o (by omega)
    · by_cases c : o = s.own
      · subst c
        refine ⟨v, ?_, by omega, by omega⟩
        show fU s.mon s.own (s.mon s.own + jJ v) s.own = jJ v
        rw [fU_eq, k6 s.own (by omega), jJ_add, show (0 : Int) + v = v by omega]
      · obtain ⟨m, e, q⟩ := k7 o a (by omega)
        exact ⟨m, by show fU s.mon s.own (s.mon s.own + jJ v) o = jJ m; rw [fU_ne c]; exact e, q⟩
section LW
variable {l : Launch} {G : xG} {P : xT}
theorem lc_end (hM : xM RL cL_law 4 room_1 l G false P) (hE : lwE P) {w : Wd} {x z k n c : Nat} {s : St} {ow i : Int} (h : obA G w x s) (hiv : ivS c s) (hz : x + 215 ≤ z) (hk : k ≤ 5000) (hn : n ≤ 500000) : P 217 [some (.ref (G.2.2.2 3)), some (.ref x), some (.int (iI ow)), some (.int (iI i))] [] w (z, k, n) := by
  refine x_aload_n hM dL_law_217 rfl rfl ?_
  refine x_callS hM ws_L_176 (m_L_agree h hiv hz) ⟨Nat.le_of_ble_eq_true rfl, Nat.le_of_ble_eq_true rfl⟩ rfl rfl (Nat.le_of_ble_eq_true rfl) ⟨show k + 2 ≤ 600000 by omega, show n + 128 ≤ 7302250 by omega⟩ dL_law_218 (k_eI fun x_218 w_218 z_218 q_218 => ?_)
  obtain ⟨rfl, -, e3⟩ := q_218
  exact hE _ _ _ _ _ _ dL_law_221 (show k + 2 ≤ 600000 by omega) (show n + 128 ≤ 7302250 by omega)
theorem lc_given (hM : xM RL cL_law 4 room_1 l G false P) (hE : lwE P) {x : Nat} {ow : Int} (how : 2 ≤ ow ∧ ow ≤ 5) : ∀ (j i : Nat), i + j = 42 → ∀ (w : Wd) (z k n : Nat) (s : St), obA G w x s → ivS (44 + i) s → s.own = ow → x + 215 ≤ z → k ≤ 1000 + 4 * i → n ≤ 100000 + 256 * i → P 177 [some (.ref (G.2.2.2 3)), some (.ref x), some (.int (iI ow)), some (.int (iI i))] [] w (z, k, n) := by
  intro j
  induction j with
  | zero =>
    intro i hij w z k n s h hiv ho hz hk hn
    refine x_iload_n hM dL_law_177 rfl rfl ?_
    refine x_bipush hM dL_law_178 rfl ?_
    refine x_icmp_ge (tgt := 217) hM dL_law_180 (by decide) (by omega) (by omega) (fun c_180 => ?_) (fun c_180 => ?_)
    · exact lc_end hM hE h hiv hz (by omega) (by omega)
    · exfalso; omega
  | succ j ih =>
    intro i hij w z k n s h hiv ho hz hk hn
    subst ho
    refine x_iload_n hM dL_law_177 rfl rfl ?_
    refine x_bipush hM dL_law_178 rfl ?_
    refine x_icmp_ge (tgt := 217) hM dL_law_180 (by decide) (by omega) (by omega) (fun c_180 => ?_) (fun c_180 => ?_)
    · exfalso; omega
    · refine x_aload_n hM dL_law_183 rfl rfl ?_
      refine x_aload_n hM dL_law_184 rfl rfl ?_
      refine x_sipush hM dL_law_185 rfl ?_
      refine x_iload_n hM dL_law_188 rfl rfl ?_
      refine x_iadd hM dL_law_189 ?_
      refine x_iload_n hM dL_law_190 rfl rfl ?_
      refine x_callS hM ws_L_131 (m_L_cell (by omega) (by omega)) ⟨Nat.le_of_ble_eq_true rfl, Nat.le_of_ble_eq_true rfl⟩ rfl rfl (Nat.le_of_ble_eq_true rfl) ⟨show k ≤ 600000 by omega, show n ≤ 7302250 by omega⟩ dL_law_191 (k_qI fun x_191 w_191 q_191 => ?_)
      obtain ⟨rfl, y0, y1⟩ := q_191
      refine x_sipush hM dL_law_194 rfl ?_
      refine x_bipush hM dL_law_197 rfl ?_
      refine x_iload_n hM dL_law_199 rfl rfl ?_
      refine x_imul hM dL_law_200 ?_
      refine x_iadd hM dL_law_201 ?_
      refine x_iconst hM dL_law_202 ?_
      refine x_callS hM ws_L_135 (m_L_isGiven h hiv hz ⟨y0, y1⟩ (by omega)) ⟨Nat.le_of_ble_eq_true rfl, Nat.le_of_ble_eq_true rfl⟩ rfl rfl (Nat.le_of_ble_eq_true rfl) ⟨show k + 4 ≤ 600000 by omega, show n + 256 ≤ 7302250 by omega⟩ dL_law_203 (k_eI fun x_203 w_203 z_203 q_203 => ?_)
      obtain ⟨rfl, e2, s1, e3, e4, e5⟩ := q_203
      refine x_if_ne (tgt := 211) hM dL_law_206 (by decide) (by omega) (fun c_206 => ?_) (fun c_206 => ?_)
      · refine x_iinc hM dL_law_211 rfl rfl rfl ?_
        refine x_goto (tgt := 177) hM dL_law_214 (by decide) ?_
        exact ih (i + 1) (by omega) _ _ _ _ s1 e3 e4 e5 (by omega) (show k + 4 ≤ 1000 + 4 * (i + 1) by omega) (show n + 256 ≤ 100000 + 256 * (i + 1) by omega)
      · exfalso; omega
theorem lc_acts (hM : xM RL cL_law 4 room_1 l G false P) (hE : lwE P) {x : Nat} {ow : Int} (how : 2 ≤ ow ∧ ow ≤ 5) : ∀ (j i : Nat), i + j = 44 → ∀ (w : Wd) (z k n : Nat) (s : St), obA G w x s → ivS i s → s.own = ow → x + 215 ≤ z → k ≤ 300 + 9 * i → n ≤ 4000 + 522 * i → P 139 [some (.ref (G.2.2.2 3)), some (.ref x), some (.int (iI ow)), some (.int (iI i))] [] w (z, k, n) := by
  intro j
  induction j with
  | zero =>
    intro i hij w z k n s h hiv ho hz hk hn
    have hi : i = 44 := by omega
    subst hi
    refine x_iload_n hM dL_law_139 rfl rfl ?_
    refine x_bipush hM dL_law_140 rfl ?_
    refine x_icmp_ge (tgt := 175) hM dL_law_142 (by decide) (by omega) (by omega) (fun c_142 => ?_) (fun c_142 => ?_)
    · refine x_iconst hM dL_law_175 ?_
      refine x_istore_n hM dL_law_176 rfl rfl (Nat.le_of_ble_eq_true rfl) rfl ?_
      exact lc_given hM hE how 42 0 rfl _ _ _ _ s h hiv ho hz (by omega) (by omega)
    · exfalso; omega
  | succ j ih =>
    intro i hij w z k n s h hiv ho hz hk hn
    refine x_iload_n hM dL_law_139 rfl rfl ?_
    refine x_bipush hM dL_law_140 rfl ?_
    refine x_icmp_ge (tgt := 175) hM dL_law_142 (by decide) (by omega) (by omega) (fun c_142 => ?_) (fun c_142 => ?_)
    · exfalso; omega
    · refine x_aload_n hM dL_law_145 rfl rfl ?_
      refine x_aload_n hM dL_law_146 rfl rfl ?_
      refine x_bipush hM dL_law_147 rfl ?_
      refine x_bipush hM dL_law_149 rfl ?_
      refine x_iload_n hM dL_law_151 rfl rfl ?_
      refine x_imul hM dL_law_152 ?_
      refine x_iadd hM dL_law_153 ?_
      refine x_callS hM ws_L_172 (m_L_isAct h hiv hz (by omega) (by omega)) ⟨Nat.le_of_ble_eq_true rfl, Nat.le_of_ble_eq_true rfl⟩ rfl rfl (Nat.le_of_ble_eq_true rfl) ⟨show k + 7 ≤ 600000 by omega, show n + 394 ≤ 7302250 by omega⟩ dL_law_154 (k_eI fun x_154 w_154 z_154 q_154 => ?_)
      obtain ⟨rfl, e2, s1, e3, e4, e5⟩ := q_154
      refine x_if_eq (tgt := 167) hM dL_law_157 (by decide) (by omega) (fun c_157 => ?_) (fun c_157 => ?_)
      · exfalso; omega
      · refine x_aload_n hM dL_law_160 rfl rfl ?_
        refine x_callS hM ws_L_176 (m_L_agree e3 e4 (by omega)) ⟨Nat.le_of_ble_eq_true rfl, Nat.le_of_ble_eq_true rfl⟩ rfl rfl (Nat.le_of_ble_eq_true rfl) ⟨show k + 7 + 2 ≤ 600000 by omega, show n + 394 + 128 ≤ 7302250 by omega⟩ dL_law_161 (k_eI fun x_161 w_161 z_161 q_161 => ?_)
        obtain ⟨rfl, rfl, o2⟩ := q_161
        refine x_if_ne (tgt := 169) hM dL_law_164 (by decide) (by omega) (fun c_164 => ?_) (fun c_164 => ?_)
        · refine x_iinc hM dL_law_169 rfl rfl rfl ?_
          refine x_goto (tgt := 139) hM dL_law_172 (by decide) ?_
          exact ih (i + 1) (by omega) _ _ _ _ s1 o2 e4 (e5.trans ho) (by omega) (show k + 7 + 2 ≤ 300 + 9 * (i + 1) by omega) (show n + 394 + 128 ≤ 4000 + 522 * (i + 1) by omega)
        · exfalso; omega
theorem lc_owners (hM : xM RL cL_law 4 room_1 l G false P) (hE : lwE P) {x : Nat} {ow : Int} (how : 2 ≤ ow ∧ ow ≤ 5) : ∀ (j i : Nat), (i : Int) + j = ow → ∀ (w : Wd) (z k n : Nat) (s : St), obA G w x s → stP i s → x + 215 ≤ z → k ≤ 300 → n ≤ 4000 → P 105 [some (.ref (G.2.2.2 3)), some (.ref x), some (.int (iI ow)), some (.int (iI i))] [] w (z, k, n) := by
  intro j
  induction j with
  | zero =>
    intro i hij w z k n s h hst hz hk hn
    have hi : (i : Int) = ow := by omega
    rw [hi] at hst
    refine x_iload_n hM dL_law_105 rfl rfl ?_
    refine x_iload_n hM dL_law_106 rfl rfl ?_
    refine x_icmp_ge (tgt := 137) hM dL_law_107 (by decide) (by omega) (by omega) (fun c_107 => ?_) (fun c_107 => ?_)
    · refine x_iconst hM dL_law_137 ?_
      refine x_istore_n hM dL_law_138 rfl rfl (Nat.le_of_ble_eq_true rfl) rfl ?_
      exact lc_acts hM hE how 44 0 rfl _ _ _ _ s h (stP_iv hst how) hst.2.2.2.1 hz (by omega) (by omega)
    · exfalso; omega
  | succ j ih =>
    intro i hij w z k n s h hst hz hk hn
    refine x_iload_n hM dL_law_105 rfl rfl ?_
    refine x_iload_n hM dL_law_106 rfl rfl ?_
    refine x_icmp_ge (tgt := 137) hM dL_law_107 (by decide) (by omega) (by omega) (fun c_107 => ?_) (fun c_107 => ?_)
    · exfalso; omega
    · refine x_aload_n hM dL_law_110 rfl rfl ?_
      refine x_aload_n hM dL_law_111 rfl rfl ?_
      refine x_bipush hM dL_law_112 rfl ?_
      refine x_iload_n hM dL_law_114 rfl rfl ?_
      refine x_iadd hM dL_law_115 ?_
      refine x_sipush hM dL_law_116 rfl ?_
      refine x_callS hM ws_L_131 (m_L_cell (by omega) (by omega)) ⟨Nat.le_of_ble_eq_true rfl, Nat.le_of_ble_eq_true rfl⟩ rfl rfl (Nat.le_of_ble_eq_true rfl) ⟨show k ≤ 600000 by omega, show n ≤ 7302250 by omega⟩ dL_law_119 (k_qI fun x_119 w_119 q_119 => ?_)
      obtain ⟨rfl, y0, y1⟩ := q_119
      obtain ⟨-, ⟨hs, hh⟩, -⟩ := id h
      obtain ⟨t, e1, e2⟩ := own_ok hst (by omega) ⟨y0, y1⟩
      refine x_callV hM wv_L_169 (m_X6_owner h.1 hh (by omega) (by rw [e1]; show -2147483648 ≤ (i : Int) ∧ (i : Int) ≤ 2147483647; omega)) ⟨Nat.le_of_ble_eq_true rfl, Nat.le_of_ble_eq_true rfl⟩ (ob_o h) rfl rfl rfl rfl (Nat.le_of_ble_eq_true rfl) ⟨show k ≤ 600000 by omega, show n ≤ 7302250 by omega⟩ dL_law_122 (k_qI fun x_122 w_122 q_122 => ?_)
      obtain ⟨rfl, q2, q3, qG⟩ := q_122
      have o3 : obA G w_122 x t := by
        have q := mu_ob h q2 _ q3 qG
        rw [e1] at q
        exact q
      rw [e1]
      refine x_iload_n hM dL_law_125 rfl rfl ?_
      refine x_same (tgt := 131) hM rfl dL_law_126 (by decide) ?_
      refine x_iinc hM dL_law_131 rfl rfl rfl ?_
      refine x_goto (tgt := 105) hM dL_law_134 (by decide) ?_
      exact ih (i + 1) (by omega) _ _ _ _ t o3 e2 hz hk hn
theorem lc_start (hM : xM RL cL_law 4 room_1 l G false P) (hE : lwE P) {x : Nat} {w : Wd} : P 0 [some (.ref (G.2.2.2 3)), none, none, none] [] w (x, 0, 0) := by
  /- behind the settings -/
  have S94 : ∀ (w1 : Wd) (s : St), obA G w1 x s → stP 0 s → P 94 [some (.ref (G.2.2.2 3)), some (.ref x), none, none] [] w1 (x + 215, 215, 2493) := by
    intro w1 s h hst
    refine x_iconst hM dL_law_94 ?_
    refine x_aload_n hM dL_law_95 rfl rfl ?_
    refine x_iconst hM dL_law_96 ?_
    refine x_iconst hM dL_law_97 ?_
    refine x_callS hM ws_L_131 (m_L_cell (by omega) (by omega)) ⟨Nat.le_of_ble_eq_true rfl, Nat.le_of_ble_eq_true rfl⟩ rfl rfl (Nat.le_of_ble_eq_true rfl) ⟨Nat.le_of_ble_eq_true rfl, Nat.le_of_ble_eq_true rfl⟩ dL_law_98 (k_qI fun x_98 w_98 q_98 => ?_)
    obtain ⟨rfl, y0, y1⟩ := q_98
    refine x_iadd hM dL_law_101 ?_
    refine x_istore_n hM dL_law_102 rfl rfl (Nat.le_of_ble_eq_true rfl) rfl ?_
    refine x_iconst hM dL_law_103 ?_
    refine x_istore_n hM dL_law_104 rfl rfl (Nat.le_of_ble_eq_true rfl) rfl ?_
    exact lc_owners hM hE (ow := 2 + x_98) (by omega) (2 + x_98).toNat 0 (by omega) _ _ _ _ s h hst (by omega) (by decide) (by decide)
  have S90 : ∀ (w1 : Wd) (s : St) (v : Int), obA G w1 x s → stP 0 s → (1 ≤ v ∧ v ≤ 10000) → P 90 [some (.ref (G.2.2.2 3)), some (.ref x), none, none] [.int (iI v), .int (iI 4), .ref x] w1 (x + 215, 215, 2493) := by
    intro w1 s v h hst hv
    obtain ⟨-, ⟨hs, hh⟩, -⟩ := id h
    have e := set_ok hst (ob_W h).1 (i := 4) (v := v) (by omega) (fun q => by omega) (fun q => by omega) (fun q => by omega) (fun q => by omega) (fun _ => hv)
    refine x_callV hM wv_L_166 (m_X6_set h.1 hh (by omega) (by omega) e.1) ⟨Nat.le_of_ble_eq_true rfl, Nat.le_of_ble_eq_true rfl⟩ (ob_o h) rfl rfl rfl rfl (Nat.le_of_ble_eq_true rfl) ⟨Nat.le_of_ble_eq_true rfl, Nat.le_of_ble_eq_true rfl⟩ dL_law_90 (k_qI fun x_90 w_90 q_90 => ?_)
    obtain ⟨rfl, q2, q3, qG⟩ := q_90
    have o3 := mu_ob h q2 _ q3 qG
    refine x_pop hM dL_law_93 rfl ?_
    exact S94 _ _ o3 e.2
  refine x_new (ci := 6) (fs := [.null, .null, .null, .null, .null, .null]) hM rfl wl_X6 wk_L_9 wn_X6 wz_X6 tyX6 tyX6_ok (by decide +kernel) (Nat.le_of_ble_eq_true rfl) (Nat.le_of_ble_eq_true rfl) dL_law_0 ?_
  refine x_dup hM dL_law_3 rfl ?_
  refine x_callI hM wi_L_165 (id (m_X6_init wS_eq)) ⟨Nat.le_of_ble_eq_true rfl, Nat.le_of_ble_eq_true rfl⟩ rfl rfl (Nat.le_of_ble_eq_true rfl) ⟨Nat.le_of_ble_eq_true rfl, Nat.le_of_ble_eq_true rfl⟩ dL_law_4 (k_aV fun w_4 z_4 q_4 => ?_)
  obtain ⟨rfl, q1, q2, q3, q4, q5⟩ := q_4
  have o0 : obA G w_4 x St0 := ⟨q1, ⟨[], q2⟩, q3⟩
  obtain ⟨-, ⟨hs0, hh0⟩, -⟩ := id o0
  refine x_astore_n hM dL_law_7 rfl rfl (Nat.le_of_ble_eq_true rfl) rfl ?_
  refine x_aload_n hM dL_law_8 rfl rfl ?_
  refine x_iconst hM dL_law_9 ?_
  refine x_aload_n hM dL_law_10 rfl rfl ?_
  refine x_iconst hM dL_law_11 ?_
  refine x_bipush hM dL_law_12 rfl ?_
  refine x_callS hM ws_L_131 (m_L_cell (by omega) (by omega)) ⟨Nat.le_of_ble_eq_true rfl, Nat.le_of_ble_eq_true rfl⟩ rfl rfl (Nat.le_of_ble_eq_true rfl) ⟨Nat.le_of_ble_eq_true rfl, Nat.le_of_ble_eq_true rfl⟩ dL_law_14 (k_qI fun x_14 w_14 q_14 => ?_)
  obtain ⟨rfl, y0, y1⟩ := q_14
  have e0 := set_ok stP_0 (ob_W o0).1 (i := 0) (v := x_14) (by omega) (fun _ => by omega) (fun q => by omega) (fun q => by omega) (fun q => by omega) (fun q => by omega)
  refine x_callV hM wv_L_166 (m_X6_set o0.1 hh0 (by omega) (by omega) e0.1) ⟨Nat.le_of_ble_eq_true rfl, Nat.le_of_ble_eq_true rfl⟩ (ob_o o0) rfl rfl rfl rfl (Nat.le_of_ble_eq_true rfl) ⟨Nat.le_of_ble_eq_true rfl, Nat.le_of_ble_eq_true rfl⟩ dL_law_17 (k_qI fun x_17 w_17 q_17 => ?_)
  obtain ⟨rfl, a2, a3, aG⟩ := q_17
  have o1 := mu_ob o0 a2 _ a3 aG
  obtain ⟨-, ⟨hs1, hh1⟩, -⟩ := id o1
  refine x_pop hM dL_law_20 rfl ?_
  refine x_aload_n hM dL_law_21 rfl rfl ?_
  refine x_iconst hM dL_law_22 ?_
  refine x_aload_n hM dL_law_23 rfl rfl ?_
  refine x_iconst hM dL_law_24 ?_
  refine x_bipush hM dL_law_25 rfl ?_
  refine x_callS hM ws_L_131 (m_L_cell (by omega) (by omega)) ⟨Nat.le_of_ble_eq_true rfl, Nat.le_of_ble_eq_true rfl⟩ rfl rfl (Nat.le_of_ble_eq_true rfl) ⟨Nat.le_of_ble_eq_true rfl, Nat.le_of_ble_eq_true rfl⟩ dL_law_27 (k_qI fun x_27 w_27 q_27 => ?_)
  obtain ⟨rfl, y2, y3⟩ := q_27
  have e1 := set_ok e0.2 (ob_W o1).1 (i := 1) (v := x_27) (by omega) (fun q => by omega) (fun _ => by omega) (fun q => by omega) (fun q => by omega) (fun q => by omega)
  refine x_callV hM wv_L_166 (m_X6_set o1.1 hh1 (by omega) (by omega) e1.1) ⟨Nat.le_of_ble_eq_true rfl, Nat.le_of_ble_eq_true rfl⟩ (ob_o o1) rfl rfl rfl rfl (Nat.le_of_ble_eq_true rfl) ⟨Nat.le_of_ble_eq_true rfl, Nat.le_of_ble_eq_true rfl⟩ dL_law_30 (k_qI fun x_30 w_30 q_30 => ?_)
  obtain ⟨rfl, b2, b3, bG⟩ := q_30
  have o2 := mu_ob o1 b2 _ b3 bG
  obtain ⟨-, ⟨hs2, hh2⟩, -⟩ := id o2
  refine x_pop hM dL_law_33 rfl ?_
  refine x_aload_n hM dL_law_34 rfl rfl ?_
  refine x_iconst hM dL_law_35 ?_
  refine x_aload_n hM dL_law_36 rfl rfl ?_
  refine x_iconst hM dL_law_37 ?_
  refine x_bipush hM dL_law_38 rfl ?_
  refine x_callS hM ws_L_131 (m_L_cell (by omega) (by omega)) ⟨Nat.le_of_ble_eq_true rfl, Nat.le_of_ble_eq_true rfl⟩ rfl rfl (Nat.le_of_ble_eq_true rfl) ⟨Nat.le_of_ble_eq_true rfl, Nat.le_of_ble_eq_true rfl⟩ dL_law_40 (k_qI fun x_40 w_40 q_40 => ?_)
  obtain ⟨rfl, y4, y5⟩ := q_40
  have e2 := set_ok e1.2 (ob_W o2).1 (i := 2) (v := x_40) (by omega) (fun q => by omega) (fun q => by omega) (fun _ => by omega) (fun q => by omega) (fun q => by omega)
  refine x_callV hM wv_L_166 (m_X6_set o2.1 hh2 (by omega) (by omega) e2.1) ⟨Nat.le_of_ble_eq_true rfl, Nat.le_of_ble_eq_true rfl⟩ (ob_o o2) rfl rfl rfl rfl (Nat.le_of_ble_eq_true rfl) ⟨Nat.le_of_ble_eq_true rfl, Nat.le_of_ble_eq_true rfl⟩ dL_law_43 (k_qI fun x_43 w_43 q_43 => ?_)
  obtain ⟨rfl, c2, c3, cG⟩ := q_43
  have o3 := mu_ob o2 c2 _ c3 cG
  obtain ⟨-, ⟨hs3, hh3⟩, -⟩ := id o3
  refine x_pop hM dL_law_46 rfl ?_
  refine x_aload_n hM dL_law_47 rfl rfl ?_
  refine x_iconst hM dL_law_48 ?_
  refine x_iconst hM dL_law_49 ?_
  refine x_aload_n hM dL_law_50 rfl rfl ?_
  refine x_iconst hM dL_law_51 ?_
  refine x_bipush hM dL_law_52 rfl ?_
  refine x_callS hM ws_L_131 (m_L_cell (by omega) (by omega)) ⟨Nat.le_of_ble_eq_true rfl, Nat.le_of_ble_eq_true rfl⟩ rfl rfl (Nat.le_of_ble_eq_true rfl) ⟨Nat.le_of_ble_eq_true rfl, Nat.le_of_ble_eq_true rfl⟩ dL_law_54 (k_qI fun x_54 w_54 q_54 => ?_)
  obtain ⟨rfl, y6, y7⟩ := q_54
  have e3 := set_ok e2.2 (ob_W o3).1 (i := 3) (v := 1 + x_54) (by omega) (fun q => by omega) (fun q => by omega) (fun q => by omega) (fun _ => by omega) (fun q => by omega)
  refine x_iadd hM dL_law_57 ?_
  refine x_callV hM wv_L_166 (m_X6_set o3.1 hh3 (by omega) (by omega) e3.1) ⟨Nat.le_of_ble_eq_true rfl, Nat.le_of_ble_eq_true rfl⟩ (ob_o o3) rfl rfl rfl rfl (Nat.le_of_ble_eq_true rfl) ⟨Nat.le_of_ble_eq_true rfl, Nat.le_of_ble_eq_true rfl⟩ dL_law_58 (k_qI fun x_58 w_58 q_58 => ?_)
  obtain ⟨rfl, d2, d3, dG⟩ := q_58
  have o4 := mu_ob o3 d2 _ d3 dG
  refine x_pop hM dL_law_61 rfl ?_
  refine x_aload_n hM dL_law_62 rfl rfl ?_
  refine x_iconst hM dL_law_63 ?_
  refine x_aload_n hM dL_law_64 rfl rfl ?_
  refine x_iconst hM dL_law_65 ?_
  refine x_iconst hM dL_law_66 ?_
  refine x_callS hM ws_L_131 (m_L_cell (by omega) (by omega)) ⟨Nat.le_of_ble_eq_true rfl, Nat.le_of_ble_eq_true rfl⟩ rfl rfl (Nat.le_of_ble_eq_true rfl) ⟨Nat.le_of_ble_eq_true rfl, Nat.le_of_ble_eq_true rfl⟩ dL_law_67 (k_qI fun x_67 w_67 q_67 => ?_)
  obtain ⟨rfl, y8, y9⟩ := q_67
  refine x_if_ne (tgt := 79) hM dL_law_70 (by decide) (by omega) (fun c_70 => ?_) (fun c_70 => ?_)
  · refine x_bipush hM dL_law_79 rfl ?_
    refine x_aload_n hM dL_law_81 rfl rfl ?_
    refine x_iconst hM dL_law_82 ?_
    refine x_sipush hM dL_law_83 rfl ?_
    refine x_callS hM ws_L_131 (m_L_cell (by omega) (by omega)) ⟨Nat.le_of_ble_eq_true rfl, Nat.le_of_ble_eq_true rfl⟩ rfl rfl (Nat.le_of_ble_eq_true rfl) ⟨Nat.le_of_ble_eq_true rfl, Nat.le_of_ble_eq_true rfl⟩ dL_law_86 (k_qI fun x_86 w_86 q_86 => ?_)
    obtain ⟨rfl, u0, u1⟩ := q_86
    refine x_iadd hM dL_law_89 ?_
    exact S90 _ _ _ o4 e3.2 (by omega)
  · refine x_sipush hM dL_law_73 rfl ?_
    refine x_goto (tgt := 90) hM dL_law_76 (by decide) ?_
    exact S90 _ _ _ o4 e3.2 (by omega)
end LW
