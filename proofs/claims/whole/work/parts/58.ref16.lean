/-! The reference: entries -/
abbrev enE (G : xG) (w : Wd) (m : Nat) : Prop := ∃ f : Int → Int, w (m + 14) = some (aI G 240 f)
abbrev Fe (m : Nat) (w w1 : Wd) : Prop := Fr2 m (m + 1) (m + 14) (m + 15) w w1
theorem Fe.h {m : Nat} {w w1 : Wd} (h : Fr m (m + 1) w w1) : Fe m w w1 := fun q a b => h q a
theorem Fe.e {m : Nat} {w w1 : Wd} (h : Fr (m + 14) (m + 15) w w1) : Fe m w w1 := fun q a b => h q b
theorem m_X7_readOne {l : Launch} {G : xG} {w : Wd} {z m : Nat} {cs : List Int} {E : List Ent} {un it rw pl wr : Int} (hh : w m = some (hdV m un cs.length it rw E.length pl wr)) (hd : pdA G w m cs) (hE : enA G w m E) (hp : 0 ≤ pl ∧ pl ≤ 9000) (hl : E.length ≤ 59) : xMet l G yX7_readOne cX7_readOne 3 none ({ frames := 3, cells := 0, slots := 0, locals := 66 } : Room) [.ref m] w z (qV z fun w1 => Fe m w w1 ∧ (((entP cs pl).1 = 0 ∧ (∃ mn2 : Int, w1 m = some (hdV m un cs.length it rw mn2 (entP cs pl).2.1 1)) ∧ enE G w1 m) ∨ ((entP cs pl).1 = 1 ∧ w1 m = some (hdV m un cs.length it rw (E ++ [entP cs pl]).length (entP cs pl).2.1 0) ∧ enA G w1 m (E ++ [entP cs pl])))) := by
  obtain ⟨f, hf, hv⟩ := id hE
  have hsb := sgP_b hd.1 pl
  have el : ((E ++ [entP cs pl]).length : Int) = (E.length : Int) + 1 := by simp
  generalize hk : sgP cs pl = k at hsb
  refine xMet_of RX7 rfl (by decide +kernel) false (by decide +kernel) (Nat.le_of_ble_eq_true rfl) rfl ?_
  intro P hM hR
  by_cases ck : k = 43 ∨ k = 45 ∨ k = 103 ∨ k = 112 ∨ k = 100
  · have J212 : ∀ (w4 : Wd) (j wr4 : Int) (x1 x2 : Option Value), w4 m = some (hdV m un cs.length it rw E.length j wr4) → Fe m w w4 → ((wr4 = 0 ∧ (entP cs pl).1 = 1 ∧ (entP cs pl).2.1 = j ∧ enA G w4 m (E ++ [entP cs pl])) ∨ (wr4 = 1 ∧ (entP cs pl).1 = 0 ∧ (entP cs pl).2.1 = j ∧ enE G w4 m)) → P 212 [some (.ref m), x1, x2] [] w4 (z, 0, 0) := by
      intro w4 j wr4 x1 x2 h4 hF hc
      refine x_aload_n hM dX7_readOne_212 rfl rfl ?_
      refine x_dup hM dX7_readOne_213 rfl ?_
      refine x_get hM wf_X7_209 wl_X7 h4 rfl dX7_readOne_214 ?_
      refine x_iconst hM dX7_readOne_217 ?_
      refine x_iadd hM dX7_readOne_218 ?_
      refine x_put hM wf_X7_209 wl_X7 h4 wq_X7_209 rfl rfl (Nat.le_of_ble_eq_true rfl) rfl dX7_readOne_219 ?_
      refine hR.v dX7_readOne_222 (Nat.zero_le _) (Nat.zero_le _) ?_
      rcases hc with ⟨rfl, c1, c2, c3⟩ | ⟨rfl, c1, c2, c3⟩
      · exact p_qV ⟨hF.tr (Fe.h wF), Or.inr ⟨c1, by rw [el, c2]; exact wS_eq, c3.kpf (wS_ne (by omega))⟩⟩
      · obtain ⟨g, c3⟩ := c3
        exact p_qV ⟨hF.tr (Fe.h wF), Or.inl ⟨c1, ⟨_, by rw [c2]; exact wS_eq⟩, g, (wS_ne (by omega)).trans c3⟩⟩
    have J131 : ∀ (w3 : Wd) (g : Int → Int) (j wr3 who y lx : Int), w3 m = some (hdV m un cs.length it rw E.length j wr3) → Fe m w w3 → w3 (m + 14) = some (aI G 240 g) → (∀ q : Int, q < 4 * E.length → g q = f q) → g (4 * E.length) = k → g (4 * E.length + 1) = who → g (4 * E.length + 2) = y → (hasL k → who = lx) → 0 ≤ j ∧ j ≤ 9200 → ((wr3 = 0 ∧ entP cs pl = tailP cs k lx (y, j)) ∨ (wr3 = 1 ∧ entP cs pl = (0, j, 0, 0, 0, 0))) → P 131 [some (.ref m), some (.int (iI (4 * (E.length : Int)))), some (.int (iI k))] [] w3 (z, 0, 0) := by
      intro w3 g j wr3 who y lx h3 hF hg glow g0 g1 g2 hwho hj hc
      have hd3 := hd.kpf (hF (m + 11) (by omega) (by omega))
      have hsj := sgP_b hd.1 j
      have hsj2 := sgP_b hd.1 (j + 1)
      rcases hc with ⟨rfl, hc⟩ | ⟨rfl, hc⟩
      · by_cases c2 : k = 43 ∨ k = 45
        · by_cases c3 : sgP cs j = 58
          · have e1 : tailP cs k lx (y, j) = if 48 ≤ sgP cs (j + 1) ∧ sgP cs (j + 1) ≤ 57 then (1, (numL cs 3 (sgP cs (j + 1) - 48) (j + 1 + 1)).2, k, lx, y, (numL cs 3 (sgP cs (j + 1) - 48) (j + 1 + 1)).1) else (0, j + 1, 0, 0, 0, 0) := (if_pos c2).trans (if_pos c3)
            refine x_iload_n hM dX7_readOne_131 rfl rfl ?_
            refine x_bipush hM dX7_readOne_132 rfl ?_
            refine x_icmp_eq (tgt := 143) hM dX7_readOne_134 (by decide) (by omega) (by omega) (fun c_134 => ?_) (fun c_134 => ?_)
            · refine x_aload_n hM dX7_readOne_143 rfl rfl ?_
              refine x_aload_n hM dX7_readOne_144 rfl rfl ?_
              refine x_get hM wf_X7_203 wl_X7 h3 rfl dX7_readOne_145 ?_
              refine x_if_ne (tgt := 160) hM dX7_readOne_148 (by decide) (by omega) (fun c_148 => ?_) (fun c_148 => ?_)
              · exfalso; omega
              · refine x_aload_n hM dX7_readOne_151 rfl rfl ?_
                refine x_callV hM wv_X7_200 (m_X7_sign h3 hd3 (by omega)) ⟨Nat.le_of_ble_eq_true rfl, Nat.le_of_ble_eq_true rfl⟩ h3 rfl rfl rfl rfl (Nat.le_of_ble_eq_true rfl) ⟨Nat.le_of_ble_eq_true rfl, Nat.le_of_ble_eq_true rfl⟩ dX7_readOne_152 (k_rI ?_)
                refine x_bipush hM dX7_readOne_155 rfl ?_
                refine x_icmp_eq (tgt := 164) hM dX7_readOne_157 (by decide) (by omega) (by omega) (fun c_157 => ?_) (fun c_157 => ?_)
                · refine x_iconst hM dX7_readOne_164 ?_
                  refine x_put hM wf_X7_203 wl_X7 h3 wq_X7_203 rfl rfl (Nat.le_of_ble_eq_true rfl) rfl dX7_readOne_165 ?_
                  change P _ _ _ (wS w3 m (hdV m un cs.length it rw E.length j 0)) _
                  rw [wS_same h3]
                  refine x_aload_n hM dX7_readOne_168 rfl rfl ?_
                  refine x_dup hM dX7_readOne_169 rfl ?_
                  refine x_get hM wf_X7_197 wl_X7 h3 rfl dX7_readOne_170 ?_
                  refine x_aload_n hM dX7_readOne_173 rfl rfl ?_
                  refine x_get hM wf_X7_203 wl_X7 h3 rfl dX7_readOne_174 ?_
                  refine x_if_eq (tgt := 184) hM dX7_readOne_177 (by decide) (by omega) (fun c_177 => ?_) (fun c_177 => ?_)
                  · refine x_iconst hM dX7_readOne_184 ?_
                    refine x_iadd hM dX7_readOne_185 ?_
                    refine x_put hM wf_X7_197 wl_X7 h3 wq_X7_197 rfl rfl (Nat.le_of_ble_eq_true rfl) rfl dX7_readOne_186 ?_
                    refine x_aload_n hM dX7_readOne_189 rfl rfl ?_
                    refine x_get hM wf_X7_51 wl_X7 wS_eq rfl dX7_readOne_190 ?_
                    refine x_iload_n hM dX7_readOne_193 rfl rfl ?_
                    refine x_iconst hM dX7_readOne_194 ?_
                    refine x_iadd hM dX7_readOne_195 ?_
                    refine x_aload_n hM dX7_readOne_196 rfl rfl ?_
                    refine x_get hM wf_X7_203 wl_X7 wS_eq rfl dX7_readOne_197 ?_
                    refine x_if_eq (tgt := 207) hM dX7_readOne_200 (by decide) (by omega) (fun c_200 => ?_) (fun c_200 => ?_)
                    · refine x_aload_n hM dX7_readOne_207 rfl rfl ?_
                      refine x_callV hM wv_X7_212 (m_X7_number wS_eq (hd3.kpf (wS_ne (by omega))) (by omega) rfl) ⟨Nat.le_of_ble_eq_true rfl, Nat.le_of_ble_eq_true rfl⟩ wS_eq rfl rfl rfl rfl (Nat.le_of_ble_eq_true rfl) ⟨Nat.le_of_ble_eq_true rfl, Nat.le_of_ble_eq_true rfl⟩ dX7_readOne_208 (k_qI fun x_208 w_208 q_208 => ?_)
                      obtain ⟨y9, q1, q2⟩ := q_208
                      have hg2 := (q1 (m + 14) (by omega)).trans ((wS_ne (by omega)).trans hg)
                      refine x_iast hM hg2 (by omega) dX7_readOne_211 ?_
                      rcases q2 with ⟨d1, rfl, d2⟩ | ⟨d1, d2⟩
                      · rw [if_pos d1] at e1
                        refine J212 _ _ 0 _ _ ((wS_ne (by omega)).trans d2) (((hF.tr (Fe.h wF)).tr (Fe.h q1)).tr (Fe.e wF)) (Or.inl ⟨rfl, by rw [hc, e1], by rw [hc, e1], enA.up hv wS_eq (fun q hq => (fU_ne (by omega)).trans (glow q hq)) ?_⟩)
                        rw [hc, e1]
                        exact ⟨(fU_ne (by omega)).trans g0, fun qq => (fU_ne (by omega)).trans (g1.trans (hwho qq)), (fU_ne (by omega)).trans g2, fun _ => fU_eq⟩
                      · rw [if_neg d1] at e1
                        exact J212 _ _ 1 _ _ ((wS_ne (by omega)).trans d2) (((hF.tr (Fe.h wF)).tr (Fe.h q1)).tr (Fe.e wF)) (Or.inr ⟨rfl, by rw [hc, e1], by rw [hc, e1], _, wS_eq⟩)
                    · exfalso; omega
                  · exfalso; omega
                · exfalso; omega
            · refine x_iload_n hM dX7_readOne_137 rfl rfl ?_
              refine x_bipush hM dX7_readOne_138 rfl ?_
              refine x_icmp_ne (tgt := 212) hM dX7_readOne_140 (by decide) (by omega) (by omega) (fun c_140 => ?_) (fun c_140 => ?_)
              · exfalso; omega
              · refine x_aload_n hM dX7_readOne_143 rfl rfl ?_
                refine x_aload_n hM dX7_readOne_144 rfl rfl ?_
                refine x_get hM wf_X7_203 wl_X7 h3 rfl dX7_readOne_145 ?_
                refine x_if_ne (tgt := 160) hM dX7_readOne_148 (by decide) (by omega) (fun c_148 => ?_) (fun c_148 => ?_)
                · exfalso; omega
                · refine x_aload_n hM dX7_readOne_151 rfl rfl ?_
                  refine x_callV hM wv_X7_200 (m_X7_sign h3 hd3 (by omega)) ⟨Nat.le_of_ble_eq_true rfl, Nat.le_of_ble_eq_true rfl⟩ h3 rfl rfl rfl rfl (Nat.le_of_ble_eq_true rfl) ⟨Nat.le_of_ble_eq_true rfl, Nat.le_of_ble_eq_true rfl⟩ dX7_readOne_152 (k_rI ?_)
                  refine x_bipush hM dX7_readOne_155 rfl ?_
                  refine x_icmp_eq (tgt := 164) hM dX7_readOne_157 (by decide) (by omega) (by omega) (fun c_157 => ?_) (fun c_157 => ?_)
                  · refine x_iconst hM dX7_readOne_164 ?_
                    refine x_put hM wf_X7_203 wl_X7 h3 wq_X7_203 rfl rfl (Nat.le_of_ble_eq_true rfl) rfl dX7_readOne_165 ?_
                    change P _ _ _ (wS w3 m (hdV m un cs.length it rw E.length j 0)) _
                    rw [wS_same h3]
                    refine x_aload_n hM dX7_readOne_168 rfl rfl ?_
                    refine x_dup hM dX7_readOne_169 rfl ?_
                    refine x_get hM wf_X7_197 wl_X7 h3 rfl dX7_readOne_170 ?_
                    refine x_aload_n hM dX7_readOne_173 rfl rfl ?_
                    refine x_get hM wf_X7_203 wl_X7 h3 rfl dX7_readOne_174 ?_
                    refine x_if_eq (tgt := 184) hM dX7_readOne_177 (by decide) (by omega) (fun c_177 => ?_) (fun c_177 => ?_)
                    · refine x_iconst hM dX7_readOne_184 ?_
                      refine x_iadd hM dX7_readOne_185 ?_
                      refine x_put hM wf_X7_197 wl_X7 h3 wq_X7_197 rfl rfl (Nat.le_of_ble_eq_true rfl) rfl dX7_readOne_186 ?_
                      refine x_aload_n hM dX7_readOne_189 rfl rfl ?_
                      refine x_get hM wf_X7_51 wl_X7 wS_eq rfl dX7_readOne_190 ?_
                      refine x_iload_n hM dX7_readOne_193 rfl rfl ?_
                      refine x_iconst hM dX7_readOne_194 ?_
                      refine x_iadd hM dX7_readOne_195 ?_
                      refine x_aload_n hM dX7_readOne_196 rfl rfl ?_
                      refine x_get hM wf_X7_203 wl_X7 wS_eq rfl dX7_readOne_197 ?_
                      refine x_if_eq (tgt := 207) hM dX7_readOne_200 (by decide) (by omega) (fun c_200 => ?_) (fun c_200 => ?_)
                      · refine x_aload_n hM dX7_readOne_207 rfl rfl ?_
                        refine x_callV hM wv_X7_212 (m_X7_number wS_eq (hd3.kpf (wS_ne (by omega))) (by omega) rfl) ⟨Nat.le_of_ble_eq_true rfl, Nat.le_of_ble_eq_true rfl⟩ wS_eq rfl rfl rfl rfl (Nat.le_of_ble_eq_true rfl) ⟨Nat.le_of_ble_eq_true rfl, Nat.le_of_ble_eq_true rfl⟩ dX7_readOne_208 (k_qI fun x_208 w_208 q_208 => ?_)
                        obtain ⟨y9, q1, q2⟩ := q_208
                        have hg2 := (q1 (m + 14) (by omega)).trans ((wS_ne (by omega)).trans hg)
                        refine x_iast hM hg2 (by omega) dX7_readOne_211 ?_
                        rcases q2 with ⟨d1, rfl, d2⟩ | ⟨d1, d2⟩
                        · rw [if_pos d1] at e1
                          refine J212 _ _ 0 _ _ ((wS_ne (by omega)).trans d2) (((hF.tr (Fe.h wF)).tr (Fe.h q1)).tr (Fe.e wF)) (Or.inl ⟨rfl, by rw [hc, e1], by rw [hc, e1], enA.up hv wS_eq (fun q hq => (fU_ne (by omega)).trans (glow q hq)) ?_⟩)
                          rw [hc, e1]
                          exact ⟨(fU_ne (by omega)).trans g0, fun qq => (fU_ne (by omega)).trans (g1.trans (hwho qq)), (fU_ne (by omega)).trans g2, fun _ => fU_eq⟩
                        · rw [if_neg d1] at e1
                          exact J212 _ _ 1 _ _ ((wS_ne (by omega)).trans d2) (((hF.tr (Fe.h wF)).tr (Fe.h q1)).tr (Fe.e wF)) (Or.inr ⟨rfl, by rw [hc, e1], by rw [hc, e1], _, wS_eq⟩)
                      · exfalso; omega
                    · exfalso; omega
                  · exfalso; omega
          · have e1 : tailP cs k lx (y, j) = (0, j, 0, 0, 0, 0) := (if_pos c2).trans (if_neg c3)
            refine x_iload_n hM dX7_readOne_131 rfl rfl ?_
            refine x_bipush hM dX7_readOne_132 rfl ?_
            refine x_icmp_eq (tgt := 143) hM dX7_readOne_134 (by decide) (by omega) (by omega) (fun c_134 => ?_) (fun c_134 => ?_)
            · refine x_aload_n hM dX7_readOne_143 rfl rfl ?_
              refine x_aload_n hM dX7_readOne_144 rfl rfl ?_
              refine x_get hM wf_X7_203 wl_X7 h3 rfl dX7_readOne_145 ?_
              refine x_if_ne (tgt := 160) hM dX7_readOne_148 (by decide) (by omega) (fun c_148 => ?_) (fun c_148 => ?_)
              · exfalso; omega
              · refine x_aload_n hM dX7_readOne_151 rfl rfl ?_
                refine x_callV hM wv_X7_200 (m_X7_sign h3 hd3 (by omega)) ⟨Nat.le_of_ble_eq_true rfl, Nat.le_of_ble_eq_true rfl⟩ h3 rfl rfl rfl rfl (Nat.le_of_ble_eq_true rfl) ⟨Nat.le_of_ble_eq_true rfl, Nat.le_of_ble_eq_true rfl⟩ dX7_readOne_152 (k_rI ?_)
                refine x_bipush hM dX7_readOne_155 rfl ?_
                refine x_icmp_eq (tgt := 164) hM dX7_readOne_157 (by decide) (by omega) (by omega) (fun c_157 => ?_) (fun c_157 => ?_)
                · exfalso; omega
                · refine x_iconst hM dX7_readOne_160 ?_
                  refine x_goto (tgt := 165) hM dX7_readOne_161 (by decide) ?_
                  refine x_put hM wf_X7_203 wl_X7 h3 wq_X7_203 rfl rfl (Nat.le_of_ble_eq_true rfl) rfl dX7_readOne_165 ?_
                  refine x_aload_n hM dX7_readOne_168 rfl rfl ?_
                  refine x_dup hM dX7_readOne_169 rfl ?_
                  refine x_get hM wf_X7_197 wl_X7 wS_eq rfl dX7_readOne_170 ?_
                  refine x_aload_n hM dX7_readOne_173 rfl rfl ?_
                  refine x_get hM wf_X7_203 wl_X7 wS_eq rfl dX7_readOne_174 ?_
                  refine x_if_eq (tgt := 184) hM dX7_readOne_177 (by decide) (by omega) (fun c_177 => ?_) (fun c_177 => ?_)
                  · exfalso; omega
                  · refine x_iconst hM dX7_readOne_180 ?_
                    refine x_goto (tgt := 185) hM dX7_readOne_181 (by decide) ?_
                    refine x_iadd hM dX7_readOne_185 ?_
                    refine x_put hM wf_X7_197 wl_X7 wS_eq wq_X7_197 rfl rfl (Nat.le_of_ble_eq_true rfl) rfl dX7_readOne_186 ?_
                    rw [wS_2, Int.add_zero]
                    refine x_aload_n hM dX7_readOne_189 rfl rfl ?_
                    refine x_get hM wf_X7_51 wl_X7 wS_eq rfl dX7_readOne_190 ?_
                    refine x_iload_n hM dX7_readOne_193 rfl rfl ?_
                    refine x_iconst hM dX7_readOne_194 ?_
                    refine x_iadd hM dX7_readOne_195 ?_
                    refine x_aload_n hM dX7_readOne_196 rfl rfl ?_
                    refine x_get hM wf_X7_203 wl_X7 wS_eq rfl dX7_readOne_197 ?_
                    refine x_if_eq (tgt := 207) hM dX7_readOne_200 (by decide) (by omega) (fun c_200 => ?_) (fun c_200 => ?_)
                    · exfalso; omega
                    · refine x_iconst hM dX7_readOne_203 ?_
                      refine x_goto (tgt := 211) hM dX7_readOne_204 (by decide) ?_
                      refine x_iast hM ((wS_ne (by omega)).trans hg) (by omega) dX7_readOne_211 ?_
                      exact J212 _ j 1 _ _ ((wS_ne (by omega)).trans wS_eq) ((hF.tr (Fe.h wF)).tr (Fe.e wF)) (Or.inr ⟨rfl, by rw [hc, e1], by rw [hc, e1], _, wS_eq⟩)
            · refine x_iload_n hM dX7_readOne_137 rfl rfl ?_
              refine x_bipush hM dX7_readOne_138 rfl ?_
              refine x_icmp_ne (tgt := 212) hM dX7_readOne_140 (by decide) (by omega) (by omega) (fun c_140 => ?_) (fun c_140 => ?_)
              · exfalso; omega
              · refine x_aload_n hM dX7_readOne_143 rfl rfl ?_
                refine x_aload_n hM dX7_readOne_144 rfl rfl ?_
                refine x_get hM wf_X7_203 wl_X7 h3 rfl dX7_readOne_145 ?_
                refine x_if_ne (tgt := 160) hM dX7_readOne_148 (by decide) (by omega) (fun c_148 => ?_) (fun c_148 => ?_)
                · exfalso; omega
                · refine x_aload_n hM dX7_readOne_151 rfl rfl ?_
                  refine x_callV hM wv_X7_200 (m_X7_sign h3 hd3 (by omega)) ⟨Nat.le_of_ble_eq_true rfl, Nat.le_of_ble_eq_true rfl⟩ h3 rfl rfl rfl rfl (Nat.le_of_ble_eq_true rfl) ⟨Nat.le_of_ble_eq_true rfl, Nat.le_of_ble_eq_true rfl⟩ dX7_readOne_152 (k_rI ?_)
                  refine x_bipush hM dX7_readOne_155 rfl ?_
                  refine x_icmp_eq (tgt := 164) hM dX7_readOne_157 (by decide) (by omega) (by omega) (fun c_157 => ?_) (fun c_157 => ?_)
                  · exfalso; omega
                  · refine x_iconst hM dX7_readOne_160 ?_
                    refine x_goto (tgt := 165) hM dX7_readOne_161 (by decide) ?_
                    refine x_put hM wf_X7_203 wl_X7 h3 wq_X7_203 rfl rfl (Nat.le_of_ble_eq_true rfl) rfl dX7_readOne_165 ?_
                    refine x_aload_n hM dX7_readOne_168 rfl rfl ?_
                    refine x_dup hM dX7_readOne_169 rfl ?_
                    refine x_get hM wf_X7_197 wl_X7 wS_eq rfl dX7_readOne_170 ?_
                    refine x_aload_n hM dX7_readOne_173 rfl rfl ?_
                    refine x_get hM wf_X7_203 wl_X7 wS_eq rfl dX7_readOne_174 ?_
                    refine x_if_eq (tgt := 184) hM dX7_readOne_177 (by decide) (by omega) (fun c_177 => ?_) (fun c_177 => ?_)
                    · exfalso; omega
                    · refine x_iconst hM dX7_readOne_180 ?_
                      refine x_goto (tgt := 185) hM dX7_readOne_181 (by decide) ?_
                      refine x_iadd hM dX7_readOne_185 ?_
                      refine x_put hM wf_X7_197 wl_X7 wS_eq wq_X7_197 rfl rfl (Nat.le_of_ble_eq_true rfl) rfl dX7_readOne_186 ?_
                      rw [wS_2, Int.add_zero]
                      refine x_aload_n hM dX7_readOne_189 rfl rfl ?_
                      refine x_get hM wf_X7_51 wl_X7 wS_eq rfl dX7_readOne_190 ?_
                      refine x_iload_n hM dX7_readOne_193 rfl rfl ?_
                      refine x_iconst hM dX7_readOne_194 ?_
                      refine x_iadd hM dX7_readOne_195 ?_
                      refine x_aload_n hM dX7_readOne_196 rfl rfl ?_
                      refine x_get hM wf_X7_203 wl_X7 wS_eq rfl dX7_readOne_197 ?_
                      refine x_if_eq (tgt := 207) hM dX7_readOne_200 (by decide) (by omega) (fun c_200 => ?_) (fun c_200 => ?_)
                      · exfalso; omega
                      · refine x_iconst hM dX7_readOne_203 ?_
                        refine x_goto (tgt := 211) hM dX7_readOne_204 (by decide) ?_
                        refine x_iast hM ((wS_ne (by omega)).trans hg) (by omega) dX7_readOne_211 ?_
                        exact J212 _ j 1 _ _ ((wS_ne (by omega)).trans wS_eq) ((hF.tr (Fe.h wF)).tr (Fe.e wF)) (Or.inr ⟨rfl, by rw [hc, e1], by rw [hc, e1], _, wS_eq⟩)
        · have e1 : tailP cs k lx (y, j) = (1, j, k, lx, y, 0) := if_neg c2
          refine x_iload_n hM dX7_readOne_131 rfl rfl ?_
          refine x_bipush hM dX7_readOne_132 rfl ?_
          refine x_icmp_eq (tgt := 143) hM dX7_readOne_134 (by decide) (by omega) (by omega) (fun c_134 => ?_) (fun c_134 => ?_)
          · exfalso; omega
          · refine x_iload_n hM dX7_readOne_137 rfl rfl ?_
            refine x_bipush hM dX7_readOne_138 rfl ?_
            refine x_icmp_ne (tgt := 212) hM dX7_readOne_140 (by decide) (by omega) (by omega) (fun c_140 => ?_) (fun c_140 => ?_)
            · refine J212 _ j 0 _ _ h3 hF (Or.inl ⟨rfl, by rw [hc, e1], by rw [hc, e1], enA.up hv hg glow ?_⟩)
              rw [hc, e1]
              exact ⟨g0, fun qq => g1.trans (hwho qq), g2, fun qq => absurd qq c2⟩
            · exfalso; omega
      · skip
        refine x_iload_n hM dX7_readOne_131 rfl rfl ?_
        refine x_bipush hM dX7_readOne_132 rfl ?_
        refine x_icmp_eq (tgt := 143) hM dX7_readOne_134 (by decide) (by omega) (by omega) (fun c_134 => ?_) (fun c_134 => ?_)
        · refine x_aload_n hM dX7_readOne_143 rfl rfl ?_
          refine x_aload_n hM dX7_readOne_144 rfl rfl ?_
          refine x_get hM wf_X7_203 wl_X7 h3 rfl dX7_readOne_145 ?_
          refine x_if_ne (tgt := 160) hM dX7_readOne_148 (by decide) (by omega) (fun c_148 => ?_) (fun c_148 => ?_)
          · refine x_iconst hM dX7_readOne_160 ?_
            refine x_goto (tgt := 165) hM dX7_readOne_161 (by decide) ?_
            refine x_put hM wf_X7_203 wl_X7 h3 wq_X7_203 rfl rfl (Nat.le_of_ble_eq_true rfl) rfl dX7_readOne_165 ?_
            change P _ _ _ (wS w3 m (hdV m un cs.length it rw E.length j 1)) _
            rw [wS_same h3]
            refine x_aload_n hM dX7_readOne_168 rfl rfl ?_
            refine x_dup hM dX7_readOne_169 rfl ?_
            refine x_get hM wf_X7_197 wl_X7 h3 rfl dX7_readOne_170 ?_
            refine x_aload_n hM dX7_readOne_173 rfl rfl ?_
            refine x_get hM wf_X7_203 wl_X7 h3 rfl dX7_readOne_174 ?_
            refine x_if_eq (tgt := 184) hM dX7_readOne_177 (by decide) (by omega) (fun c_177 => ?_) (fun c_177 => ?_)
            · exfalso; omega
            · refine x_iconst hM dX7_readOne_180 ?_
              refine x_goto (tgt := 185) hM dX7_readOne_181 (by decide) ?_
              refine x_iadd hM dX7_readOne_185 ?_
              refine x_put hM wf_X7_197 wl_X7 h3 wq_X7_197 rfl rfl (Nat.le_of_ble_eq_true rfl) rfl dX7_readOne_186 ?_
              rw [Int.add_zero]
              change P _ _ _ (wS w3 m (hdV m un cs.length it rw E.length j 1)) _
              rw [wS_same h3]
              refine x_aload_n hM dX7_readOne_189 rfl rfl ?_
              refine x_get hM wf_X7_51 wl_X7 h3 rfl dX7_readOne_190 ?_
              refine x_iload_n hM dX7_readOne_193 rfl rfl ?_
              refine x_iconst hM dX7_readOne_194 ?_
              refine x_iadd hM dX7_readOne_195 ?_
              refine x_aload_n hM dX7_readOne_196 rfl rfl ?_
              refine x_get hM wf_X7_203 wl_X7 h3 rfl dX7_readOne_197 ?_
              refine x_if_eq (tgt := 207) hM dX7_readOne_200 (by decide) (by omega) (fun c_200 => ?_) (fun c_200 => ?_)
              · exfalso; omega
              · refine x_iconst hM dX7_readOne_203 ?_
                refine x_goto (tgt := 211) hM dX7_readOne_204 (by decide) ?_
                refine x_iast hM hg (by omega) dX7_readOne_211 ?_
                first | exact J212 _ j 1 _ _ ((wS_ne (by omega)).trans h3) (hF.tr (Fe.e wF)) (Or.inr ⟨rfl, by rw [hc], by rw [hc], _, wS_eq⟩) | exact J212 _ j 1 _ _ h3 hF (Or.inr ⟨rfl, by rw [hc], by rw [hc], _, hg⟩)
          · exfalso; omega
        · refine x_iload_n hM dX7_readOne_137 rfl rfl ?_
          refine x_bipush hM dX7_readOne_138 rfl ?_
          refine x_icmp_ne (tgt := 212) hM dX7_readOne_140 (by decide) (by omega) (by omega) (fun c_140 => ?_) (fun c_140 => ?_)
          · first | exact J212 _ j 1 _ _ ((wS_ne (by omega)).trans h3) (hF.tr (Fe.e wF)) (Or.inr ⟨rfl, by rw [hc], by rw [hc], _, wS_eq⟩) | exact J212 _ j 1 _ _ h3 hF (Or.inr ⟨rfl, by rw [hc], by rw [hc], _, hg⟩)
          · refine x_aload_n hM dX7_readOne_143 rfl rfl ?_
            refine x_aload_n hM dX7_readOne_144 rfl rfl ?_
            refine x_get hM wf_X7_203 wl_X7 h3 rfl dX7_readOne_145 ?_
            refine x_if_ne (tgt := 160) hM dX7_readOne_148 (by decide) (by omega) (fun c_148 => ?_) (fun c_148 => ?_)
            · refine x_iconst hM dX7_readOne_160 ?_
              refine x_goto (tgt := 165) hM dX7_readOne_161 (by decide) ?_
              refine x_put hM wf_X7_203 wl_X7 h3 wq_X7_203 rfl rfl (Nat.le_of_ble_eq_true rfl) rfl dX7_readOne_165 ?_
              change P _ _ _ (wS w3 m (hdV m un cs.length it rw E.length j 1)) _
              rw [wS_same h3]
              refine x_aload_n hM dX7_readOne_168 rfl rfl ?_
              refine x_dup hM dX7_readOne_169 rfl ?_
              refine x_get hM wf_X7_197 wl_X7 h3 rfl dX7_readOne_170 ?_
              refine x_aload_n hM dX7_readOne_173 rfl rfl ?_
              refine x_get hM wf_X7_203 wl_X7 h3 rfl dX7_readOne_174 ?_
              refine x_if_eq (tgt := 184) hM dX7_readOne_177 (by decide) (by omega) (fun c_177 => ?_) (fun c_177 => ?_)
              · exfalso; omega
              · refine x_iconst hM dX7_readOne_180 ?_
                refine x_goto (tgt := 185) hM dX7_readOne_181 (by decide) ?_
                refine x_iadd hM dX7_readOne_185 ?_
                refine x_put hM wf_X7_197 wl_X7 h3 wq_X7_197 rfl rfl (Nat.le_of_ble_eq_true rfl) rfl dX7_readOne_186 ?_
                rw [Int.add_zero]
                change P _ _ _ (wS w3 m (hdV m un cs.length it rw E.length j 1)) _
                rw [wS_same h3]
                refine x_aload_n hM dX7_readOne_189 rfl rfl ?_
                refine x_get hM wf_X7_51 wl_X7 h3 rfl dX7_readOne_190 ?_
                refine x_iload_n hM dX7_readOne_193 rfl rfl ?_
                refine x_iconst hM dX7_readOne_194 ?_
                refine x_iadd hM dX7_readOne_195 ?_
                refine x_aload_n hM dX7_readOne_196 rfl rfl ?_
                refine x_get hM wf_X7_203 wl_X7 h3 rfl dX7_readOne_197 ?_
                refine x_if_eq (tgt := 207) hM dX7_readOne_200 (by decide) (by omega) (fun c_200 => ?_) (fun c_200 => ?_)
                · exfalso; omega
                · refine x_iconst hM dX7_readOne_203 ?_
                  refine x_goto (tgt := 211) hM dX7_readOne_204 (by decide) ?_
                  refine x_iast hM hg (by omega) dX7_readOne_211 ?_
                  first | exact J212 _ j 1 _ _ ((wS_ne (by omega)).trans h3) (hF.tr (Fe.e wF)) (Or.inr ⟨rfl, by rw [hc], by rw [hc], _, wS_eq⟩) | exact J212 _ j 1 _ _ h3 hF (Or.inr ⟨rfl, by rw [hc], by rw [hc], _, hg⟩)
            · exfalso; omega
    have J108 : ∀ (w2 : Wd) (g : Int → Int) (j wr2 who lx : Int), w2 m = some (hdV m un cs.length it rw E.length j wr2) → Fe m w w2 → w2 (m + 14) = some (aI G 240 g) → (∀ q : Int, q < 4 * E.length → g q = f q) → g (4 * E.length) = k → g (4 * E.length + 1) = who → (hasL k → who = lx) → 0 ≤ j ∧ j ≤ 9100 → ((wr2 = 0 ∧ entP cs pl = numbP cs k lx j) ∨ (wr2 = 1 ∧ entP cs pl = (0, j, 0, 0, 0, 0))) → P 108 [some (.ref m), some (.int (iI (4 * (E.length : Int)))), some (.int (iI k))] [] w2 (z, 0, 0) := by
      intro w2 g j wr2 who lx h2 hF hg glow g0 g1 hwho hj hc
      have hd2 := hd.kpf (hF (m + 11) (by omega) (by omega))
      have hsj := sgP_b hd.1 j
      rcases hc with ⟨rfl, hc⟩ | ⟨rfl, hc⟩
      · skip
        refine x_aload_n hM dX7_readOne_108 rfl rfl ?_
        refine x_get hM wf_X7_51 wl_X7 h2 rfl dX7_readOne_109 ?_
        refine x_iload_n hM dX7_readOne_112 rfl rfl ?_
        refine x_iconst hM dX7_readOne_113 ?_
        refine x_iadd hM dX7_readOne_114 ?_
        refine x_aload_n hM dX7_readOne_115 rfl rfl ?_
        refine x_get hM wf_X7_203 wl_X7 h2 rfl dX7_readOne_116 ?_
        refine x_if_eq (tgt := 126) hM dX7_readOne_119 (by decide) (by omega) (fun c_119 => ?_) (fun c_119 => ?_)
        · refine x_aload_n hM dX7_readOne_126 rfl rfl ?_
          refine x_callV hM wv_X7_212 (m_X7_number h2 hd2 (by omega) rfl) ⟨Nat.le_of_ble_eq_true rfl, Nat.le_of_ble_eq_true rfl⟩ h2 rfl rfl rfl rfl (Nat.le_of_ble_eq_true rfl) ⟨Nat.le_of_ble_eq_true rfl, Nat.le_of_ble_eq_true rfl⟩ dX7_readOne_127 (k_qI fun x_127 w_127 q_127 => ?_)
          obtain ⟨y9, q1, q2⟩ := q_127
          have hg2 := (q1 (m + 14) (by omega)).trans hg
          refine x_iast hM hg2 (by omega) dX7_readOne_130 ?_
          rcases q2 with ⟨d1, rfl, d2⟩ | ⟨d1, d2⟩
          · have nb := numL_b (cs := cs) 3 (sgP cs j - 48) (j + 1) (by omega)
            exact J131 _ _ _ 0 who _ lx ((wS_ne (by omega)).trans d2) ((hF.tr (Fe.h q1)).tr (Fe.e wF)) wS_eq (fun q hq => (fU_ne (by omega)).trans (glow q hq)) ((fU_ne (by omega)).trans g0) ((fU_ne (by omega)).trans g1) fU_eq hwho (by omega) (Or.inl ⟨rfl, hc.trans (if_pos d1)⟩)
          · exact J131 _ _ _ 1 who _ lx ((wS_ne (by omega)).trans d2) ((hF.tr (Fe.h q1)).tr (Fe.e wF)) wS_eq (fun q hq => (fU_ne (by omega)).trans (glow q hq)) ((fU_ne (by omega)).trans g0) ((fU_ne (by omega)).trans g1) fU_eq hwho (by omega) (Or.inr ⟨rfl, hc.trans (if_neg d1)⟩)
        · exfalso; omega
      · skip
        refine x_aload_n hM dX7_readOne_108 rfl rfl ?_
        refine x_get hM wf_X7_51 wl_X7 h2 rfl dX7_readOne_109 ?_
        refine x_iload_n hM dX7_readOne_112 rfl rfl ?_
        refine x_iconst hM dX7_readOne_113 ?_
        refine x_iadd hM dX7_readOne_114 ?_
        refine x_aload_n hM dX7_readOne_115 rfl rfl ?_
        refine x_get hM wf_X7_203 wl_X7 h2 rfl dX7_readOne_116 ?_
        refine x_if_eq (tgt := 126) hM dX7_readOne_119 (by decide) (by omega) (fun c_119 => ?_) (fun c_119 => ?_)
        · exfalso; omega
        · refine x_iconst hM dX7_readOne_122 ?_
          refine x_goto (tgt := 130) hM dX7_readOne_123 (by decide) ?_
          refine x_iast hM hg (by omega) dX7_readOne_130 ?_
          exact J131 _ _ _ 1 who _ lx ((wS_ne (by omega)).trans h2) (hF.tr (Fe.e wF)) wS_eq (fun q hq => (fU_ne (by omega)).trans (glow q hq)) ((fU_ne (by omega)).trans g0) ((fU_ne (by omega)).trans g1) fU_eq hwho (by omega) (Or.inr ⟨rfl, hc⟩)
    have J66 : ∀ (w1 : Wd), w1 m = some (hdV m un cs.length it rw E.length pl 0) → Fe m w w1 → w1 (m + 14) = some (aI G 240 (fU f (4 * E.length) k)) → P 66 [some (.ref m), some (.int (iI (4 * (E.length : Int)))), some (.int (iI k))] [] w1 (z, 0, 0) := by
      intro w1 h1 hF hg
      have hF2 := hF.tr (Fe.h (wF (w := w1) (q := m) (e := hdV m un cs.length it rw E.length (pl + 1) 0)))
      have hd2 := hd.kpf (hF2 (m + 11) (by omega) (by omega))
      have e0 : entP cs pl = if k = 43 ∨ k = 103 ∨ k = 112 then (if 0 ≤ sgP cs (pl + 1) - 65 ∧ sgP cs (pl + 1) - 65 < 10 then numbP cs k (sgP cs (pl + 1) - 65) (pl + 1 + 1) else (0, pl + 1, 0, 0, 0, 0)) else numbP cs k 0 (pl + 1) := by unfold entP; rw [hk, if_pos (by omega)]
      by_cases cl : k = 43 ∨ k = 103 ∨ k = 112
      · rw [if_pos cl] at e0
        refine x_aload_n hM dX7_readOne_66 rfl rfl ?_
        refine x_dup hM dX7_readOne_67 rfl ?_
        refine x_get hM wf_X7_197 wl_X7 h1 rfl dX7_readOne_68 ?_
        refine x_iconst hM dX7_readOne_71 ?_
        refine x_iadd hM dX7_readOne_72 ?_
        refine x_put hM wf_X7_197 wl_X7 h1 wq_X7_197 rfl rfl (Nat.le_of_ble_eq_true rfl) rfl dX7_readOne_73 ?_
        refine x_aload_n hM dX7_readOne_76 rfl rfl ?_
        refine x_get hM wf_X7_51 wl_X7 wS_eq rfl dX7_readOne_77 ?_
        refine x_iload_n hM dX7_readOne_80 rfl rfl ?_
        refine x_iconst hM dX7_readOne_81 ?_
        refine x_iadd hM dX7_readOne_82 ?_
        refine x_iload_n hM dX7_readOne_83 rfl rfl ?_
        refine x_bipush hM dX7_readOne_84 rfl ?_
        refine x_icmp_eq (tgt := 95) hM dX7_readOne_86 (by decide) (by omega) (by omega) (fun c_86 => ?_) (fun c_86 => ?_)
        · exfalso; omega
        · refine x_iload_n hM dX7_readOne_89 rfl rfl ?_
          refine x_bipush hM dX7_readOne_90 rfl ?_
          refine x_icmp_ne (tgt := 99) hM dX7_readOne_92 (by decide) (by omega) (by omega) (fun c_92 => ?_) (fun c_92 => ?_)
          · refine x_aload_n hM dX7_readOne_99 rfl rfl ?_
            refine x_bipush hM dX7_readOne_100 rfl ?_
            refine x_bipush hM dX7_readOne_102 rfl ?_
            refine x_callV hM wv_X7_206 (m_X7_one wS_eq hd2 (by omega) (Or.inl rfl) (by omega) (by omega)) ⟨Nat.le_of_ble_eq_true rfl, Nat.le_of_ble_eq_true rfl⟩ wS_eq rfl rfl rfl rfl (Nat.le_of_ble_eq_true rfl) ⟨Nat.le_of_ble_eq_true rfl, Nat.le_of_ble_eq_true rfl⟩ dX7_readOne_104 (k_qI fun x_104 w_104 q_104 => ?_)
            obtain ⟨rfl, q1, q2⟩ := q_104
            have hg2 := (q1 (m + 14) (by omega)).trans ((wS_ne (by omega)).trans hg)
            refine x_iast hM hg2 (by omega) dX7_readOne_107 ?_
            rcases q2 with ⟨-, d1, d2⟩ | ⟨d1, d2⟩
            · exact J108 _ _ _ 0 _ (sgP cs (pl + 1) - 65) ((wS_ne (by omega)).trans d2) ((hF2.tr (Fe.h q1)).tr (Fe.e wF)) wS_eq (fun q hq => (fU_ne (by omega)).trans (fU_ne (by omega))) ((fU_ne (by omega)).trans fU_eq) fU_eq (fun _ => rfl) (by omega) (Or.inl ⟨rfl, e0.trans (if_pos (by omega))⟩)
            · exact J108 _ _ _ 1 _ (sgP cs (pl + 1) - 65) ((wS_ne (by omega)).trans d2) ((hF2.tr (Fe.h q1)).tr (Fe.e wF)) wS_eq (fun q hq => (fU_ne (by omega)).trans (fU_ne (by omega))) ((fU_ne (by omega)).trans fU_eq) fU_eq (fun _ => rfl) (by omega) (Or.inr ⟨rfl, e0.trans (if_neg (fun q => d1 ⟨rfl, by omega⟩))⟩)
          · exfalso; omega
      · rw [if_neg cl] at e0
        refine x_aload_n hM dX7_readOne_66 rfl rfl ?_
        refine x_dup hM dX7_readOne_67 rfl ?_
        refine x_get hM wf_X7_197 wl_X7 h1 rfl dX7_readOne_68 ?_
        refine x_iconst hM dX7_readOne_71 ?_
        refine x_iadd hM dX7_readOne_72 ?_
        refine x_put hM wf_X7_197 wl_X7 h1 wq_X7_197 rfl rfl (Nat.le_of_ble_eq_true rfl) rfl dX7_readOne_73 ?_
        refine x_aload_n hM dX7_readOne_76 rfl rfl ?_
        refine x_get hM wf_X7_51 wl_X7 wS_eq rfl dX7_readOne_77 ?_
        refine x_iload_n hM dX7_readOne_80 rfl rfl ?_
        refine x_iconst hM dX7_readOne_81 ?_
        refine x_iadd hM dX7_readOne_82 ?_
        refine x_iload_n hM dX7_readOne_83 rfl rfl ?_
        refine x_bipush hM dX7_readOne_84 rfl ?_
        refine x_icmp_eq (tgt := 95) hM dX7_readOne_86 (by decide) (by omega) (by omega) (fun c_86 => ?_) (fun c_86 => ?_)
        · refine x_iconst hM dX7_readOne_95 ?_
          refine x_goto (tgt := 107) hM dX7_readOne_96 (by decide) ?_
          refine x_iast hM ((wS_ne (by omega)).trans hg) (by omega) dX7_readOne_107 ?_
          exact J108 _ _ _ 0 0 0 ((wS_ne (by omega)).trans wS_eq) (hF2.tr (Fe.e wF)) wS_eq (fun q hq => (fU_ne (by omega)).trans (fU_ne (by omega))) ((fU_ne (by omega)).trans fU_eq) fU_eq (fun qq => absurd qq cl) (by omega) (Or.inl ⟨rfl, e0⟩)
        · refine x_iload_n hM dX7_readOne_89 rfl rfl ?_
          refine x_bipush hM dX7_readOne_90 rfl ?_
          refine x_icmp_ne (tgt := 99) hM dX7_readOne_92 (by decide) (by omega) (by omega) (fun c_92 => ?_) (fun c_92 => ?_)
          · exfalso; omega
          · refine x_iconst hM dX7_readOne_95 ?_
            refine x_goto (tgt := 107) hM dX7_readOne_96 (by decide) ?_
            refine x_iast hM ((wS_ne (by omega)).trans hg) (by omega) dX7_readOne_107 ?_
            exact J108 _ _ _ 0 0 0 ((wS_ne (by omega)).trans wS_eq) (hF2.tr (Fe.e wF)) wS_eq (fun q hq => (fU_ne (by omega)).trans (fU_ne (by omega))) ((fU_ne (by omega)).trans fU_eq) fU_eq (fun qq => absurd qq cl) (by omega) (Or.inl ⟨rfl, e0⟩)
    refine x_iconst hM dX7_readOne_0 ?_
    refine x_aload_n hM dX7_readOne_1 rfl rfl ?_
    refine x_get hM wf_X7_209 wl_X7 hh rfl dX7_readOne_2 ?_
    refine x_imul hM dX7_readOne_5 ?_
    refine x_istore_n hM dX7_readOne_6 rfl rfl (Nat.le_of_ble_eq_true rfl) rfl ?_
    refine x_aload_n hM dX7_readOne_7 rfl rfl ?_
    refine x_callV hM wv_X7_200 (m_X7_sign hh hd (by omega)) ⟨Nat.le_of_ble_eq_true rfl, Nat.le_of_ble_eq_true rfl⟩ hh rfl rfl rfl rfl (Nat.le_of_ble_eq_true rfl) ⟨Nat.le_of_ble_eq_true rfl, Nat.le_of_ble_eq_true rfl⟩ dX7_readOne_8 (k_rI ?_)
    rw [hk]
    refine x_istore_n hM dX7_readOne_11 rfl rfl (Nat.le_of_ble_eq_true rfl) rfl ?_
    refine x_aload_n hM dX7_readOne_12 rfl rfl ?_
    refine x_get hM wf_X7_51 wl_X7 hh rfl dX7_readOne_13 ?_
    refine x_iload_n hM dX7_readOne_16 rfl rfl ?_
    refine x_iload_n hM dX7_readOne_17 rfl rfl ?_
    refine x_iast hM hf (by omega) dX7_readOne_18 ?_
    refine x_aload_n hM dX7_readOne_19 rfl rfl ?_
    refine x_iload_n hM dX7_readOne_20 rfl rfl ?_
    refine x_bipush hM dX7_readOne_21 rfl ?_
    refine x_icmp_eq (tgt := 54) hM dX7_readOne_23 (by decide) (by omega) (by omega) (fun c_23 => ?_) (fun c_23 => ?_)
    · refine x_iconst hM dX7_readOne_54 ?_
      refine x_put hM wf_X7_203 wl_X7 ((wS_ne (by omega)).trans hh) wq_X7_203 rfl rfl (Nat.le_of_ble_eq_true rfl) rfl dX7_readOne_55 ?_
      refine x_aload_n hM dX7_readOne_58 rfl rfl ?_
      refine x_get hM wf_X7_203 wl_X7 wS_eq rfl dX7_readOne_59 ?_
      refine x_if_eq (tgt := 66) hM dX7_readOne_62 (by decide) (by omega) (fun c_62 => ?_) (fun c_62 => ?_)
      · exact J66 _ wS_eq ((Fe.e wF).tr (Fe.h wF)) ((wS_ne (by omega)).trans wS_eq)
      · exfalso; omega
    · refine x_iload_n hM dX7_readOne_26 rfl rfl ?_
      refine x_bipush hM dX7_readOne_27 rfl ?_
      refine x_icmp_eq (tgt := 54) hM dX7_readOne_29 (by decide) (by omega) (by omega) (fun c_29 => ?_) (fun c_29 => ?_)
      · refine x_iconst hM dX7_readOne_54 ?_
        refine x_put hM wf_X7_203 wl_X7 ((wS_ne (by omega)).trans hh) wq_X7_203 rfl rfl (Nat.le_of_ble_eq_true rfl) rfl dX7_readOne_55 ?_
        refine x_aload_n hM dX7_readOne_58 rfl rfl ?_
        refine x_get hM wf_X7_203 wl_X7 wS_eq rfl dX7_readOne_59 ?_
        refine x_if_eq (tgt := 66) hM dX7_readOne_62 (by decide) (by omega) (fun c_62 => ?_) (fun c_62 => ?_)
        · exact J66 _ wS_eq ((Fe.e wF).tr (Fe.h wF)) ((wS_ne (by omega)).trans wS_eq)
        · exfalso; omega
      · refine x_iload_n hM dX7_readOne_32 rfl rfl ?_
        refine x_bipush hM dX7_readOne_33 rfl ?_
        refine x_icmp_eq (tgt := 54) hM dX7_readOne_35 (by decide) (by omega) (by omega) (fun c_35 => ?_) (fun c_35 => ?_)
        · refine x_iconst hM dX7_readOne_54 ?_
          refine x_put hM wf_X7_203 wl_X7 ((wS_ne (by omega)).trans hh) wq_X7_203 rfl rfl (Nat.le_of_ble_eq_true rfl) rfl dX7_readOne_55 ?_
          refine x_aload_n hM dX7_readOne_58 rfl rfl ?_
          refine x_get hM wf_X7_203 wl_X7 wS_eq rfl dX7_readOne_59 ?_
          refine x_if_eq (tgt := 66) hM dX7_readOne_62 (by decide) (by omega) (fun c_62 => ?_) (fun c_62 => ?_)
          · exact J66 _ wS_eq ((Fe.e wF).tr (Fe.h wF)) ((wS_ne (by omega)).trans wS_eq)
          · exfalso; omega
        · refine x_iload_n hM dX7_readOne_38 rfl rfl ?_
          refine x_bipush hM dX7_readOne_39 rfl ?_
          refine x_icmp_eq (tgt := 54) hM dX7_readOne_41 (by decide) (by omega) (by omega) (fun c_41 => ?_) (fun c_41 => ?_)
          · refine x_iconst hM dX7_readOne_54 ?_
            refine x_put hM wf_X7_203 wl_X7 ((wS_ne (by omega)).trans hh) wq_X7_203 rfl rfl (Nat.le_of_ble_eq_true rfl) rfl dX7_readOne_55 ?_
            refine x_aload_n hM dX7_readOne_58 rfl rfl ?_
            refine x_get hM wf_X7_203 wl_X7 wS_eq rfl dX7_readOne_59 ?_
            refine x_if_eq (tgt := 66) hM dX7_readOne_62 (by decide) (by omega) (fun c_62 => ?_) (fun c_62 => ?_)
            · exact J66 _ wS_eq ((Fe.e wF).tr (Fe.h wF)) ((wS_ne (by omega)).trans wS_eq)
            · exfalso; omega
          · refine x_iload_n hM dX7_readOne_44 rfl rfl ?_
            refine x_bipush hM dX7_readOne_45 rfl ?_
            refine x_icmp_eq (tgt := 54) hM dX7_readOne_47 (by decide) (by omega) (by omega) (fun c_47 => ?_) (fun c_47 => ?_)
            · refine x_iconst hM dX7_readOne_54 ?_
              refine x_put hM wf_X7_203 wl_X7 ((wS_ne (by omega)).trans hh) wq_X7_203 rfl rfl (Nat.le_of_ble_eq_true rfl) rfl dX7_readOne_55 ?_
              refine x_aload_n hM dX7_readOne_58 rfl rfl ?_
              refine x_get hM wf_X7_203 wl_X7 wS_eq rfl dX7_readOne_59 ?_
              refine x_if_eq (tgt := 66) hM dX7_readOne_62 (by decide) (by omega) (fun c_62 => ?_) (fun c_62 => ?_)
              · exact J66 _ wS_eq ((Fe.e wF).tr (Fe.h wF)) ((wS_ne (by omega)).trans wS_eq)
              · exfalso; omega
            · exfalso; omega
  · have e0 : entP cs pl = (0, pl, 0, 0, 0, 0) := by unfold entP; rw [hk, if_neg (by omega)]
    refine x_iconst hM dX7_readOne_0 ?_
    refine x_aload_n hM dX7_readOne_1 rfl rfl ?_
    refine x_get hM wf_X7_209 wl_X7 hh rfl dX7_readOne_2 ?_
    refine x_imul hM dX7_readOne_5 ?_
    refine x_istore_n hM dX7_readOne_6 rfl rfl (Nat.le_of_ble_eq_true rfl) rfl ?_
    refine x_aload_n hM dX7_readOne_7 rfl rfl ?_
    refine x_callV hM wv_X7_200 (m_X7_sign hh hd (by omega)) ⟨Nat.le_of_ble_eq_true rfl, Nat.le_of_ble_eq_true rfl⟩ hh rfl rfl rfl rfl (Nat.le_of_ble_eq_true rfl) ⟨Nat.le_of_ble_eq_true rfl, Nat.le_of_ble_eq_true rfl⟩ dX7_readOne_8 (k_rI ?_)
    rw [hk]
    refine x_istore_n hM dX7_readOne_11 rfl rfl (Nat.le_of_ble_eq_true rfl) rfl ?_
    refine x_aload_n hM dX7_readOne_12 rfl rfl ?_
    refine x_get hM wf_X7_51 wl_X7 hh rfl dX7_readOne_13 ?_
    refine x_iload_n hM dX7_readOne_16 rfl rfl ?_
    refine x_iload_n hM dX7_readOne_17 rfl rfl ?_
    refine x_iast hM hf (by omega) dX7_readOne_18 ?_
    refine x_aload_n hM dX7_readOne_19 rfl rfl ?_
    refine x_iload_n hM dX7_readOne_20 rfl rfl ?_
    refine x_bipush hM dX7_readOne_21 rfl ?_
    refine x_icmp_eq (tgt := 54) hM dX7_readOne_23 (by decide) (by omega) (by omega) (fun c_23 => ?_) (fun c_23 => ?_)
    · exfalso; omega
    · refine x_iload_n hM dX7_readOne_26 rfl rfl ?_
      refine x_bipush hM dX7_readOne_27 rfl ?_
      refine x_icmp_eq (tgt := 54) hM dX7_readOne_29 (by decide) (by omega) (by omega) (fun c_29 => ?_) (fun c_29 => ?_)
      · exfalso; omega
      · refine x_iload_n hM dX7_readOne_32 rfl rfl ?_
        refine x_bipush hM dX7_readOne_33 rfl ?_
        refine x_icmp_eq (tgt := 54) hM dX7_readOne_35 (by decide) (by omega) (by omega) (fun c_35 => ?_) (fun c_35 => ?_)
        · exfalso; omega
        · refine x_iload_n hM dX7_readOne_38 rfl rfl ?_
          refine x_bipush hM dX7_readOne_39 rfl ?_
          refine x_icmp_eq (tgt := 54) hM dX7_readOne_41 (by decide) (by omega) (by omega) (fun c_41 => ?_) (fun c_41 => ?_)
          · exfalso; omega
          · refine x_iload_n hM dX7_readOne_44 rfl rfl ?_
            refine x_bipush hM dX7_readOne_45 rfl ?_
            refine x_icmp_eq (tgt := 54) hM dX7_readOne_47 (by decide) (by omega) (by omega) (fun c_47 => ?_) (fun c_47 => ?_)
            · exfalso; omega
            · refine x_iconst hM dX7_readOne_50 ?_
              refine x_goto (tgt := 55) hM dX7_readOne_51 (by decide) ?_
              refine x_put hM wf_X7_203 wl_X7 ((wS_ne (by omega)).trans hh) wq_X7_203 rfl rfl (Nat.le_of_ble_eq_true rfl) rfl dX7_readOne_55 ?_
              refine x_aload_n hM dX7_readOne_58 rfl rfl ?_
              refine x_get hM wf_X7_203 wl_X7 wS_eq rfl dX7_readOne_59 ?_
              refine x_if_eq (tgt := 66) hM dX7_readOne_62 (by decide) (by omega) (fun c_62 => ?_) (fun c_62 => ?_)
              · exfalso; omega
              · refine hR.v dX7_readOne_65 (Nat.zero_le _) (Nat.zero_le _) ?_
                exact p_qV ⟨(Fe.e wF).tr (Fe.h wF), Or.inl ⟨by rw [e0], ⟨_, by rw [e0]; exact wS_eq⟩, _, (wS_ne (by omega)).trans wS_eq⟩⟩
theorem numL_le {cs : List Int} : ∀ (k : Nat) (v i : Int), i ≤ cs.length → (numL cs k v i).2 ≤ cs.length := by
  intro k
  induction k with
  | zero => intro v i h; exact h
  | succ k ih =>
    intro v i h
    simp only [numL]
    split
    · next q =>
      have := sgP_lt (cs := cs) (i := i) (by omega)
      exact ih _ _ (by omega)
    · exact h
theorem entP_le {cs : List Int} {i : Int} (h : (entP cs i).1 = 1) : (entP cs i).2.1 ≤ cs.length ∧ i + 2 ≤ (entP cs i).2.1 := by
  have tl : ∀ (k l : Int) (m : Int × Int), m.2 ≤ cs.length → (tailP cs k l m).1 = 1 → (tailP cs k l m).2.1 ≤ cs.length ∧ m.2 ≤ (tailP cs k l m).2.1 := by
    intro k l m hm
    unfold tailP
    split
    · split
      · split
        · next q =>
          intro _
          have h1 := sgP_lt (cs := cs) (i := m.2 + 1) (by omega)
          have h2 := numL_b (cs := cs) 3 (sgP cs (m.2 + 1) - 48) (m.2 + 1 + 1) (by omega)
          have h3 := numL_le (cs := cs) 3 (sgP cs (m.2 + 1) - 48) (m.2 + 1 + 1) (by omega)
          dsimp only
          omega
        · intro q; exact absurd q (show ¬ ((0 : Int) = 1) by decide)
      · intro q; exact absurd q (show ¬ ((0 : Int) = 1) by decide)
    · intro _; exact ⟨hm, Int.le_refl _⟩
  have nb : ∀ k l j : Int, (numbP cs k l j).1 = 1 → (numbP cs k l j).2.1 ≤ cs.length ∧ j + 1 ≤ (numbP cs k l j).2.1 := by
    intro k l j
    unfold numbP
    split
    · next q =>
      intro h
      have h1 := sgP_lt (cs := cs) (i := j) (by omega)
      have h2 := numL_b (cs := cs) 3 (sgP cs j - 48) (j + 1) (by omega)
      have h3 := numL_le (cs := cs) 3 (sgP cs j - 48) (j + 1) (by omega)
      have := tl k l _ h3 h
      omega
    · intro q; exact absurd q (show ¬ ((0 : Int) = 1) by decide)
  unfold entP at h ⊢
  by_cases c1 : sgP cs i = 43 ∨ sgP cs i = 45 ∨ sgP cs i = 103 ∨ sgP cs i = 112 ∨ sgP cs i = 100
  · rw [if_pos c1] at h ⊢
    by_cases c2 : sgP cs i = 43 ∨ sgP cs i = 103 ∨ sgP cs i = 112
    · rw [if_pos c2] at h ⊢
      by_cases c3 : 0 ≤ sgP cs (i + 1) - 65 ∧ sgP cs (i + 1) - 65 < 10
      · rw [if_pos c3] at h ⊢
        have := nb _ _ _ h; omega
      · rw [if_neg c3] at h
        exact absurd h (show ¬ ((0 : Int) = 1) by decide)
    · rw [if_neg c2] at h ⊢
      have := nb _ _ _ h; omega
  · rw [if_neg c1] at h
    exact absurd h (show ¬ ((0 : Int) = 1) by decide)
/-- the entries from place i on, over at most k of them -/
def enL (cs : List Int) : Nat → Int → List Ent
  | 0, _ => []
  | k + 1, i => entP cs i :: (if (entP cs i).2.1 = cs.length then [] else if sgP cs (entP cs i).2.1 = 59 then enL cs k ((entP cs i).2.1 + 1) else [])
theorem m_X7_faultOf {l : Launch} {G : xG} {w : Wd} {z m : Nat} {cs : List Int} {un it rw mn pl wr : Int} (hh : w m = some (hdV m un cs.length it rw mn pl wr)) (hd : pdA G w m cs) (hE : enE G w m) : xMet l G yX7_faultOf cX7_faultOf 1 (some .int) ({ frames := 4, cells := 0, slots := 0, locals := 88 } : Room) [.ref m] w z (qI z fun y w1 => y = fltP cs 81 0 ∧ iR y ∧ Fe m w w1 ∧ ((y = -6 ∧ (∃ pl2 wr2 : Int, w1 m = some (hdV m un cs.length it rw (enL cs 81 0).length pl2 wr2)) ∧ enA G w1 m (enL cs 81 0) ∧ (enL cs 81 0).length ≤ 59 ∧ ∀ e ∈ enL cs 81 0, e.1 = 1) ∨ (0 ≤ y ∧ (∃ mn2 pl2 wr2 : Int, w1 m = some (hdV m un cs.length it rw mn2 pl2 wr2)) ∧ enE G w1 m))) := by
  have hl := hd.1.1
  refine xMet_of RX7 rfl (by decide +kernel) false (by decide +kernel) (Nat.le_of_ble_eq_true rfl) rfl ?_
  intro P hM hR
  have J79 : ∀ (w1 : Wd) (mn2 j : Int), w1 m = some (hdV m un cs.length it rw mn2 j 1) → Fe m w w1 → enE G w1 m → 0 ≤ j ∧ j ≤ 9000 → fltP cs 81 0 = j → P 79 [some (.ref m)] [] w1 (z, 0, 0) := by
    intro w1 mn2 j h1 hF hEn hj he
    refine x_aload_n hM dX7_faultOf_79 rfl rfl ?_
    refine x_get hM wf_X7_203 wl_X7 h1 rfl dX7_faultOf_80 ?_
    refine x_if_eq (tgt := 93) hM dX7_faultOf_83 (by decide) (by omega) (fun c_83 => ?_) (fun c_83 => ?_)
    · exfalso; omega
    · refine x_aload_n hM dX7_faultOf_86 rfl rfl ?_
      refine x_get hM wf_X7_197 wl_X7 h1 rfl dX7_faultOf_87 ?_
      refine x_goto (tgt := 95) hM dX7_faultOf_90 (by decide) ?_
      refine hR.i dX7_faultOf_95 (Nat.zero_le _) (Nat.zero_le _) ?_
      exact p_qI ⟨he.symm, ⟨by omega, by omega⟩, hF, Or.inr ⟨hj.1, ⟨_, _, _, h1⟩, hEn⟩⟩
  have K : ∀ (k : Nat) (i : Int) (E : List Ent) (w1 : Wd), 80 ≤ i + k → 0 ≤ i → i ≤ 81 → 3 * (E.length : Int) ≤ i → Fe m w w1 → enA G w1 m E → fltP cs (k + 1) i = fltP cs 81 0 → E ++ enL cs (k + 1) i = enL cs 81 0 → (∀ e ∈ E, e.1 = 1) → ∀ (w2 : Wd), Fe m w1 w2 → (((entP cs i).1 = 0 ∧ (∃ mn2 : Int, w2 m = some (hdV m un cs.length it rw mn2 (entP cs i).2.1 1)) ∧ enE G w2 m) ∨ ((entP cs i).1 = 1 ∧ w2 m = some (hdV m un cs.length it rw (E ++ [entP cs i]).length (entP cs i).2.1 0) ∧ enA G w2 m (E ++ [entP cs i]))) → P 19 [some (.ref m)] [] w2 (z, 0, 0) := by
    intro k
    induction k with
    | zero =>
      intro i E w1 hk hi0 hi1 hE3 hF hEn hflt hlist hall w2 hF2 hq
      have hb := entP_b hd.1 i
      rcases hq with ⟨q1, ⟨mn2, q2⟩, q3⟩ | ⟨q1, q2, q3⟩
      · rw [show fltP cs (0 + 1) i = (entP cs i).2.1 from if_pos q1] at hflt
        refine x_aload_n hM dX7_faultOf_19 rfl rfl ?_
        refine x_get hM wf_X7_203 wl_X7 q2 rfl dX7_faultOf_20 ?_
        refine x_if_ne (tgt := 79) hM dX7_faultOf_23 (by decide) (by omega) (fun c_23 => ?_) (fun c_23 => ?_)
        · exact J79 _ _ _ q2 (hF.tr hF2) q3 (by omega) hflt.symm
        · exfalso; omega
      · have := entP_le q1
        omega
    | succ k ih =>
      intro i E w1 hk hi0 hi1 hE3 hF hEn hflt hlist hall w2 hF2 hq
      have hb := entP_b hd.1 i
      have hd2 := hd.kpf ((hF.tr hF2) (m + 11) (by omega) (by omega))
      have hsb := sgP_b hd.1 (entP cs i).2.1
      rcases hq with ⟨q1, ⟨mn2, q2⟩, q3⟩ | ⟨q1, q2, q3⟩
      · rw [show fltP cs (k + 1 + 1) i = (entP cs i).2.1 from if_pos q1] at hflt
        refine x_aload_n hM dX7_faultOf_19 rfl rfl ?_
        refine x_get hM wf_X7_203 wl_X7 q2 rfl dX7_faultOf_20 ?_
        refine x_if_ne (tgt := 79) hM dX7_faultOf_23 (by decide) (by omega) (fun c_23 => ?_) (fun c_23 => ?_)
        · exact J79 _ _ _ q2 (hF.tr hF2) q3 (by omega) hflt.symm
        · exfalso; omega
      · have hle := entP_le q1
        have hn1 : ¬ (entP cs i).1 = 0 := by omega
        have hall2 : ∀ e ∈ E ++ [entP cs i], e.1 = 1 := fun e he => by
          rcases List.mem_append.mp he with g | g
          · exact hall e g
          · rw [List.mem_singleton] at g; rw [g]; exact q1
        have el : ((E ++ [entP cs i]).length : Int) = (E.length : Int) + 1 := by simp
        by_cases c1 : (entP cs i).2.1 = cs.length
        · rw [show fltP cs (k + 1 + 1) i = -6 from (if_neg hn1).trans (if_pos c1)] at hflt
          rw [show enL cs (k + 1 + 1) i = [entP cs i] by show entP cs i :: _ = _; rw [if_pos c1]] at hlist
          rw [hlist] at q2 q3 hall2 el
          refine x_aload_n hM dX7_faultOf_19 rfl rfl ?_
          refine x_get hM wf_X7_203 wl_X7 q2 rfl dX7_faultOf_20 ?_
          refine x_if_ne (tgt := 79) hM dX7_faultOf_23 (by decide) (by omega) (fun c_23 => ?_) (fun c_23 => ?_)
          · exfalso; omega
          · refine x_aload_n hM dX7_faultOf_26 rfl rfl ?_
            refine x_get hM wf_X7_197 wl_X7 q2 rfl dX7_faultOf_27 ?_
            refine x_aload_n hM dX7_faultOf_30 rfl rfl ?_
            refine x_get hM wf_X7_182 wl_X7 q2 rfl dX7_faultOf_31 ?_
            refine x_icmp_ge (tgt := 79) hM dX7_faultOf_34 (by decide) (by omega) (by omega) (fun c_34 => ?_) (fun c_34 => ?_)
            · refine x_aload_n hM dX7_faultOf_79 rfl rfl ?_
              refine x_get hM wf_X7_203 wl_X7 q2 rfl dX7_faultOf_80 ?_
              refine x_if_eq (tgt := 93) hM dX7_faultOf_83 (by decide) (by omega) (fun c_83 => ?_) (fun c_83 => ?_)
              · refine x_bipush hM dX7_faultOf_93 rfl ?_
                refine hR.i dX7_faultOf_95 (Nat.zero_le _) (Nat.zero_le _) ?_
                exact p_qI ⟨hflt, ⟨by decide, by decide⟩, hF.tr hF2, Or.inl ⟨rfl, ⟨_, _, q2⟩, q3, by omega, hall2⟩⟩
              · exfalso; omega
            · exfalso; omega
        · by_cases c2 : sgP cs (entP cs i).2.1 = 59
          · rw [show fltP cs (k + 1 + 1) i = fltP cs (k + 1) ((entP cs i).2.1 + 1) from (if_neg hn1).trans ((if_neg c1).trans (if_pos c2))] at hflt
            rw [show enL cs (k + 1 + 1) i = entP cs i :: enL cs (k + 1) ((entP cs i).2.1 + 1) by show entP cs i :: _ = _; rw [if_neg c1, if_pos c2], List.append_cons] at hlist
            refine x_aload_n hM dX7_faultOf_19 rfl rfl ?_
            refine x_get hM wf_X7_203 wl_X7 q2 rfl dX7_faultOf_20 ?_
            refine x_if_ne (tgt := 79) hM dX7_faultOf_23 (by decide) (by omega) (fun c_23 => ?_) (fun c_23 => ?_)
            · exfalso; omega
            · refine x_aload_n hM dX7_faultOf_26 rfl rfl ?_
              refine x_get hM wf_X7_197 wl_X7 q2 rfl dX7_faultOf_27 ?_
              refine x_aload_n hM dX7_faultOf_30 rfl rfl ?_
              refine x_get hM wf_X7_182 wl_X7 q2 rfl dX7_faultOf_31 ?_
              refine x_icmp_ge (tgt := 79) hM dX7_faultOf_34 (by decide) (by omega) (by omega) (fun c_34 => ?_) (fun c_34 => ?_)
              · exfalso; omega
              · refine x_aload_n hM dX7_faultOf_37 rfl rfl ?_
                refine x_aload_n hM dX7_faultOf_38 rfl rfl ?_
                refine x_callV hM wv_X7_200 (m_X7_sign q2 hd2 (by omega)) ⟨Nat.le_of_ble_eq_true rfl, Nat.le_of_ble_eq_true rfl⟩ q2 rfl rfl rfl rfl (Nat.le_of_ble_eq_true rfl) ⟨Nat.le_of_ble_eq_true rfl, Nat.le_of_ble_eq_true rfl⟩ dX7_faultOf_39 (k_rI ?_)
                rw [c2]
                refine x_bipush hM dX7_faultOf_42 rfl ?_
                refine x_icmp_eq (tgt := 51) hM dX7_faultOf_44 (by decide) (by omega) (by omega) (fun c_44 => ?_) (fun c_44 => ?_)
                · refine x_iconst hM dX7_faultOf_51 ?_
                  refine x_put hM wf_X7_203 wl_X7 q2 wq_X7_203 rfl rfl (Nat.le_of_ble_eq_true rfl) rfl dX7_faultOf_52 ?_
                  change P _ _ _ (wS w2 m (hdV m un cs.length it rw (E ++ [entP cs i]).length (entP cs i).2.1 0)) _
                  rw [wS_same q2]
                  refine x_aload_n hM dX7_faultOf_55 rfl rfl ?_
                  refine x_get hM wf_X7_203 wl_X7 q2 rfl dX7_faultOf_56 ?_
                  refine x_if_ne (tgt := 19) hM dX7_faultOf_59 (by decide) (by omega) (fun c_59 => ?_) (fun c_59 => ?_)
                  · exfalso; omega
                  · refine x_aload_n hM dX7_faultOf_62 rfl rfl ?_
                    refine x_dup hM dX7_faultOf_63 rfl ?_
                    refine x_get hM wf_X7_197 wl_X7 q2 rfl dX7_faultOf_64 ?_
                    refine x_iconst hM dX7_faultOf_67 ?_
                    refine x_iadd hM dX7_faultOf_68 ?_
                    refine x_put hM wf_X7_197 wl_X7 q2 wq_X7_197 rfl rfl (Nat.le_of_ble_eq_true rfl) rfl dX7_faultOf_69 ?_
                    refine x_aload_n hM dX7_faultOf_72 rfl rfl ?_
                    refine x_callV hM wv_X7_215 (m_X7_readOne wS_eq (hd2.kpf (wS_ne (by omega))) (q3.kpf (wS_ne (by omega))) (by omega) (by omega)) ⟨Nat.le_of_ble_eq_true rfl, Nat.le_of_ble_eq_true rfl⟩ wS_eq rfl rfl rfl rfl (Nat.le_of_ble_eq_true rfl) ⟨Nat.le_of_ble_eq_true rfl, Nat.le_of_ble_eq_true rfl⟩ dX7_faultOf_73 (k_qV fun w_73 q_73 => ?_)
                    obtain ⟨r1, r2⟩ := q_73
                    refine x_goto (tgt := 19) hM dX7_faultOf_76 (by decide) ?_
                    exact ih ((entP cs i).2.1 + 1) (E ++ [entP cs i]) _ (by omega) (by omega) (by omega) (by omega) ((hF.tr hF2).tr (Fe.h wF)) (q3.kpf (wS_ne (by omega))) hflt hlist hall2 _ r1 r2
                · exfalso; omega
          · rw [show fltP cs (k + 1 + 1) i = (entP cs i).2.1 from (if_neg hn1).trans ((if_neg c1).trans (if_neg c2))] at hflt
            have J19 : ∀ _ : Unit, P 19 [some (.ref m)] [] (wS w2 m (hdV m un cs.length it rw (E ++ [entP cs i]).length (entP cs i).2.1 1)) (z, 0, 0) := by
              intro _
              refine x_aload_n hM dX7_faultOf_19 rfl rfl ?_
              refine x_get hM wf_X7_203 wl_X7 wS_eq rfl dX7_faultOf_20 ?_
              refine x_if_ne (tgt := 79) hM dX7_faultOf_23 (by decide) (by omega) (fun c_23 => ?_) (fun c_23 => ?_)
              · exact J79 _ _ _ wS_eq ((hF.tr hF2).tr (Fe.h wF)) (by obtain ⟨g, g1, -⟩ := q3; exact ⟨g, (wS_ne (by omega)).trans g1⟩) (by omega) hflt.symm
              · exfalso; omega
            refine x_aload_n hM dX7_faultOf_19 rfl rfl ?_
            refine x_get hM wf_X7_203 wl_X7 q2 rfl dX7_faultOf_20 ?_
            refine x_if_ne (tgt := 79) hM dX7_faultOf_23 (by decide) (by omega) (fun c_23 => ?_) (fun c_23 => ?_)
            · exfalso; omega
            · refine x_aload_n hM dX7_faultOf_26 rfl rfl ?_
              refine x_get hM wf_X7_197 wl_X7 q2 rfl dX7_faultOf_27 ?_
              refine x_aload_n hM dX7_faultOf_30 rfl rfl ?_
              refine x_get hM wf_X7_182 wl_X7 q2 rfl dX7_faultOf_31 ?_
              refine x_icmp_ge (tgt := 79) hM dX7_faultOf_34 (by decide) (by omega) (by omega) (fun c_34 => ?_) (fun c_34 => ?_)
              · exfalso; omega
              · refine x_aload_n hM dX7_faultOf_37 rfl rfl ?_
                refine x_aload_n hM dX7_faultOf_38 rfl rfl ?_
                refine x_callV hM wv_X7_200 (m_X7_sign q2 hd2 (by omega)) ⟨Nat.le_of_ble_eq_true rfl, Nat.le_of_ble_eq_true rfl⟩ q2 rfl rfl rfl rfl (Nat.le_of_ble_eq_true rfl) ⟨Nat.le_of_ble_eq_true rfl, Nat.le_of_ble_eq_true rfl⟩ dX7_faultOf_39 (k_rI ?_)
                refine x_bipush hM dX7_faultOf_42 rfl ?_
                refine x_icmp_eq (tgt := 51) hM dX7_faultOf_44 (by decide) (by omega) (by omega) (fun c_44 => ?_) (fun c_44 => ?_)
                · exfalso; omega
                · refine x_iconst hM dX7_faultOf_47 ?_
                  refine x_goto (tgt := 52) hM dX7_faultOf_48 (by decide) ?_
                  refine x_put hM wf_X7_203 wl_X7 q2 wq_X7_203 rfl rfl (Nat.le_of_ble_eq_true rfl) rfl dX7_faultOf_52 ?_
                  refine x_aload_n hM dX7_faultOf_55 rfl rfl ?_
                  refine x_get hM wf_X7_203 wl_X7 wS_eq rfl dX7_faultOf_56 ?_
                  refine x_if_ne (tgt := 19) hM dX7_faultOf_59 (by decide) (by omega) (fun c_59 => ?_) (fun c_59 => ?_)
                  · exact J19 ()
                  · exfalso; omega
  obtain ⟨f0, hf0⟩ := id hE
  refine x_aload_n hM dX7_faultOf_0 rfl rfl ?_
  refine x_iconst hM dX7_faultOf_1 ?_
  refine x_put hM wf_X7_197 wl_X7 hh wq_X7_197 rfl rfl (Nat.le_of_ble_eq_true rfl) rfl dX7_faultOf_2 ?_
  refine x_aload_n hM dX7_faultOf_5 rfl rfl ?_
  refine x_iconst hM dX7_faultOf_6 ?_
  refine x_put hM wf_X7_209 wl_X7 wS_eq wq_X7_209 rfl rfl (Nat.le_of_ble_eq_true rfl) rfl dX7_faultOf_7 ?_
  rw [wS_2]
  refine x_aload_n hM dX7_faultOf_10 rfl rfl ?_
  refine x_iconst hM dX7_faultOf_11 ?_
  refine x_put hM wf_X7_203 wl_X7 wS_eq wq_X7_203 rfl rfl (Nat.le_of_ble_eq_true rfl) rfl dX7_faultOf_12 ?_
  rw [wS_2]
  refine x_aload_n hM dX7_faultOf_15 rfl rfl ?_
  refine x_callV hM wv_X7_215 (m_X7_readOne (E := []) wS_eq (hd.kpf (wS_ne (by omega))) ⟨f0, (wS_ne (by omega)).trans hf0, fun i hi => absurd hi (Nat.not_lt_zero _)⟩ (by omega) (by decide)) ⟨Nat.le_of_ble_eq_true rfl, Nat.le_of_ble_eq_true rfl⟩ wS_eq rfl rfl rfl rfl (Nat.le_of_ble_eq_true rfl) ⟨Nat.le_of_ble_eq_true rfl, Nat.le_of_ble_eq_true rfl⟩ dX7_faultOf_16 (k_qV fun w_16 q_16 => ?_)
  obtain ⟨r1, r2⟩ := q_16
  exact K 80 0 [] _ (by decide) (by decide) (by decide) (by decide) (Fe.h wF) ⟨f0, (wS_ne (by omega)).trans hf0, fun i hi => absurd hi (Nat.not_lt_zero _)⟩ rfl rfl (fun e he => absurd he List.not_mem_nil) _ r1 r2
