/-! acts on the street -/
theorem ivS_up {c : Nat} {s : St} (h : ivS c s) : ivS (c + 1) s := by
  obtain ⟨h1, h2, h3, h4, h5, h6, h7, h8, h9, h10, h11⟩ := h
  refine ⟨h1, h2, h3, h4, h5, by omega, h7, fun o a b => ?_, h9, h10, h11⟩
  obtain ⟨m, e, g1, g2⟩ := h8 o a b
  exact ⟨m, e, by omega, by omega⟩
theorem ivS_L {c : Nat} {s : St} {B : List Sg} (h : ivS c s) (h1 : canL B) (h2 : B.length ≤ 40) (h3 : ∀ y ∈ B, y.1 < s.own) : ivS c (mkS B s.set s.mon s.tax s.los s.D s.own s.day s.clo s.fee) :=
  ⟨h1, h2, h3, h.2.2.2⟩
/-- behind an act -/
abbrev acQ (G : xG) (x c z : Nat) (s : St) : xPo := eI fun y w1 z1 => y = 1 ∧ z ≤ z1 ∧ ∃ s1 : St, obA G w1 x s1 ∧ ivS (c + 1) s1 ∧ s1.own = s.own
theorem p_ac {G : xG} {x c z z1 : Nat} {s s1 : St} {w1 : Wd} {y : Int} (hy : y = 1) (hz : z ≤ z1) (h1 : obA G w1 x s1) (h2 : ivS (c + 1) s1) (h3 : s1.own = s.own) : acQ G x c z s (some (.int (iI y))) w1 z1 := ⟨y, rfl, hy, hz, s1, h1, h2, h3⟩
/-- four new rows -/
abbrev w4 (G : xG) (w : Wd) (z : Nat) : Wd := wS (wS (wS (wS w z (aI G 64 (fun _ => 0))) (z + 1) (aI G 64 (fun _ => 0))) (z + 2) (aI G 64 (fun _ => 0))) (z + 3) (aI G 64 (fun _ => 0))
section W4
variable {G : xG} {w : Wd} {z x : Nat} {s : St}
theorem w4_ob (h : obA G w x s) (hz : x + 215 ≤ z) : obA G (w4 G w z) x s := (((h.kp (Kp.wS (by omega))).kp (Kp.wS (by omega))).kp (Kp.wS (by omega))).kp (Kp.wS (by omega))
theorem w4_0 : w4 G w z z = some (aI G 64 (fun _ => 0)) := (wS_ne (by omega)).trans ((wS_ne (by omega)).trans ((wS_ne (by omega)).trans wS_eq))
theorem w4_1 : w4 G w z (z + 1) = some (aI G 64 (fun _ => 0)) := (wS_ne (by omega)).trans ((wS_ne (by omega)).trans wS_eq)
theorem w4_2 : w4 G w z (z + 2) = some (aI G 64 (fun _ => 0)) := (wS_ne (by omega)).trans wS_eq
theorem w4_3 : w4 G w z (z + 3) = some (aI G 64 (fun _ => 0)) := wS_eq
end W4
theorem m_L_isGiven {l : Launch} {G : xG} {w : Wd} {z x c : Nat} {s : St} {o a n : Int} (h : obA G w x s) (hiv : ivS c s) (hz : x + 215 ≤ z) (ho : 0 ≤ o ∧ o < s.own) (hp : 0 ≤ a ∧ 1 ≤ n ∧ a + n ≤ 10000) : xMet l G yL_isGiven cL_isGiven 12 (some .boolean) ({ frames := 6, cells := 4, slots := 256, locals := 143 } : Room) [.ref x, .int (iI o), .int (iI a), .int (iI n)] w z (acQ G x c z s) := by
  obtain ⟨hc, hl40, how, -, hown, -⟩ := id hiv
  have hW := (ob_W h).2.1
  have hs4 := (ob_W h).1.2.2.2.2.2.2
  have hlt := okS_lt hW
  have hsr := can_srt hc hlt
  have hab : a + n - a = n := by omega
  have hbl := (bec_ad (o := o) (a := a) (n := n) hsr hlt hl40 (by omega)).2
  have hbc := bec_can (o := o) (a := a) (n := n) hc hlt hl40 (by omega)
  have hbo := bec_own (o := o) (a := a) (n := n) hsr hlt hl40 (by omega) how ho.2
  have hmb := mtw_b o a n hW (by omega)
  have hmo := mtsO_nn s.L o hW.2
  have hgr := gvF_r (s := s) (o := o) (f := a) (n := n)
  have hwb : wbeV s o a n = (becF s.L o a n).length := by unfold wbeV; rw [if_pos ho, if_pos ⟨by omega, by omega, by omega, by omega, by omega⟩]
  have hgv : gvF s o a n = (if (becF s.L o a n).length ≤ 40 then (if n - mtwF s.L o a n = 0 ∨ mtsO s.L o + (n - mtwF s.L o a n) ≤ s.set 4 then (((becF s.L o a n).length : Int), mkS (becF s.L o a n) s.set s.mon s.tax s.los s.D s.own s.day s.clo s.fee) else (-5, s)) else (-4, s)) := by
    unfold gvF
    rw [if_pos ho, if_pos ⟨by omega, by omega, by omega, by omega, by omega⟩]
  refine xMet_of RL rfl (by decide +kernel) false (by decide +kernel) (Nat.le_of_ble_eq_true rfl) rfl ?_
  intro P hM hR
  /- behind the two calls -/
  have S : ∀ (mv : Int) (w1 : Wd), (mv = 1 ∧ (n - mtwF s.L o a n = 0 ∨ mtsO s.L o + (n - mtwF s.L o a n) ≤ s.set 4) ∨ mv = 0 ∧ ¬ (n - mtwF s.L o a n = 0 ∨ mtsO s.L o + (n - mtwF s.L o a n) ≤ s.set 4)) → obA G w1 x s → rsA G w1 z (z + 1) s.L → rsA G w1 (z + 2) (z + 3) (becF s.L o a n) → P 94 [some (.ref x), some (.int (iI o)), some (.int (iI a)), some (.int (iI n)), some (.ref z), some (.ref (z + 1)), some (.ref (z + 2)), some (.ref (z + 3)), some (.int (iI (n - mtwF s.L o a n))), none, none, none] [.int (iI mv)] w1 (z + 4, 4, 256) := by
    intro mv w1 hmv o1 r1 t1
    by_cases c1 : (becF s.L o a n).length ≤ 40
    · rw [if_pos c1] at hgv
      by_cases c2 : n - mtwF s.L o a n = 0 ∨ mtsO s.L o + (n - mtwF s.L o a n) ≤ s.set 4
      · rw [if_pos c2] at hgv
        obtain rfl : mv = 1 := by omega
        refine x_istore hM dL_isGiven_94 rfl (Nat.le_of_ble_eq_true rfl) rfl ?_
        refine x_aload_n hM dL_isGiven_96 rfl rfl ?_
        refine x_iload_n hM dL_isGiven_97 rfl rfl ?_
        refine x_iload_n hM dL_isGiven_98 rfl rfl ?_
        refine x_iload_n hM dL_isGiven_99 rfl rfl ?_
        refine x_callV hM wv_L_74 (m_X6_wouldBe o1.1 (by omega) (by omega) (by omega)) ⟨Nat.le_of_ble_eq_true rfl, Nat.le_of_ble_eq_true rfl⟩ (ob_o o1) rfl rfl rfl rfl (Nat.le_of_ble_eq_true rfl) ⟨Nat.le_of_ble_eq_true rfl, Nat.le_of_ble_eq_true rfl⟩ dL_isGiven_100 (k_qI fun x_100 w_100 q_100 => ?_)
        obtain ⟨rfl, q1, qF⟩ := q_100
        have o2 : obA G w_100 x s := ⟨q1, ⟨o1.2.1.choose, o1.2.1.choose_spec.kp qF (by omega)⟩, o1.2.2.kp qF (by omega)⟩
        have r2 := r1.kp (qF _ (by omega)) (qF _ (by omega))
        have t2 := t1.kp (qF _ (by omega)) (qF _ (by omega))
        obtain ⟨-, ⟨hs, hh⟩, -⟩ := id o2
        rw [hwb]
        refine x_istore hM dL_isGiven_103 rfl (Nat.le_of_ble_eq_true rfl) rfl ?_
        refine x_aload_n hM dL_isGiven_105 rfl rfl ?_
        refine x_iload_n hM dL_isGiven_106 rfl rfl ?_
        refine x_iload_n hM dL_isGiven_107 rfl rfl ?_
        refine x_iload_n hM dL_isGiven_108 rfl rfl ?_
        refine x_callV hM wv_L_78 (m_X6_give o2.1 hh (by omega) (by omega) (by omega) (by omega)) ⟨Nat.le_of_ble_eq_true rfl, Nat.le_of_ble_eq_true rfl⟩ (ob_o o2) rfl rfl rfl rfl (Nat.le_of_ble_eq_true rfl) ⟨Nat.le_of_ble_eq_true rfl, Nat.le_of_ble_eq_true rfl⟩ dL_isGiven_109 (k_qI fun x_109 w_109 q_109 => ?_)
        obtain ⟨rfl, q2, q3, qG⟩ := q_109
        have o3 := mu_ob o2 q2 _ q3 qG
        have r3 := r2.kp (qG _ (by omega)) (qG _ (by omega))
        have t3 := t2.kp (qG _ (by omega)) (qG _ (by omega))
        obtain ⟨-, f, g, ⟨u1, u2, u3⟩, u4⟩ := id t3
        refine x_istore hM dL_isGiven_112 rfl (Nat.le_of_ble_eq_true rfl) rfl ?_
        refine x_iload hM dL_isGiven_114 rfl ?_
        refine x_aload hM dL_isGiven_116 rfl ?_
        refine x_iconst hM dL_isGiven_118 ?_
        refine x_iald hM u1 (by omega) dL_isGiven_119 ?_
        refine x_same (tgt := 125) hM u4.symm dL_isGiven_120 (by decide) ?_
        refine x_aload hM dL_isGiven_125 rfl ?_
        refine x_iconst hM dL_isGiven_127 ?_
        refine x_iald hM u1 (by omega) dL_isGiven_128 ?_
        refine x_bipush hM dL_isGiven_129 rfl ?_
        refine x_icmp_gt (tgt := 139) hM dL_isGiven_131 (by decide) (by omega) (by omega) (fun c_131 => ?_) (fun c_131 => ?_)
        · exfalso; omega
        · refine x_iload hM dL_isGiven_134 rfl ?_
          refine x_if_ne (tgt := 177) hM dL_isGiven_136 (by decide) (by omega) (fun c_136 => ?_) (fun c_136 => ?_)
          · refine x_iload hM dL_isGiven_177 rfl ?_
            refine x_aload hM dL_isGiven_179 rfl ?_
            refine x_iconst hM dL_isGiven_181 ?_
            refine x_iald hM u1 (by omega) dL_isGiven_182 ?_
            refine x_sameN (tgt := 201) hM (by rw [hgv]; exact u4.symm) dL_isGiven_183 (by decide) ?_
            refine x_aload_n hM dL_isGiven_186 rfl rfl ?_
            refine x_aload hM dL_isGiven_187 rfl ?_
            refine x_aload hM dL_isGiven_189 rfl ?_
            refine x_callS hM ws_L_81 (m_L_isRow o3 (by rw [hgv]; exact t3)) ⟨Nat.le_of_ble_eq_true rfl, Nat.le_of_ble_eq_true rfl⟩ rfl rfl (Nat.le_of_ble_eq_true rfl) ⟨Nat.le_of_ble_eq_true rfl, Nat.le_of_ble_eq_true rfl⟩ dL_isGiven_191 (k_rI ?_)
            refine x_if_eq (tgt := 201) hM dL_isGiven_194 (by decide) (by omega) (fun c_194 => ?_) (fun c_194 => ?_)
            · exfalso; omega
            · refine x_iconst hM dL_isGiven_197 ?_
              refine x_goto (tgt := 202) hM dL_isGiven_198 (by decide) ?_
              refine hR.b dL_isGiven_202 rfl (Nat.le_refl _) (Nat.le_refl _) ?_
              refine p_ac rfl (by omega) o3 ?_ ?_
              · rw [hgv]; exact ivS_L (ivS_up hiv) hbc c1 hbo
              · rw [hgv]
          · exfalso; omega
      · rw [if_neg c2] at hgv
        obtain rfl : mv = 0 := by omega
        refine x_istore hM dL_isGiven_94 rfl (Nat.le_of_ble_eq_true rfl) rfl ?_
        refine x_aload_n hM dL_isGiven_96 rfl rfl ?_
        refine x_iload_n hM dL_isGiven_97 rfl rfl ?_
        refine x_iload_n hM dL_isGiven_98 rfl rfl ?_
        refine x_iload_n hM dL_isGiven_99 rfl rfl ?_
        refine x_callV hM wv_L_74 (m_X6_wouldBe o1.1 (by omega) (by omega) (by omega)) ⟨Nat.le_of_ble_eq_true rfl, Nat.le_of_ble_eq_true rfl⟩ (ob_o o1) rfl rfl rfl rfl (Nat.le_of_ble_eq_true rfl) ⟨Nat.le_of_ble_eq_true rfl, Nat.le_of_ble_eq_true rfl⟩ dL_isGiven_100 (k_qI fun x_100 w_100 q_100 => ?_)
        obtain ⟨rfl, q1, qF⟩ := q_100
        have o2 : obA G w_100 x s := ⟨q1, ⟨o1.2.1.choose, o1.2.1.choose_spec.kp qF (by omega)⟩, o1.2.2.kp qF (by omega)⟩
        have r2 := r1.kp (qF _ (by omega)) (qF _ (by omega))
        have t2 := t1.kp (qF _ (by omega)) (qF _ (by omega))
        obtain ⟨-, ⟨hs, hh⟩, -⟩ := id o2
        rw [hwb]
        refine x_istore hM dL_isGiven_103 rfl (Nat.le_of_ble_eq_true rfl) rfl ?_
        refine x_aload_n hM dL_isGiven_105 rfl rfl ?_
        refine x_iload_n hM dL_isGiven_106 rfl rfl ?_
        refine x_iload_n hM dL_isGiven_107 rfl rfl ?_
        refine x_iload_n hM dL_isGiven_108 rfl rfl ?_
        refine x_callV hM wv_L_78 (m_X6_give o2.1 hh (by omega) (by omega) (by omega) (by omega)) ⟨Nat.le_of_ble_eq_true rfl, Nat.le_of_ble_eq_true rfl⟩ (ob_o o2) rfl rfl rfl rfl (Nat.le_of_ble_eq_true rfl) ⟨Nat.le_of_ble_eq_true rfl, Nat.le_of_ble_eq_true rfl⟩ dL_isGiven_109 (k_qI fun x_109 w_109 q_109 => ?_)
        obtain ⟨rfl, q2, q3, qG⟩ := q_109
        have o3 := mu_ob o2 q2 _ q3 qG
        have r3 := r2.kp (qG _ (by omega)) (qG _ (by omega))
        have t3 := t2.kp (qG _ (by omega)) (qG _ (by omega))
        obtain ⟨-, f, g, ⟨u1, u2, u3⟩, u4⟩ := id t3
        refine x_istore hM dL_isGiven_112 rfl (Nat.le_of_ble_eq_true rfl) rfl ?_
        refine x_iload hM dL_isGiven_114 rfl ?_
        refine x_aload hM dL_isGiven_116 rfl ?_
        refine x_iconst hM dL_isGiven_118 ?_
        refine x_iald hM u1 (by omega) dL_isGiven_119 ?_
        refine x_same (tgt := 125) hM u4.symm dL_isGiven_120 (by decide) ?_
        refine x_aload hM dL_isGiven_125 rfl ?_
        refine x_iconst hM dL_isGiven_127 ?_
        refine x_iald hM u1 (by omega) dL_isGiven_128 ?_
        refine x_bipush hM dL_isGiven_129 rfl ?_
        refine x_icmp_gt (tgt := 139) hM dL_isGiven_131 (by decide) (by omega) (by omega) (fun c_131 => ?_) (fun c_131 => ?_)
        · exfalso; omega
        · refine x_iload hM dL_isGiven_134 rfl ?_
          refine x_if_ne (tgt := 177) hM dL_isGiven_136 (by decide) (by omega) (fun c_136 => ?_) (fun c_136 => ?_)
          · exfalso; omega
          · refine x_iload hM dL_isGiven_139 rfl ?_
            refine x_aload hM dL_isGiven_141 rfl ?_
            refine x_iconst hM dL_isGiven_143 ?_
            refine x_iald hM u1 (by omega) dL_isGiven_144 ?_
            refine x_bipush hM dL_isGiven_145 rfl ?_
            refine x_icmp_le (tgt := 155) hM dL_isGiven_147 (by decide) (by omega) (by omega) (fun c_147 => ?_) (fun c_147 => ?_)
            · refine x_bipush hM dL_isGiven_155 rfl ?_
              refine x_sameN (tgt := 175) hM (by rw [hgv]) dL_isGiven_157 (by decide) ?_
              refine x_aload_n hM dL_isGiven_160 rfl rfl ?_
              refine x_aload hM dL_isGiven_161 rfl ?_
              refine x_aload hM dL_isGiven_163 rfl ?_
              refine x_callS hM ws_L_81 (m_L_isRow o3 (by rw [hgv]; exact r3)) ⟨Nat.le_of_ble_eq_true rfl, Nat.le_of_ble_eq_true rfl⟩ rfl rfl (Nat.le_of_ble_eq_true rfl) ⟨Nat.le_of_ble_eq_true rfl, Nat.le_of_ble_eq_true rfl⟩ dL_isGiven_165 (k_rI ?_)
              refine x_if_eq (tgt := 175) hM dL_isGiven_168 (by decide) (by omega) (fun c_168 => ?_) (fun c_168 => ?_)
              · exfalso; omega
              · refine x_iconst hM dL_isGiven_171 ?_
                refine x_goto (tgt := 176) hM dL_isGiven_172 (by decide) ?_
                refine hR.b dL_isGiven_176 rfl (Nat.le_refl _) (Nat.le_refl _) ?_
                refine p_ac rfl (by omega) o3 ?_ ?_
                · rw [hgv]; exact ivS_up hiv
                · rw [hgv]
            · exfalso; omega
    · rw [if_neg c1] at hgv
      refine x_istore hM dL_isGiven_94 rfl (Nat.le_of_ble_eq_true rfl) rfl ?_
      refine x_aload_n hM dL_isGiven_96 rfl rfl ?_
      refine x_iload_n hM dL_isGiven_97 rfl rfl ?_
      refine x_iload_n hM dL_isGiven_98 rfl rfl ?_
      refine x_iload_n hM dL_isGiven_99 rfl rfl ?_
      refine x_callV hM wv_L_74 (m_X6_wouldBe o1.1 (by omega) (by omega) (by omega)) ⟨Nat.le_of_ble_eq_true rfl, Nat.le_of_ble_eq_true rfl⟩ (ob_o o1) rfl rfl rfl rfl (Nat.le_of_ble_eq_true rfl) ⟨Nat.le_of_ble_eq_true rfl, Nat.le_of_ble_eq_true rfl⟩ dL_isGiven_100 (k_qI fun x_100 w_100 q_100 => ?_)
      obtain ⟨rfl, q1, qF⟩ := q_100
      have o2 : obA G w_100 x s := ⟨q1, ⟨o1.2.1.choose, o1.2.1.choose_spec.kp qF (by omega)⟩, o1.2.2.kp qF (by omega)⟩
      have r2 := r1.kp (qF _ (by omega)) (qF _ (by omega))
      have t2 := t1.kp (qF _ (by omega)) (qF _ (by omega))
      obtain ⟨-, ⟨hs, hh⟩, -⟩ := id o2
      rw [hwb]
      refine x_istore hM dL_isGiven_103 rfl (Nat.le_of_ble_eq_true rfl) rfl ?_
      refine x_aload_n hM dL_isGiven_105 rfl rfl ?_
      refine x_iload_n hM dL_isGiven_106 rfl rfl ?_
      refine x_iload_n hM dL_isGiven_107 rfl rfl ?_
      refine x_iload_n hM dL_isGiven_108 rfl rfl ?_
      refine x_callV hM wv_L_78 (m_X6_give o2.1 hh (by omega) (by omega) (by omega) (by omega)) ⟨Nat.le_of_ble_eq_true rfl, Nat.le_of_ble_eq_true rfl⟩ (ob_o o2) rfl rfl rfl rfl (Nat.le_of_ble_eq_true rfl) ⟨Nat.le_of_ble_eq_true rfl, Nat.le_of_ble_eq_true rfl⟩ dL_isGiven_109 (k_qI fun x_109 w_109 q_109 => ?_)
      obtain ⟨rfl, q2, q3, qG⟩ := q_109
      have o3 := mu_ob o2 q2 _ q3 qG
      have r3 := r2.kp (qG _ (by omega)) (qG _ (by omega))
      have t3 := t2.kp (qG _ (by omega)) (qG _ (by omega))
      obtain ⟨-, f, g, ⟨u1, u2, u3⟩, u4⟩ := id t3
      refine x_istore hM dL_isGiven_112 rfl (Nat.le_of_ble_eq_true rfl) rfl ?_
      refine x_iload hM dL_isGiven_114 rfl ?_
      refine x_aload hM dL_isGiven_116 rfl ?_
      refine x_iconst hM dL_isGiven_118 ?_
      refine x_iald hM u1 (by omega) dL_isGiven_119 ?_
      refine x_same (tgt := 125) hM u4.symm dL_isGiven_120 (by decide) ?_
      refine x_aload hM dL_isGiven_125 rfl ?_
      refine x_iconst hM dL_isGiven_127 ?_
      refine x_iald hM u1 (by omega) dL_isGiven_128 ?_
      refine x_bipush hM dL_isGiven_129 rfl ?_
      refine x_icmp_gt (tgt := 139) hM dL_isGiven_131 (by decide) (by omega) (by omega) (fun c_131 => ?_) (fun c_131 => ?_)
      · refine x_iload hM dL_isGiven_139 rfl ?_
        refine x_aload hM dL_isGiven_141 rfl ?_
        refine x_iconst hM dL_isGiven_143 ?_
        refine x_iald hM u1 (by omega) dL_isGiven_144 ?_
        refine x_bipush hM dL_isGiven_145 rfl ?_
        refine x_icmp_le (tgt := 155) hM dL_isGiven_147 (by decide) (by omega) (by omega) (fun c_147 => ?_) (fun c_147 => ?_)
        · exfalso; omega
        · refine x_bipush hM dL_isGiven_150 rfl ?_
          refine x_goto (tgt := 157) hM dL_isGiven_152 (by decide) ?_
          refine x_sameN (tgt := 175) hM (by rw [hgv]) dL_isGiven_157 (by decide) ?_
          refine x_aload_n hM dL_isGiven_160 rfl rfl ?_
          refine x_aload hM dL_isGiven_161 rfl ?_
          refine x_aload hM dL_isGiven_163 rfl ?_
          refine x_callS hM ws_L_81 (m_L_isRow o3 (by rw [hgv]; exact r3)) ⟨Nat.le_of_ble_eq_true rfl, Nat.le_of_ble_eq_true rfl⟩ rfl rfl (Nat.le_of_ble_eq_true rfl) ⟨Nat.le_of_ble_eq_true rfl, Nat.le_of_ble_eq_true rfl⟩ dL_isGiven_165 (k_rI ?_)
          refine x_if_eq (tgt := 175) hM dL_isGiven_168 (by decide) (by omega) (fun c_168 => ?_) (fun c_168 => ?_)
          · exfalso; omega
          · refine x_iconst hM dL_isGiven_171 ?_
            refine x_goto (tgt := 176) hM dL_isGiven_172 (by decide) ?_
            refine hR.b dL_isGiven_176 rfl (Nat.le_refl _) (Nat.le_refl _) ?_
            refine p_ac rfl (by omega) o3 ?_ ?_
            · rw [hgv]; exact ivS_up hiv
            · rw [hgv]
      · exfalso; omega
  have B : ∀ w4 : Wd, obA G w4 x s → w4 z = some (aI G 64 (fun _ => 0)) → w4 (z + 1) = some (aI G 64 (fun _ => 0)) → w4 (z + 2) = some (aI G 64 (fun _ => 0)) → w4 (z + 3) = some (aI G 64 (fun _ => 0)) → P 24 [some (.ref x), some (.int (iI o)), some (.int (iI a)), some (.int (iI n)), some (.ref z), some (.ref (z + 1)), some (.ref (z + 2)), some (.ref (z + 3)), none, none, none, none] [] w4 (z + 4, 4, 256) := by
    intro w4 o0 z0 z1 z2 z3
    refine x_aload_n hM dL_isGiven_24 rfl rfl ?_
    refine x_aload hM dL_isGiven_25 rfl ?_
    refine x_aload hM dL_isGiven_27 rfl ?_
    refine x_callS hM ws_L_45 (m_L_read o0 z0 z1 (by omega) (by omega)) ⟨Nat.le_of_ble_eq_true rfl, Nat.le_of_ble_eq_true rfl⟩ rfl rfl (Nat.le_of_ble_eq_true rfl) ⟨Nat.le_of_ble_eq_true rfl, Nat.le_of_ble_eq_true rfl⟩ dL_isGiven_29 (k_qV fun w_29 q_29 => ?_)
    obtain ⟨r1, f1⟩ := q_29
    have o1 := o0.kp (f1.kp (by omega) (by omega))
    refine x_aload hM dL_isGiven_32 rfl ?_
    refine x_aload hM dL_isGiven_34 rfl ?_
    refine x_iload_n hM dL_isGiven_36 rfl rfl ?_
    refine x_iload_n hM dL_isGiven_37 rfl rfl ?_
    refine x_iload_n hM dL_isGiven_38 rfl rfl ?_
    refine x_iadd hM dL_isGiven_39 ?_
    refine x_iload_n hM dL_isGiven_40 rfl rfl ?_
    refine x_aload hM dL_isGiven_41 rfl ?_
    refine x_aload hM dL_isGiven_43 rfl ?_
    refine x_callS hM ws_L_66 (m_L_lay r1 hc ((f1 _ (by omega) (by omega)).trans z2) ((f1 _ (by omega) (by omega)).trans z3) (by omega) hl40 (by omega) (by omega)) ⟨Nat.le_of_ble_eq_true rfl, Nat.le_of_ble_eq_true rfl⟩ rfl rfl (Nat.le_of_ble_eq_true rfl) ⟨Nat.le_of_ble_eq_true rfl, Nat.le_of_ble_eq_true rfl⟩ dL_isGiven_45 (k_qV fun w_45 q_45 => ?_)
    obtain ⟨t1, f2⟩ := q_45
    have o2 := o1.kp (f2.kp (by omega) (by omega))
    have r2 := r1.kp (f2 _ (by omega) (by omega)) (f2 _ (by omega) (by omega))
    rw [hab] at t1
    refine x_iload_n hM dL_isGiven_48 rfl rfl ?_
    refine x_aload hM dL_isGiven_49 rfl ?_
    refine x_aload hM dL_isGiven_51 rfl ?_
    refine x_iload_n hM dL_isGiven_53 rfl rfl ?_
    refine x_iload_n hM dL_isGiven_54 rfl rfl ?_
    refine x_iload_n hM dL_isGiven_55 rfl rfl ?_
    refine x_iadd hM dL_isGiven_56 ?_
    refine x_iload_n hM dL_isGiven_57 rfl rfl ?_
    refine x_callS hM ws_L_70 (m_L_within r2 (by omega) (by omega)) ⟨Nat.le_of_ble_eq_true rfl, Nat.le_of_ble_eq_true rfl⟩ rfl rfl (Nat.le_of_ble_eq_true rfl) ⟨Nat.le_of_ble_eq_true rfl, Nat.le_of_ble_eq_true rfl⟩ dL_isGiven_58 (k_rI ?_)
    rw [hab]
    refine x_isub hM dL_isGiven_61 ?_
    refine x_istore hM dL_isGiven_62 rfl (Nat.le_of_ble_eq_true rfl) rfl ?_
    refine x_iload hM dL_isGiven_64 rfl ?_
    refine x_if_eq (tgt := 89) hM dL_isGiven_66 (by decide) (by omega) (fun c_66 => ?_) (fun c_66 => ?_)
    · refine x_iconst hM dL_isGiven_89 ?_
      refine x_goto (tgt := 94) hM dL_isGiven_90 (by decide) ?_
      exact S _ _ (by omega) o2 r2 t1
    · refine x_aload hM dL_isGiven_69 rfl ?_
      refine x_aload hM dL_isGiven_71 rfl ?_
      refine x_iload_n hM dL_isGiven_73 rfl rfl ?_
      refine x_callS hM ws_L_31 (m_L_meters r2 (by omega)) ⟨Nat.le_of_ble_eq_true rfl, Nat.le_of_ble_eq_true rfl⟩ rfl rfl (Nat.le_of_ble_eq_true rfl) ⟨Nat.le_of_ble_eq_true rfl, Nat.le_of_ble_eq_true rfl⟩ dL_isGiven_74 (k_rI ?_)
      refine x_iload hM dL_isGiven_77 rfl ?_
      refine x_iadd hM dL_isGiven_79 ?_
      refine x_aload_n hM dL_isGiven_80 rfl rfl ?_
      refine x_bipush hM dL_isGiven_81 rfl ?_
      refine x_callV hM wv_L_8 (o_c16 o2) ⟨Nat.le_of_ble_eq_true rfl, Nat.le_of_ble_eq_true rfl⟩ (ob_o o2) rfl rfl rfl rfl (Nat.le_of_ble_eq_true rfl) ⟨Nat.le_of_ble_eq_true rfl, Nat.le_of_ble_eq_true rfl⟩ dL_isGiven_83 (k_rI ?_)
      refine x_icmp_gt (tgt := 93) hM dL_isGiven_86 (by decide) (by omega) (by omega) (fun c_86 => ?_) (fun c_86 => ?_)
      · refine x_iconst hM dL_isGiven_93 ?_
        exact S _ _ (by omega) o2 r2 t1
      · refine x_iconst hM dL_isGiven_89 ?_
        refine x_goto (tgt := 94) hM dL_isGiven_90 (by decide) ?_
        exact S _ _ (by omega) o2 r2 t1
  refine x_bipush hM dL_isGiven_0 rfl ?_
  refine x_newI  hM wy_int (by omega) rfl (by omega) (Nat.le_of_ble_eq_true rfl) (Nat.le_of_ble_eq_true rfl) dL_isGiven_2 ?_
  refine x_astore hM dL_isGiven_4 rfl (Nat.le_of_ble_eq_true rfl) rfl ?_
  refine x_bipush hM dL_isGiven_6 rfl ?_
  refine x_newI  hM wy_int (by omega) rfl (by omega) (Nat.le_of_ble_eq_true rfl) (Nat.le_of_ble_eq_true rfl) dL_isGiven_8 ?_
  refine x_astore hM dL_isGiven_10 rfl (Nat.le_of_ble_eq_true rfl) rfl ?_
  refine x_bipush hM dL_isGiven_12 rfl ?_
  refine x_newI  hM wy_int (by omega) rfl (by omega) (Nat.le_of_ble_eq_true rfl) (Nat.le_of_ble_eq_true rfl) dL_isGiven_14 ?_
  refine x_astore hM dL_isGiven_16 rfl (Nat.le_of_ble_eq_true rfl) rfl ?_
  refine x_bipush hM dL_isGiven_18 rfl ?_
  refine x_newI  hM wy_int (by omega) rfl (by omega) (Nat.le_of_ble_eq_true rfl) (Nat.le_of_ble_eq_true rfl) dL_isGiven_20 ?_
  refine x_astore hM dL_isGiven_22 rfl (Nat.le_of_ble_eq_true rfl) rfl ?_
  exact B _ (w4_ob h (by omega)) w4_0 w4_1 w4_2 w4_3
theorem m_L_isFreed {l : Launch} {G : xG} {w : Wd} {z x c : Nat} {s : St} {a n : Int} (h : obA G w x s) (hiv : ivS c s) (hz : x + 215 ≤ z) (hp : 0 ≤ a ∧ 1 ≤ n ∧ a + n ≤ 10000) : xMet l G yL_isFreed cL_isFreed 8 (some .boolean) ({ frames := 6, cells := 4, slots := 256, locals := 142 } : Room) [.ref x, .int (iI a), .int (iI n)] w z (acQ G x c z s) := by
  obtain ⟨hc, hl40, how, -, hown, -⟩ := id hiv
  have hW := (ob_W h).2.1
  have hlt := okS_lt hW
  have hsr := can_srt hc hlt
  have hab : a + n - a = n := by omega
  have hbl := (bec_ad (o := -6) (a := a) (n := n) hsr hlt hl40 (by omega)).2
  have hbc := bec_can (o := -6) (a := a) (n := n) hc hlt hl40 (by omega)
  have hbo := bec_own (o := -6) (a := a) (n := n) hsr hlt hl40 (by omega) how (by omega)
  have hfr : frF s a n = (if (becF s.L (-6) a n).length ≤ 40 then (((becF s.L (-6) a n).length : Int), mkS (becF s.L (-6) a n) s.set s.mon s.tax s.los s.D s.own s.day s.clo s.fee) else (-4, s)) := by
    unfold frF
    rw [if_pos ⟨by omega, by omega, by omega, by omega, by omega⟩]
  have hfb : iR (frF s a n).1 := by
    rw [hfr]
    split
    · show -2147483648 ≤ ((becF s.L (-6) a n).length : Int) ∧ ((becF s.L (-6) a n).length : Int) ≤ 2147483647; omega
    · show -2147483648 ≤ (-4 : Int) ∧ (-4 : Int) ≤ 2147483647; omega
  refine xMet_of RL rfl (by decide +kernel) false (by decide +kernel) (Nat.le_of_ble_eq_true rfl) rfl ?_
  intro P hM hR
  have B : ∀ w4 : Wd, obA G w4 x s → w4 z = some (aI G 64 (fun _ => 0)) → w4 (z + 1) = some (aI G 64 (fun _ => 0)) → w4 (z + 2) = some (aI G 64 (fun _ => 0)) → w4 (z + 3) = some (aI G 64 (fun _ => 0)) → P 23 [some (.ref x), some (.int (iI a)), some (.int (iI n)), some (.ref z), some (.ref (z + 1)), some (.ref (z + 2)), some (.ref (z + 3)), none] [] w4 (z + 4, 4, 256) := by
    intro w4 o0 z0 z1 z2 z3
    by_cases c1 : (becF s.L (-6) a n).length ≤ 40
    · rw [if_pos c1] at hfr
      refine x_aload_n hM dL_isFreed_23 rfl rfl ?_
      refine x_aload_n hM dL_isFreed_24 rfl rfl ?_
      refine x_aload hM dL_isFreed_25 rfl ?_
      refine x_callS hM ws_L_45 (m_L_read o0 z0 z1 (by omega) (by omega)) ⟨Nat.le_of_ble_eq_true rfl, Nat.le_of_ble_eq_true rfl⟩ rfl rfl (Nat.le_of_ble_eq_true rfl) ⟨Nat.le_of_ble_eq_true rfl, Nat.le_of_ble_eq_true rfl⟩ dL_isFreed_27 (k_qV fun w_27 q_27 => ?_)
      obtain ⟨r1, f1⟩ := q_27
      have o1 := o0.kp (f1.kp (by omega) (by omega))
      refine x_aload_n hM dL_isFreed_30 rfl rfl ?_
      refine x_aload hM dL_isFreed_31 rfl ?_
      refine x_iload_n hM dL_isFreed_33 rfl rfl ?_
      refine x_iload_n hM dL_isFreed_34 rfl rfl ?_
      refine x_iload_n hM dL_isFreed_35 rfl rfl ?_
      refine x_iadd hM dL_isFreed_36 ?_
      refine x_bipush hM dL_isFreed_37 rfl ?_
      refine x_aload hM dL_isFreed_39 rfl ?_
      refine x_aload hM dL_isFreed_41 rfl ?_
      refine x_callS hM ws_L_66 (m_L_lay r1 hc ((f1 _ (by omega) (by omega)).trans z2) ((f1 _ (by omega) (by omega)).trans z3) (by omega) hl40 (by omega) (by omega)) ⟨Nat.le_of_ble_eq_true rfl, Nat.le_of_ble_eq_true rfl⟩ rfl rfl (Nat.le_of_ble_eq_true rfl) ⟨Nat.le_of_ble_eq_true rfl, Nat.le_of_ble_eq_true rfl⟩ dL_isFreed_43 (k_qV fun w_43 q_43 => ?_)
      obtain ⟨t1, f2⟩ := q_43
      have o2 := o1.kp (f2.kp (by omega) (by omega))
      have r2 := r1.kp (f2 _ (by omega) (by omega)) (f2 _ (by omega) (by omega))
      rw [hab] at t1
      obtain ⟨-, ⟨hs, hh⟩, -⟩ := id o2
      refine x_aload_n hM dL_isFreed_46 rfl rfl ?_
      refine x_iload_n hM dL_isFreed_47 rfl rfl ?_
      refine x_iload_n hM dL_isFreed_48 rfl rfl ?_
      refine x_callV hM wv_L_85 (m_X6_free o2.1 hh (by omega) (by omega) hfb) ⟨Nat.le_of_ble_eq_true rfl, Nat.le_of_ble_eq_true rfl⟩ (ob_o o2) rfl rfl rfl rfl (Nat.le_of_ble_eq_true rfl) ⟨Nat.le_of_ble_eq_true rfl, Nat.le_of_ble_eq_true rfl⟩ dL_isFreed_49 (k_qI fun x_49 w_49 q_49 => ?_)
      obtain ⟨rfl, q2, q3, qG⟩ := q_49
      have o3 := mu_ob o2 q2 _ q3 qG
      have r3 := r2.kp (qG _ (by omega)) (qG _ (by omega))
      have t3 := t1.kp (qG _ (by omega)) (qG _ (by omega))
      obtain ⟨-, f, g, ⟨u1, u2, u3⟩, u4⟩ := id t3
      refine x_istore hM dL_isFreed_52 rfl (Nat.le_of_ble_eq_true rfl) rfl ?_
      refine x_aload hM dL_isFreed_54 rfl ?_
      refine x_iconst hM dL_isFreed_56 ?_
      refine x_iald hM u1 (by omega) dL_isFreed_57 ?_
      refine x_bipush hM dL_isFreed_58 rfl ?_
      refine x_icmp_le (tgt := 88) hM dL_isFreed_60 (by decide) (by omega) (by omega) (fun c_60 => ?_) (fun c_60 => ?_)
      · refine x_iload hM dL_isFreed_88 rfl ?_
        refine x_aload hM dL_isFreed_90 rfl ?_
        refine x_iconst hM dL_isFreed_92 ?_
        refine x_iald hM u1 (by omega) dL_isFreed_93 ?_
        refine x_sameN (tgt := 112) hM (by rw [hfr]; exact u4.symm) dL_isFreed_94 (by decide) ?_
        refine x_aload_n hM dL_isFreed_97 rfl rfl ?_
        refine x_aload hM dL_isFreed_98 rfl ?_
        refine x_aload hM dL_isFreed_100 rfl ?_
        refine x_callS hM ws_L_81 (m_L_isRow o3 (by rw [hfr]; exact t3)) ⟨Nat.le_of_ble_eq_true rfl, Nat.le_of_ble_eq_true rfl⟩ rfl rfl (Nat.le_of_ble_eq_true rfl) ⟨Nat.le_of_ble_eq_true rfl, Nat.le_of_ble_eq_true rfl⟩ dL_isFreed_102 (k_rI ?_)
        refine x_if_eq (tgt := 112) hM dL_isFreed_105 (by decide) (by omega) (fun c_105 => ?_) (fun c_105 => ?_)
        · exfalso; omega
        · refine x_iconst hM dL_isFreed_108 ?_
          refine x_goto (tgt := 113) hM dL_isFreed_109 (by decide) ?_
          refine hR.b dL_isFreed_113 rfl (Nat.le_refl _) (Nat.le_refl _) ?_
          refine p_ac rfl (by omega) o3 ?_ ?_
          · rw [hfr]; exact ivS_L (ivS_up hiv) hbc c1 hbo
          · rw [hfr]
      · exfalso; omega
    · rw [if_neg c1] at hfr
      refine x_aload_n hM dL_isFreed_23 rfl rfl ?_
      refine x_aload_n hM dL_isFreed_24 rfl rfl ?_
      refine x_aload hM dL_isFreed_25 rfl ?_
      refine x_callS hM ws_L_45 (m_L_read o0 z0 z1 (by omega) (by omega)) ⟨Nat.le_of_ble_eq_true rfl, Nat.le_of_ble_eq_true rfl⟩ rfl rfl (Nat.le_of_ble_eq_true rfl) ⟨Nat.le_of_ble_eq_true rfl, Nat.le_of_ble_eq_true rfl⟩ dL_isFreed_27 (k_qV fun w_27 q_27 => ?_)
      obtain ⟨r1, f1⟩ := q_27
      have o1 := o0.kp (f1.kp (by omega) (by omega))
      refine x_aload_n hM dL_isFreed_30 rfl rfl ?_
      refine x_aload hM dL_isFreed_31 rfl ?_
      refine x_iload_n hM dL_isFreed_33 rfl rfl ?_
      refine x_iload_n hM dL_isFreed_34 rfl rfl ?_
      refine x_iload_n hM dL_isFreed_35 rfl rfl ?_
      refine x_iadd hM dL_isFreed_36 ?_
      refine x_bipush hM dL_isFreed_37 rfl ?_
      refine x_aload hM dL_isFreed_39 rfl ?_
      refine x_aload hM dL_isFreed_41 rfl ?_
      refine x_callS hM ws_L_66 (m_L_lay r1 hc ((f1 _ (by omega) (by omega)).trans z2) ((f1 _ (by omega) (by omega)).trans z3) (by omega) hl40 (by omega) (by omega)) ⟨Nat.le_of_ble_eq_true rfl, Nat.le_of_ble_eq_true rfl⟩ rfl rfl (Nat.le_of_ble_eq_true rfl) ⟨Nat.le_of_ble_eq_true rfl, Nat.le_of_ble_eq_true rfl⟩ dL_isFreed_43 (k_qV fun w_43 q_43 => ?_)
      obtain ⟨t1, f2⟩ := q_43
      have o2 := o1.kp (f2.kp (by omega) (by omega))
      have r2 := r1.kp (f2 _ (by omega) (by omega)) (f2 _ (by omega) (by omega))
      rw [hab] at t1
      obtain ⟨-, ⟨hs, hh⟩, -⟩ := id o2
      refine x_aload_n hM dL_isFreed_46 rfl rfl ?_
      refine x_iload_n hM dL_isFreed_47 rfl rfl ?_
      refine x_iload_n hM dL_isFreed_48 rfl rfl ?_
      refine x_callV hM wv_L_85 (m_X6_free o2.1 hh (by omega) (by omega) hfb) ⟨Nat.le_of_ble_eq_true rfl, Nat.le_of_ble_eq_true rfl⟩ (ob_o o2) rfl rfl rfl rfl (Nat.le_of_ble_eq_true rfl) ⟨Nat.le_of_ble_eq_true rfl, Nat.le_of_ble_eq_true rfl⟩ dL_isFreed_49 (k_qI fun x_49 w_49 q_49 => ?_)
      obtain ⟨rfl, q2, q3, qG⟩ := q_49
      have o3 := mu_ob o2 q2 _ q3 qG
      have r3 := r2.kp (qG _ (by omega)) (qG _ (by omega))
      have t3 := t1.kp (qG _ (by omega)) (qG _ (by omega))
      obtain ⟨-, f, g, ⟨u1, u2, u3⟩, u4⟩ := id t3
      refine x_istore hM dL_isFreed_52 rfl (Nat.le_of_ble_eq_true rfl) rfl ?_
      refine x_aload hM dL_isFreed_54 rfl ?_
      refine x_iconst hM dL_isFreed_56 ?_
      refine x_iald hM u1 (by omega) dL_isFreed_57 ?_
      refine x_bipush hM dL_isFreed_58 rfl ?_
      refine x_icmp_le (tgt := 88) hM dL_isFreed_60 (by decide) (by omega) (by omega) (fun c_60 => ?_) (fun c_60 => ?_)
      · exfalso; omega
      · refine x_iload hM dL_isFreed_63 rfl ?_
        refine x_bipush hM dL_isFreed_65 rfl ?_
        refine x_sameN (tgt := 84) hM (by rw [hfr]) dL_isFreed_67 (by decide) ?_
        refine x_aload_n hM dL_isFreed_70 rfl rfl ?_
        refine x_aload_n hM dL_isFreed_71 rfl rfl ?_
        refine x_aload hM dL_isFreed_72 rfl ?_
        refine x_callS hM ws_L_81 (m_L_isRow o3 (by rw [hfr]; exact r3)) ⟨Nat.le_of_ble_eq_true rfl, Nat.le_of_ble_eq_true rfl⟩ rfl rfl (Nat.le_of_ble_eq_true rfl) ⟨Nat.le_of_ble_eq_true rfl, Nat.le_of_ble_eq_true rfl⟩ dL_isFreed_74 (k_rI ?_)
        refine x_if_eq (tgt := 84) hM dL_isFreed_77 (by decide) (by omega) (fun c_77 => ?_) (fun c_77 => ?_)
        · exfalso; omega
        · refine x_iconst hM dL_isFreed_80 ?_
          refine x_goto (tgt := 113) hM dL_isFreed_81 (by decide) ?_
          refine hR.b dL_isFreed_113 rfl (Nat.le_refl _) (Nat.le_refl _) ?_
          refine p_ac rfl (by omega) o3 ?_ ?_
          · rw [hfr]; exact ivS_up hiv
          · rw [hfr]
  refine x_bipush hM dL_isFreed_0 rfl ?_
  refine x_newI  hM wy_int (by omega) rfl (by omega) (Nat.le_of_ble_eq_true rfl) (Nat.le_of_ble_eq_true rfl) dL_isFreed_2 ?_
  refine x_astore_n hM dL_isFreed_4 rfl rfl (Nat.le_of_ble_eq_true rfl) rfl ?_
  refine x_bipush hM dL_isFreed_5 rfl ?_
  refine x_newI  hM wy_int (by omega) rfl (by omega) (Nat.le_of_ble_eq_true rfl) (Nat.le_of_ble_eq_true rfl) dL_isFreed_7 ?_
  refine x_astore hM dL_isFreed_9 rfl (Nat.le_of_ble_eq_true rfl) rfl ?_
  refine x_bipush hM dL_isFreed_11 rfl ?_
  refine x_newI  hM wy_int (by omega) rfl (by omega) (Nat.le_of_ble_eq_true rfl) (Nat.le_of_ble_eq_true rfl) dL_isFreed_13 ?_
  refine x_astore hM dL_isFreed_15 rfl (Nat.le_of_ble_eq_true rfl) rfl ?_
  refine x_bipush hM dL_isFreed_17 rfl ?_
  refine x_newI  hM wy_int (by omega) rfl (by omega) (Nat.le_of_ble_eq_true rfl) (Nat.le_of_ble_eq_true rfl) dL_isFreed_19 ?_
  refine x_astore hM dL_isFreed_21 rfl (Nat.le_of_ble_eq_true rfl) rfl ?_
  exact B _ (w4_ob h (by omega)) w4_0 w4_1 w4_2 w4_3
theorem m_L_isGrabbed {l : Launch} {G : xG} {w : Wd} {z x c : Nat} {s : St} {o n : Int} (h : obA G w x s) (hiv : ivS c s) (hz : x + 215 ≤ z) (ho : 0 ≤ o ∧ o < s.own) (hn : 1 ≤ n ∧ n ≤ 10000) : xMet l G yL_isGrabbed cL_isGrabbed 10 (some .boolean) ({ frames := 6, cells := 4, slots := 256, locals := 147 } : Room) [.ref x, .int (iI o), .int (iI n)] w z (acQ G x c z s) := by
  obtain ⟨hc, hl40, how, -, hown, -⟩ := id hiv
  have hW := (ob_W h).2.1
  have hs4 := (ob_W h).1.2.2.2.2.2.2
  have hlt := okS_lt hW
  have hsr := can_srt hc hlt
  have hmo := mtsO_nn s.L o hW.2
  have hfs := fho_spec hW hc n hn.1
  have hgr := fun a : Int => gvF_r (s := s) (o := o) (f := a) (n := n)
  have hgF : grF s o n = (if gfrF s.L n 0 = -6 then (-5, s) else (if (gvF s o (gapP s.L (gfrF s.L n 0).toNat) n).1 < 0 then (gvF s o (gapP s.L (gfrF s.L n 0).toNat) n).1 else gapP s.L (gfrF s.L n 0).toNat, (gvF s o (gapP s.L (gfrF s.L n 0).toNat) n).2)) := by
    unfold grF
    rw [if_pos ho, if_pos hn]
  have hgb : iR (grF s o n).1 := by
    have h1 := hgr (gapP s.L (gfrF s.L n 0).toNat)
    have h2 := gapP_b hW (gfrF s.L n 0).toNat
    rw [hgF]
    split
    · show -2147483648 ≤ (-5 : Int) ∧ (-5 : Int) ≤ 2147483647; omega
    · show -2147483648 ≤ (if (gvF s o (gapP s.L (gfrF s.L n 0).toNat) n).1 < 0 then (gvF s o (gapP s.L (gfrF s.L n 0).toNat) n).1 else gapP s.L (gfrF s.L n 0).toNat) ∧ (if (gvF s o (gapP s.L (gfrF s.L n 0).toNat) n).1 < 0 then (gvF s o (gapP s.L (gfrF s.L n 0).toNat) n).1 else gapP s.L (gfrF s.L n 0).toNat) ≤ 2147483647
      split <;> omega
  refine xMet_of RL rfl (by decide +kernel) false (by decide +kernel) (Nat.le_of_ble_eq_true rfl) rfl ?_
  intro P hM hR
  have B : ∀ w4 : Wd, obA G w4 x s → w4 z = some (aI G 64 (fun _ => 0)) → w4 (z + 1) = some (aI G 64 (fun _ => 0)) → w4 (z + 2) = some (aI G 64 (fun _ => 0)) → w4 (z + 3) = some (aI G 64 (fun _ => 0)) → P 23 [some (.ref x), some (.int (iI o)), some (.int (iI n)), some (.ref z), some (.ref (z + 1)), some (.ref (z + 2)), some (.ref (z + 3)), none, none, none] [] w4 (z + 4, 4, 256) := by
    intro w4 o0 z0 z1 z2 z3
    rcases hfs with ⟨e1, e2⟩ | ⟨e1, e2, e3, e4, e5⟩
    · rw [if_pos e2] at hgF
      refine x_aload_n hM dL_isGrabbed_23 rfl rfl ?_
      refine x_aload_n hM dL_isGrabbed_24 rfl rfl ?_
      refine x_aload hM dL_isGrabbed_25 rfl ?_
      refine x_callS hM ws_L_45 (m_L_read o0 z0 z1 (by omega) (by omega)) ⟨Nat.le_of_ble_eq_true rfl, Nat.le_of_ble_eq_true rfl⟩ rfl rfl (Nat.le_of_ble_eq_true rfl) ⟨Nat.le_of_ble_eq_true rfl, Nat.le_of_ble_eq_true rfl⟩ dL_isGrabbed_27 (k_qV fun w_27 q_27 => ?_)
      obtain ⟨r1, f1⟩ := q_27
      have o1 := o0.kp (f1.kp (by omega) (by omega))
      obtain ⟨-, ⟨hs, hh⟩, -⟩ := id o1
      refine x_aload_n hM dL_isGrabbed_30 rfl rfl ?_
      refine x_aload hM dL_isGrabbed_31 rfl ?_
      refine x_iload_n hM dL_isGrabbed_33 rfl rfl ?_
      refine x_callS hM ws_L_88 (m_L_hole r1 hn) ⟨Nat.le_of_ble_eq_true rfl, Nat.le_of_ble_eq_true rfl⟩ rfl rfl (Nat.le_of_ble_eq_true rfl) ⟨Nat.le_of_ble_eq_true rfl, Nat.le_of_ble_eq_true rfl⟩ dL_isGrabbed_34 (k_rI ?_)
      refine x_istore hM dL_isGrabbed_37 rfl (Nat.le_of_ble_eq_true rfl) rfl ?_
      refine x_aload_n hM dL_isGrabbed_39 rfl rfl ?_
      refine x_iload_n hM dL_isGrabbed_40 rfl rfl ?_
      refine x_iconst hM dL_isGrabbed_41 ?_
      refine x_callV hM wv_L_52 ((o_hol (v := fhoV s.L n)) o1 hn (by omega) rfl) ⟨Nat.le_of_ble_eq_true rfl, Nat.le_of_ble_eq_true rfl⟩ (ob_o o1) rfl rfl rfl rfl (Nat.le_of_ble_eq_true rfl) ⟨Nat.le_of_ble_eq_true rfl, Nat.le_of_ble_eq_true rfl⟩ dL_isGrabbed_42 (k_rI ?_)
      refine x_iload hM dL_isGrabbed_45 rfl ?_
      refine x_same (tgt := 52) hM rfl dL_isGrabbed_47 (by decide) ?_
      refine x_aload_n hM dL_isGrabbed_52 rfl rfl ?_
      refine x_aload hM dL_isGrabbed_53 rfl ?_
      refine x_iload_n hM dL_isGrabbed_55 rfl rfl ?_
      refine x_callS hM ws_L_31 (m_L_meters (by assumption) (by omega)) ⟨Nat.le_of_ble_eq_true rfl, Nat.le_of_ble_eq_true rfl⟩ rfl rfl (Nat.le_of_ble_eq_true rfl) ⟨Nat.le_of_ble_eq_true rfl, Nat.le_of_ble_eq_true rfl⟩ dL_isGrabbed_56 (k_rI ?_)
      refine x_istore hM dL_isGrabbed_59 rfl (Nat.le_of_ble_eq_true rfl) rfl ?_
      refine x_aload_n hM dL_isGrabbed_61 rfl rfl ?_
      refine x_iload_n hM dL_isGrabbed_62 rfl rfl ?_
      refine x_iload_n hM dL_isGrabbed_63 rfl rfl ?_
      refine x_callV hM wv_L_90 (m_X6_grab o1.1 hh (by omega) (by omega) hgb) ⟨Nat.le_of_ble_eq_true rfl, Nat.le_of_ble_eq_true rfl⟩ (ob_o o1) rfl rfl rfl rfl (Nat.le_of_ble_eq_true rfl) ⟨Nat.le_of_ble_eq_true rfl, Nat.le_of_ble_eq_true rfl⟩ dL_isGrabbed_64 (k_qI fun x_64 w_64 q_64 => ?_)
      obtain ⟨rfl, q2, q3, qG⟩ := q_64
      have o3 := mu_ob o1 q2 _ q3 qG
      have r3 := r1.kp (qG _ (by omega)) (qG _ (by omega))
      refine x_istore hM dL_isGrabbed_67 rfl (Nat.le_of_ble_eq_true rfl) rfl ?_
      refine x_iload hM dL_isGrabbed_69 rfl ?_
      refine x_if_ge (tgt := 97) hM dL_isGrabbed_71 (by decide) (by omega) (fun c_71 => ?_) (fun c_71 => ?_)
      · exfalso; omega
      · refine x_iload hM dL_isGrabbed_74 rfl ?_
        refine x_bipush hM dL_isGrabbed_76 rfl ?_
        refine x_sameN (tgt := 95) hM (by rw [hgF]) dL_isGrabbed_78 (by decide) ?_
        refine x_aload_n hM dL_isGrabbed_81 rfl rfl ?_
        refine x_aload_n hM dL_isGrabbed_82 rfl rfl ?_
        refine x_aload hM dL_isGrabbed_83 rfl ?_
        refine x_callS hM ws_L_81 (m_L_isRow o3 (by rw [hgF]; exact r3)) ⟨Nat.le_of_ble_eq_true rfl, Nat.le_of_ble_eq_true rfl⟩ rfl rfl (Nat.le_of_ble_eq_true rfl) ⟨Nat.le_of_ble_eq_true rfl, Nat.le_of_ble_eq_true rfl⟩ dL_isGrabbed_85 (k_rI ?_)
        refine x_if_eq (tgt := 95) hM dL_isGrabbed_88 (by decide) (by omega) (fun c_88 => ?_) (fun c_88 => ?_)
        · exfalso; omega
        · refine x_iconst hM dL_isGrabbed_91 ?_
          refine x_goto (tgt := 96) hM dL_isGrabbed_92 (by decide) ?_
          refine hR.b dL_isGrabbed_96 rfl (Nat.le_refl _) (Nat.le_refl _) ?_
          refine p_ac rfl (by omega) o3 ?_ ?_
          · rw [hgF]; exact ivS_up hiv
          · rw [hgF]
    · rw [if_neg e1, ← e4] at hgF
      obtain ⟨a, ha⟩ : ∃ a, a = fhoV s.L n := ⟨_, rfl⟩
      rw [← ha] at hgF e2 e3 e5
      have hab : a + n - a = n := by omega
      have hbl := (bec_ad (o := o) (a := a) (n := n) hsr hlt hl40 (by omega)).2
      have hbc := bec_can (o := o) (a := a) (n := n) hc hlt hl40 (by omega)
      have hbo := bec_own (o := o) (a := a) (n := n) hsr hlt hl40 (by omega) how ho.2
      have hm0 := mtw_no (o := o) e5 (by omega)
      have hgv : gvF s o a n = (if (becF s.L o a n).length ≤ 40 then (if mtsO s.L o + n ≤ s.set 4 then (((becF s.L o a n).length : Int), mkS (becF s.L o a n) s.set s.mon s.tax s.los s.D s.own s.day s.clo s.fee) else (-5, s)) else (-4, s)) := by
        unfold gvF
        rw [if_pos ho, if_pos ⟨by omega, by omega, by omega, by omega, by omega⟩, hm0]
        congr 1
        rw [show n - 0 = n by omega]
        by_cases q : mtsO s.L o + n ≤ s.set 4
        · rw [if_pos q, if_pos (Or.inr q)]
        · rw [if_neg q, if_neg (by omega)]
      by_cases c1 : (becF s.L o a n).length ≤ 40
      · rw [if_pos c1] at hgv
        by_cases c2 : mtsO s.L o + n ≤ s.set 4
        · rw [if_pos c2] at hgv
          rw [hgv, if_neg (show ¬ ((becF s.L o a n).length : Int) < 0 by omega)] at hgF
          have es : (grF s o n).2.set = s.set := by rw [hgF]
          refine x_aload_n hM dL_isGrabbed_23 rfl rfl ?_
          refine x_aload_n hM dL_isGrabbed_24 rfl rfl ?_
          refine x_aload hM dL_isGrabbed_25 rfl ?_
          refine x_callS hM ws_L_45 (m_L_read o0 z0 z1 (by omega) (by omega)) ⟨Nat.le_of_ble_eq_true rfl, Nat.le_of_ble_eq_true rfl⟩ rfl rfl (Nat.le_of_ble_eq_true rfl) ⟨Nat.le_of_ble_eq_true rfl, Nat.le_of_ble_eq_true rfl⟩ dL_isGrabbed_27 (k_qV fun w_27 q_27 => ?_)
          obtain ⟨r1, f1⟩ := q_27
          have o1 := o0.kp (f1.kp (by omega) (by omega))
          obtain ⟨-, ⟨hs, hh⟩, -⟩ := id o1
          refine x_aload_n hM dL_isGrabbed_30 rfl rfl ?_
          refine x_aload hM dL_isGrabbed_31 rfl ?_
          refine x_iload_n hM dL_isGrabbed_33 rfl rfl ?_
          refine x_callS hM ws_L_88 (m_L_hole r1 hn) ⟨Nat.le_of_ble_eq_true rfl, Nat.le_of_ble_eq_true rfl⟩ rfl rfl (Nat.le_of_ble_eq_true rfl) ⟨Nat.le_of_ble_eq_true rfl, Nat.le_of_ble_eq_true rfl⟩ dL_isGrabbed_34 (k_rI ?_)
          rw [← ha]
          refine x_istore hM dL_isGrabbed_37 rfl (Nat.le_of_ble_eq_true rfl) rfl ?_
          refine x_aload_n hM dL_isGrabbed_39 rfl rfl ?_
          refine x_iload_n hM dL_isGrabbed_40 rfl rfl ?_
          refine x_iconst hM dL_isGrabbed_41 ?_
          refine x_callV hM wv_L_52 ((o_hol (v := a)) o1 hn (by omega) ha.symm) ⟨Nat.le_of_ble_eq_true rfl, Nat.le_of_ble_eq_true rfl⟩ (ob_o o1) rfl rfl rfl rfl (Nat.le_of_ble_eq_true rfl) ⟨Nat.le_of_ble_eq_true rfl, Nat.le_of_ble_eq_true rfl⟩ dL_isGrabbed_42 (k_rI ?_)
          refine x_iload hM dL_isGrabbed_45 rfl ?_
          refine x_same (tgt := 52) hM rfl dL_isGrabbed_47 (by decide) ?_
          refine x_aload_n hM dL_isGrabbed_52 rfl rfl ?_
          refine x_aload hM dL_isGrabbed_53 rfl ?_
          refine x_iload_n hM dL_isGrabbed_55 rfl rfl ?_
          refine x_callS hM ws_L_31 (m_L_meters (by assumption) (by omega)) ⟨Nat.le_of_ble_eq_true rfl, Nat.le_of_ble_eq_true rfl⟩ rfl rfl (Nat.le_of_ble_eq_true rfl) ⟨Nat.le_of_ble_eq_true rfl, Nat.le_of_ble_eq_true rfl⟩ dL_isGrabbed_56 (k_rI ?_)
          refine x_istore hM dL_isGrabbed_59 rfl (Nat.le_of_ble_eq_true rfl) rfl ?_
          refine x_aload_n hM dL_isGrabbed_61 rfl rfl ?_
          refine x_iload_n hM dL_isGrabbed_62 rfl rfl ?_
          refine x_iload_n hM dL_isGrabbed_63 rfl rfl ?_
          refine x_callV hM wv_L_90 (m_X6_grab o1.1 hh (by omega) (by omega) hgb) ⟨Nat.le_of_ble_eq_true rfl, Nat.le_of_ble_eq_true rfl⟩ (ob_o o1) rfl rfl rfl rfl (Nat.le_of_ble_eq_true rfl) ⟨Nat.le_of_ble_eq_true rfl, Nat.le_of_ble_eq_true rfl⟩ dL_isGrabbed_64 (k_qI fun x_64 w_64 q_64 => ?_)
          obtain ⟨rfl, q2, q3, qG⟩ := q_64
          have o3 := mu_ob o1 q2 _ q3 qG
          have r3 := r1.kp (qG _ (by omega)) (qG _ (by omega))
          refine x_istore hM dL_isGrabbed_67 rfl (Nat.le_of_ble_eq_true rfl) rfl ?_
          refine x_iload hM dL_isGrabbed_69 rfl ?_
          refine x_if_ge (tgt := 97) hM dL_isGrabbed_71 (by decide) (by omega) (fun c_71 => ?_) (fun c_71 => ?_)
          · refine x_aload_n hM dL_isGrabbed_97 rfl rfl ?_
            refine x_aload hM dL_isGrabbed_98 rfl ?_
            refine x_iload hM dL_isGrabbed_100 rfl ?_
            refine x_iload hM dL_isGrabbed_102 rfl ?_
            refine x_iload_n hM dL_isGrabbed_104 rfl rfl ?_
            refine x_iadd hM dL_isGrabbed_105 ?_
            refine x_iload_n hM dL_isGrabbed_106 rfl rfl ?_
            refine x_aload hM dL_isGrabbed_107 rfl ?_
            refine x_aload hM dL_isGrabbed_109 rfl ?_
            refine x_callS hM ws_L_66 (m_L_lay r3 hc ((qG _ (by omega)).trans ((f1 _ (by omega) (by omega)).trans z2)) ((qG _ (by omega)).trans ((f1 _ (by omega) (by omega)).trans z3)) (by omega) hl40 (by omega) (by omega)) ⟨Nat.le_of_ble_eq_true rfl, Nat.le_of_ble_eq_true rfl⟩ rfl rfl (Nat.le_of_ble_eq_true rfl) ⟨Nat.le_of_ble_eq_true rfl, Nat.le_of_ble_eq_true rfl⟩ dL_isGrabbed_111 (k_qV fun w_111 q_111 => ?_)
            obtain ⟨t4, f4⟩ := q_111
            have o4 := o3.kp (f4.kp (by omega) (by omega))
            have r4 := r3.kp (f4 _ (by omega) (by omega)) (f4 _ (by omega) (by omega))
            rw [hab] at t4
            obtain ⟨-, f, g, ⟨u1, u2, u3⟩, u4⟩ := id t4
            refine x_aload hM dL_isGrabbed_114 rfl ?_
            refine x_iconst hM dL_isGrabbed_116 ?_
            refine x_iald hM u1 (by omega) dL_isGrabbed_117 ?_
            refine x_bipush hM dL_isGrabbed_118 rfl ?_
            refine x_icmp_gt (tgt := 136) hM dL_isGrabbed_120 (by decide) (by omega) (by omega) (fun c_120 => ?_) (fun c_120 => ?_)
            · exfalso; omega
            · refine x_iload hM dL_isGrabbed_123 rfl ?_
              refine x_iload_n hM dL_isGrabbed_125 rfl rfl ?_
              refine x_iadd hM dL_isGrabbed_126 ?_
              refine x_aload_n hM dL_isGrabbed_127 rfl rfl ?_
              refine x_bipush hM dL_isGrabbed_128 rfl ?_
              refine x_callV hM wv_L_8 (o_c16 o4) ⟨Nat.le_of_ble_eq_true rfl, Nat.le_of_ble_eq_true rfl⟩ (ob_o o4) rfl rfl rfl rfl (Nat.le_of_ble_eq_true rfl) ⟨Nat.le_of_ble_eq_true rfl, Nat.le_of_ble_eq_true rfl⟩ dL_isGrabbed_130 (k_rI ?_)
              rw [es]
              refine x_icmp_le (tgt := 173) hM dL_isGrabbed_133 (by decide) (by omega) (by omega) (fun c_133 => ?_) (fun c_133 => ?_)
              · refine x_iload hM dL_isGrabbed_173 rfl ?_
                refine x_iload hM dL_isGrabbed_175 rfl ?_
                refine x_sameN (tgt := 195) hM (by rw [hgF]) dL_isGrabbed_177 (by decide) ?_
                refine x_aload_n hM dL_isGrabbed_180 rfl rfl ?_
                refine x_aload hM dL_isGrabbed_181 rfl ?_
                refine x_aload hM dL_isGrabbed_183 rfl ?_
                refine x_callS hM ws_L_81 (m_L_isRow o4 (by rw [hgF]; exact t4)) ⟨Nat.le_of_ble_eq_true rfl, Nat.le_of_ble_eq_true rfl⟩ rfl rfl (Nat.le_of_ble_eq_true rfl) ⟨Nat.le_of_ble_eq_true rfl, Nat.le_of_ble_eq_true rfl⟩ dL_isGrabbed_185 (k_rI ?_)
                refine x_if_eq (tgt := 195) hM dL_isGrabbed_188 (by decide) (by omega) (fun c_188 => ?_) (fun c_188 => ?_)
                · exfalso; omega
                · refine x_iconst hM dL_isGrabbed_191 ?_
                  refine x_goto (tgt := 196) hM dL_isGrabbed_192 (by decide) ?_
                  refine hR.b dL_isGrabbed_196 rfl (Nat.le_refl _) (Nat.le_refl _) ?_
                  refine p_ac rfl (by omega) o4 ?_ ?_
                  · rw [hgF]; exact ivS_L (ivS_up hiv) hbc c1 hbo
                  · rw [hgF]
              · exfalso; omega
          · exfalso; omega
        · rw [if_neg c2] at hgv
          rw [hgv, if_pos (show (-5 : Int) < 0 by decide)] at hgF
          have es : (grF s o n).2.set = s.set := by rw [hgF]
          refine x_aload_n hM dL_isGrabbed_23 rfl rfl ?_
          refine x_aload_n hM dL_isGrabbed_24 rfl rfl ?_
          refine x_aload hM dL_isGrabbed_25 rfl ?_
          refine x_callS hM ws_L_45 (m_L_read o0 z0 z1 (by omega) (by omega)) ⟨Nat.le_of_ble_eq_true rfl, Nat.le_of_ble_eq_true rfl⟩ rfl rfl (Nat.le_of_ble_eq_true rfl) ⟨Nat.le_of_ble_eq_true rfl, Nat.le_of_ble_eq_true rfl⟩ dL_isGrabbed_27 (k_qV fun w_27 q_27 => ?_)
          obtain ⟨r1, f1⟩ := q_27
          have o1 := o0.kp (f1.kp (by omega) (by omega))
          obtain ⟨-, ⟨hs, hh⟩, -⟩ := id o1
          refine x_aload_n hM dL_isGrabbed_30 rfl rfl ?_
          refine x_aload hM dL_isGrabbed_31 rfl ?_
          refine x_iload_n hM dL_isGrabbed_33 rfl rfl ?_
          refine x_callS hM ws_L_88 (m_L_hole r1 hn) ⟨Nat.le_of_ble_eq_true rfl, Nat.le_of_ble_eq_true rfl⟩ rfl rfl (Nat.le_of_ble_eq_true rfl) ⟨Nat.le_of_ble_eq_true rfl, Nat.le_of_ble_eq_true rfl⟩ dL_isGrabbed_34 (k_rI ?_)
          rw [← ha]
          refine x_istore hM dL_isGrabbed_37 rfl (Nat.le_of_ble_eq_true rfl) rfl ?_
          refine x_aload_n hM dL_isGrabbed_39 rfl rfl ?_
          refine x_iload_n hM dL_isGrabbed_40 rfl rfl ?_
          refine x_iconst hM dL_isGrabbed_41 ?_
          refine x_callV hM wv_L_52 ((o_hol (v := a)) o1 hn (by omega) ha.symm) ⟨Nat.le_of_ble_eq_true rfl, Nat.le_of_ble_eq_true rfl⟩ (ob_o o1) rfl rfl rfl rfl (Nat.le_of_ble_eq_true rfl) ⟨Nat.le_of_ble_eq_true rfl, Nat.le_of_ble_eq_true rfl⟩ dL_isGrabbed_42 (k_rI ?_)
          refine x_iload hM dL_isGrabbed_45 rfl ?_
          refine x_same (tgt := 52) hM rfl dL_isGrabbed_47 (by decide) ?_
          refine x_aload_n hM dL_isGrabbed_52 rfl rfl ?_
          refine x_aload hM dL_isGrabbed_53 rfl ?_
          refine x_iload_n hM dL_isGrabbed_55 rfl rfl ?_
          refine x_callS hM ws_L_31 (m_L_meters (by assumption) (by omega)) ⟨Nat.le_of_ble_eq_true rfl, Nat.le_of_ble_eq_true rfl⟩ rfl rfl (Nat.le_of_ble_eq_true rfl) ⟨Nat.le_of_ble_eq_true rfl, Nat.le_of_ble_eq_true rfl⟩ dL_isGrabbed_56 (k_rI ?_)
          refine x_istore hM dL_isGrabbed_59 rfl (Nat.le_of_ble_eq_true rfl) rfl ?_
          refine x_aload_n hM dL_isGrabbed_61 rfl rfl ?_
          refine x_iload_n hM dL_isGrabbed_62 rfl rfl ?_
          refine x_iload_n hM dL_isGrabbed_63 rfl rfl ?_
          refine x_callV hM wv_L_90 (m_X6_grab o1.1 hh (by omega) (by omega) hgb) ⟨Nat.le_of_ble_eq_true rfl, Nat.le_of_ble_eq_true rfl⟩ (ob_o o1) rfl rfl rfl rfl (Nat.le_of_ble_eq_true rfl) ⟨Nat.le_of_ble_eq_true rfl, Nat.le_of_ble_eq_true rfl⟩ dL_isGrabbed_64 (k_qI fun x_64 w_64 q_64 => ?_)
          obtain ⟨rfl, q2, q3, qG⟩ := q_64
          have o3 := mu_ob o1 q2 _ q3 qG
          have r3 := r1.kp (qG _ (by omega)) (qG _ (by omega))
          refine x_istore hM dL_isGrabbed_67 rfl (Nat.le_of_ble_eq_true rfl) rfl ?_
          refine x_iload hM dL_isGrabbed_69 rfl ?_
          refine x_if_ge (tgt := 97) hM dL_isGrabbed_71 (by decide) (by omega) (fun c_71 => ?_) (fun c_71 => ?_)
          · refine x_aload_n hM dL_isGrabbed_97 rfl rfl ?_
            refine x_aload hM dL_isGrabbed_98 rfl ?_
            refine x_iload hM dL_isGrabbed_100 rfl ?_
            refine x_iload hM dL_isGrabbed_102 rfl ?_
            refine x_iload_n hM dL_isGrabbed_104 rfl rfl ?_
            refine x_iadd hM dL_isGrabbed_105 ?_
            refine x_iload_n hM dL_isGrabbed_106 rfl rfl ?_
            refine x_aload hM dL_isGrabbed_107 rfl ?_
            refine x_aload hM dL_isGrabbed_109 rfl ?_
            refine x_callS hM ws_L_66 (m_L_lay r3 hc ((qG _ (by omega)).trans ((f1 _ (by omega) (by omega)).trans z2)) ((qG _ (by omega)).trans ((f1 _ (by omega) (by omega)).trans z3)) (by omega) hl40 (by omega) (by omega)) ⟨Nat.le_of_ble_eq_true rfl, Nat.le_of_ble_eq_true rfl⟩ rfl rfl (Nat.le_of_ble_eq_true rfl) ⟨Nat.le_of_ble_eq_true rfl, Nat.le_of_ble_eq_true rfl⟩ dL_isGrabbed_111 (k_qV fun w_111 q_111 => ?_)
            obtain ⟨t4, f4⟩ := q_111
            have o4 := o3.kp (f4.kp (by omega) (by omega))
            have r4 := r3.kp (f4 _ (by omega) (by omega)) (f4 _ (by omega) (by omega))
            rw [hab] at t4
            obtain ⟨-, f, g, ⟨u1, u2, u3⟩, u4⟩ := id t4
            refine x_aload hM dL_isGrabbed_114 rfl ?_
            refine x_iconst hM dL_isGrabbed_116 ?_
            refine x_iald hM u1 (by omega) dL_isGrabbed_117 ?_
            refine x_bipush hM dL_isGrabbed_118 rfl ?_
            refine x_icmp_gt (tgt := 136) hM dL_isGrabbed_120 (by decide) (by omega) (by omega) (fun c_120 => ?_) (fun c_120 => ?_)
            · exfalso; omega
            · refine x_iload hM dL_isGrabbed_123 rfl ?_
              refine x_iload_n hM dL_isGrabbed_125 rfl rfl ?_
              refine x_iadd hM dL_isGrabbed_126 ?_
              refine x_aload_n hM dL_isGrabbed_127 rfl rfl ?_
              refine x_bipush hM dL_isGrabbed_128 rfl ?_
              refine x_callV hM wv_L_8 (o_c16 o4) ⟨Nat.le_of_ble_eq_true rfl, Nat.le_of_ble_eq_true rfl⟩ (ob_o o4) rfl rfl rfl rfl (Nat.le_of_ble_eq_true rfl) ⟨Nat.le_of_ble_eq_true rfl, Nat.le_of_ble_eq_true rfl⟩ dL_isGrabbed_130 (k_rI ?_)
              rw [es]
              refine x_icmp_le (tgt := 173) hM dL_isGrabbed_133 (by decide) (by omega) (by omega) (fun c_133 => ?_) (fun c_133 => ?_)
              · exfalso; omega
              · refine x_iload hM dL_isGrabbed_136 rfl ?_
                refine x_aload hM dL_isGrabbed_138 rfl ?_
                refine x_iconst hM dL_isGrabbed_140 ?_
                refine x_iald hM u1 (by omega) dL_isGrabbed_141 ?_
                refine x_bipush hM dL_isGrabbed_142 rfl ?_
                refine x_icmp_le (tgt := 152) hM dL_isGrabbed_144 (by decide) (by omega) (by omega) (fun c_144 => ?_) (fun c_144 => ?_)
                · refine x_bipush hM dL_isGrabbed_152 rfl ?_
                  refine x_sameN (tgt := 171) hM (by rw [hgF]) dL_isGrabbed_154 (by decide) ?_
                  refine x_aload_n hM dL_isGrabbed_157 rfl rfl ?_
                  refine x_aload_n hM dL_isGrabbed_158 rfl rfl ?_
                  refine x_aload hM dL_isGrabbed_159 rfl ?_
                  refine x_callS hM ws_L_81 (m_L_isRow o4 (by rw [hgF]; exact r4)) ⟨Nat.le_of_ble_eq_true rfl, Nat.le_of_ble_eq_true rfl⟩ rfl rfl (Nat.le_of_ble_eq_true rfl) ⟨Nat.le_of_ble_eq_true rfl, Nat.le_of_ble_eq_true rfl⟩ dL_isGrabbed_161 (k_rI ?_)
                  refine x_if_eq (tgt := 171) hM dL_isGrabbed_164 (by decide) (by omega) (fun c_164 => ?_) (fun c_164 => ?_)
                  · exfalso; omega
                  · refine x_iconst hM dL_isGrabbed_167 ?_
                    refine x_goto (tgt := 172) hM dL_isGrabbed_168 (by decide) ?_
                    refine hR.b dL_isGrabbed_172 rfl (Nat.le_refl _) (Nat.le_refl _) ?_
                    refine p_ac rfl (by omega) o4 ?_ ?_
                    · rw [hgF]; exact ivS_up hiv
                    · rw [hgF]
                · exfalso; omega
          · exfalso; omega
      · rw [if_neg c1] at hgv
        rw [hgv, if_pos (show (-4 : Int) < 0 by decide)] at hgF
        refine x_aload_n hM dL_isGrabbed_23 rfl rfl ?_
        refine x_aload_n hM dL_isGrabbed_24 rfl rfl ?_
        refine x_aload hM dL_isGrabbed_25 rfl ?_
        refine x_callS hM ws_L_45 (m_L_read o0 z0 z1 (by omega) (by omega)) ⟨Nat.le_of_ble_eq_true rfl, Nat.le_of_ble_eq_true rfl⟩ rfl rfl (Nat.le_of_ble_eq_true rfl) ⟨Nat.le_of_ble_eq_true rfl, Nat.le_of_ble_eq_true rfl⟩ dL_isGrabbed_27 (k_qV fun w_27 q_27 => ?_)
        obtain ⟨r1, f1⟩ := q_27
        have o1 := o0.kp (f1.kp (by omega) (by omega))
        obtain ⟨-, ⟨hs, hh⟩, -⟩ := id o1
        refine x_aload_n hM dL_isGrabbed_30 rfl rfl ?_
        refine x_aload hM dL_isGrabbed_31 rfl ?_
        refine x_iload_n hM dL_isGrabbed_33 rfl rfl ?_
        refine x_callS hM ws_L_88 (m_L_hole r1 hn) ⟨Nat.le_of_ble_eq_true rfl, Nat.le_of_ble_eq_true rfl⟩ rfl rfl (Nat.le_of_ble_eq_true rfl) ⟨Nat.le_of_ble_eq_true rfl, Nat.le_of_ble_eq_true rfl⟩ dL_isGrabbed_34 (k_rI ?_)
        rw [← ha]
        refine x_istore hM dL_isGrabbed_37 rfl (Nat.le_of_ble_eq_true rfl) rfl ?_
        refine x_aload_n hM dL_isGrabbed_39 rfl rfl ?_
        refine x_iload_n hM dL_isGrabbed_40 rfl rfl ?_
        refine x_iconst hM dL_isGrabbed_41 ?_
        refine x_callV hM wv_L_52 ((o_hol (v := a)) o1 hn (by omega) ha.symm) ⟨Nat.le_of_ble_eq_true rfl, Nat.le_of_ble_eq_true rfl⟩ (ob_o o1) rfl rfl rfl rfl (Nat.le_of_ble_eq_true rfl) ⟨Nat.le_of_ble_eq_true rfl, Nat.le_of_ble_eq_true rfl⟩ dL_isGrabbed_42 (k_rI ?_)
        refine x_iload hM dL_isGrabbed_45 rfl ?_
        refine x_same (tgt := 52) hM rfl dL_isGrabbed_47 (by decide) ?_
        refine x_aload_n hM dL_isGrabbed_52 rfl rfl ?_
        refine x_aload hM dL_isGrabbed_53 rfl ?_
        refine x_iload_n hM dL_isGrabbed_55 rfl rfl ?_
        refine x_callS hM ws_L_31 (m_L_meters (by assumption) (by omega)) ⟨Nat.le_of_ble_eq_true rfl, Nat.le_of_ble_eq_true rfl⟩ rfl rfl (Nat.le_of_ble_eq_true rfl) ⟨Nat.le_of_ble_eq_true rfl, Nat.le_of_ble_eq_true rfl⟩ dL_isGrabbed_56 (k_rI ?_)
        refine x_istore hM dL_isGrabbed_59 rfl (Nat.le_of_ble_eq_true rfl) rfl ?_
        refine x_aload_n hM dL_isGrabbed_61 rfl rfl ?_
        refine x_iload_n hM dL_isGrabbed_62 rfl rfl ?_
        refine x_iload_n hM dL_isGrabbed_63 rfl rfl ?_
        refine x_callV hM wv_L_90 (m_X6_grab o1.1 hh (by omega) (by omega) hgb) ⟨Nat.le_of_ble_eq_true rfl, Nat.le_of_ble_eq_true rfl⟩ (ob_o o1) rfl rfl rfl rfl (Nat.le_of_ble_eq_true rfl) ⟨Nat.le_of_ble_eq_true rfl, Nat.le_of_ble_eq_true rfl⟩ dL_isGrabbed_64 (k_qI fun x_64 w_64 q_64 => ?_)
        obtain ⟨rfl, q2, q3, qG⟩ := q_64
        have o3 := mu_ob o1 q2 _ q3 qG
        have r3 := r1.kp (qG _ (by omega)) (qG _ (by omega))
        refine x_istore hM dL_isGrabbed_67 rfl (Nat.le_of_ble_eq_true rfl) rfl ?_
        refine x_iload hM dL_isGrabbed_69 rfl ?_
        refine x_if_ge (tgt := 97) hM dL_isGrabbed_71 (by decide) (by omega) (fun c_71 => ?_) (fun c_71 => ?_)
        · refine x_aload_n hM dL_isGrabbed_97 rfl rfl ?_
          refine x_aload hM dL_isGrabbed_98 rfl ?_
          refine x_iload hM dL_isGrabbed_100 rfl ?_
          refine x_iload hM dL_isGrabbed_102 rfl ?_
          refine x_iload_n hM dL_isGrabbed_104 rfl rfl ?_
          refine x_iadd hM dL_isGrabbed_105 ?_
          refine x_iload_n hM dL_isGrabbed_106 rfl rfl ?_
          refine x_aload hM dL_isGrabbed_107 rfl ?_
          refine x_aload hM dL_isGrabbed_109 rfl ?_
          refine x_callS hM ws_L_66 (m_L_lay r3 hc ((qG _ (by omega)).trans ((f1 _ (by omega) (by omega)).trans z2)) ((qG _ (by omega)).trans ((f1 _ (by omega) (by omega)).trans z3)) (by omega) hl40 (by omega) (by omega)) ⟨Nat.le_of_ble_eq_true rfl, Nat.le_of_ble_eq_true rfl⟩ rfl rfl (Nat.le_of_ble_eq_true rfl) ⟨Nat.le_of_ble_eq_true rfl, Nat.le_of_ble_eq_true rfl⟩ dL_isGrabbed_111 (k_qV fun w_111 q_111 => ?_)
          obtain ⟨t4, f4⟩ := q_111
          have o4 := o3.kp (f4.kp (by omega) (by omega))
          have r4 := r3.kp (f4 _ (by omega) (by omega)) (f4 _ (by omega) (by omega))
          rw [hab] at t4
          obtain ⟨-, f, g, ⟨u1, u2, u3⟩, u4⟩ := id t4
          refine x_aload hM dL_isGrabbed_114 rfl ?_
          refine x_iconst hM dL_isGrabbed_116 ?_
          refine x_iald hM u1 (by omega) dL_isGrabbed_117 ?_
          refine x_bipush hM dL_isGrabbed_118 rfl ?_
          refine x_icmp_gt (tgt := 136) hM dL_isGrabbed_120 (by decide) (by omega) (by omega) (fun c_120 => ?_) (fun c_120 => ?_)
          · refine x_iload hM dL_isGrabbed_136 rfl ?_
            refine x_aload hM dL_isGrabbed_138 rfl ?_
            refine x_iconst hM dL_isGrabbed_140 ?_
            refine x_iald hM u1 (by omega) dL_isGrabbed_141 ?_
            refine x_bipush hM dL_isGrabbed_142 rfl ?_
            refine x_icmp_le (tgt := 152) hM dL_isGrabbed_144 (by decide) (by omega) (by omega) (fun c_144 => ?_) (fun c_144 => ?_)
            · exfalso; omega
            · refine x_bipush hM dL_isGrabbed_147 rfl ?_
              refine x_goto (tgt := 154) hM dL_isGrabbed_149 (by decide) ?_
              refine x_sameN (tgt := 171) hM (by rw [hgF]) dL_isGrabbed_154 (by decide) ?_
              refine x_aload_n hM dL_isGrabbed_157 rfl rfl ?_
              refine x_aload_n hM dL_isGrabbed_158 rfl rfl ?_
              refine x_aload hM dL_isGrabbed_159 rfl ?_
              refine x_callS hM ws_L_81 (m_L_isRow o4 (by rw [hgF]; exact r4)) ⟨Nat.le_of_ble_eq_true rfl, Nat.le_of_ble_eq_true rfl⟩ rfl rfl (Nat.le_of_ble_eq_true rfl) ⟨Nat.le_of_ble_eq_true rfl, Nat.le_of_ble_eq_true rfl⟩ dL_isGrabbed_161 (k_rI ?_)
              refine x_if_eq (tgt := 171) hM dL_isGrabbed_164 (by decide) (by omega) (fun c_164 => ?_) (fun c_164 => ?_)
              · exfalso; omega
              · refine x_iconst hM dL_isGrabbed_167 ?_
                refine x_goto (tgt := 172) hM dL_isGrabbed_168 (by decide) ?_
                refine hR.b dL_isGrabbed_172 rfl (Nat.le_refl _) (Nat.le_refl _) ?_
                refine p_ac rfl (by omega) o4 ?_ ?_
                · rw [hgF]; exact ivS_up hiv
                · rw [hgF]
          · exfalso; omega
        · exfalso; omega
  refine x_bipush hM dL_isGrabbed_0 rfl ?_
  refine x_newI  hM wy_int (by omega) rfl (by omega) (Nat.le_of_ble_eq_true rfl) (Nat.le_of_ble_eq_true rfl) dL_isGrabbed_2 ?_
  refine x_astore_n hM dL_isGrabbed_4 rfl rfl (Nat.le_of_ble_eq_true rfl) rfl ?_
  refine x_bipush hM dL_isGrabbed_5 rfl ?_
  refine x_newI  hM wy_int (by omega) rfl (by omega) (Nat.le_of_ble_eq_true rfl) (Nat.le_of_ble_eq_true rfl) dL_isGrabbed_7 ?_
  refine x_astore hM dL_isGrabbed_9 rfl (Nat.le_of_ble_eq_true rfl) rfl ?_
  refine x_bipush hM dL_isGrabbed_11 rfl ?_
  refine x_newI  hM wy_int (by omega) rfl (by omega) (Nat.le_of_ble_eq_true rfl) (Nat.le_of_ble_eq_true rfl) dL_isGrabbed_13 ?_
  refine x_astore hM dL_isGrabbed_15 rfl (Nat.le_of_ble_eq_true rfl) rfl ?_
  refine x_bipush hM dL_isGrabbed_17 rfl ?_
  refine x_newI  hM wy_int (by omega) rfl (by omega) (Nat.le_of_ble_eq_true rfl) (Nat.le_of_ble_eq_true rfl) dL_isGrabbed_19 ?_
  refine x_astore hM dL_isGrabbed_21 rfl (Nat.le_of_ble_eq_true rfl) rfl ?_
  exact B _ (w4_ob h (by omega)) w4_0 w4_1 w4_2 w4_3
theorem m_L_isInherited {l : Launch} {G : xG} {w : Wd} {z x c : Nat} {s : St} {o h2 : Int} (h : obA G w x s) (hiv : ivS c s) (hz : x + 215 ≤ z) (ho : 0 ≤ o ∧ o < s.own) (hh2 : 0 ≤ h2 ∧ h2 < s.own) : xMet l G yL_isInherited cL_isInherited 12 (some .boolean) ({ frames := 6, cells := 4, slots := 256, locals := 142 } : Room) [.ref x, .int (iI o), .int (iI h2)] w z (acQ G x c z s) := by
  obtain ⟨hc, hl40, how, -, hown, -⟩ := id hiv
  have hW := (ob_W h).2.1
  have hs4 := (ob_W h).1.2.2.2.2.2.2
  have hlt := okS_lt hW
  have hmo := mtsO_nn s.L o hW.2
  have hmh := mtsO_nn s.L h2 hW.2
  have hl42 := hW.1
  refine xMet_of RL rfl (by decide +kernel) false (by decide +kernel) (Nat.le_of_ble_eq_true rfl) rfl ?_
  intro P hM hR
  by_cases cE : o = h2
  · have hin : inF s o h2 = (-1, s) := by unfold inF; rw [if_neg (fun q => q.2.2 cE)]
    obtain ⟨-, ⟨hs, hh⟩, -⟩ := id h
    refine x_iload_n hM dL_isInherited_0 rfl rfl ?_
    refine x_iload_n hM dL_isInherited_1 rfl rfl ?_
    refine x_icmp_ne (tgt := 21) hM dL_isInherited_2 (by decide) (by omega) (by omega) (fun c_2 => ?_) (fun c_2 => ?_)
    · exfalso; omega
    · refine x_aload_n hM dL_isInherited_5 rfl rfl ?_
      refine x_iload_n hM dL_isInherited_6 rfl rfl ?_
      refine x_iload_n hM dL_isInherited_7 rfl rfl ?_
      refine x_callV hM wv_L_93 (m_X6_inherit h.1 hh (by omega) (by omega) (by rw [hin]; show -2147483648 ≤ (-1 : Int) ∧ (-1 : Int) ≤ 2147483647; omega)) ⟨Nat.le_of_ble_eq_true rfl, Nat.le_of_ble_eq_true rfl⟩ (ob_o h) rfl rfl rfl rfl (Nat.le_of_ble_eq_true rfl) ⟨Nat.le_of_ble_eq_true rfl, Nat.le_of_ble_eq_true rfl⟩ dL_isInherited_8 (k_qI fun x_8 w_8 q_8 => ?_)
      obtain ⟨rfl, q2, q3, qG⟩ := q_8
      have o3 := mu_ob h q2 _ q3 qG
      refine x_iconst hM dL_isInherited_11 ?_
      refine x_sameN (tgt := 19) hM (by rw [hin]) dL_isInherited_12 (by decide) ?_
      refine x_iconst hM dL_isInherited_15 ?_
      refine x_goto (tgt := 20) hM dL_isInherited_16 (by decide) ?_
      refine hR.b dL_isInherited_20 rfl (Nat.zero_le _) (Nat.zero_le _) ?_
      refine p_ac rfl (by omega) o3 ?_ ?_
      · rw [hin]; exact ivS_up hiv
      · rw [hin]
  · have hi2 := inh_ad (o := o) (h := h2) hl40
    have hic := inh_can (o := o) (h := h2) hc hlt hl40
    have hio := inh_own (o := o) (h := h2) hl40 how hh2.2
    have hin : inF s o h2 = (if mtsO s.L o = 0 ∨ mtsO s.L h2 + mtsO s.L o ≤ s.set 4 then (mtsO s.L o, mkS (inhF s.L o h2) s.set s.mon s.tax s.los s.D s.own s.day s.clo s.fee) else (-5, s)) := by
      unfold inF
      rw [if_pos ⟨ho, hh2, cE⟩]
    have hib : iR (inF s o h2).1 := by
      rw [hin]
      split
      · show -2147483648 ≤ mtsO s.L o ∧ mtsO s.L o ≤ 2147483647; omega
      · show -2147483648 ≤ (-5 : Int) ∧ (-5 : Int) ≤ 2147483647; omega
    have S : ∀ (mv : Int) (w1 : Wd), (mv = 1 ∧ (mtsO s.L o = 0 ∨ mtsO s.L h2 + mtsO s.L o ≤ s.set 4) ∨ mv = 0 ∧ ¬ (mtsO s.L o = 0 ∨ mtsO s.L h2 + mtsO s.L o ≤ s.set 4)) → obA G w1 x s → rsA G w1 z (z + 1) s.L → w1 (z + 2) = some (aI G 64 (fun _ => 0)) → w1 (z + 3) = some (aI G 64 (fun _ => 0)) → P 89 [some (.ref x), some (.int (iI o)), some (.int (iI h2)), some (.ref z), some (.ref (z + 1)), some (.ref (z + 2)), some (.ref (z + 3)), some (.int (iI (mtsO s.L o))), none, none, none, none] [.int (iI mv)] w1 (z + 4, 4, 256) := by
      intro mv w1 hmv o1 r1 t1 t2
      obtain ⟨-, ⟨hs, hh⟩, -⟩ := id o1
      by_cases c2 : mtsO s.L o = 0 ∨ mtsO s.L h2 + mtsO s.L o ≤ s.set 4
      · rw [if_pos c2] at hin
        obtain rfl : mv = 1 := by omega
        have T127 : ∀ w5 : Wd, obA G w5 x (inF s o h2).2 → rsA G w5 z (z + 1) s.L → w5 (z + 2) = some (aI G 64 (fun _ => 0)) → w5 (z + 3) = some (aI G 64 (fun _ => 0)) → P 127 [some (.ref x), some (.int (iI o)), some (.int (iI h2)), some (.ref z), some (.ref (z + 1)), some (.ref (z + 2)), some (.ref (z + 3)), some (.int (iI (mtsO s.L o))), some (.int (iI 1)), some (.int (iI (inF s o h2).1)), none, none] [] w5 (z + 4, 4, 256) := by
          intro w5 o3 r3 t3 t4
          obtain ⟨-, f, g, ⟨u1, u2, u3⟩, u4⟩ := id r3
          have mono := fun (M T : List Sg) => (adL_len M T).1
          have K : ∀ (j i : Nat) (T : List Sg) (w2 : Wd), i + j = s.L.length → adL T ((s.L.drop i).map (inhP o h2)) = inhF s.L o h2 → arA G w2 (z + 2) (z + 3) T → Fa (z + 2) (z + 3) w5 w2 → P 133 [some (.ref x), some (.int (iI o)), some (.int (iI h2)), some (.ref z), some (.ref (z + 1)), some (.ref (z + 2)), some (.ref (z + 3)), some (.int (iI (mtsO s.L o))), some (.int (iI 1)), some (.int (iI (inF s o h2).1)), some (.int (iI T.length)), some (.int (iI i))] [] w2 (z + 4, 4, 256) := by
            intro j
            induction j with
            | zero =>
              intro i T w2 hij hinv hA hF
              rw [List.drop_of_length_le (by omega)] at hinv
              have hinv : T = inhF s.L o h2 := hinv
              subst hinv
              obtain ⟨k0, f2, g2, k1, k2, k3⟩ := hA
              have r4 := r3.kp (hF z (by omega) (by omega)) (hF (z + 1) (by omega) (by omega))
              obtain ⟨-, f, g, ⟨v1, v2, v3⟩, v4⟩ := id r4
              refine x_iload hM dL_isInherited_133 rfl ?_
              refine x_aload_n hM dL_isInherited_135 rfl rfl ?_
              refine x_iconst hM dL_isInherited_136 ?_
              refine x_iald hM v1 (by omega) dL_isInherited_137 ?_
              refine x_icmp_ge (tgt := 191) hM dL_isInherited_138 (by decide) (by omega) (by omega) (fun c_138 => ?_) (fun c_138 => ?_)
              · refine x_aload hM dL_isInherited_191 rfl ?_
                refine x_iconst hM dL_isInherited_193 ?_
                refine x_iload hM dL_isInherited_194 rfl ?_
                refine x_iast hM k1 (by omega) dL_isInherited_196 ?_
                have t5 : rsA G (wS w2 (z + 2) (aI G 64 (fU f2 0 (inhF s.L o h2).length))) (z + 2) (z + 3) (inhF s.L o h2) := ⟨⟨by omega, k0⟩, _, g2, ⟨wS_eq, (wS_ne (by omega)).trans k2, fun q hq => by rw [fU_ne (by omega)]; exact k3 q hq⟩, fU_eq⟩
                have o5 : obA G (wS w2 (z + 2) (aI G 64 (fU f2 0 (inhF s.L o h2).length))) x (inF s o h2).2 := (o3.kp (hF.kp (by omega) (by omega))).kp (Kp.wS (by omega))
                refine x_iload hM dL_isInherited_197 rfl ?_
                refine x_iload hM dL_isInherited_199 rfl ?_
                refine x_sameN (tgt := 219) hM (by rw [hin]) dL_isInherited_201 (by decide) ?_
                refine x_aload_n hM dL_isInherited_204 rfl rfl ?_
                refine x_aload hM dL_isInherited_205 rfl ?_
                refine x_aload hM dL_isInherited_207 rfl ?_
                refine x_callS hM ws_L_81 (m_L_isRow o5 (by rw [hin]; exact t5)) ⟨Nat.le_of_ble_eq_true rfl, Nat.le_of_ble_eq_true rfl⟩ rfl rfl (Nat.le_of_ble_eq_true rfl) ⟨Nat.le_of_ble_eq_true rfl, Nat.le_of_ble_eq_true rfl⟩ dL_isInherited_209 (k_rI ?_)
                refine x_if_eq (tgt := 219) hM dL_isInherited_212 (by decide) (by omega) (fun c_212 => ?_) (fun c_212 => ?_)
                · exfalso; omega
                · refine x_iconst hM dL_isInherited_215 ?_
                  refine x_goto (tgt := 220) hM dL_isInherited_216 (by decide) ?_
                  refine hR.b dL_isInherited_220 rfl (Nat.le_refl _) (Nat.le_refl _) ?_
                  refine p_ac rfl (by omega) o5 ?_ ?_
                  · rw [hin]; exact ivS_L (ivS_up hiv) hic (by omega) hio
                  · rw [hin]
              · exfalso; omega
            | succ j ih =>
              intro i T w2 hij hinv hA hF
              have hi : i < s.L.length := by omega
              have hok := strW_at hW hi
              have r4 := r3.kp (hF z (by omega) (by omega)) (hF (z + 1) (by omega) (by omega))
              obtain ⟨-, f, g, ⟨v1, v2, v3⟩, v4⟩ := id r4
              have e1 := (v3 i hi).2
              have hTl := mono ((s.L.drop i).map (inhP o h2)) T
              rw [hinv] at hTl
              rw [List.drop_eq_getElem_cons hi, List.map_cons, adL_cons] at hinv
              refine x_iload hM dL_isInherited_133 rfl ?_
              refine x_aload_n hM dL_isInherited_135 rfl rfl ?_
              refine x_iconst hM dL_isInherited_136 ?_
              refine x_iald hM v1 (by omega) dL_isInherited_137 ?_
              refine x_icmp_ge (tgt := 191) hM dL_isInherited_138 (by decide) (by omega) (by omega) (fun c_138 => ?_) (fun c_138 => ?_)
              · exfalso; omega
              · refine x_aload hM dL_isInherited_141 rfl ?_
                refine x_aload hM dL_isInherited_143 rfl ?_
                refine x_iload hM dL_isInherited_145 rfl ?_
                refine x_aload_n hM dL_isInherited_147 rfl rfl ?_
                refine x_iload hM dL_isInherited_148 rfl ?_
                refine x_callS hM ws_L_18 (m_L_firstOf r4 hi) ⟨Nat.le_of_ble_eq_true rfl, Nat.le_of_ble_eq_true rfl⟩ rfl rfl (Nat.le_of_ble_eq_true rfl) ⟨Nat.le_of_ble_eq_true rfl, Nat.le_of_ble_eq_true rfl⟩ dL_isInherited_150 (k_rI ?_)
                refine x_aload hM dL_isInherited_153 rfl ?_
                refine x_iconst hM dL_isInherited_155 ?_
                refine x_iload hM dL_isInherited_156 rfl ?_
                refine x_iadd hM dL_isInherited_158 ?_
                refine x_iald hM v2 (by omega) dL_isInherited_159 ?_
                rw [e1]
                refine x_aload_n hM dL_isInherited_160 rfl rfl ?_
                refine x_iload hM dL_isInherited_161 rfl ?_
                refine x_callS hM ws_L_28 (m_L_ownerOf r4 hi) ⟨Nat.le_of_ble_eq_true rfl, Nat.le_of_ble_eq_true rfl⟩ rfl rfl (Nat.le_of_ble_eq_true rfl) ⟨Nat.le_of_ble_eq_true rfl, Nat.le_of_ble_eq_true rfl⟩ dL_isInherited_163 (k_rI ?_)
                refine x_iload_n hM dL_isInherited_166 rfl rfl ?_
                refine x_icmp_ne (tgt := 174) hM dL_isInherited_167 (by decide) (by omega) (by omega) (fun c_167 => ?_) (fun c_167 => ?_)
                · refine x_aload_n hM dL_isInherited_174 rfl rfl ?_
                  refine x_iload hM dL_isInherited_175 rfl ?_
                  refine x_callS hM ws_L_28 (m_L_ownerOf r4 hi) ⟨Nat.le_of_ble_eq_true rfl, Nat.le_of_ble_eq_true rfl⟩ rfl rfl (Nat.le_of_ble_eq_true rfl) ⟨Nat.le_of_ble_eq_true rfl, Nat.le_of_ble_eq_true rfl⟩ dL_isInherited_177 (k_rI ?_)
                  refine x_callS hM ws_L_24 (m_L_add hA (by omega) (by omega) (by omega)) ⟨Nat.le_of_ble_eq_true rfl, Nat.le_of_ble_eq_true rfl⟩ rfl rfl (Nat.le_of_ble_eq_true rfl) ⟨Nat.le_of_ble_eq_true rfl, Nat.le_of_ble_eq_true rfl⟩ dL_isInherited_180 (k_qI fun x_180 w_180 q_180 => ?_)
                  obtain ⟨rfl, qA, qF⟩ := q_180
                  refine x_istore hM dL_isInherited_183 rfl (Nat.le_of_ble_eq_true rfl) rfl ?_
                  refine x_iinc hM dL_isInherited_185 rfl rfl rfl ?_
                  refine x_goto (tgt := 133) hM dL_isInherited_188 (by decide) ?_
                  refine ih (i + 1) _ _ (by omega) ?_ qA (hF.tr qF)
                  rw [← hinv]; unfold adS inhP; first | rw [if_pos (show s.L[i].1 = o by omega)] | rw [if_neg (show ¬ s.L[i].1 = o by omega)]
                · refine x_iload_n hM dL_isInherited_170 rfl rfl ?_
                  refine x_goto (tgt := 180) hM dL_isInherited_171 (by decide) ?_
                  refine x_callS hM ws_L_24 (m_L_add hA (by omega) (by omega) (by omega)) ⟨Nat.le_of_ble_eq_true rfl, Nat.le_of_ble_eq_true rfl⟩ rfl rfl (Nat.le_of_ble_eq_true rfl) ⟨Nat.le_of_ble_eq_true rfl, Nat.le_of_ble_eq_true rfl⟩ dL_isInherited_180 (k_qI fun x_180 w_180 q_180 => ?_)
                  obtain ⟨rfl, qA, qF⟩ := q_180
                  refine x_istore hM dL_isInherited_183 rfl (Nat.le_of_ble_eq_true rfl) rfl ?_
                  refine x_iinc hM dL_isInherited_185 rfl rfl rfl ?_
                  refine x_goto (tgt := 133) hM dL_isInherited_188 (by decide) ?_
                  refine ih (i + 1) _ _ (by omega) ?_ qA (hF.tr qF)
                  rw [← hinv]; unfold adS inhP; first | rw [if_pos (show s.L[i].1 = o by omega)] | rw [if_neg (show ¬ s.L[i].1 = o by omega)]
          refine x_iconst hM dL_isInherited_127 ?_
          refine x_istore hM dL_isInherited_128 rfl (Nat.le_of_ble_eq_true rfl) rfl ?_
          refine x_iconst hM dL_isInherited_130 ?_
          refine x_istore hM dL_isInherited_131 rfl (Nat.le_of_ble_eq_true rfl) rfl ?_
          exact K s.L.length 0 [] _ (by omega) (by rw [hi2.1]; rfl) ⟨fun s hs => absurd hs List.not_mem_nil, _, _, t3, t4, fun i hi => absurd hi (by simp)⟩ Fa.rf
        refine x_istore hM dL_isInherited_89 rfl (Nat.le_of_ble_eq_true rfl) rfl ?_
        refine x_aload_n hM dL_isInherited_91 rfl rfl ?_
        refine x_iload_n hM dL_isInherited_92 rfl rfl ?_
        refine x_iload_n hM dL_isInherited_93 rfl rfl ?_
        refine x_callV hM wv_L_93 (m_X6_inherit o1.1 hh (by omega) (by omega) hib) ⟨Nat.le_of_ble_eq_true rfl, Nat.le_of_ble_eq_true rfl⟩ (ob_o o1) rfl rfl rfl rfl (Nat.le_of_ble_eq_true rfl) ⟨Nat.le_of_ble_eq_true rfl, Nat.le_of_ble_eq_true rfl⟩ dL_isInherited_94 (k_qI fun x_94 w_94 q_94 => ?_)
        obtain ⟨rfl, q2, q3, qG⟩ := q_94
        have o3 := mu_ob o1 q2 _ q3 qG
        have r3 := r1.kp (qG _ (by omega)) (qG _ (by omega))
        refine x_istore hM dL_isInherited_97 rfl (Nat.le_of_ble_eq_true rfl) rfl ?_
        refine x_iload hM dL_isInherited_99 rfl ?_
        refine x_if_ne (tgt := 127) hM dL_isInherited_101 (by decide) (by omega) (fun c_101 => ?_) (fun c_101 => ?_)
        · exact T127 _ o3 r3 ((qG _ (by omega)).trans t1) ((qG _ (by omega)).trans t2)
        · exfalso; omega
      · rw [if_neg c2] at hin
        obtain rfl : mv = 0 := by omega
        refine x_istore hM dL_isInherited_89 rfl (Nat.le_of_ble_eq_true rfl) rfl ?_
        refine x_aload_n hM dL_isInherited_91 rfl rfl ?_
        refine x_iload_n hM dL_isInherited_92 rfl rfl ?_
        refine x_iload_n hM dL_isInherited_93 rfl rfl ?_
        refine x_callV hM wv_L_93 (m_X6_inherit o1.1 hh (by omega) (by omega) hib) ⟨Nat.le_of_ble_eq_true rfl, Nat.le_of_ble_eq_true rfl⟩ (ob_o o1) rfl rfl rfl rfl (Nat.le_of_ble_eq_true rfl) ⟨Nat.le_of_ble_eq_true rfl, Nat.le_of_ble_eq_true rfl⟩ dL_isInherited_94 (k_qI fun x_94 w_94 q_94 => ?_)
        obtain ⟨rfl, q2, q3, qG⟩ := q_94
        have o3 := mu_ob o1 q2 _ q3 qG
        have r3 := r1.kp (qG _ (by omega)) (qG _ (by omega))
        refine x_istore hM dL_isInherited_97 rfl (Nat.le_of_ble_eq_true rfl) rfl ?_
        refine x_iload hM dL_isInherited_99 rfl ?_
        refine x_if_ne (tgt := 127) hM dL_isInherited_101 (by decide) (by omega) (fun c_101 => ?_) (fun c_101 => ?_)
        · exfalso; omega
        · refine x_iload hM dL_isInherited_104 rfl ?_
          refine x_bipush hM dL_isInherited_106 rfl ?_
          refine x_sameN (tgt := 125) hM (by rw [hin]) dL_isInherited_108 (by decide) ?_
          refine x_aload_n hM dL_isInherited_111 rfl rfl ?_
          refine x_aload_n hM dL_isInherited_112 rfl rfl ?_
          refine x_aload hM dL_isInherited_113 rfl ?_
          refine x_callS hM ws_L_81 (m_L_isRow o3 (by rw [hin]; exact r3)) ⟨Nat.le_of_ble_eq_true rfl, Nat.le_of_ble_eq_true rfl⟩ rfl rfl (Nat.le_of_ble_eq_true rfl) ⟨Nat.le_of_ble_eq_true rfl, Nat.le_of_ble_eq_true rfl⟩ dL_isInherited_115 (k_rI ?_)
          refine x_if_eq (tgt := 125) hM dL_isInherited_118 (by decide) (by omega) (fun c_118 => ?_) (fun c_118 => ?_)
          · exfalso; omega
          · refine x_iconst hM dL_isInherited_121 ?_
            refine x_goto (tgt := 126) hM dL_isInherited_122 (by decide) ?_
            refine hR.b dL_isInherited_126 rfl (Nat.le_refl _) (Nat.le_refl _) ?_
            refine p_ac rfl (by omega) o3 ?_ ?_
            · rw [hin]; exact ivS_up hiv
            · rw [hin]
    have B : ∀ w4 : Wd, obA G w4 x s → w4 z = some (aI G 64 (fun _ => 0)) → w4 (z + 1) = some (aI G 64 (fun _ => 0)) → w4 (z + 2) = some (aI G 64 (fun _ => 0)) → w4 (z + 3) = some (aI G 64 (fun _ => 0)) → P 44 [some (.ref x), some (.int (iI o)), some (.int (iI h2)), some (.ref z), some (.ref (z + 1)), some (.ref (z + 2)), some (.ref (z + 3)), none, none, none, none, none] [] w4 (z + 4, 4, 256) := by
      intro w4 o0 z0 z1 z2 z3
      refine x_aload_n hM dL_isInherited_44 rfl rfl ?_
      refine x_aload_n hM dL_isInherited_45 rfl rfl ?_
      refine x_aload hM dL_isInherited_46 rfl ?_
      refine x_callS hM ws_L_45 (m_L_read o0 z0 z1 (by omega) (by omega)) ⟨Nat.le_of_ble_eq_true rfl, Nat.le_of_ble_eq_true rfl⟩ rfl rfl (Nat.le_of_ble_eq_true rfl) ⟨Nat.le_of_ble_eq_true rfl, Nat.le_of_ble_eq_true rfl⟩ dL_isInherited_48 (k_qV fun w_48 q_48 => ?_)
      obtain ⟨r1, f1⟩ := q_48
      have o1 := o0.kp (f1.kp (by omega) (by omega))
      refine x_aload_n hM dL_isInherited_51 rfl rfl ?_
      refine x_aload hM dL_isInherited_52 rfl ?_
      refine x_iload_n hM dL_isInherited_54 rfl rfl ?_
      refine x_callS hM ws_L_31 (m_L_meters r1 (by omega)) ⟨Nat.le_of_ble_eq_true rfl, Nat.le_of_ble_eq_true rfl⟩ rfl rfl (Nat.le_of_ble_eq_true rfl) ⟨Nat.le_of_ble_eq_true rfl, Nat.le_of_ble_eq_true rfl⟩ dL_isInherited_55 (k_rI ?_)
      refine x_istore hM dL_isInherited_58 rfl (Nat.le_of_ble_eq_true rfl) rfl ?_
      refine x_iload hM dL_isInherited_60 rfl ?_
      refine x_if_eq (tgt := 84) hM dL_isInherited_62 (by decide) (by omega) (fun c_62 => ?_) (fun c_62 => ?_)
      · refine x_iconst hM dL_isInherited_84 ?_
        refine x_goto (tgt := 89) hM dL_isInherited_85 (by decide) ?_
        exact S _ _ (by omega) o1 r1 ((f1 _ (by omega) (by omega)).trans z2) ((f1 _ (by omega) (by omega)).trans z3)
      · refine x_iload hM dL_isInherited_65 rfl ?_
        refine x_aload_n hM dL_isInherited_67 rfl rfl ?_
        refine x_aload hM dL_isInherited_68 rfl ?_
        refine x_iload_n hM dL_isInherited_70 rfl rfl ?_
        refine x_callS hM ws_L_31 (m_L_meters r1 (by omega)) ⟨Nat.le_of_ble_eq_true rfl, Nat.le_of_ble_eq_true rfl⟩ rfl rfl (Nat.le_of_ble_eq_true rfl) ⟨Nat.le_of_ble_eq_true rfl, Nat.le_of_ble_eq_true rfl⟩ dL_isInherited_71 (k_rI ?_)
        refine x_iadd hM dL_isInherited_74 ?_
        refine x_aload_n hM dL_isInherited_75 rfl rfl ?_
        refine x_bipush hM dL_isInherited_76 rfl ?_
        refine x_callV hM wv_L_8 (o_c16 o1) ⟨Nat.le_of_ble_eq_true rfl, Nat.le_of_ble_eq_true rfl⟩ (ob_o o1) rfl rfl rfl rfl (Nat.le_of_ble_eq_true rfl) ⟨Nat.le_of_ble_eq_true rfl, Nat.le_of_ble_eq_true rfl⟩ dL_isInherited_78 (k_rI ?_)
        refine x_icmp_gt (tgt := 88) hM dL_isInherited_81 (by decide) (by omega) (by omega) (fun c_81 => ?_) (fun c_81 => ?_)
        · refine x_iconst hM dL_isInherited_88 ?_
          exact S _ _ (by omega) o1 r1 ((f1 _ (by omega) (by omega)).trans z2) ((f1 _ (by omega) (by omega)).trans z3)
        · refine x_iconst hM dL_isInherited_84 ?_
          refine x_goto (tgt := 89) hM dL_isInherited_85 (by decide) ?_
          exact S _ _ (by omega) o1 r1 ((f1 _ (by omega) (by omega)).trans z2) ((f1 _ (by omega) (by omega)).trans z3)
    refine x_iload_n hM dL_isInherited_0 rfl rfl ?_
    refine x_iload_n hM dL_isInherited_1 rfl rfl ?_
    refine x_icmp_ne (tgt := 21) hM dL_isInherited_2 (by decide) (by omega) (by omega) (fun c_2 => ?_) (fun c_2 => ?_)
    · refine x_bipush hM dL_isInherited_21 rfl ?_
      refine x_newI  hM wy_int (by omega) rfl (by omega) (Nat.le_of_ble_eq_true rfl) (Nat.le_of_ble_eq_true rfl) dL_isInherited_23 ?_
      refine x_astore_n hM dL_isInherited_25 rfl rfl (Nat.le_of_ble_eq_true rfl) rfl ?_
      refine x_bipush hM dL_isInherited_26 rfl ?_
      refine x_newI  hM wy_int (by omega) rfl (by omega) (Nat.le_of_ble_eq_true rfl) (Nat.le_of_ble_eq_true rfl) dL_isInherited_28 ?_
      refine x_astore hM dL_isInherited_30 rfl (Nat.le_of_ble_eq_true rfl) rfl ?_
      refine x_bipush hM dL_isInherited_32 rfl ?_
      refine x_newI  hM wy_int (by omega) rfl (by omega) (Nat.le_of_ble_eq_true rfl) (Nat.le_of_ble_eq_true rfl) dL_isInherited_34 ?_
      refine x_astore hM dL_isInherited_36 rfl (Nat.le_of_ble_eq_true rfl) rfl ?_
      refine x_bipush hM dL_isInherited_38 rfl ?_
      refine x_newI  hM wy_int (by omega) rfl (by omega) (Nat.le_of_ble_eq_true rfl) (Nat.le_of_ble_eq_true rfl) dL_isInherited_40 ?_
      refine x_astore hM dL_isInherited_42 rfl (Nat.le_of_ble_eq_true rfl) rfl ?_
      exact B _ (w4_ob h (by omega)) w4_0 w4_1 w4_2 w4_3
    · exfalso; omega
