/-! The reference: its constructor -/
def St0R : St := mkS [(-6, 0, 10000)] (sv_f 0) (fun _ => 0) (fun _ => 0) (fun _ => 0) [] 0 0 0 0
theorem nowP_0 {f : Int → Int} (h0 : f 0 = 10) (h1 : f 1 = 25) (h2 : f 2 = 5) (h3 : f 3 = 1) (h4 : f 4 = 10000) (h7 : f 7 = 1) (h100 : f 100 = 0) (h101 : f 101 = -6) (hz : ∀ j : Int, j = 5 ∨ j = 6 ∨ (8 ≤ j ∧ j < 100) → f j = 0) : nowP f St0R := by
  refine ⟨⟨by decide, by decide, by decide, by decide, by decide, by decide, by decide⟩, ⟨Nat.zero_le _, fun t q => absurd q List.not_mem_nil⟩, ⟨by decide, ⟨rfl, by decide, Or.inl rfl, rfl⟩, trivial, trivial⟩, fun j a b => ?_, hz 5 (Or.inl rfl), hz 6 (Or.inr (Or.inl rfl)), h7, hz 8 (by omega), hz 9 (by omega), hz 10 (by omega), fun q a b => ⟨hz _ (by omega), hz _ (by omega)⟩, fun i hi => absurd hi (Nat.not_lt_zero _), fun i hi => ?_⟩
  · rcases (show j = 0 ∨ j = 1 ∨ j = 2 ∨ j = 3 ∨ j = 4 by omega) with rfl | rfl | rfl | rfl | rfl
    · exact h0
    · exact h1
    · exact h2
    · exact h3
    · exact h4
  · have hi2 : i < 1 := hi
    have : i = 0 := by omega
    subst this
    exact ⟨h100, h101⟩
theorem m_X7_init {l : Launch} {G : xG} {w : Wd} {m : Nat} (h1 : w m = some (.inr (7, [.null, .null, .null, .null, .null, .null, .null, .int 0, .null, .null, .null, .null, .int 0, .int 0, .null, .null, .int 0, .null, .int 0, .int 0, .int 0]))) : xMet l G yX7_init cX7_init 1 none ({ frames := 1, cells := 14, slots := 5222, locals := 20 } : Room) [.ref m] w (m + 1) (aV fun w1 z1 => z1 = m + 15 ∧ muA G w1 m 0 St0R [] 0 0 0 0 ∧ kpA G w1 m ∧ pdA G w1 m [] ∧ enE G w1 m ∧ svA G w1 m (fun _ => none) ∧ Fr m (m + 15) w w1) := by
  refine xMet_of RX7 rfl (by decide +kernel) true (by decide +kernel) (Nat.le_of_ble_eq_true rfl) rfl ?_
  intro P hM hR
  have J14 : ∀ (w1 : Wd), w1 m = some (.inr (7, [.ref (m + 1), .ref (m + 2), .ref (m + 3), .ref (m + 4), .ref (m + 5), .ref (m + 6), .ref (m + 7), .int 0, .ref (m + 8), .ref (m + 9), .ref (m + 10), .ref (m + 11), .int 0, .int 0, .ref (m + 12), .ref (m + 13), .int 0, .ref (m + 14), .int 0, .int 0, .int 0])) → w1 (m + 1) = some (aI G 400 (fun _ => 0)) → w1 (m + 2) = some (aJ G 10 (fun _ => 0)) → w1 (m + 3) = some (aI G 400 (fun _ => 0)) → w1 (m + 4) = some (aJ G 10 (fun _ => 0)) → w1 (m + 5) = some (aI G 400 (fun _ => 0)) → w1 (m + 6) = some (aI G 2400 (fun _ => 0)) → w1 (m + 7) = some (aJ G 60 (fun _ => 0)) → w1 (m + 8) = some (aI G 800 (fun _ => 0)) → w1 (m + 9) = some (aJ G 20 (fun _ => 0)) → w1 (m + 10) = some (aZ G 2 (fun _ => 0)) → w1 (m + 11) = some (aI G 80 (fun _ => 0)) → w1 (m + 12) = some (aI G 200 (fun _ => 0)) → w1 (m + 13) = some (aI G 200 (fun _ => 0)) → w1 (m + 14) = some (aI G 240 (fun _ => 0)) → Fr m (m + 15) w w1 → P 123 [some (.ref m)] [] w1 (m + 15, 14, 5222) := by
    intro w1 d0 d1 d2 d3 d4 d5 d6 d7 d8 d9 d10 d11 d12 d13 d14 hF
    refine x_aload_n hM dX7_init_123 rfl rfl ?_
    refine x_get hM wf_X7_7 wl_X7 d0 rfl dX7_init_124 ?_
    refine x_iconst hM dX7_init_127 ?_
    refine x_bipush hM dX7_init_128 rfl ?_
    refine x_iast hM d1 (by omega) dX7_init_130 ?_
    refine x_aload_n hM dX7_init_131 rfl rfl ?_
    refine x_get hM wf_X7_7 wl_X7 ((wS_ne (by omega)).trans d0) rfl dX7_init_132 ?_
    refine x_iconst hM dX7_init_135 ?_
    refine x_bipush hM dX7_init_136 rfl ?_
    refine x_iast hM wS_eq (by omega) dX7_init_138 ?_
    rw [wS_2]
    refine x_aload_n hM dX7_init_139 rfl rfl ?_
    refine x_get hM wf_X7_7 wl_X7 ((wS_ne (by omega)).trans d0) rfl dX7_init_140 ?_
    refine x_iconst hM dX7_init_143 ?_
    refine x_iconst hM dX7_init_144 ?_
    refine x_iast hM wS_eq (by omega) dX7_init_145 ?_
    rw [wS_2]
    refine x_aload_n hM dX7_init_146 rfl rfl ?_
    refine x_get hM wf_X7_7 wl_X7 ((wS_ne (by omega)).trans d0) rfl dX7_init_147 ?_
    refine x_iconst hM dX7_init_150 ?_
    refine x_iconst hM dX7_init_151 ?_
    refine x_iast hM wS_eq (by omega) dX7_init_152 ?_
    rw [wS_2]
    refine x_aload_n hM dX7_init_153 rfl rfl ?_
    refine x_get hM wf_X7_7 wl_X7 ((wS_ne (by omega)).trans d0) rfl dX7_init_154 ?_
    refine x_iconst hM dX7_init_157 ?_
    refine x_sipush hM dX7_init_158 rfl ?_
    refine x_iast hM wS_eq (by omega) dX7_init_161 ?_
    rw [wS_2]
    refine x_aload_n hM dX7_init_162 rfl rfl ?_
    refine x_get hM wf_X7_7 wl_X7 ((wS_ne (by omega)).trans d0) rfl dX7_init_163 ?_
    refine x_bipush hM dX7_init_166 rfl ?_
    refine x_iconst hM dX7_init_168 ?_
    refine x_iast hM wS_eq (by omega) dX7_init_169 ?_
    rw [wS_2]
    refine x_aload_n hM dX7_init_170 rfl rfl ?_
    refine x_get hM wf_X7_7 wl_X7 ((wS_ne (by omega)).trans d0) rfl dX7_init_171 ?_
    refine x_bipush hM dX7_init_174 rfl ?_
    refine x_iconst hM dX7_init_176 ?_
    refine x_iast hM wS_eq (by omega) dX7_init_177 ?_
    rw [wS_2]
    refine x_aload_n hM dX7_init_178 rfl rfl ?_
    refine x_get hM wf_X7_7 wl_X7 ((wS_ne (by omega)).trans d0) rfl dX7_init_179 ?_
    refine x_bipush hM dX7_init_182 rfl ?_
    refine x_bipush hM dX7_init_184 rfl ?_
    refine x_iast hM wS_eq (by omega) dX7_init_186 ?_
    rw [wS_2]
    refine hR.v dX7_init_187 (Nat.le_refl _) (Nat.le_refl _) ?_
    have hp : nowP (fU (fU (fU (fU (fU (fU (fU (fU (fun _ => 0) 0 10) 1 25) 2 5) 3 1) 4 10000) 7 1) 100 0) 101 (-6)) St0R := nowP_0 (by decide) (by decide) (by decide) (by decide) (by decide) (by decide) (by decide) (by decide) (fun j hj => by rw [fU_ne (by omega), fU_ne (by omega), fU_ne (by omega), fU_ne (by omega), fU_ne (by omega), fU_ne (by omega), fU_ne (by omega), fU_ne (by omega)])
    have q : ∀ x : Nat, x ≠ m + 1 → (wS w1 (m + 1) (aI G 400 (fU (fU (fU (fU (fU (fU (fU (fU (fun _ => 0) 0 10) 1 25) 2 5) 3 1) 4 10000) 7 1) 100 0) 101 (-6)))) x = w1 x := fun x hx => wS_ne hx
    exact ⟨rfl, rfl, ⟨[], (q m (by omega)).trans d0, ⟨_, _, wS_eq, hp, (q _ (by omega)).trans d2, fun _ _ _ => rfl⟩, ⟨_, _, (q _ (by omega)).trans d6, (q _ (by omega)).trans d7, Nat.zero_le _, fun i hi => absurd hi (Nat.not_lt_zero _)⟩, ⟨_, _, (q _ (by omega)).trans d12, (q _ (by omega)).trans d13, Nat.zero_le _, fun s hs => absurd hs List.not_mem_nil, fun i hi => absurd hi (Nat.not_lt_zero _)⟩⟩, ⟨_, _, (q _ (by omega)).trans d3, (q _ (by omega)).trans d4⟩, ⟨⟨Nat.zero_le _, fun c hc => absurd hc List.not_mem_nil⟩, _, (q _ (by omega)).trans d11, fun i hi => absurd hi (Nat.not_lt_zero _)⟩, ⟨_, (q _ (by omega)).trans d14⟩, ⟨_, _, _, (q _ (by omega)).trans d8, (q _ (by omega)).trans d9, (q _ (by omega)).trans d10, fun i hi => ⟨fun _ => rfl, fun t ht => by cases ht⟩⟩, hF.tr (Fr.wS (by omega) (by omega))⟩
  have J13 : ∀ (w1 : Wd), w1 m = some (.inr (7, [.ref (m + 1), .ref (m + 2), .ref (m + 3), .ref (m + 4), .ref (m + 5), .ref (m + 6), .ref (m + 7), .int 0, .ref (m + 8), .ref (m + 9), .ref (m + 10), .ref (m + 11), .int 0, .int 0, .ref (m + 12), .ref (m + 13), .int 0, .null, .int 0, .int 0, .int 0])) → w1 (m + 1) = some (aI G 400 (fun _ => 0)) → w1 (m + 2) = some (aJ G 10 (fun _ => 0)) → w1 (m + 3) = some (aI G 400 (fun _ => 0)) → w1 (m + 4) = some (aJ G 10 (fun _ => 0)) → w1 (m + 5) = some (aI G 400 (fun _ => 0)) → w1 (m + 6) = some (aI G 2400 (fun _ => 0)) → w1 (m + 7) = some (aJ G 60 (fun _ => 0)) → w1 (m + 8) = some (aI G 800 (fun _ => 0)) → w1 (m + 9) = some (aJ G 20 (fun _ => 0)) → w1 (m + 10) = some (aZ G 2 (fun _ => 0)) → w1 (m + 11) = some (aI G 80 (fun _ => 0)) → w1 (m + 12) = some (aI G 200 (fun _ => 0)) → w1 (m + 13) = some (aI G 200 (fun _ => 0)) → Fr m (m + 15) w w1 → P 114 [some (.ref m)] [] w1 (m + 14, 13, 4982) := by
    intro w1 d0 d1 d2 d3 d4 d5 d6 d7 d8 d9 d10 d11 d12 d13 hF
    refine x_aload_n hM dX7_init_114 rfl rfl ?_
    refine x_sipush hM dX7_init_115 rfl ?_
    refine x_newI  hM wy_int (by omega) rfl (by omega) (Nat.le_of_ble_eq_true rfl) (Nat.le_of_ble_eq_true rfl) dX7_init_118 ?_
    refine x_putF hM wl_X7 ((wS_ne (by omega)).trans d0) wp_X7_51 rfl rfl (Nat.le_of_ble_eq_true rfl) rfl dX7_init_120 ?_
    exact J14 _ wS_eq ((wS_ne (by omega)).trans ((wS_ne (by omega)).trans d1)) ((wS_ne (by omega)).trans ((wS_ne (by omega)).trans d2)) ((wS_ne (by omega)).trans ((wS_ne (by omega)).trans d3)) ((wS_ne (by omega)).trans ((wS_ne (by omega)).trans d4)) ((wS_ne (by omega)).trans ((wS_ne (by omega)).trans d5)) ((wS_ne (by omega)).trans ((wS_ne (by omega)).trans d6)) ((wS_ne (by omega)).trans ((wS_ne (by omega)).trans d7)) ((wS_ne (by omega)).trans ((wS_ne (by omega)).trans d8)) ((wS_ne (by omega)).trans ((wS_ne (by omega)).trans d9)) ((wS_ne (by omega)).trans ((wS_ne (by omega)).trans d10)) ((wS_ne (by omega)).trans ((wS_ne (by omega)).trans d11)) ((wS_ne (by omega)).trans ((wS_ne (by omega)).trans d12)) ((wS_ne (by omega)).trans ((wS_ne (by omega)).trans d13)) ((wS_ne (by omega)).trans wS_eq) ((hF.tr (Fr.wS (by omega) (by omega))).tr (Fr.wS (by omega) (by omega)))
  have J12 : ∀ (w1 : Wd), w1 m = some (.inr (7, [.ref (m + 1), .ref (m + 2), .ref (m + 3), .ref (m + 4), .ref (m + 5), .ref (m + 6), .ref (m + 7), .int 0, .ref (m + 8), .ref (m + 9), .ref (m + 10), .ref (m + 11), .int 0, .int 0, .ref (m + 12), .null, .int 0, .null, .int 0, .int 0, .int 0])) → w1 (m + 1) = some (aI G 400 (fun _ => 0)) → w1 (m + 2) = some (aJ G 10 (fun _ => 0)) → w1 (m + 3) = some (aI G 400 (fun _ => 0)) → w1 (m + 4) = some (aJ G 10 (fun _ => 0)) → w1 (m + 5) = some (aI G 400 (fun _ => 0)) → w1 (m + 6) = some (aI G 2400 (fun _ => 0)) → w1 (m + 7) = some (aJ G 60 (fun _ => 0)) → w1 (m + 8) = some (aI G 800 (fun _ => 0)) → w1 (m + 9) = some (aJ G 20 (fun _ => 0)) → w1 (m + 10) = some (aZ G 2 (fun _ => 0)) → w1 (m + 11) = some (aI G 80 (fun _ => 0)) → w1 (m + 12) = some (aI G 200 (fun _ => 0)) → Fr m (m + 15) w w1 → P 105 [some (.ref m)] [] w1 (m + 13, 12, 4782) := by
    intro w1 d0 d1 d2 d3 d4 d5 d6 d7 d8 d9 d10 d11 d12 hF
    refine x_aload_n hM dX7_init_105 rfl rfl ?_
    refine x_sipush hM dX7_init_106 rfl ?_
    refine x_newI  hM wy_int (by omega) rfl (by omega) (Nat.le_of_ble_eq_true rfl) (Nat.le_of_ble_eq_true rfl) dX7_init_109 ?_
    refine x_putF hM wl_X7 ((wS_ne (by omega)).trans d0) wp_X7_48 rfl rfl (Nat.le_of_ble_eq_true rfl) rfl dX7_init_111 ?_
    exact J13 _ wS_eq ((wS_ne (by omega)).trans ((wS_ne (by omega)).trans d1)) ((wS_ne (by omega)).trans ((wS_ne (by omega)).trans d2)) ((wS_ne (by omega)).trans ((wS_ne (by omega)).trans d3)) ((wS_ne (by omega)).trans ((wS_ne (by omega)).trans d4)) ((wS_ne (by omega)).trans ((wS_ne (by omega)).trans d5)) ((wS_ne (by omega)).trans ((wS_ne (by omega)).trans d6)) ((wS_ne (by omega)).trans ((wS_ne (by omega)).trans d7)) ((wS_ne (by omega)).trans ((wS_ne (by omega)).trans d8)) ((wS_ne (by omega)).trans ((wS_ne (by omega)).trans d9)) ((wS_ne (by omega)).trans ((wS_ne (by omega)).trans d10)) ((wS_ne (by omega)).trans ((wS_ne (by omega)).trans d11)) ((wS_ne (by omega)).trans ((wS_ne (by omega)).trans d12)) ((wS_ne (by omega)).trans wS_eq) ((hF.tr (Fr.wS (by omega) (by omega))).tr (Fr.wS (by omega) (by omega)))
  have J11 : ∀ (w1 : Wd), w1 m = some (.inr (7, [.ref (m + 1), .ref (m + 2), .ref (m + 3), .ref (m + 4), .ref (m + 5), .ref (m + 6), .ref (m + 7), .int 0, .ref (m + 8), .ref (m + 9), .ref (m + 10), .ref (m + 11), .int 0, .int 0, .null, .null, .int 0, .null, .int 0, .int 0, .int 0])) → w1 (m + 1) = some (aI G 400 (fun _ => 0)) → w1 (m + 2) = some (aJ G 10 (fun _ => 0)) → w1 (m + 3) = some (aI G 400 (fun _ => 0)) → w1 (m + 4) = some (aJ G 10 (fun _ => 0)) → w1 (m + 5) = some (aI G 400 (fun _ => 0)) → w1 (m + 6) = some (aI G 2400 (fun _ => 0)) → w1 (m + 7) = some (aJ G 60 (fun _ => 0)) → w1 (m + 8) = some (aI G 800 (fun _ => 0)) → w1 (m + 9) = some (aJ G 20 (fun _ => 0)) → w1 (m + 10) = some (aZ G 2 (fun _ => 0)) → w1 (m + 11) = some (aI G 80 (fun _ => 0)) → Fr m (m + 15) w w1 → P 96 [some (.ref m)] [] w1 (m + 12, 11, 4582) := by
    intro w1 d0 d1 d2 d3 d4 d5 d6 d7 d8 d9 d10 d11 hF
    refine x_aload_n hM dX7_init_96 rfl rfl ?_
    refine x_sipush hM dX7_init_97 rfl ?_
    refine x_newI  hM wy_int (by omega) rfl (by omega) (Nat.le_of_ble_eq_true rfl) (Nat.le_of_ble_eq_true rfl) dX7_init_100 ?_
    refine x_putF hM wl_X7 ((wS_ne (by omega)).trans d0) wp_X7_45 rfl rfl (Nat.le_of_ble_eq_true rfl) rfl dX7_init_102 ?_
    exact J12 _ wS_eq ((wS_ne (by omega)).trans ((wS_ne (by omega)).trans d1)) ((wS_ne (by omega)).trans ((wS_ne (by omega)).trans d2)) ((wS_ne (by omega)).trans ((wS_ne (by omega)).trans d3)) ((wS_ne (by omega)).trans ((wS_ne (by omega)).trans d4)) ((wS_ne (by omega)).trans ((wS_ne (by omega)).trans d5)) ((wS_ne (by omega)).trans ((wS_ne (by omega)).trans d6)) ((wS_ne (by omega)).trans ((wS_ne (by omega)).trans d7)) ((wS_ne (by omega)).trans ((wS_ne (by omega)).trans d8)) ((wS_ne (by omega)).trans ((wS_ne (by omega)).trans d9)) ((wS_ne (by omega)).trans ((wS_ne (by omega)).trans d10)) ((wS_ne (by omega)).trans ((wS_ne (by omega)).trans d11)) ((wS_ne (by omega)).trans wS_eq) ((hF.tr (Fr.wS (by omega) (by omega))).tr (Fr.wS (by omega) (by omega)))
  have J10 : ∀ (w1 : Wd), w1 m = some (.inr (7, [.ref (m + 1), .ref (m + 2), .ref (m + 3), .ref (m + 4), .ref (m + 5), .ref (m + 6), .ref (m + 7), .int 0, .ref (m + 8), .ref (m + 9), .ref (m + 10), .null, .int 0, .int 0, .null, .null, .int 0, .null, .int 0, .int 0, .int 0])) → w1 (m + 1) = some (aI G 400 (fun _ => 0)) → w1 (m + 2) = some (aJ G 10 (fun _ => 0)) → w1 (m + 3) = some (aI G 400 (fun _ => 0)) → w1 (m + 4) = some (aJ G 10 (fun _ => 0)) → w1 (m + 5) = some (aI G 400 (fun _ => 0)) → w1 (m + 6) = some (aI G 2400 (fun _ => 0)) → w1 (m + 7) = some (aJ G 60 (fun _ => 0)) → w1 (m + 8) = some (aI G 800 (fun _ => 0)) → w1 (m + 9) = some (aJ G 20 (fun _ => 0)) → w1 (m + 10) = some (aZ G 2 (fun _ => 0)) → Fr m (m + 15) w w1 → P 88 [some (.ref m)] [] w1 (m + 11, 10, 4502) := by
    intro w1 d0 d1 d2 d3 d4 d5 d6 d7 d8 d9 d10 hF
    refine x_aload_n hM dX7_init_88 rfl rfl ?_
    refine x_bipush hM dX7_init_89 rfl ?_
    refine x_newI  hM wy_int (by omega) rfl (by omega) (Nat.le_of_ble_eq_true rfl) (Nat.le_of_ble_eq_true rfl) dX7_init_91 ?_
    refine x_putF hM wl_X7 ((wS_ne (by omega)).trans d0) wp_X7_42 rfl rfl (Nat.le_of_ble_eq_true rfl) rfl dX7_init_93 ?_
    exact J11 _ wS_eq ((wS_ne (by omega)).trans ((wS_ne (by omega)).trans d1)) ((wS_ne (by omega)).trans ((wS_ne (by omega)).trans d2)) ((wS_ne (by omega)).trans ((wS_ne (by omega)).trans d3)) ((wS_ne (by omega)).trans ((wS_ne (by omega)).trans d4)) ((wS_ne (by omega)).trans ((wS_ne (by omega)).trans d5)) ((wS_ne (by omega)).trans ((wS_ne (by omega)).trans d6)) ((wS_ne (by omega)).trans ((wS_ne (by omega)).trans d7)) ((wS_ne (by omega)).trans ((wS_ne (by omega)).trans d8)) ((wS_ne (by omega)).trans ((wS_ne (by omega)).trans d9)) ((wS_ne (by omega)).trans ((wS_ne (by omega)).trans d10)) ((wS_ne (by omega)).trans wS_eq) ((hF.tr (Fr.wS (by omega) (by omega))).tr (Fr.wS (by omega) (by omega)))
  have J9 : ∀ (w1 : Wd), w1 m = some (.inr (7, [.ref (m + 1), .ref (m + 2), .ref (m + 3), .ref (m + 4), .ref (m + 5), .ref (m + 6), .ref (m + 7), .int 0, .ref (m + 8), .ref (m + 9), .null, .null, .int 0, .int 0, .null, .null, .int 0, .null, .int 0, .int 0, .int 0])) → w1 (m + 1) = some (aI G 400 (fun _ => 0)) → w1 (m + 2) = some (aJ G 10 (fun _ => 0)) → w1 (m + 3) = some (aI G 400 (fun _ => 0)) → w1 (m + 4) = some (aJ G 10 (fun _ => 0)) → w1 (m + 5) = some (aI G 400 (fun _ => 0)) → w1 (m + 6) = some (aI G 2400 (fun _ => 0)) → w1 (m + 7) = some (aJ G 60 (fun _ => 0)) → w1 (m + 8) = some (aI G 800 (fun _ => 0)) → w1 (m + 9) = some (aJ G 20 (fun _ => 0)) → Fr m (m + 15) w w1 → P 81 [some (.ref m)] [] w1 (m + 10, 9, 4500) := by
    intro w1 d0 d1 d2 d3 d4 d5 d6 d7 d8 d9 hF
    refine x_aload_n hM dX7_init_81 rfl rfl ?_
    refine x_iconst hM dX7_init_82 ?_
    refine x_newZ  hM wy_boolean (by omega) rfl (by omega) (Nat.le_of_ble_eq_true rfl) (Nat.le_of_ble_eq_true rfl) dX7_init_83 ?_
    refine x_putF hM wl_X7 ((wS_ne (by omega)).trans d0) wp_X7_38 rfl rfl (Nat.le_of_ble_eq_true rfl) rfl dX7_init_85 ?_
    exact J10 _ wS_eq ((wS_ne (by omega)).trans ((wS_ne (by omega)).trans d1)) ((wS_ne (by omega)).trans ((wS_ne (by omega)).trans d2)) ((wS_ne (by omega)).trans ((wS_ne (by omega)).trans d3)) ((wS_ne (by omega)).trans ((wS_ne (by omega)).trans d4)) ((wS_ne (by omega)).trans ((wS_ne (by omega)).trans d5)) ((wS_ne (by omega)).trans ((wS_ne (by omega)).trans d6)) ((wS_ne (by omega)).trans ((wS_ne (by omega)).trans d7)) ((wS_ne (by omega)).trans ((wS_ne (by omega)).trans d8)) ((wS_ne (by omega)).trans ((wS_ne (by omega)).trans d9)) ((wS_ne (by omega)).trans wS_eq) ((hF.tr (Fr.wS (by omega) (by omega))).tr (Fr.wS (by omega) (by omega)))
  have J8 : ∀ (w1 : Wd), w1 m = some (.inr (7, [.ref (m + 1), .ref (m + 2), .ref (m + 3), .ref (m + 4), .ref (m + 5), .ref (m + 6), .ref (m + 7), .int 0, .ref (m + 8), .null, .null, .null, .int 0, .int 0, .null, .null, .int 0, .null, .int 0, .int 0, .int 0])) → w1 (m + 1) = some (aI G 400 (fun _ => 0)) → w1 (m + 2) = some (aJ G 10 (fun _ => 0)) → w1 (m + 3) = some (aI G 400 (fun _ => 0)) → w1 (m + 4) = some (aJ G 10 (fun _ => 0)) → w1 (m + 5) = some (aI G 400 (fun _ => 0)) → w1 (m + 6) = some (aI G 2400 (fun _ => 0)) → w1 (m + 7) = some (aJ G 60 (fun _ => 0)) → w1 (m + 8) = some (aI G 800 (fun _ => 0)) → Fr m (m + 15) w w1 → P 73 [some (.ref m)] [] w1 (m + 9, 8, 4480) := by
    intro w1 d0 d1 d2 d3 d4 d5 d6 d7 d8 hF
    refine x_aload_n hM dX7_init_73 rfl rfl ?_
    refine x_bipush hM dX7_init_74 rfl ?_
    refine x_newJ  hM wy_long (by omega) rfl (by omega) (Nat.le_of_ble_eq_true rfl) (Nat.le_of_ble_eq_true rfl) dX7_init_76 ?_
    refine x_putF hM wl_X7 ((wS_ne (by omega)).trans d0) wp_X7_35 rfl rfl (Nat.le_of_ble_eq_true rfl) rfl dX7_init_78 ?_
    exact J9 _ wS_eq ((wS_ne (by omega)).trans ((wS_ne (by omega)).trans d1)) ((wS_ne (by omega)).trans ((wS_ne (by omega)).trans d2)) ((wS_ne (by omega)).trans ((wS_ne (by omega)).trans d3)) ((wS_ne (by omega)).trans ((wS_ne (by omega)).trans d4)) ((wS_ne (by omega)).trans ((wS_ne (by omega)).trans d5)) ((wS_ne (by omega)).trans ((wS_ne (by omega)).trans d6)) ((wS_ne (by omega)).trans ((wS_ne (by omega)).trans d7)) ((wS_ne (by omega)).trans ((wS_ne (by omega)).trans d8)) ((wS_ne (by omega)).trans wS_eq) ((hF.tr (Fr.wS (by omega) (by omega))).tr (Fr.wS (by omega) (by omega)))
  have J7 : ∀ (w1 : Wd), w1 m = some (.inr (7, [.ref (m + 1), .ref (m + 2), .ref (m + 3), .ref (m + 4), .ref (m + 5), .ref (m + 6), .ref (m + 7), .int 0, .null, .null, .null, .null, .int 0, .int 0, .null, .null, .int 0, .null, .int 0, .int 0, .int 0])) → w1 (m + 1) = some (aI G 400 (fun _ => 0)) → w1 (m + 2) = some (aJ G 10 (fun _ => 0)) → w1 (m + 3) = some (aI G 400 (fun _ => 0)) → w1 (m + 4) = some (aJ G 10 (fun _ => 0)) → w1 (m + 5) = some (aI G 400 (fun _ => 0)) → w1 (m + 6) = some (aI G 2400 (fun _ => 0)) → w1 (m + 7) = some (aJ G 60 (fun _ => 0)) → Fr m (m + 15) w w1 → P 64 [some (.ref m)] [] w1 (m + 8, 7, 3680) := by
    intro w1 d0 d1 d2 d3 d4 d5 d6 d7 hF
    refine x_aload_n hM dX7_init_64 rfl rfl ?_
    refine x_sipush hM dX7_init_65 rfl ?_
    refine x_newI  hM wy_int (by omega) rfl (by omega) (Nat.le_of_ble_eq_true rfl) (Nat.le_of_ble_eq_true rfl) dX7_init_68 ?_
    refine x_putF hM wl_X7 ((wS_ne (by omega)).trans d0) wp_X7_32 rfl rfl (Nat.le_of_ble_eq_true rfl) rfl dX7_init_70 ?_
    exact J8 _ wS_eq ((wS_ne (by omega)).trans ((wS_ne (by omega)).trans d1)) ((wS_ne (by omega)).trans ((wS_ne (by omega)).trans d2)) ((wS_ne (by omega)).trans ((wS_ne (by omega)).trans d3)) ((wS_ne (by omega)).trans ((wS_ne (by omega)).trans d4)) ((wS_ne (by omega)).trans ((wS_ne (by omega)).trans d5)) ((wS_ne (by omega)).trans ((wS_ne (by omega)).trans d6)) ((wS_ne (by omega)).trans ((wS_ne (by omega)).trans d7)) ((wS_ne (by omega)).trans wS_eq) ((hF.tr (Fr.wS (by omega) (by omega))).tr (Fr.wS (by omega) (by omega)))
  have J6 : ∀ (w1 : Wd), w1 m = some (.inr (7, [.ref (m + 1), .ref (m + 2), .ref (m + 3), .ref (m + 4), .ref (m + 5), .ref (m + 6), .null, .int 0, .null, .null, .null, .null, .int 0, .int 0, .null, .null, .int 0, .null, .int 0, .int 0, .int 0])) → w1 (m + 1) = some (aI G 400 (fun _ => 0)) → w1 (m + 2) = some (aJ G 10 (fun _ => 0)) → w1 (m + 3) = some (aI G 400 (fun _ => 0)) → w1 (m + 4) = some (aJ G 10 (fun _ => 0)) → w1 (m + 5) = some (aI G 400 (fun _ => 0)) → w1 (m + 6) = some (aI G 2400 (fun _ => 0)) → Fr m (m + 15) w w1 → P 56 [some (.ref m)] [] w1 (m + 7, 6, 3620) := by
    intro w1 d0 d1 d2 d3 d4 d5 d6 hF
    refine x_aload_n hM dX7_init_56 rfl rfl ?_
    refine x_bipush hM dX7_init_57 rfl ?_
    refine x_newJ  hM wy_long (by omega) rfl (by omega) (Nat.le_of_ble_eq_true rfl) (Nat.le_of_ble_eq_true rfl) dX7_init_59 ?_
    refine x_putF hM wl_X7 ((wS_ne (by omega)).trans d0) wp_X7_29 rfl rfl (Nat.le_of_ble_eq_true rfl) rfl dX7_init_61 ?_
    exact J7 _ wS_eq ((wS_ne (by omega)).trans ((wS_ne (by omega)).trans d1)) ((wS_ne (by omega)).trans ((wS_ne (by omega)).trans d2)) ((wS_ne (by omega)).trans ((wS_ne (by omega)).trans d3)) ((wS_ne (by omega)).trans ((wS_ne (by omega)).trans d4)) ((wS_ne (by omega)).trans ((wS_ne (by omega)).trans d5)) ((wS_ne (by omega)).trans ((wS_ne (by omega)).trans d6)) ((wS_ne (by omega)).trans wS_eq) ((hF.tr (Fr.wS (by omega) (by omega))).tr (Fr.wS (by omega) (by omega)))
  have J5 : ∀ (w1 : Wd), w1 m = some (.inr (7, [.ref (m + 1), .ref (m + 2), .ref (m + 3), .ref (m + 4), .ref (m + 5), .null, .null, .int 0, .null, .null, .null, .null, .int 0, .int 0, .null, .null, .int 0, .null, .int 0, .int 0, .int 0])) → w1 (m + 1) = some (aI G 400 (fun _ => 0)) → w1 (m + 2) = some (aJ G 10 (fun _ => 0)) → w1 (m + 3) = some (aI G 400 (fun _ => 0)) → w1 (m + 4) = some (aJ G 10 (fun _ => 0)) → w1 (m + 5) = some (aI G 400 (fun _ => 0)) → Fr m (m + 15) w w1 → P 47 [some (.ref m)] [] w1 (m + 6, 5, 1220) := by
    intro w1 d0 d1 d2 d3 d4 d5 hF
    refine x_aload_n hM dX7_init_47 rfl rfl ?_
    refine x_sipush hM dX7_init_48 rfl ?_
    refine x_newI  hM wy_int (by omega) rfl (by omega) (Nat.le_of_ble_eq_true rfl) (Nat.le_of_ble_eq_true rfl) dX7_init_51 ?_
    refine x_putF hM wl_X7 ((wS_ne (by omega)).trans d0) wp_X7_26 rfl rfl (Nat.le_of_ble_eq_true rfl) rfl dX7_init_53 ?_
    exact J6 _ wS_eq ((wS_ne (by omega)).trans ((wS_ne (by omega)).trans d1)) ((wS_ne (by omega)).trans ((wS_ne (by omega)).trans d2)) ((wS_ne (by omega)).trans ((wS_ne (by omega)).trans d3)) ((wS_ne (by omega)).trans ((wS_ne (by omega)).trans d4)) ((wS_ne (by omega)).trans ((wS_ne (by omega)).trans d5)) ((wS_ne (by omega)).trans wS_eq) ((hF.tr (Fr.wS (by omega) (by omega))).tr (Fr.wS (by omega) (by omega)))
  have J4 : ∀ (w1 : Wd), w1 m = some (.inr (7, [.ref (m + 1), .ref (m + 2), .ref (m + 3), .ref (m + 4), .null, .null, .null, .int 0, .null, .null, .null, .null, .int 0, .int 0, .null, .null, .int 0, .null, .int 0, .int 0, .int 0])) → w1 (m + 1) = some (aI G 400 (fun _ => 0)) → w1 (m + 2) = some (aJ G 10 (fun _ => 0)) → w1 (m + 3) = some (aI G 400 (fun _ => 0)) → w1 (m + 4) = some (aJ G 10 (fun _ => 0)) → Fr m (m + 15) w w1 → P 38 [some (.ref m)] [] w1 (m + 5, 4, 820) := by
    intro w1 d0 d1 d2 d3 d4 hF
    refine x_aload_n hM dX7_init_38 rfl rfl ?_
    refine x_sipush hM dX7_init_39 rfl ?_
    refine x_newI  hM wy_int (by omega) rfl (by omega) (Nat.le_of_ble_eq_true rfl) (Nat.le_of_ble_eq_true rfl) dX7_init_42 ?_
    refine x_putF hM wl_X7 ((wS_ne (by omega)).trans d0) wp_X7_23 rfl rfl (Nat.le_of_ble_eq_true rfl) rfl dX7_init_44 ?_
    exact J5 _ wS_eq ((wS_ne (by omega)).trans ((wS_ne (by omega)).trans d1)) ((wS_ne (by omega)).trans ((wS_ne (by omega)).trans d2)) ((wS_ne (by omega)).trans ((wS_ne (by omega)).trans d3)) ((wS_ne (by omega)).trans ((wS_ne (by omega)).trans d4)) ((wS_ne (by omega)).trans wS_eq) ((hF.tr (Fr.wS (by omega) (by omega))).tr (Fr.wS (by omega) (by omega)))
  have J3 : ∀ (w1 : Wd), w1 m = some (.inr (7, [.ref (m + 1), .ref (m + 2), .ref (m + 3), .null, .null, .null, .null, .int 0, .null, .null, .null, .null, .int 0, .int 0, .null, .null, .int 0, .null, .int 0, .int 0, .int 0])) → w1 (m + 1) = some (aI G 400 (fun _ => 0)) → w1 (m + 2) = some (aJ G 10 (fun _ => 0)) → w1 (m + 3) = some (aI G 400 (fun _ => 0)) → Fr m (m + 15) w w1 → P 30 [some (.ref m)] [] w1 (m + 4, 3, 810) := by
    intro w1 d0 d1 d2 d3 hF
    refine x_aload_n hM dX7_init_30 rfl rfl ?_
    refine x_bipush hM dX7_init_31 rfl ?_
    refine x_newJ  hM wy_long (by omega) rfl (by omega) (Nat.le_of_ble_eq_true rfl) (Nat.le_of_ble_eq_true rfl) dX7_init_33 ?_
    refine x_putF hM wl_X7 ((wS_ne (by omega)).trans d0) wp_X7_20 rfl rfl (Nat.le_of_ble_eq_true rfl) rfl dX7_init_35 ?_
    exact J4 _ wS_eq ((wS_ne (by omega)).trans ((wS_ne (by omega)).trans d1)) ((wS_ne (by omega)).trans ((wS_ne (by omega)).trans d2)) ((wS_ne (by omega)).trans ((wS_ne (by omega)).trans d3)) ((wS_ne (by omega)).trans wS_eq) ((hF.tr (Fr.wS (by omega) (by omega))).tr (Fr.wS (by omega) (by omega)))
  have J2 : ∀ (w1 : Wd), w1 m = some (.inr (7, [.ref (m + 1), .ref (m + 2), .null, .null, .null, .null, .null, .int 0, .null, .null, .null, .null, .int 0, .int 0, .null, .null, .int 0, .null, .int 0, .int 0, .int 0])) → w1 (m + 1) = some (aI G 400 (fun _ => 0)) → w1 (m + 2) = some (aJ G 10 (fun _ => 0)) → Fr m (m + 15) w w1 → P 21 [some (.ref m)] [] w1 (m + 3, 2, 410) := by
    intro w1 d0 d1 d2 hF
    refine x_aload_n hM dX7_init_21 rfl rfl ?_
    refine x_sipush hM dX7_init_22 rfl ?_
    refine x_newI  hM wy_int (by omega) rfl (by omega) (Nat.le_of_ble_eq_true rfl) (Nat.le_of_ble_eq_true rfl) dX7_init_25 ?_
    refine x_putF hM wl_X7 ((wS_ne (by omega)).trans d0) wp_X7_17 rfl rfl (Nat.le_of_ble_eq_true rfl) rfl dX7_init_27 ?_
    exact J3 _ wS_eq ((wS_ne (by omega)).trans ((wS_ne (by omega)).trans d1)) ((wS_ne (by omega)).trans ((wS_ne (by omega)).trans d2)) ((wS_ne (by omega)).trans wS_eq) ((hF.tr (Fr.wS (by omega) (by omega))).tr (Fr.wS (by omega) (by omega)))
  have J1 : ∀ (w1 : Wd), w1 m = some (.inr (7, [.ref (m + 1), .null, .null, .null, .null, .null, .null, .int 0, .null, .null, .null, .null, .int 0, .int 0, .null, .null, .int 0, .null, .int 0, .int 0, .int 0])) → w1 (m + 1) = some (aI G 400 (fun _ => 0)) → Fr m (m + 15) w w1 → P 13 [some (.ref m)] [] w1 (m + 2, 1, 400) := by
    intro w1 d0 d1 hF
    refine x_aload_n hM dX7_init_13 rfl rfl ?_
    refine x_bipush hM dX7_init_14 rfl ?_
    refine x_newJ  hM wy_long (by omega) rfl (by omega) (Nat.le_of_ble_eq_true rfl) (Nat.le_of_ble_eq_true rfl) dX7_init_16 ?_
    refine x_putF hM wl_X7 ((wS_ne (by omega)).trans d0) wp_X7_13 rfl rfl (Nat.le_of_ble_eq_true rfl) rfl dX7_init_18 ?_
    exact J2 _ wS_eq ((wS_ne (by omega)).trans ((wS_ne (by omega)).trans d1)) ((wS_ne (by omega)).trans wS_eq) ((hF.tr (Fr.wS (by omega) (by omega))).tr (Fr.wS (by omega) (by omega)))
  have J0 : ∀ (w1 : Wd), w1 m = some (.inr (7, [.null, .null, .null, .null, .null, .null, .null, .int 0, .null, .null, .null, .null, .int 0, .int 0, .null, .null, .int 0, .null, .int 0, .int 0, .int 0])) → Fr m (m + 15) w w1 → P 4 [some (.ref m)] [] w1 (m + 1, 0, 0) := by
    intro w1 d0 hF
    refine x_aload_n hM dX7_init_4 rfl rfl ?_
    refine x_sipush hM dX7_init_5 rfl ?_
    refine x_newI  hM wy_int (by omega) rfl (by omega) (Nat.le_of_ble_eq_true rfl) (Nat.le_of_ble_eq_true rfl) dX7_init_8 ?_
    refine x_putF hM wl_X7 ((wS_ne (by omega)).trans d0) wp_X7_7 rfl rfl (Nat.le_of_ble_eq_true rfl) rfl dX7_init_10 ?_
    exact J1 _ wS_eq ((wS_ne (by omega)).trans wS_eq) ((hF.tr (Fr.wS (by omega) (by omega))).tr (Fr.wS (by omega) (by omega)))
  refine x_aload_n hM dX7_init_0 rfl rfl ?_
  refine x_objInit hM wo_X7_1 (Nat.le_of_ble_eq_true rfl) (Nat.le_of_ble_eq_true rfl) dX7_init_1 ?_
  exact J0 w h1 Fr.rf
