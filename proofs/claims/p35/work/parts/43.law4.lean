/-! shares, and what is told beside the ranges -/
/-- what holds between two acts -/
def ivS (c : Nat) (s : St) : Prop := canL s.L ∧ s.L.length ≤ 40 ∧ (∀ y ∈ s.L, y.1 < s.own) ∧ (∀ t ∈ s.D, t.1 < s.own ∧ t.2.1 < s.own) ∧ (2 ≤ s.own ∧ s.own ≤ 5) ∧ (0 ≤ s.day ∧ s.day ≤ c) ∧ (∀ o : Int, s.own ≤ o → o < 10 → s.tax o = 0) ∧ (∀ o : Int, 0 ≤ o → o < s.own → ∃ m : Int, s.mon o = jJ m ∧ -(10000000 * ((c : Int) + 1)) ≤ m ∧ m ≤ 10000000 * ((c : Int) + 1)) ∧ (0 ≤ s.set 0 ∧ s.set 0 ≤ 30) ∧ (0 ≤ s.set 1 ∧ s.set 1 ≤ 60) ∧ (0 ≤ s.set 2 ∧ s.set 2 ≤ 20)
theorem okS_lt {L : List Sg} (h : strW L) : ∀ s ∈ L, s.2.1 < s.2.2 := fun s hs => (h.2 s hs).2.2.2.1
theorem mtA_W {L : List Sg} (h : strW L) (hc : canL L) : 0 ≤ mtA L ∧ mtA L ≤ 10000 := by
  have := mtA_b (p := 0) L (can_srt hc (okS_lt h)) (fun s hs => ⟨(h.2 s hs).2.2.1, (h.2 s hs).2.2.2.1, (h.2 s hs).2.2.2.2⟩) (by decide)
  omega
theorem allM_W {L : List Sg} (h : strW L) : allM L = mtA L := allM_mtA L fun s hs => ⟨(h.2 s hs).1, (h.2 s hs).2.1⟩
theorem m_L_isShare {l : Launch} {G : xG} {w : Wd} {z x : Nat} {s : St} {k al ow : Int} (h : obA G w x s) (hc : canL s.L) (hk : 0 ≤ k ∧ k < s.own) (hal : al = mtsO s.L k) (how : ow = mtA s.L) : xMet l G yL_isShare cL_isShare 7 (some .boolean) ({ frames := 5, cells := 0, slots := 0, locals := 106 } : Room) [.ref x, .int (iI k), .int (iI al), .int (iI ow)] w z (rI 1 w z) := by
  have hW := (ob_W h).2.1
  have hO := (ob_W h).1.2.1
  have e0 := allM_W hW
  have hT := mtA_W hW hc
  have hM := fun j : Int => mts_mtA j s.L (okS_lt hW)
  have hA := hM k
  have hA0 := bqF_b (m := mtsO s.L k) (t := mtA s.L) hA.1 hA.2 hT.2
  subst hal
  subst how
  clear hM
  have hMj := fun j : Int => mts_mtA j s.L (okS_lt hW)
  refine xMet_of RL rfl (by decide +kernel) false (by decide +kernel) (Nat.le_of_ble_eq_true rfl) rfl ?_
  intro P hM hR
  by_cases c0 : mtsO s.L k = 0
  · have eb : bqF (mtsO s.L k) (mtA s.L) = 0 := if_neg (fun q => by omega)
    refine x_aload_n hM dL_isShare_0 rfl rfl ?_
    refine x_iload_n hM dL_isShare_1 rfl rfl ?_
    refine x_callV hM wv_L_38 (o_shr h hk) ⟨Nat.le_of_ble_eq_true rfl, Nat.le_of_ble_eq_true rfl⟩ (ob_o h) rfl rfl rfl rfl (Nat.le_of_ble_eq_true rfl) ⟨Nat.le_of_ble_eq_true rfl, Nat.le_of_ble_eq_true rfl⟩ dL_isShare_2 (k_rI ?_)
    rw [e0]
    refine x_istore hM dL_isShare_5 rfl (Nat.le_of_ble_eq_true rfl) rfl ?_
    refine x_iload_n hM dL_isShare_7 rfl rfl ?_
    refine x_if_eq (tgt := 16) hM dL_isShare_8 (by decide) (by omega) (fun c_8 => ?_) (fun c_8 => ?_)
    · refine x_iload hM dL_isShare_16 rfl ?_
      refine x_iload_n hM dL_isShare_18 rfl rfl ?_
      refine x_if_ne (tgt := 26) hM dL_isShare_19 (by decide) (by omega) (fun c_19 => ?_) (fun c_19 => ?_)
      · exfalso; omega
      · refine x_iconst hM dL_isShare_22 ?_
        refine x_goto (tgt := 28) hM dL_isShare_23 (by decide) ?_
        refine x_sameN (tgt := 35) hM eb dL_isShare_28 (by decide) ?_
        refine x_iconst hM dL_isShare_31 ?_
        refine x_goto (tgt := 36) hM dL_isShare_32 (by decide) ?_
        refine hR.b dL_isShare_36 rfl (Nat.zero_le _) (Nat.zero_le _) ?_
        exact p_rI rfl
    · exfalso; omega
  · by_cases c1 : mtsO s.L k = mtA s.L
    · have eb : bqF (mtsO s.L k) (mtA s.L) = 1065353216 := by rw [c1]; exact bqF_all (by omega)
      refine x_aload_n hM dL_isShare_0 rfl rfl ?_
      refine x_iload_n hM dL_isShare_1 rfl rfl ?_
      refine x_callV hM wv_L_38 (o_shr h hk) ⟨Nat.le_of_ble_eq_true rfl, Nat.le_of_ble_eq_true rfl⟩ (ob_o h) rfl rfl rfl rfl (Nat.le_of_ble_eq_true rfl) ⟨Nat.le_of_ble_eq_true rfl, Nat.le_of_ble_eq_true rfl⟩ dL_isShare_2 (k_rI ?_)
      rw [e0]
      refine x_istore hM dL_isShare_5 rfl (Nat.le_of_ble_eq_true rfl) rfl ?_
      refine x_iload_n hM dL_isShare_7 rfl rfl ?_
      refine x_if_eq (tgt := 16) hM dL_isShare_8 (by decide) (by omega) (fun c_8 => ?_) (fun c_8 => ?_)
      · exfalso; omega
      · refine x_iload_n hM dL_isShare_11 rfl rfl ?_
        refine x_iload_n hM dL_isShare_12 rfl rfl ?_
        refine x_icmp_ne (tgt := 37) hM dL_isShare_13 (by decide) (by omega) (by omega) (fun c_13 => ?_) (fun c_13 => ?_)
        · exfalso; omega
        · refine x_iload hM dL_isShare_16 rfl ?_
          refine x_iload_n hM dL_isShare_18 rfl rfl ?_
          refine x_if_ne (tgt := 26) hM dL_isShare_19 (by decide) (by omega) (fun c_19 => ?_) (fun c_19 => ?_)
          · refine x_ldc hM dL_isShare_26 wc_L_41 ?_
            refine x_sameN (tgt := 35) hM eb dL_isShare_28 (by decide) ?_
            refine x_iconst hM dL_isShare_31 ?_
            refine x_goto (tgt := 36) hM dL_isShare_32 (by decide) ?_
            refine hR.b dL_isShare_36 rfl (Nat.zero_le _) (Nat.zero_le _) ?_
            exact p_rI rfl
          · exfalso; omega
    · have eb : 0 < bqF (mtsO s.L k) (mtA s.L) := by
        have := bqF_mono (m := 0) (n := mtsO s.L k) (t := mtA s.L) (by omega) (by omega) hA.2 hT.2
        rwa [show bqF 0 (mtA s.L) = 0 from if_neg (fun q => by omega)] at this
      have eb2 : bqF (mtsO s.L k) (mtA s.L) < 1065353216 := by
        have := bqF_mono (m := mtsO s.L k) (n := mtA s.L) (t := mtA s.L) hA.1 (by omega) (Int.le_refl _) hT.2
        rwa [bqF_all (by omega)] at this
      have K : ∀ (q j : Nat) (u : Option Value), (j : Int) + q = s.own → P 40 [some (.ref x), some (.int (iI k)), some (.int (iI (mtsO s.L k))), some (.int (iI (mtA s.L))), some (.int (iI (bqF (mtsO s.L k) (mtA s.L)))), some (.int (iI j)), u] [] w (z, 0, 0) := by
        intro q
        induction q with
        | zero =>
          intro j u hj
          refine x_iload hM dL_isShare_40 rfl ?_
          refine x_aload_n hM dL_isShare_42 rfl rfl ?_
          refine x_iconst hM dL_isShare_43 ?_
          refine x_callV hM wv_L_8 (o_c1 h) ⟨Nat.le_of_ble_eq_true rfl, Nat.le_of_ble_eq_true rfl⟩ (ob_o h) rfl rfl rfl rfl (Nat.le_of_ble_eq_true rfl) ⟨Nat.le_of_ble_eq_true rfl, Nat.le_of_ble_eq_true rfl⟩ dL_isShare_44 (k_rI ?_)
          refine x_icmp_ge (tgt := 101) hM dL_isShare_47 (by decide) (by omega) (by omega) (fun c_47 => ?_) (fun c_47 => ?_)
          · refine x_iload hM dL_isShare_101 rfl ?_
            refine x_if_le (tgt := 117) hM dL_isShare_103 (by decide) (by omega) (fun c_103 => ?_) (fun c_103 => ?_)
            · exfalso; omega
            · refine x_iload hM dL_isShare_106 rfl ?_
              refine x_ldc hM dL_isShare_108 wc_L_41 ?_
              refine x_icmp_ge (tgt := 117) hM dL_isShare_110 (by decide) (by omega) (by omega) (fun c_110 => ?_) (fun c_110 => ?_)
              · exfalso; omega
              · refine x_iconst hM dL_isShare_113 ?_
                refine x_goto (tgt := 118) hM dL_isShare_114 (by decide) ?_
                refine hR.b dL_isShare_118 rfl (Nat.zero_le _) (Nat.zero_le _) ?_
                exact p_rI rfl
          · exfalso; omega
        | succ q ih =>
          intro j u hj
          have hjk : 0 ≤ (j : Int) ∧ (j : Int) < s.own := by omega
          have hB := hMj j
          have hB0 := bqF_b (m := mtsO s.L j) (t := mtA s.L) hB.1 hB.2 hT.2
          have mo : mtsO s.L j < mtsO s.L k → bqF (mtsO s.L j) (mtA s.L) < bqF (mtsO s.L k) (mtA s.L) := fun c => bqF_mono hB.1 c hA.2 hT.2
          refine x_iload hM dL_isShare_40 rfl ?_
          refine x_aload_n hM dL_isShare_42 rfl rfl ?_
          refine x_iconst hM dL_isShare_43 ?_
          refine x_callV hM wv_L_8 (o_c1 h) ⟨Nat.le_of_ble_eq_true rfl, Nat.le_of_ble_eq_true rfl⟩ (ob_o h) rfl rfl rfl rfl (Nat.le_of_ble_eq_true rfl) ⟨Nat.le_of_ble_eq_true rfl, Nat.le_of_ble_eq_true rfl⟩ dL_isShare_44 (k_rI ?_)
          refine x_icmp_ge (tgt := 101) hM dL_isShare_47 (by decide) (by omega) (by omega) (fun c_47 => ?_) (fun c_47 => ?_)
          · exfalso; omega
          · refine x_aload_n hM dL_isShare_50 rfl rfl ?_
            refine x_iload hM dL_isShare_51 rfl ?_
            refine x_iconst hM dL_isShare_53 ?_
            refine x_callV hM wv_L_42 (o_o1 h hjk) ⟨Nat.le_of_ble_eq_true rfl, Nat.le_of_ble_eq_true rfl⟩ (ob_o h) rfl rfl rfl rfl (Nat.le_of_ble_eq_true rfl) ⟨Nat.le_of_ble_eq_true rfl, Nat.le_of_ble_eq_true rfl⟩ dL_isShare_54 (k_rI ?_)
            refine x_istore hM dL_isShare_57 rfl (Nat.le_of_ble_eq_true rfl) rfl ?_
            refine x_iload hM dL_isShare_59 rfl ?_
            refine x_iload_n hM dL_isShare_61 rfl rfl ?_
            refine x_icmp_ne (tgt := 76) hM dL_isShare_62 (by decide) (by omega) (by omega) (fun c_62 => ?_) (fun c_62 => ?_)
            · refine x_iload hM dL_isShare_76 rfl ?_
              refine x_iload_n hM dL_isShare_78 rfl rfl ?_
              refine x_icmp_ge (tgt := 95) hM dL_isShare_79 (by decide) (by omega) (by omega) (fun c_79 => ?_) (fun c_79 => ?_)
              · refine x_iinc hM dL_isShare_95 rfl rfl rfl ?_
                refine x_goto (tgt := 40) hM dL_isShare_98 (by decide) ?_
                exact ih (j + 1) _ (by omega)
              · refine x_aload_n hM dL_isShare_82 rfl rfl ?_
                refine x_iload hM dL_isShare_83 rfl ?_
                refine x_callV hM wv_L_38 (o_shr h hjk) ⟨Nat.le_of_ble_eq_true rfl, Nat.le_of_ble_eq_true rfl⟩ (ob_o h) rfl rfl rfl rfl (Nat.le_of_ble_eq_true rfl) ⟨Nat.le_of_ble_eq_true rfl, Nat.le_of_ble_eq_true rfl⟩ dL_isShare_85 (k_rI ?_)
                rw [e0]
                refine x_iload hM dL_isShare_88 rfl ?_
                refine x_icmp_lt (tgt := 95) hM dL_isShare_90 (by decide) (by omega) (by omega) (fun c_90 => ?_) (fun c_90 => ?_)
                · refine x_iinc hM dL_isShare_95 rfl rfl rfl ?_
                  refine x_goto (tgt := 40) hM dL_isShare_98 (by decide) ?_
                  exact ih (j + 1) _ (by omega)
                · exfalso; omega
            · refine x_aload_n hM dL_isShare_65 rfl rfl ?_
              refine x_iload hM dL_isShare_66 rfl ?_
              refine x_callV hM wv_L_38 (o_shr h hjk) ⟨Nat.le_of_ble_eq_true rfl, Nat.le_of_ble_eq_true rfl⟩ (ob_o h) rfl rfl rfl rfl (Nat.le_of_ble_eq_true rfl) ⟨Nat.le_of_ble_eq_true rfl, Nat.le_of_ble_eq_true rfl⟩ dL_isShare_68 (k_rI ?_)
              rw [e0]
              refine x_iload hM dL_isShare_71 rfl ?_
              refine x_sameN (tgt := 93) hM (by rw [show mtsO s.L j = mtsO s.L k by omega]) dL_isShare_73 (by decide) ?_
              refine x_iload hM dL_isShare_76 rfl ?_
              refine x_iload_n hM dL_isShare_78 rfl rfl ?_
              refine x_icmp_ge (tgt := 95) hM dL_isShare_79 (by decide) (by omega) (by omega) (fun c_79 => ?_) (fun c_79 => ?_)
              · refine x_iinc hM dL_isShare_95 rfl rfl rfl ?_
                refine x_goto (tgt := 40) hM dL_isShare_98 (by decide) ?_
                exact ih (j + 1) _ (by omega)
              · refine x_aload_n hM dL_isShare_82 rfl rfl ?_
                refine x_iload hM dL_isShare_83 rfl ?_
                refine x_callV hM wv_L_38 (o_shr h hjk) ⟨Nat.le_of_ble_eq_true rfl, Nat.le_of_ble_eq_true rfl⟩ (ob_o h) rfl rfl rfl rfl (Nat.le_of_ble_eq_true rfl) ⟨Nat.le_of_ble_eq_true rfl, Nat.le_of_ble_eq_true rfl⟩ dL_isShare_85 (k_rI ?_)
                rw [e0]
                refine x_iload hM dL_isShare_88 rfl ?_
                refine x_icmp_lt (tgt := 95) hM dL_isShare_90 (by decide) (by omega) (by omega) (fun c_90 => ?_) (fun c_90 => ?_)
                · refine x_iinc hM dL_isShare_95 rfl rfl rfl ?_
                  refine x_goto (tgt := 40) hM dL_isShare_98 (by decide) ?_
                  exact ih (j + 1) _ (by omega)
                · exfalso; omega
      refine x_aload_n hM dL_isShare_0 rfl rfl ?_
      refine x_iload_n hM dL_isShare_1 rfl rfl ?_
      refine x_callV hM wv_L_38 (o_shr h hk) ⟨Nat.le_of_ble_eq_true rfl, Nat.le_of_ble_eq_true rfl⟩ (ob_o h) rfl rfl rfl rfl (Nat.le_of_ble_eq_true rfl) ⟨Nat.le_of_ble_eq_true rfl, Nat.le_of_ble_eq_true rfl⟩ dL_isShare_2 (k_rI ?_)
      rw [e0]
      refine x_istore hM dL_isShare_5 rfl (Nat.le_of_ble_eq_true rfl) rfl ?_
      refine x_iload_n hM dL_isShare_7 rfl rfl ?_
      refine x_if_eq (tgt := 16) hM dL_isShare_8 (by decide) (by omega) (fun c_8 => ?_) (fun c_8 => ?_)
      · exfalso; omega
      · refine x_iload_n hM dL_isShare_11 rfl rfl ?_
        refine x_iload_n hM dL_isShare_12 rfl rfl ?_
        refine x_icmp_ne (tgt := 37) hM dL_isShare_13 (by decide) (by omega) (by omega) (fun c_13 => ?_) (fun c_13 => ?_)
        · refine x_iconst hM dL_isShare_37 ?_
          refine x_istore hM dL_isShare_38 rfl (Nat.le_of_ble_eq_true rfl) rfl ?_
          exact K s.own.toNat 0 _ (by omega)
        · exfalso; omega
theorem taxV_tx (s : St) (o : Int) : taxV s o = txL s.L s.set o := rfl
theorem sumF_z {f : Int → Int} {a : Int} (h : ∀ o : Int, a ≤ o → o < 10 → f o = 0) : ∀ n m : Nat, a ≤ n → n ≤ m → m ≤ 10 → sumF f m = sumF f n := by
  intro n m h0 h1 h2
  induction m with
  | zero => rw [show n = 0 by omega]
  | succ m ih =>
    by_cases c : n = m + 1
    · rw [c]
    · show sumF f m + f m = _
      rw [h m (by omega) (by omega), ih (by omega) (by omega)]
      omega
theorem m_L_agree {l : Launch} {G : xG} {w : Wd} {z x c : Nat} {s : St} (h : obA G w x s) (hiv : ivS c s) (hz : x + 215 ≤ z) : xMet l G yL_agree cL_agree 13 (some .boolean) ({ frames := 6, cells := 2, slots := 128, locals := 132 } : Room) [.ref x] w z (eI fun y w1 z1 => y = 1 ∧ z1 = z + 2 ∧ obA G w1 x s) := by
  obtain ⟨hc, hl40, -, -, hown, -, htax, -⟩ := hiv
  have hW := (ob_W h).2.1
  have e0 := allM_W hW
  have hT := mtA_W hW hc
  have hlt := okS_lt hW
  have hsr := can_srt hc hlt
  have hlg := lgh_b hW
  have hlgs := lgh_spec (gapL 0 s.L) 0
  refine xMet_of RL rfl (by decide +kernel) false (by decide +kernel) (Nat.le_of_ble_eq_true rfl) rfl ?_
  intro P hM hR
  have A1 : ∀ w1 : Wd, obA G w1 x s → rsA G w1 z (z + 1) s.L → P 16 [some (.ref x), some (.ref z), some (.ref (z + 1)), none, none, none, none, none, none, none, none, none, none] [] w1 (z + 2, 2, 128) := by
    intro w1 ho hrs
    obtain ⟨-, f, g, ⟨r1, r2, r3⟩, r4⟩ := id hrs
    /- the owners -/
    have A3 : ∀ (at0 hl lg : Int) (u8 u9 u10 u11 u12 : Option Value), P 316 [some (.ref x), some (.ref z), some (.ref (z + 1)), some (.int (iI at0)), some (.int (iI hl)), some (.int (iI lg)), some (.int (iI (mtA s.L))), some (.int (iI (s.L.length + 1 : Nat))), u8, u9, u10, u11, u12] [] w1 (z + 2, 2, 128) := by
      intro at0 hl lg u8 u9 u10 u11 u12
      have K3 : ∀ (j k : Nat) (u9 u10 u11 u12 : Option Value), (k : Int) + j = s.own → P 322 [some (.ref x), some (.ref z), some (.ref (z + 1)), some (.int (iI at0)), some (.int (iI hl)), some (.int (iI lg)), some (.int (iI (mtA s.L))), some (.int (iI (sumF s.tax k))), some (.int (iI k)), u9, u10, u11, u12] [] w1 (z + 2, 2, 128) := by
        intro j
        induction j with
        | zero =>
          intro k u9 u10 u11 u12 hj
          have es := sumF_z htax k 10 (by omega) (by omega) (by omega)
          refine x_iload hM dL_agree_322 rfl ?_
          refine x_aload_n hM dL_agree_324 rfl rfl ?_
          refine x_iconst hM dL_agree_325 ?_
          refine x_callV hM wv_L_8 (o_c1 ho) ⟨Nat.le_of_ble_eq_true rfl, Nat.le_of_ble_eq_true rfl⟩ (ob_o ho) rfl rfl rfl rfl (Nat.le_of_ble_eq_true rfl) ⟨Nat.le_of_ble_eq_true rfl, Nat.le_of_ble_eq_true rfl⟩ dL_agree_326 (k_rI ?_)
          refine x_icmp_ge (tgt := 559) hM dL_agree_329 (by decide) (by omega) (by omega) (fun c_329 => ?_) (fun c_329 => ?_)
          · refine x_iload hM dL_agree_559 rfl ?_
            refine x_aload_n hM dL_agree_561 rfl rfl ?_
            refine x_bipush hM dL_agree_562 rfl ?_
            refine x_callV hM wv_L_8 (o_c9 ho) ⟨Nat.le_of_ble_eq_true rfl, Nat.le_of_ble_eq_true rfl⟩ (ob_o ho) rfl rfl rfl rfl (Nat.le_of_ble_eq_true rfl) ⟨Nat.le_of_ble_eq_true rfl, Nat.le_of_ble_eq_true rfl⟩ dL_agree_564 (k_rI ?_)
            refine x_sameN (tgt := 574) hM es.symm dL_agree_567 (by decide) ?_
            refine x_iconst hM dL_agree_570 ?_
            refine x_goto (tgt := 575) hM dL_agree_571 (by decide) ?_
            refine hR.b dL_agree_575 rfl (Nat.le_refl _) (Nat.le_refl _) ?_
            exact ⟨1, rfl, rfl, rfl, ho⟩
          · exfalso; omega
        | succ j ih =>
          intro k u9 u10 u11 u12 hj
          have hk : 0 ≤ (k : Int) ∧ (k : Int) < s.own := by omega
          have hms := mts_mtA k s.L hlt
          /- the ranges of one owner -/
          have K4 : ∀ (q i : Nat) (mo fi la c1 : Int), i + q = s.L.length → (s.L.drop i).foldl (lonS k) mo = lonF s.L k → (s.L.drop i).foldl (mbtS k) (c1, la) = s.L.foldl (mbtS k) (-6, 0) → (c1 = -6 ∧ fi = -1 ∨ 0 ≤ c1 ∧ fi = c1) → (0 ≤ mo ∧ mo ≤ 10000) → (fi ≤ 10000 ∧ 0 ≤ la ∧ la ≤ 10000) → P 344 [some (.ref x), some (.ref z), some (.ref (z + 1)), some (.int (iI at0)), some (.int (iI hl)), some (.int (iI lg)), some (.int (iI (mtA s.L))), some (.int (iI (sumF s.tax k))), some (.int (iI k)), some (.int (iI mo)), some (.int (iI fi)), some (.int (iI la)), some (.int (iI i))] [] w1 (z + 2, 2, 128) := by
            intro q
            induction q with
            | zero =>
              intro i mo fi la c1 hiq h1 h2 h3 h4 h5
              rw [drop_foldE _ _ (by omega)] at h1 h2
              have eg : mbtF s.L k = (if c1 = -6 then 0 else la - c1 - mtsO s.L k) := by unfold mbtF; rw [← h2]
              refine x_iload hM dL_agree_344 rfl ?_
              refine x_aload_n hM dL_agree_346 rfl rfl ?_
              refine x_iconst hM dL_agree_347 ?_
              refine x_iald hM r1 (by omega) dL_agree_348 ?_
              refine x_icmp_ge (tgt := 433) hM dL_agree_349 (by decide) (by omega) (by omega) (fun c_349 => ?_) (fun c_349 => ?_)
              · refine x_aload_n hM dL_agree_433 rfl rfl ?_
                refine x_aload_n hM dL_agree_434 rfl rfl ?_
                refine x_iload hM dL_agree_435 rfl ?_
                refine x_callS hM ws_L_31 (m_L_meters hrs (by omega)) ⟨Nat.le_of_ble_eq_true rfl, Nat.le_of_ble_eq_true rfl⟩ rfl rfl (Nat.le_of_ble_eq_true rfl) ⟨Nat.le_of_ble_eq_true rfl, Nat.le_of_ble_eq_true rfl⟩ dL_agree_437 (k_rI ?_)
                refine x_istore hM dL_agree_440 rfl (Nat.le_of_ble_eq_true rfl) rfl ?_
                refine x_aload_n hM dL_agree_442 rfl rfl ?_
                refine x_iload hM dL_agree_443 rfl ?_
                refine x_iconst hM dL_agree_445 ?_
                refine x_callV hM wv_L_42 (o_o0 ho hk) ⟨Nat.le_of_ble_eq_true rfl, Nat.le_of_ble_eq_true rfl⟩ (ob_o ho) rfl rfl rfl rfl (Nat.le_of_ble_eq_true rfl) ⟨Nat.le_of_ble_eq_true rfl, Nat.le_of_ble_eq_true rfl⟩ dL_agree_446 (k_rI ?_)
                refine x_aload_n hM dL_agree_449 rfl rfl ?_
                refine x_iload hM dL_agree_450 rfl ?_
                refine x_callS hM ws_L_35 (m_L_many (by assumption) (by omega)) ⟨Nat.le_of_ble_eq_true rfl, Nat.le_of_ble_eq_true rfl⟩ rfl rfl (Nat.le_of_ble_eq_true rfl) ⟨Nat.le_of_ble_eq_true rfl, Nat.le_of_ble_eq_true rfl⟩ dL_agree_452 (k_rI ?_)
                refine x_sameN (tgt := 539) hM rfl dL_agree_455 (by decide) ?_
                refine x_aload_n hM dL_agree_458 rfl rfl ?_
                refine x_iload hM dL_agree_459 rfl ?_
                refine x_iconst hM dL_agree_461 ?_
                refine x_callV hM wv_L_42 (o_o1 ho hk) ⟨Nat.le_of_ble_eq_true rfl, Nat.le_of_ble_eq_true rfl⟩ (ob_o ho) rfl rfl rfl rfl (Nat.le_of_ble_eq_true rfl) ⟨Nat.le_of_ble_eq_true rfl, Nat.le_of_ble_eq_true rfl⟩ dL_agree_462 (k_rI ?_)
                refine x_iload hM dL_agree_465 rfl ?_
                refine x_sameN (tgt := 539) hM rfl dL_agree_467 (by decide) ?_
                refine x_aload_n hM dL_agree_470 rfl rfl ?_
                refine x_iload hM dL_agree_471 rfl ?_
                refine x_iconst hM dL_agree_473 ?_
                refine x_callV hM wv_L_42 (o_o2 ho hk) ⟨Nat.le_of_ble_eq_true rfl, Nat.le_of_ble_eq_true rfl⟩ (ob_o ho) rfl rfl rfl rfl (Nat.le_of_ble_eq_true rfl) ⟨Nat.le_of_ble_eq_true rfl, Nat.le_of_ble_eq_true rfl⟩ dL_agree_474 (k_rI ?_)
                refine x_iload hM dL_agree_477 rfl ?_
                refine x_sameN (tgt := 539) hM h1.symm dL_agree_479 (by decide) ?_
                refine x_aload_n hM dL_agree_482 rfl rfl ?_
                refine x_iload hM dL_agree_483 rfl ?_
                refine x_iconst hM dL_agree_485 ?_
                refine x_callV hM wv_L_42 (o_o3 ho hk) ⟨Nat.le_of_ble_eq_true rfl, Nat.le_of_ble_eq_true rfl⟩ (ob_o ho) rfl rfl rfl rfl (Nat.le_of_ble_eq_true rfl) ⟨Nat.le_of_ble_eq_true rfl, Nat.le_of_ble_eq_true rfl⟩ dL_agree_486 (k_rI ?_)
                refine x_aload_n hM dL_agree_489 rfl rfl ?_
                refine x_aload_n hM dL_agree_490 rfl rfl ?_
                refine x_aload_n hM dL_agree_491 rfl rfl ?_
                refine x_iload hM dL_agree_492 rfl ?_
                refine x_callS hM ws_L_55 (m_L_tax ho hrs (by omega)) ⟨Nat.le_of_ble_eq_true rfl, Nat.le_of_ble_eq_true rfl⟩ rfl rfl (Nat.le_of_ble_eq_true rfl) ⟨Nat.le_of_ble_eq_true rfl, Nat.le_of_ble_eq_true rfl⟩ dL_agree_494 (k_rI ?_)
                refine x_sameN (tgt := 539) hM rfl dL_agree_497 (by decide) ?_
                refine x_aload_n hM dL_agree_500 rfl rfl ?_
                refine x_iload hM dL_agree_501 rfl ?_
                refine x_callV hM wv_L_59 (o_gap ho hk) ⟨Nat.le_of_ble_eq_true rfl, Nat.le_of_ble_eq_true rfl⟩ (ob_o ho) rfl rfl rfl rfl (Nat.le_of_ble_eq_true rfl) ⟨Nat.le_of_ble_eq_true rfl, Nat.le_of_ble_eq_true rfl⟩ dL_agree_503 (k_rI ?_)
                refine x_iload hM dL_agree_506 rfl ?_
                refine x_if_ge (tgt := 515) hM dL_agree_508 (by decide) (by omega) (fun c_508 => ?_) (fun c_508 => ?_)
                · refine x_iload hM dL_agree_515 rfl ?_
                  refine x_iload hM dL_agree_517 rfl ?_
                  refine x_isub hM dL_agree_519 ?_
                  refine x_iload hM dL_agree_520 rfl ?_
                  refine x_isub hM dL_agree_522 ?_
                  refine x_sameN (tgt := 539) hM (by rw [eg]; first | rw [if_pos (by omega)] | (rw [if_neg (by omega)]; omega)) dL_agree_523 (by decide) ?_
                  refine x_aload_n hM dL_agree_526 rfl rfl ?_
                  refine x_iload hM dL_agree_527 rfl ?_
                  refine x_iload hM dL_agree_529 rfl ?_
                  refine x_iload hM dL_agree_531 rfl ?_
                  refine x_callS hM ws_L_62 (m_L_isShare ho hc hk rfl rfl) ⟨Nat.le_of_ble_eq_true rfl, Nat.le_of_ble_eq_true rfl⟩ rfl rfl (Nat.le_of_ble_eq_true rfl) ⟨Nat.le_of_ble_eq_true rfl, Nat.le_of_ble_eq_true rfl⟩ dL_agree_533 (k_rI ?_)
                  refine x_if_ne (tgt := 541) hM dL_agree_536 (by decide) (by omega) (fun c_536 => ?_) (fun c_536 => ?_)
                  · refine x_iload hM dL_agree_541 rfl ?_
                    refine x_aload_n hM dL_agree_543 rfl rfl ?_
                    refine x_iload hM dL_agree_544 rfl ?_
                    refine x_iconst hM dL_agree_546 ?_
                    refine x_callV hM wv_L_42 (o_o4 ho hk) ⟨Nat.le_of_ble_eq_true rfl, Nat.le_of_ble_eq_true rfl⟩ (ob_o ho) rfl rfl rfl rfl (Nat.le_of_ble_eq_true rfl) ⟨Nat.le_of_ble_eq_true rfl, Nat.le_of_ble_eq_true rfl⟩ dL_agree_547 (k_rI ?_)
                    refine x_iadd hM dL_agree_550 ?_
                    refine x_istore hM dL_agree_551 rfl (Nat.le_of_ble_eq_true rfl) rfl ?_
                    refine x_iinc hM dL_agree_553 rfl rfl rfl ?_
                    refine x_goto (tgt := 322) hM dL_agree_556 (by decide) ?_
                    exact ih (k + 1) _ _ _ _ (by omega)
                  · exfalso; omega
                · refine x_iconst hM dL_agree_511 ?_
                  refine x_goto (tgt := 523) hM dL_agree_512 (by decide) ?_
                  refine x_sameN (tgt := 539) hM (by rw [eg]; first | rw [if_pos (by omega)] | (rw [if_neg (by omega)]; omega)) dL_agree_523 (by decide) ?_
                  refine x_aload_n hM dL_agree_526 rfl rfl ?_
                  refine x_iload hM dL_agree_527 rfl ?_
                  refine x_iload hM dL_agree_529 rfl ?_
                  refine x_iload hM dL_agree_531 rfl ?_
                  refine x_callS hM ws_L_62 (m_L_isShare ho hc hk rfl rfl) ⟨Nat.le_of_ble_eq_true rfl, Nat.le_of_ble_eq_true rfl⟩ rfl rfl (Nat.le_of_ble_eq_true rfl) ⟨Nat.le_of_ble_eq_true rfl, Nat.le_of_ble_eq_true rfl⟩ dL_agree_533 (k_rI ?_)
                  refine x_if_ne (tgt := 541) hM dL_agree_536 (by decide) (by omega) (fun c_536 => ?_) (fun c_536 => ?_)
                  · refine x_iload hM dL_agree_541 rfl ?_
                    refine x_aload_n hM dL_agree_543 rfl rfl ?_
                    refine x_iload hM dL_agree_544 rfl ?_
                    refine x_iconst hM dL_agree_546 ?_
                    refine x_callV hM wv_L_42 (o_o4 ho hk) ⟨Nat.le_of_ble_eq_true rfl, Nat.le_of_ble_eq_true rfl⟩ (ob_o ho) rfl rfl rfl rfl (Nat.le_of_ble_eq_true rfl) ⟨Nat.le_of_ble_eq_true rfl, Nat.le_of_ble_eq_true rfl⟩ dL_agree_547 (k_rI ?_)
                    refine x_iadd hM dL_agree_550 ?_
                    refine x_istore hM dL_agree_551 rfl (Nat.le_of_ble_eq_true rfl) rfl ?_
                    refine x_iinc hM dL_agree_553 rfl rfl rfl ?_
                    refine x_goto (tgt := 322) hM dL_agree_556 (by decide) ?_
                    exact ih (k + 1) _ _ _ _ (by omega)
                  · exfalso; omega
              · exfalso; omega
            | succ q ihq =>
              intro i mo fi la c1 hiq h1 h2 h3 h4 h5
              have hi : i < s.L.length := by omega
              have hok := strW_at hW hi
              have e1 := (r3 i hi).2
              rw [drop_fold _ _ hi] at h1 h2
              by_cases c : s.L[i].1 = k
              · rw [show lonS k mo s.L[i] = _ from lonS_t c] at h1
                rw [show mbtS k (c1, la) s.L[i] = ((if c1 = -6 then s.L[i].2.1 else c1), s.L[i].2.2) from if_pos c] at h2
                refine x_iload hM dL_agree_344 rfl ?_
                refine x_aload_n hM dL_agree_346 rfl rfl ?_
                refine x_iconst hM dL_agree_347 ?_
                refine x_iald hM r1 (by omega) dL_agree_348 ?_
                refine x_icmp_ge (tgt := 433) hM dL_agree_349 (by decide) (by omega) (by omega) (fun c_349 => ?_) (fun c_349 => ?_)
                · exfalso; omega
                · refine x_aload_n hM dL_agree_352 rfl rfl ?_
                  refine x_iload hM dL_agree_353 rfl ?_
                  refine x_callS hM ws_L_28 (m_L_ownerOf hrs hi) ⟨Nat.le_of_ble_eq_true rfl, Nat.le_of_ble_eq_true rfl⟩ rfl rfl (Nat.le_of_ble_eq_true rfl) ⟨Nat.le_of_ble_eq_true rfl, Nat.le_of_ble_eq_true rfl⟩ dL_agree_355 (k_rI ?_)
                  refine x_iload hM dL_agree_358 rfl ?_
                  refine x_icmp_ne (tgt := 427) hM dL_agree_360 (by decide) (by omega) (by omega) (fun c_360 => ?_) (fun c_360 => ?_)
                  · exfalso; omega
                  · refine x_aload_n hM dL_agree_363 rfl rfl ?_
                    refine x_iconst hM dL_agree_364 ?_
                    refine x_iload hM dL_agree_365 rfl ?_
                    refine x_iadd hM dL_agree_367 ?_
                    refine x_iald hM (by first | assumption | exact row_c (by first | assumption | exact sr1 (by assumption) | exact sr2 (by assumption) | exact sr3 (by assumption) | exact sr4 (by assumption) | exact sr5 (by assumption) | exact rg1 (by assumption) | exact rg2 (by assumption) | exact rg3 (by assumption))) (by omega) dL_agree_368 ?_
                    refine x_aload_n hM dL_agree_369 rfl rfl ?_
                    refine x_iload hM dL_agree_370 rfl ?_
                    refine x_callS hM ws_L_18 (m_L_firstOf (by assumption) (by omega)) ⟨Nat.le_of_ble_eq_true rfl, Nat.le_of_ble_eq_true rfl⟩ rfl rfl (Nat.le_of_ble_eq_true rfl) ⟨Nat.le_of_ble_eq_true rfl, Nat.le_of_ble_eq_true rfl⟩ dL_agree_372 (k_rI ?_)
                    refine x_isub hM dL_agree_375 ?_
                    refine x_iload hM dL_agree_376 rfl ?_
                    refine x_icmp_le (tgt := 397) hM dL_agree_378 (by decide) (by omega) (by omega) (fun c_378 => ?_) (fun c_378 => ?_)
                    · refine x_iload hM dL_agree_397 rfl ?_
                      refine x_istore hM dL_agree_399 rfl (Nat.le_of_ble_eq_true rfl) rfl ?_
                      refine x_iload hM dL_agree_401 rfl ?_
                      refine x_if_ge (tgt := 415) hM dL_agree_403 (by decide) (by omega) (fun c_403 => ?_) (fun c_403 => ?_)
                      · refine x_iload hM dL_agree_415 rfl ?_
                        refine x_istore hM dL_agree_417 rfl (Nat.le_of_ble_eq_true rfl) rfl ?_
                        refine x_aload_n hM dL_agree_419 rfl rfl ?_
                        refine x_iconst hM dL_agree_420 ?_
                        refine x_iload hM dL_agree_421 rfl ?_
                        refine x_iadd hM dL_agree_423 ?_
                        refine x_iald hM (by first | assumption | exact row_c (by first | assumption | exact sr1 (by assumption) | exact sr2 (by assumption) | exact sr3 (by assumption) | exact sr4 (by assumption) | exact sr5 (by assumption) | exact rg1 (by assumption) | exact rg2 (by assumption) | exact rg3 (by assumption))) (by omega) dL_agree_424 ?_
                        refine x_istore hM dL_agree_425 rfl (Nat.le_of_ble_eq_true rfl) rfl ?_
                        refine x_iinc hM dL_agree_427 rfl rfl rfl ?_
                        refine x_goto (tgt := 344) hM dL_agree_430 (by decide) ?_
                        refine ihq (i + 1) _ _ _ (if c1 = -6 then s.L[i].2.1 else c1) (by omega) ?_ ?_ ?_ (by omega) (by omega)
                        · rw [← h1]; first | rw [if_pos (by omega), e1] | rw [if_neg (by omega)]
                        · rw [← h2, e1]
                        · first | (rw [if_pos (show c1 = -6 by omega)]; omega) | (rw [if_neg (show ¬ c1 = -6 by omega)]; omega)
                      · refine x_aload_n hM dL_agree_406 rfl rfl ?_
                        refine x_iload hM dL_agree_407 rfl ?_
                        refine x_callS hM ws_L_18 (m_L_firstOf hrs hi) ⟨Nat.le_of_ble_eq_true rfl, Nat.le_of_ble_eq_true rfl⟩ rfl rfl (Nat.le_of_ble_eq_true rfl) ⟨Nat.le_of_ble_eq_true rfl, Nat.le_of_ble_eq_true rfl⟩ dL_agree_409 (k_rI ?_)
                        refine x_goto (tgt := 417) hM dL_agree_412 (by decide) ?_
                        refine x_istore hM dL_agree_417 rfl (Nat.le_of_ble_eq_true rfl) rfl ?_
                        refine x_aload_n hM dL_agree_419 rfl rfl ?_
                        refine x_iconst hM dL_agree_420 ?_
                        refine x_iload hM dL_agree_421 rfl ?_
                        refine x_iadd hM dL_agree_423 ?_
                        refine x_iald hM (by first | assumption | exact row_c (by first | assumption | exact sr1 (by assumption) | exact sr2 (by assumption) | exact sr3 (by assumption) | exact sr4 (by assumption) | exact sr5 (by assumption) | exact rg1 (by assumption) | exact rg2 (by assumption) | exact rg3 (by assumption))) (by omega) dL_agree_424 ?_
                        refine x_istore hM dL_agree_425 rfl (Nat.le_of_ble_eq_true rfl) rfl ?_
                        refine x_iinc hM dL_agree_427 rfl rfl rfl ?_
                        refine x_goto (tgt := 344) hM dL_agree_430 (by decide) ?_
                        refine ihq (i + 1) _ _ _ (if c1 = -6 then s.L[i].2.1 else c1) (by omega) ?_ ?_ ?_ (by omega) (by omega)
                        · rw [← h1]; first | rw [if_pos (by omega), e1] | rw [if_neg (by omega)]
                        · rw [← h2, e1]
                        · first | (rw [if_pos (show c1 = -6 by omega)]; omega) | (rw [if_neg (show ¬ c1 = -6 by omega)]; omega)
                    · refine x_aload_n hM dL_agree_381 rfl rfl ?_
                      refine x_iconst hM dL_agree_382 ?_
                      refine x_iload hM dL_agree_383 rfl ?_
                      refine x_iadd hM dL_agree_385 ?_
                      refine x_iald hM (by first | assumption | exact row_c (by first | assumption | exact sr1 (by assumption) | exact sr2 (by assumption) | exact sr3 (by assumption) | exact sr4 (by assumption) | exact sr5 (by assumption) | exact rg1 (by assumption) | exact rg2 (by assumption) | exact rg3 (by assumption))) (by omega) dL_agree_386 ?_
                      refine x_aload_n hM dL_agree_387 rfl rfl ?_
                      refine x_iload hM dL_agree_388 rfl ?_
                      refine x_callS hM ws_L_18 (m_L_firstOf hrs hi) ⟨Nat.le_of_ble_eq_true rfl, Nat.le_of_ble_eq_true rfl⟩ rfl rfl (Nat.le_of_ble_eq_true rfl) ⟨Nat.le_of_ble_eq_true rfl, Nat.le_of_ble_eq_true rfl⟩ dL_agree_390 (k_rI ?_)
                      refine x_isub hM dL_agree_393 ?_
                      refine x_goto (tgt := 399) hM dL_agree_394 (by decide) ?_
                      refine x_istore hM dL_agree_399 rfl (Nat.le_of_ble_eq_true rfl) rfl ?_
                      refine x_iload hM dL_agree_401 rfl ?_
                      refine x_if_ge (tgt := 415) hM dL_agree_403 (by decide) (by omega) (fun c_403 => ?_) (fun c_403 => ?_)
                      · refine x_iload hM dL_agree_415 rfl ?_
                        refine x_istore hM dL_agree_417 rfl (Nat.le_of_ble_eq_true rfl) rfl ?_
                        refine x_aload_n hM dL_agree_419 rfl rfl ?_
                        refine x_iconst hM dL_agree_420 ?_
                        refine x_iload hM dL_agree_421 rfl ?_
                        refine x_iadd hM dL_agree_423 ?_
                        refine x_iald hM (by first | assumption | exact row_c (by first | assumption | exact sr1 (by assumption) | exact sr2 (by assumption) | exact sr3 (by assumption) | exact sr4 (by assumption) | exact sr5 (by assumption) | exact rg1 (by assumption) | exact rg2 (by assumption) | exact rg3 (by assumption))) (by omega) dL_agree_424 ?_
                        refine x_istore hM dL_agree_425 rfl (Nat.le_of_ble_eq_true rfl) rfl ?_
                        refine x_iinc hM dL_agree_427 rfl rfl rfl ?_
                        refine x_goto (tgt := 344) hM dL_agree_430 (by decide) ?_
                        refine ihq (i + 1) _ _ _ (if c1 = -6 then s.L[i].2.1 else c1) (by omega) ?_ ?_ ?_ (by omega) (by omega)
                        · rw [← h1]; first | rw [if_pos (by omega), e1] | rw [if_neg (by omega)]
                        · rw [← h2, e1]
                        · first | (rw [if_pos (show c1 = -6 by omega)]; omega) | (rw [if_neg (show ¬ c1 = -6 by omega)]; omega)
                      · refine x_aload_n hM dL_agree_406 rfl rfl ?_
                        refine x_iload hM dL_agree_407 rfl ?_
                        refine x_callS hM ws_L_18 (m_L_firstOf hrs hi) ⟨Nat.le_of_ble_eq_true rfl, Nat.le_of_ble_eq_true rfl⟩ rfl rfl (Nat.le_of_ble_eq_true rfl) ⟨Nat.le_of_ble_eq_true rfl, Nat.le_of_ble_eq_true rfl⟩ dL_agree_409 (k_rI ?_)
                        refine x_goto (tgt := 417) hM dL_agree_412 (by decide) ?_
                        refine x_istore hM dL_agree_417 rfl (Nat.le_of_ble_eq_true rfl) rfl ?_
                        refine x_aload_n hM dL_agree_419 rfl rfl ?_
                        refine x_iconst hM dL_agree_420 ?_
                        refine x_iload hM dL_agree_421 rfl ?_
                        refine x_iadd hM dL_agree_423 ?_
                        refine x_iald hM (by first | assumption | exact row_c (by first | assumption | exact sr1 (by assumption) | exact sr2 (by assumption) | exact sr3 (by assumption) | exact sr4 (by assumption) | exact sr5 (by assumption) | exact rg1 (by assumption) | exact rg2 (by assumption) | exact rg3 (by assumption))) (by omega) dL_agree_424 ?_
                        refine x_istore hM dL_agree_425 rfl (Nat.le_of_ble_eq_true rfl) rfl ?_
                        refine x_iinc hM dL_agree_427 rfl rfl rfl ?_
                        refine x_goto (tgt := 344) hM dL_agree_430 (by decide) ?_
                        refine ihq (i + 1) _ _ _ (if c1 = -6 then s.L[i].2.1 else c1) (by omega) ?_ ?_ ?_ (by omega) (by omega)
                        · rw [← h1]; first | rw [if_pos (by omega), e1] | rw [if_neg (by omega)]
                        · rw [← h2, e1]
                        · first | (rw [if_pos (show c1 = -6 by omega)]; omega) | (rw [if_neg (show ¬ c1 = -6 by omega)]; omega)
              · rw [show lonS k mo s.L[i] = _ from lonS_f c] at h1
                rw [show mbtS k (c1, la) s.L[i] = (c1, la) from if_neg c] at h2
                refine x_iload hM dL_agree_344 rfl ?_
                refine x_aload_n hM dL_agree_346 rfl rfl ?_
                refine x_iconst hM dL_agree_347 ?_
                refine x_iald hM r1 (by omega) dL_agree_348 ?_
                refine x_icmp_ge (tgt := 433) hM dL_agree_349 (by decide) (by omega) (by omega) (fun c_349 => ?_) (fun c_349 => ?_)
                · exfalso; omega
                · refine x_aload_n hM dL_agree_352 rfl rfl ?_
                  refine x_iload hM dL_agree_353 rfl ?_
                  refine x_callS hM ws_L_28 (m_L_ownerOf hrs hi) ⟨Nat.le_of_ble_eq_true rfl, Nat.le_of_ble_eq_true rfl⟩ rfl rfl (Nat.le_of_ble_eq_true rfl) ⟨Nat.le_of_ble_eq_true rfl, Nat.le_of_ble_eq_true rfl⟩ dL_agree_355 (k_rI ?_)
                  refine x_iload hM dL_agree_358 rfl ?_
                  refine x_icmp_ne (tgt := 427) hM dL_agree_360 (by decide) (by omega) (by omega) (fun c_360 => ?_) (fun c_360 => ?_)
                  · refine x_iinc hM dL_agree_427 rfl rfl rfl ?_
                    refine x_goto (tgt := 344) hM dL_agree_430 (by decide) ?_
                    exact ihq (i + 1) _ _ _ c1 (by omega) h1 h2 h3 h4 h5
                  · exfalso; omega
          refine x_iload hM dL_agree_322 rfl ?_
          refine x_aload_n hM dL_agree_324 rfl rfl ?_
          refine x_iconst hM dL_agree_325 ?_
          refine x_callV hM wv_L_8 (o_c1 ho) ⟨Nat.le_of_ble_eq_true rfl, Nat.le_of_ble_eq_true rfl⟩ (ob_o ho) rfl rfl rfl rfl (Nat.le_of_ble_eq_true rfl) ⟨Nat.le_of_ble_eq_true rfl, Nat.le_of_ble_eq_true rfl⟩ dL_agree_326 (k_rI ?_)
          refine x_icmp_ge (tgt := 559) hM dL_agree_329 (by decide) (by omega) (by omega) (fun c_329 => ?_) (fun c_329 => ?_)
          · exfalso; omega
          · refine x_iconst hM dL_agree_332 ?_
            refine x_istore hM dL_agree_333 rfl (Nat.le_of_ble_eq_true rfl) rfl ?_
            refine x_iconst hM dL_agree_335 ?_
            refine x_istore hM dL_agree_336 rfl (Nat.le_of_ble_eq_true rfl) rfl ?_
            refine x_iconst hM dL_agree_338 ?_
            refine x_istore hM dL_agree_339 rfl (Nat.le_of_ble_eq_true rfl) rfl ?_
            refine x_iconst hM dL_agree_341 ?_
            refine x_istore hM dL_agree_342 rfl (Nat.le_of_ble_eq_true rfl) rfl ?_
            exact K4 s.L.length 0 0 (-1) 0 (-6) (by omega) rfl rfl (by omega) (by omega) (by omega)
      refine x_iconst hM dL_agree_316 ?_
      refine x_istore hM dL_agree_317 rfl (Nat.le_of_ble_eq_true rfl) rfl ?_
      refine x_iconst hM dL_agree_319 ?_
      refine x_istore hM dL_agree_320 rfl (Nat.le_of_ble_eq_true rfl) rfl ?_
      exact K3 s.own.toNat 0 _ _ _ _ (by omega)
    /- the holes and all -/
    have A2 : ∀ (at0 : Int) (u8 : Option Value), at0 = gapP s.L s.L.length → P 30 [some (.ref x), some (.ref z), some (.ref (z + 1)), some (.int (iI at0)), some (.int (iI (holF s.L))), some (.int (iI (lghF s.L))), some (.int (iI (mtA s.L))), some (.int (iI (s.L.length + 1 : Nat))), u8, none, none, none, none] [] w1 (z + 2, 2, 128) := by
      intro at0 u8 hat
      have hg := gapP_b hW s.L.length
      have hl := hW.1
      have hf1 : 0 < lghF s.L → 0 ≤ fhoV s.L (lghF s.L) := by
        intro hp
        rcases fho_spec hW hc (lghF s.L) (by omega) with q | q
        · exfalso
          rcases hlgs.2 with r | ⟨g, hg, r⟩
          · have : lghF s.L = 0 := r
            omega
          · exact gfr_any (gapL 0 s.L) 0 0 (by decide) ⟨g, hg, by have : g.2 = lghF s.L := r; omega⟩ q.2
        · omega
      have hf2 : gfrF s.L (lghF s.L + 1) 2 = -6 := gfr_non _ _ _ _ fun g hg => by
        have := hlgs.1.2 g hg
        have : g.2 ≤ lghF s.L := this
        omega
      have hf3 : fhoV s.L (lghF s.L) ≤ 10000 := by
        unfold fhoV
        split
        · decide
        · exact (gapP_b hW _).2
      refine x_iload hM dL_agree_30 rfl ?_
      refine x_aload_n hM dL_agree_32 rfl rfl ?_
      refine x_iconst hM dL_agree_33 ?_
      refine x_iald hM r1 (by omega) dL_agree_34 ?_
      refine x_icmp_gt (tgt := 240) hM dL_agree_35 (by decide) (by omega) (by omega) (fun c_35 => ?_) (fun c_35 => ?_)
      · refine x_iload_n hM dL_agree_240 rfl rfl ?_
        refine x_sipush hM dL_agree_241 rfl ?_
        refine x_icmp_gt (tgt := 314) hM dL_agree_244 (by decide) (by omega) (by omega) (fun c_244 => ?_) (fun c_244 => ?_)
        · exfalso; omega
        · refine x_aload_n hM dL_agree_247 rfl rfl ?_
          refine x_iconst hM dL_agree_248 ?_
          refine x_callV hM wv_L_8 (o_c3 ho) ⟨Nat.le_of_ble_eq_true rfl, Nat.le_of_ble_eq_true rfl⟩ (ob_o ho) rfl rfl rfl rfl (Nat.le_of_ble_eq_true rfl) ⟨Nat.le_of_ble_eq_true rfl, Nat.le_of_ble_eq_true rfl⟩ dL_agree_249 (k_rI ?_)
          refine x_iload hM dL_agree_252 rfl ?_
          refine x_sameN (tgt := 314) hM e0 dL_agree_254 (by decide) ?_
          refine x_aload_n hM dL_agree_257 rfl rfl ?_
          refine x_iconst hM dL_agree_258 ?_
          refine x_callV hM wv_L_8 (o_c4 ho) ⟨Nat.le_of_ble_eq_true rfl, Nat.le_of_ble_eq_true rfl⟩ (ob_o ho) rfl rfl rfl rfl (Nat.le_of_ble_eq_true rfl) ⟨Nat.le_of_ble_eq_true rfl, Nat.le_of_ble_eq_true rfl⟩ dL_agree_259 (k_rI ?_)
          refine x_iload hM dL_agree_262 rfl ?_
          refine x_sameN (tgt := 314) hM rfl dL_agree_264 (by decide) ?_
          refine x_aload_n hM dL_agree_267 rfl rfl ?_
          refine x_iconst hM dL_agree_268 ?_
          refine x_callV hM wv_L_8 (o_c5 ho) ⟨Nat.le_of_ble_eq_true rfl, Nat.le_of_ble_eq_true rfl⟩ (ob_o ho) rfl rfl rfl rfl (Nat.le_of_ble_eq_true rfl) ⟨Nat.le_of_ble_eq_true rfl, Nat.le_of_ble_eq_true rfl⟩ dL_agree_269 (k_rI ?_)
          refine x_iload hM dL_agree_272 rfl ?_
          refine x_sameN (tgt := 314) hM rfl dL_agree_274 (by decide) ?_
          refine x_iload hM dL_agree_277 rfl ?_
          refine x_if_le (tgt := 292) hM dL_agree_279 (by decide) (by omega) (fun c_279 => ?_) (fun c_279 => ?_)
          · refine x_iload hM dL_agree_292 rfl ?_
            refine x_sipush hM dL_agree_294 rfl ?_
            refine x_icmp_ge (tgt := 316) hM dL_agree_297 (by decide) (by omega) (by omega) (fun c_297 => ?_) (fun c_297 => ?_)
            · exact A3 _ _ _ _ _ _ _ _
            · refine x_aload_n hM dL_agree_300 rfl rfl ?_
              refine x_iload hM dL_agree_301 rfl ?_
              refine x_iconst hM dL_agree_303 ?_
              refine x_iadd hM dL_agree_304 ?_
              refine x_iconst hM dL_agree_305 ?_
              refine x_callV hM wv_L_52 ((o_hol (v := -6)) ho (by omega) (by omega) (if_pos hf2)) ⟨Nat.le_of_ble_eq_true rfl, Nat.le_of_ble_eq_true rfl⟩ (ob_o ho) rfl rfl rfl rfl (Nat.le_of_ble_eq_true rfl) ⟨Nat.le_of_ble_eq_true rfl, Nat.le_of_ble_eq_true rfl⟩ dL_agree_306 (k_rI ?_)
              refine x_bipush hM dL_agree_309 rfl ?_
              refine x_same (tgt := 316) hM rfl dL_agree_311 (by decide) ?_
              exact A3 _ _ _ _ _ _ _ _
          · refine x_aload_n hM dL_agree_282 rfl rfl ?_
            refine x_iload hM dL_agree_283 rfl ?_
            refine x_iconst hM dL_agree_285 ?_
            refine x_callV hM wv_L_52 ((o_hol (v := fhoV s.L (lghF s.L))) ho (by omega) (by omega) rfl) ⟨Nat.le_of_ble_eq_true rfl, Nat.le_of_ble_eq_true rfl⟩ (ob_o ho) rfl rfl rfl rfl (Nat.le_of_ble_eq_true rfl) ⟨Nat.le_of_ble_eq_true rfl, Nat.le_of_ble_eq_true rfl⟩ dL_agree_286 (k_rI ?_)
            refine x_if_lt (tgt := 314) hM dL_agree_289 (by decide) (by unfold fhoV; split <;> first | omega | (have := gapP_b hW (gfrF s.L (lghF s.L) 0).toNat; omega)) (fun c_289 => ?_) (fun c_289 => ?_)
            · exfalso; omega
            · refine x_iload hM dL_agree_292 rfl ?_
              refine x_sipush hM dL_agree_294 rfl ?_
              refine x_icmp_ge (tgt := 316) hM dL_agree_297 (by decide) (by omega) (by omega) (fun c_297 => ?_) (fun c_297 => ?_)
              · exact A3 _ _ _ _ _ _ _ _
              · refine x_aload_n hM dL_agree_300 rfl rfl ?_
                refine x_iload hM dL_agree_301 rfl ?_
                refine x_iconst hM dL_agree_303 ?_
                refine x_iadd hM dL_agree_304 ?_
                refine x_iconst hM dL_agree_305 ?_
                refine x_callV hM wv_L_52 ((o_hol (v := -6)) ho (by omega) (by omega) (if_pos hf2)) ⟨Nat.le_of_ble_eq_true rfl, Nat.le_of_ble_eq_true rfl⟩ (ob_o ho) rfl rfl rfl rfl (Nat.le_of_ble_eq_true rfl) ⟨Nat.le_of_ble_eq_true rfl, Nat.le_of_ble_eq_true rfl⟩ dL_agree_306 (k_rI ?_)
                refine x_bipush hM dL_agree_309 rfl ?_
                refine x_same (tgt := 316) hM rfl dL_agree_311 (by decide) ?_
                exact A3 _ _ _ _ _ _ _ _
      · exfalso; omega
    have K1 : ∀ (j i : Nat) (at0 hl lg ow : Int) (u8 : Option Value), i + j = s.L.length → at0 = gapP s.L i → ((gapL 0 s.L).drop i).foldl holS hl = holF s.L → ((gapL 0 s.L).drop i).foldl lghS lg = lghF s.L → ow + mtA (s.L.drop i) = mtA s.L → (0 ≤ lg ∧ lg ≤ 10000) → P 30 [some (.ref x), some (.ref z), some (.ref (z + 1)), some (.int (iI at0)), some (.int (iI hl)), some (.int (iI lg)), some (.int (iI ow)), some (.int (iI i)), u8, none, none, none, none] [] w1 (z + 2, 2, 128) := by
      intro j
      induction j with
      | zero =>
        intro i at0 hl lg ow u8 hij hat h1 h2 h3 h4
        have hil : i = s.L.length := by omega
        have hll := hW.1
        have hgp := gapP_b hW i
        have hge : gapE s.L i = 10000 := gapE_e (by omega)
        have hgg := gap_le hc hW.2 (k := i) (by omega)
        rw [gap_fold _ (by omega), gap_foldE _ (by omega)] at h1 h2
        rw [List.drop_of_length_le (by omega)] at h3
        have h3 : ow + 0 = mtA s.L := h3
        have h3 : ow = mtA s.L := by omega
        have S3 : ∀ hl lg : Int, hl = holF s.L → lg = lghF s.L → P 171 [some (.ref x), some (.ref z), some (.ref (z + 1)), some (.int (iI at0)), some (.int (iI hl)), some (.int (iI lg)), some (.int (iI ow)), some (.int (iI i)), some (.int (iI 10000)), none, none, none, none] [] w1 (z + 2, 2, 128) := by
          intro hl lg q1 q2
          refine x_iload hM dL_agree_171 rfl ?_
          refine x_aload_n hM dL_agree_173 rfl rfl ?_
          refine x_iconst hM dL_agree_174 ?_
          refine x_iald hM r1 (by omega) dL_agree_175 ?_
          refine x_icmp_ge (tgt := 234) hM dL_agree_176 (by decide) (by omega) (by omega) (fun c_176 => ?_) (fun c_176 => ?_)
          · refine x_iinc hM dL_agree_234 rfl rfl rfl ?_
            refine x_goto (tgt := 30) hM dL_agree_237 (by decide) ?_
            rw [q1, q2, h3, hil]; exact A2 _ _ (by rw [hat, hil])
          · exfalso; omega
        have S2 : ∀ hl lg : Int, hl = holF s.L → lg = lghF s.L → P 140 [some (.ref x), some (.ref z), some (.ref (z + 1)), some (.int (iI at0)), some (.int (iI hl)), some (.int (iI lg)), some (.int (iI ow)), some (.int (iI i)), some (.int (iI 10000)), none, none, none, none] [] w1 (z + 2, 2, 128) := by
          intro hl lg q1 q2
          refine x_iload hM dL_agree_140 rfl ?_
          refine x_iload_n hM dL_agree_142 rfl rfl ?_
          refine x_icmp_le (tgt := 171) hM dL_agree_143 (by decide) (by omega) (by omega) (fun c_143 => ?_) (fun c_143 => ?_)
          · exact S3 _ _ q1 q2
          · refine x_aload_n hM dL_agree_146 rfl rfl ?_
            refine x_iload_n hM dL_agree_147 rfl rfl ?_
            refine x_callV hM wv_L_49 (o_at ho (by omega)) ⟨Nat.le_of_ble_eq_true rfl, Nat.le_of_ble_eq_true rfl⟩ (ob_o ho) rfl rfl rfl rfl (Nat.le_of_ble_eq_true rfl) ⟨Nat.le_of_ble_eq_true rfl, Nat.le_of_ble_eq_true rfl⟩ dL_agree_148 (k_rI ?_)
            refine x_bipush hM dL_agree_151 rfl ?_
            refine x_sameN (tgt := 169) hM (hld_gap hc hlt (k := i) (by omega) (by omega) (by omega)) dL_agree_153 (by decide) ?_
            refine x_aload_n hM dL_agree_156 rfl rfl ?_
            refine x_iload hM dL_agree_157 rfl ?_
            refine x_iconst hM dL_agree_159 ?_
            refine x_isub hM dL_agree_160 ?_
            refine x_callV hM wv_L_49 (o_at ho (by omega)) ⟨Nat.le_of_ble_eq_true rfl, Nat.le_of_ble_eq_true rfl⟩ (ob_o ho) rfl rfl rfl rfl (Nat.le_of_ble_eq_true rfl) ⟨Nat.le_of_ble_eq_true rfl, Nat.le_of_ble_eq_true rfl⟩ dL_agree_161 (k_rI ?_)
            refine x_bipush hM dL_agree_164 rfl ?_
            refine x_same (tgt := 171) hM (hld_gap hc hlt (k := i) (by omega) (by omega) (by omega)) dL_agree_166 (by decide) ?_
            exact S3 _ _ q1 q2
        have S1 : ∀ hl : Int, hl = holF s.L → P 120 [some (.ref x), some (.ref z), some (.ref (z + 1)), some (.int (iI at0)), some (.int (iI hl)), some (.int (iI lg)), some (.int (iI ow)), some (.int (iI i)), some (.int (iI 10000)), none, none, none, none] [] w1 (z + 2, 2, 128) := by
          intro hl q1
          refine x_iload hM dL_agree_120 rfl ?_
          refine x_iload_n hM dL_agree_122 rfl rfl ?_
          refine x_isub hM dL_agree_123 ?_
          refine x_iload hM dL_agree_124 rfl ?_
          refine x_icmp_le (tgt := 136) hM dL_agree_126 (by decide) (by omega) (by omega) (fun c_126 => ?_) (fun c_126 => ?_)
          · refine x_iload hM dL_agree_136 rfl ?_
            refine x_istore hM dL_agree_138 rfl (Nat.le_of_ble_eq_true rfl) rfl ?_
            refine S2 _ _ q1 ?_
            rw [← h2, hge, ← hat]; unfold lghS; first | rw [if_pos (by show lg < 10000 - at0; omega)] | rw [if_neg (by show ¬ lg < 10000 - at0; omega)]
          · refine x_iload hM dL_agree_129 rfl ?_
            refine x_iload_n hM dL_agree_131 rfl rfl ?_
            refine x_isub hM dL_agree_132 ?_
            refine x_goto (tgt := 138) hM dL_agree_133 (by decide) ?_
            refine x_istore hM dL_agree_138 rfl (Nat.le_of_ble_eq_true rfl) rfl ?_
            refine S2 _ _ q1 ?_
            rw [← h2, hge, ← hat]; unfold lghS; first | rw [if_pos (by show lg < 10000 - at0; omega)] | rw [if_neg (by show ¬ lg < 10000 - at0; omega)]
        refine x_iload hM dL_agree_30 rfl ?_
        refine x_aload_n hM dL_agree_32 rfl rfl ?_
        refine x_iconst hM dL_agree_33 ?_
        refine x_iald hM r1 (by omega) dL_agree_34 ?_
        refine x_icmp_gt (tgt := 240) hM dL_agree_35 (by decide) (by omega) (by omega) (fun c_35 => ?_) (fun c_35 => ?_)
        · exfalso; omega
        · refine x_iload hM dL_agree_38 rfl ?_
          refine x_aload_n hM dL_agree_40 rfl rfl ?_
          refine x_iconst hM dL_agree_41 ?_
          refine x_iald hM r1 (by omega) dL_agree_42 ?_
          refine x_icmp_ge (tgt := 55) hM dL_agree_43 (by decide) (by omega) (by omega) (fun c_43 => ?_) (fun c_43 => ?_)
          · refine x_sipush hM dL_agree_55 rfl ?_
            refine x_istore hM dL_agree_58 rfl (Nat.le_of_ble_eq_true rfl) rfl ?_
            refine x_iload hM dL_agree_60 rfl ?_
            refine x_iload_n hM dL_agree_62 rfl rfl ?_
            refine x_icmp_lt (tgt := 102) hM dL_agree_63 (by decide) (by omega) (by omega) (fun c_63 => ?_) (fun c_63 => ?_)
            · exfalso; omega
            · refine x_iload hM dL_agree_66 rfl ?_
              refine x_if_le (tgt := 104) hM dL_agree_68 (by decide) (by omega) (fun c_68 => ?_) (fun c_68 => ?_)
              · refine x_iload hM dL_agree_104 rfl ?_
                refine x_iload hM dL_agree_106 rfl ?_
                refine x_iload_n hM dL_agree_108 rfl rfl ?_
                refine x_icmp_le (tgt := 116) hM dL_agree_109 (by decide) (by omega) (by omega) (fun c_109 => ?_) (fun c_109 => ?_)
                · refine x_iconst hM dL_agree_116 ?_
                  refine x_iadd hM dL_agree_117 ?_
                  refine x_istore hM dL_agree_118 rfl (Nat.le_of_ble_eq_true rfl) rfl ?_
                  refine S1 _ ?_
                  rw [← h1, hge, ← hat]; unfold holS; first | (rw [if_pos (by show 0 < 10000 - at0; omega)]) | (rw [if_neg (by show ¬ 0 < 10000 - at0; omega)]; omega)
                · refine x_iconst hM dL_agree_112 ?_
                  refine x_goto (tgt := 117) hM dL_agree_113 (by decide) ?_
                  refine x_iadd hM dL_agree_117 ?_
                  refine x_istore hM dL_agree_118 rfl (Nat.le_of_ble_eq_true rfl) rfl ?_
                  refine S1 _ ?_
                  rw [← h1, hge, ← hat]; unfold holS; first | (rw [if_pos (by show 0 < 10000 - at0; omega)]) | (rw [if_neg (by show ¬ 0 < 10000 - at0; omega)]; omega)
              · refine x_iload hM dL_agree_71 rfl ?_
                refine x_aload_n hM dL_agree_73 rfl rfl ?_
                refine x_iconst hM dL_agree_74 ?_
                refine x_iald hM r1 (by omega) dL_agree_75 ?_
                refine x_icmp_ge (tgt := 104) hM dL_agree_76 (by decide) (by omega) (by omega) (fun c_76 => ?_) (fun c_76 => ?_)
                · refine x_iload hM dL_agree_104 rfl ?_
                  refine x_iload hM dL_agree_106 rfl ?_
                  refine x_iload_n hM dL_agree_108 rfl rfl ?_
                  refine x_icmp_le (tgt := 116) hM dL_agree_109 (by decide) (by omega) (by omega) (fun c_109 => ?_) (fun c_109 => ?_)
                  · refine x_iconst hM dL_agree_116 ?_
                    refine x_iadd hM dL_agree_117 ?_
                    refine x_istore hM dL_agree_118 rfl (Nat.le_of_ble_eq_true rfl) rfl ?_
                    refine S1 _ ?_
                    rw [← h1, hge, ← hat]; unfold holS; first | (rw [if_pos (by show 0 < 10000 - at0; omega)]) | (rw [if_neg (by show ¬ 0 < 10000 - at0; omega)]; omega)
                  · refine x_iconst hM dL_agree_112 ?_
                    refine x_goto (tgt := 117) hM dL_agree_113 (by decide) ?_
                    refine x_iadd hM dL_agree_117 ?_
                    refine x_istore hM dL_agree_118 rfl (Nat.le_of_ble_eq_true rfl) rfl ?_
                    refine S1 _ ?_
                    rw [← h1, hge, ← hat]; unfold holS; first | (rw [if_pos (by show 0 < 10000 - at0; omega)]) | (rw [if_neg (by show ¬ 0 < 10000 - at0; omega)]; omega)
                · exfalso; omega
          · exfalso; omega
      | succ j ih =>
        intro i at0 hl lg ow u8 hij hat h1 h2 h3 h4
        have hi : i < s.L.length := by omega
        have hll := hW.1
        have hok := strW_at hW hi
        have e1 := (r3 i hi).2
        have hgp := gapP_b hW i
        have hge : gapE s.L i = s.L[i].2.1 := gapE_s hi
        have hgg := gap_le hc hW.2 (k := i) (by omega)
        rw [hge, ← hat] at hgg
        rw [gap_fold _ (by omega)] at h1 h2
        rw [List.drop_eq_getElem_cons hi] at h3
        have h3 : ow + ((s.L[i].2.2 - s.L[i].2.1) + mtA (s.L.drop (i + 1))) = mtA s.L := h3
        have hat1 := hld_at s.L hsr s.L[i] (List.getElem_mem _) (m := s.L[i].2.1) (Int.le_refl _) hok.2.2.2.1
        have hat2 := hld_at s.L hsr s.L[i] (List.getElem_mem _) (m := s.L[i].2.2 - 1) (by omega) (by omega)
        have S3 : ∀ hl lg : Int, ((gapL 0 s.L).drop (i + 1)).foldl holS hl = holF s.L → ((gapL 0 s.L).drop (i + 1)).foldl lghS lg = lghF s.L → (0 ≤ lg ∧ lg ≤ 10000) → P 171 [some (.ref x), some (.ref z), some (.ref (z + 1)), some (.int (iI at0)), some (.int (iI hl)), some (.int (iI lg)), some (.int (iI ow)), some (.int (iI i)), some (.int (iI s.L[i].2.1)), none, none, none, none] [] w1 (z + 2, 2, 128) := by
          intro hl lg q1 q2 q3
          refine x_iload hM dL_agree_171 rfl ?_
          refine x_aload_n hM dL_agree_173 rfl rfl ?_
          refine x_iconst hM dL_agree_174 ?_
          refine x_iald hM r1 (by omega) dL_agree_175 ?_
          refine x_icmp_ge (tgt := 234) hM dL_agree_176 (by decide) (by omega) (by omega) (fun c_176 => ?_) (fun c_176 => ?_)
          · exfalso; omega
          · refine x_aload_n hM dL_agree_179 rfl rfl ?_
            refine x_iconst hM dL_agree_180 ?_
            refine x_iload hM dL_agree_181 rfl ?_
            refine x_iadd hM dL_agree_183 ?_
            refine x_iald hM r2 (by omega) dL_agree_184 ?_
            rw [e1]
            refine x_istore_n hM dL_agree_185 rfl rfl (Nat.le_of_ble_eq_true rfl) rfl ?_
            refine x_iload hM dL_agree_186 rfl ?_
            refine x_iload_n hM dL_agree_188 rfl rfl ?_
            refine x_iload hM dL_agree_189 rfl ?_
            refine x_isub hM dL_agree_191 ?_
            refine x_iadd hM dL_agree_192 ?_
            refine x_istore hM dL_agree_193 rfl (Nat.le_of_ble_eq_true rfl) rfl ?_
            refine x_iload_n hM dL_agree_195 rfl rfl ?_
            refine x_iload hM dL_agree_196 rfl ?_
            refine x_icmp_le (tgt := 232) hM dL_agree_198 (by decide) (by omega) (by omega) (fun c_198 => ?_) (fun c_198 => ?_)
            · exfalso; omega
            · refine x_aload_n hM dL_agree_201 rfl rfl ?_
              refine x_iload hM dL_agree_202 rfl ?_
              refine x_callV hM wv_L_49 (o_at ho (by omega)) ⟨Nat.le_of_ble_eq_true rfl, Nat.le_of_ble_eq_true rfl⟩ (ob_o ho) rfl rfl rfl rfl (Nat.le_of_ble_eq_true rfl) ⟨Nat.le_of_ble_eq_true rfl, Nat.le_of_ble_eq_true rfl⟩ dL_agree_204 (k_rI ?_)
              refine x_aload_n hM dL_agree_207 rfl rfl ?_
              refine x_iload hM dL_agree_208 rfl ?_
              refine x_callS hM ws_L_28 (m_L_ownerOf hrs hi) ⟨Nat.le_of_ble_eq_true rfl, Nat.le_of_ble_eq_true rfl⟩ rfl rfl (Nat.le_of_ble_eq_true rfl) ⟨Nat.le_of_ble_eq_true rfl, Nat.le_of_ble_eq_true rfl⟩ dL_agree_210 (k_rI ?_)
              refine x_sameN (tgt := 232) hM hat1 dL_agree_213 (by decide) ?_
              refine x_aload_n hM dL_agree_216 rfl rfl ?_
              refine x_iload_n hM dL_agree_217 rfl rfl ?_
              refine x_iconst hM dL_agree_218 ?_
              refine x_isub hM dL_agree_219 ?_
              refine x_callV hM wv_L_49 (o_at ho (by omega)) ⟨Nat.le_of_ble_eq_true rfl, Nat.le_of_ble_eq_true rfl⟩ (ob_o ho) rfl rfl rfl rfl (Nat.le_of_ble_eq_true rfl) ⟨Nat.le_of_ble_eq_true rfl, Nat.le_of_ble_eq_true rfl⟩ dL_agree_220 (k_rI ?_)
              refine x_aload_n hM dL_agree_223 rfl rfl ?_
              refine x_iload hM dL_agree_224 rfl ?_
              refine x_callS hM ws_L_28 (m_L_ownerOf hrs hi) ⟨Nat.le_of_ble_eq_true rfl, Nat.le_of_ble_eq_true rfl⟩ rfl rfl (Nat.le_of_ble_eq_true rfl) ⟨Nat.le_of_ble_eq_true rfl, Nat.le_of_ble_eq_true rfl⟩ dL_agree_226 (k_rI ?_)
              refine x_same (tgt := 234) hM hat2 dL_agree_229 (by decide) ?_
              refine x_iinc hM dL_agree_234 rfl rfl rfl ?_
              refine x_goto (tgt := 30) hM dL_agree_237 (by decide) ?_
              exact ih (i + 1) _ _ _ _ _ (by omega) (gapP_s hi).symm q1 q2 (by omega) q3
        have S2 : ∀ hl lg : Int, ((gapL 0 s.L).drop (i + 1)).foldl holS hl = holF s.L → ((gapL 0 s.L).drop (i + 1)).foldl lghS lg = lghF s.L → (0 ≤ lg ∧ lg ≤ 10000) → P 140 [some (.ref x), some (.ref z), some (.ref (z + 1)), some (.int (iI at0)), some (.int (iI hl)), some (.int (iI lg)), some (.int (iI ow)), some (.int (iI i)), some (.int (iI s.L[i].2.1)), none, none, none, none] [] w1 (z + 2, 2, 128) := by
          intro hl lg q1 q2 q3
          refine x_iload hM dL_agree_140 rfl ?_
          refine x_iload_n hM dL_agree_142 rfl rfl ?_
          refine x_icmp_le (tgt := 171) hM dL_agree_143 (by decide) (by omega) (by omega) (fun c_143 => ?_) (fun c_143 => ?_)
          · exact S3 _ _ q1 q2 q3
          · refine x_aload_n hM dL_agree_146 rfl rfl ?_
            refine x_iload_n hM dL_agree_147 rfl rfl ?_
            refine x_callV hM wv_L_49 (o_at ho (by omega)) ⟨Nat.le_of_ble_eq_true rfl, Nat.le_of_ble_eq_true rfl⟩ (ob_o ho) rfl rfl rfl rfl (Nat.le_of_ble_eq_true rfl) ⟨Nat.le_of_ble_eq_true rfl, Nat.le_of_ble_eq_true rfl⟩ dL_agree_148 (k_rI ?_)
            refine x_bipush hM dL_agree_151 rfl ?_
            refine x_sameN (tgt := 169) hM (hld_gap hc hlt (k := i) (by omega) (by omega) (by omega)) dL_agree_153 (by decide) ?_
            refine x_aload_n hM dL_agree_156 rfl rfl ?_
            refine x_iload hM dL_agree_157 rfl ?_
            refine x_iconst hM dL_agree_159 ?_
            refine x_isub hM dL_agree_160 ?_
            refine x_callV hM wv_L_49 (o_at ho (by omega)) ⟨Nat.le_of_ble_eq_true rfl, Nat.le_of_ble_eq_true rfl⟩ (ob_o ho) rfl rfl rfl rfl (Nat.le_of_ble_eq_true rfl) ⟨Nat.le_of_ble_eq_true rfl, Nat.le_of_ble_eq_true rfl⟩ dL_agree_161 (k_rI ?_)
            refine x_bipush hM dL_agree_164 rfl ?_
            refine x_same (tgt := 171) hM (hld_gap hc hlt (k := i) (by omega) (by omega) (by omega)) dL_agree_166 (by decide) ?_
            exact S3 _ _ q1 q2 q3
        have S1 : ∀ hl : Int, ((gapL 0 s.L).drop (i + 1)).foldl holS hl = holF s.L → P 120 [some (.ref x), some (.ref z), some (.ref (z + 1)), some (.int (iI at0)), some (.int (iI hl)), some (.int (iI lg)), some (.int (iI ow)), some (.int (iI i)), some (.int (iI s.L[i].2.1)), none, none, none, none] [] w1 (z + 2, 2, 128) := by
          intro hl q1
          refine x_iload hM dL_agree_120 rfl ?_
          refine x_iload_n hM dL_agree_122 rfl rfl ?_
          refine x_isub hM dL_agree_123 ?_
          refine x_iload hM dL_agree_124 rfl ?_
          refine x_icmp_le (tgt := 136) hM dL_agree_126 (by decide) (by omega) (by omega) (fun c_126 => ?_) (fun c_126 => ?_)
          · refine x_iload hM dL_agree_136 rfl ?_
            refine x_istore hM dL_agree_138 rfl (Nat.le_of_ble_eq_true rfl) rfl ?_
            refine S2 _ _ q1 ?_ (by omega)
            rw [← h2, hge, ← hat]; congr 1; unfold lghS; first | rw [if_pos (by show lg < s.L[i].2.1 - at0; omega)] | rw [if_neg (by show ¬ lg < s.L[i].2.1 - at0; omega)]
          · refine x_iload hM dL_agree_129 rfl ?_
            refine x_iload_n hM dL_agree_131 rfl rfl ?_
            refine x_isub hM dL_agree_132 ?_
            refine x_goto (tgt := 138) hM dL_agree_133 (by decide) ?_
            refine x_istore hM dL_agree_138 rfl (Nat.le_of_ble_eq_true rfl) rfl ?_
            refine S2 _ _ q1 ?_ (by omega)
            rw [← h2, hge, ← hat]; congr 1; unfold lghS; first | rw [if_pos (by show lg < s.L[i].2.1 - at0; omega)] | rw [if_neg (by show ¬ lg < s.L[i].2.1 - at0; omega)]
        have S0 : P 104 [some (.ref x), some (.ref z), some (.ref (z + 1)), some (.int (iI at0)), some (.int (iI hl)), some (.int (iI lg)), some (.int (iI ow)), some (.int (iI i)), some (.int (iI s.L[i].2.1)), none, none, none, none] [] w1 (z + 2, 2, 128) := by
          refine x_iload hM dL_agree_104 rfl ?_
          refine x_iload hM dL_agree_106 rfl ?_
          refine x_iload_n hM dL_agree_108 rfl rfl ?_
          refine x_icmp_le (tgt := 116) hM dL_agree_109 (by decide) (by omega) (by omega) (fun c_109 => ?_) (fun c_109 => ?_)
          · refine x_iconst hM dL_agree_116 ?_
            refine x_iadd hM dL_agree_117 ?_
            refine x_istore hM dL_agree_118 rfl (Nat.le_of_ble_eq_true rfl) rfl ?_
            refine S1 _ ?_
            rw [← h1, hge, ← hat]; congr 1; unfold holS; first | (rw [if_pos (by show 0 < s.L[i].2.1 - at0; omega)]) | (rw [if_neg (by show ¬ 0 < s.L[i].2.1 - at0; omega)]; omega)
          · refine x_iconst hM dL_agree_112 ?_
            refine x_goto (tgt := 117) hM dL_agree_113 (by decide) ?_
            refine x_iadd hM dL_agree_117 ?_
            refine x_istore hM dL_agree_118 rfl (Nat.le_of_ble_eq_true rfl) rfl ?_
            refine S1 _ ?_
            rw [← h1, hge, ← hat]; congr 1; unfold holS; first | (rw [if_pos (by show 0 < s.L[i].2.1 - at0; omega)]) | (rw [if_neg (by show ¬ 0 < s.L[i].2.1 - at0; omega)]; omega)
        by_cases c0 : i = 0
        · skip
          refine x_iload hM dL_agree_30 rfl ?_
          refine x_aload_n hM dL_agree_32 rfl rfl ?_
          refine x_iconst hM dL_agree_33 ?_
          refine x_iald hM r1 (by omega) dL_agree_34 ?_
          refine x_icmp_gt (tgt := 240) hM dL_agree_35 (by decide) (by omega) (by omega) (fun c_35 => ?_) (fun c_35 => ?_)
          · exfalso; omega
          · refine x_iload hM dL_agree_38 rfl ?_
            refine x_aload_n hM dL_agree_40 rfl rfl ?_
            refine x_iconst hM dL_agree_41 ?_
            refine x_iald hM r1 (by omega) dL_agree_42 ?_
            refine x_icmp_ge (tgt := 55) hM dL_agree_43 (by decide) (by omega) (by omega) (fun c_43 => ?_) (fun c_43 => ?_)
            · exfalso; omega
            · refine x_aload_n hM dL_agree_46 rfl rfl ?_
              refine x_iload hM dL_agree_47 rfl ?_
              refine x_callS hM ws_L_18 (m_L_firstOf hrs hi) ⟨Nat.le_of_ble_eq_true rfl, Nat.le_of_ble_eq_true rfl⟩ rfl rfl (Nat.le_of_ble_eq_true rfl) ⟨Nat.le_of_ble_eq_true rfl, Nat.le_of_ble_eq_true rfl⟩ dL_agree_49 (k_rI ?_)
              refine x_goto (tgt := 58) hM dL_agree_52 (by decide) ?_
              refine x_istore hM dL_agree_58 rfl (Nat.le_of_ble_eq_true rfl) rfl ?_
              refine x_iload hM dL_agree_60 rfl ?_
              refine x_iload_n hM dL_agree_62 rfl rfl ?_
              refine x_icmp_lt (tgt := 102) hM dL_agree_63 (by decide) (by omega) (by omega) (fun c_63 => ?_) (fun c_63 => ?_)
              · exfalso; omega
              · refine x_iload hM dL_agree_66 rfl ?_
                refine x_if_le (tgt := 104) hM dL_agree_68 (by decide) (by omega) (fun c_68 => ?_) (fun c_68 => ?_)
                · exact S0
                · exfalso; omega
        · obtain ⟨p, rfl⟩ : ∃ p, i = p + 1 := ⟨i - 1, by omega⟩
          have hj := hc p hi
          have hokp := strW_at hW (show p < s.L.length by omega)
          rw [gapP_s (show p < s.L.length by omega)] at hat
          refine x_iload hM dL_agree_30 rfl ?_
          refine x_aload_n hM dL_agree_32 rfl rfl ?_
          refine x_iconst hM dL_agree_33 ?_
          refine x_iald hM r1 (by omega) dL_agree_34 ?_
          refine x_icmp_gt (tgt := 240) hM dL_agree_35 (by decide) (by omega) (by omega) (fun c_35 => ?_) (fun c_35 => ?_)
          · exfalso; omega
          · refine x_iload hM dL_agree_38 rfl ?_
            refine x_aload_n hM dL_agree_40 rfl rfl ?_
            refine x_iconst hM dL_agree_41 ?_
            refine x_iald hM r1 (by omega) dL_agree_42 ?_
            refine x_icmp_ge (tgt := 55) hM dL_agree_43 (by decide) (by omega) (by omega) (fun c_43 => ?_) (fun c_43 => ?_)
            · exfalso; omega
            · refine x_aload_n hM dL_agree_46 rfl rfl ?_
              refine x_iload hM dL_agree_47 rfl ?_
              refine x_callS hM ws_L_18 (m_L_firstOf hrs hi) ⟨Nat.le_of_ble_eq_true rfl, Nat.le_of_ble_eq_true rfl⟩ rfl rfl (Nat.le_of_ble_eq_true rfl) ⟨Nat.le_of_ble_eq_true rfl, Nat.le_of_ble_eq_true rfl⟩ dL_agree_49 (k_rI ?_)
              refine x_goto (tgt := 58) hM dL_agree_52 (by decide) ?_
              refine x_istore hM dL_agree_58 rfl (Nat.le_of_ble_eq_true rfl) rfl ?_
              refine x_iload hM dL_agree_60 rfl ?_
              refine x_iload_n hM dL_agree_62 rfl rfl ?_
              refine x_icmp_lt (tgt := 102) hM dL_agree_63 (by decide) (by omega) (by omega) (fun c_63 => ?_) (fun c_63 => ?_)
              · exfalso; omega
              · refine x_iload hM dL_agree_66 rfl ?_
                refine x_if_le (tgt := 104) hM dL_agree_68 (by decide) (by omega) (fun c_68 => ?_) (fun c_68 => ?_)
                · exfalso; omega
                · refine x_iload hM dL_agree_71 rfl ?_
                  refine x_aload_n hM dL_agree_73 rfl rfl ?_
                  refine x_iconst hM dL_agree_74 ?_
                  refine x_iald hM r1 (by omega) dL_agree_75 ?_
                  refine x_icmp_ge (tgt := 104) hM dL_agree_76 (by decide) (by omega) (by omega) (fun c_76 => ?_) (fun c_76 => ?_)
                  · exfalso; omega
                  · refine x_iload hM dL_agree_79 rfl ?_
                    refine x_iload_n hM dL_agree_81 rfl rfl ?_
                    refine x_icmp_ne (tgt := 104) hM dL_agree_82 (by decide) (by omega) (by omega) (fun c_82 => ?_) (fun c_82 => ?_)
                    · exact S0
                    · refine x_aload_n hM dL_agree_85 rfl rfl ?_
                      refine x_iload hM dL_agree_86 rfl ?_
                      refine x_callS hM ws_L_28 (m_L_ownerOf hrs hi) ⟨Nat.le_of_ble_eq_true rfl, Nat.le_of_ble_eq_true rfl⟩ rfl rfl (Nat.le_of_ble_eq_true rfl) ⟨Nat.le_of_ble_eq_true rfl, Nat.le_of_ble_eq_true rfl⟩ dL_agree_88 (k_rI ?_)
                      refine x_aload_n hM dL_agree_91 rfl rfl ?_
                      refine x_iload hM dL_agree_92 rfl ?_
                      refine x_iconst hM dL_agree_94 ?_
                      refine x_isub hM dL_agree_95 ?_
                      rw [show ((p + 1 : Nat) : Int) - 1 = ((p : Nat) : Int) by omega]
                      refine x_callS hM ws_L_28 (m_L_ownerOf hrs (show p < s.L.length by omega)) ⟨Nat.le_of_ble_eq_true rfl, Nat.le_of_ble_eq_true rfl⟩ rfl rfl (Nat.le_of_ble_eq_true rfl) ⟨Nat.le_of_ble_eq_true rfl, Nat.le_of_ble_eq_true rfl⟩ dL_agree_96 (k_rI ?_)
                      refine x_icmp_ne (tgt := 104) hM dL_agree_99 (by decide) (by omega) (by omega) (fun c_99 => ?_) (fun c_99 => ?_)
                      · exact S0
                      · exact absurd c_99.symm (hj.2 (by omega))
    refine x_iconst hM dL_agree_16 ?_
    refine x_istore_n hM dL_agree_17 rfl rfl (Nat.le_of_ble_eq_true rfl) rfl ?_
    refine x_iconst hM dL_agree_18 ?_
    refine x_istore hM dL_agree_19 rfl (Nat.le_of_ble_eq_true rfl) rfl ?_
    refine x_iconst hM dL_agree_21 ?_
    refine x_istore hM dL_agree_22 rfl (Nat.le_of_ble_eq_true rfl) rfl ?_
    refine x_iconst hM dL_agree_24 ?_
    refine x_istore hM dL_agree_25 rfl (Nat.le_of_ble_eq_true rfl) rfl ?_
    refine x_iconst hM dL_agree_27 ?_
    refine x_istore hM dL_agree_28 rfl (Nat.le_of_ble_eq_true rfl) rfl ?_
    exact K1 s.L.length 0 0 0 0 0 _ (by omega) rfl rfl rfl (Int.zero_add _) (by omega)
  have o0 : obA G (wS (wS w z (aI G 64 (fun _ => 0))) (z + 1) (aI G 64 (fun _ => 0))) x s := (h.kp (Kp.wS (by omega))).kp (Kp.wS (by omega))
  refine x_bipush hM dL_agree_0 rfl ?_
  refine x_newI  hM wy_int (by omega) rfl (by omega) (Nat.le_of_ble_eq_true rfl) (Nat.le_of_ble_eq_true rfl) dL_agree_2 ?_
  refine x_astore_n hM dL_agree_4 rfl rfl (Nat.le_of_ble_eq_true rfl) rfl ?_
  refine x_bipush hM dL_agree_5 rfl ?_
  refine x_newI  hM wy_int (by omega) rfl (by omega) (Nat.le_of_ble_eq_true rfl) (Nat.le_of_ble_eq_true rfl) dL_agree_7 ?_
  refine x_astore_n hM dL_agree_9 rfl rfl (Nat.le_of_ble_eq_true rfl) rfl ?_
  refine x_aload_n hM dL_agree_10 rfl rfl ?_
  refine x_aload_n hM dL_agree_11 rfl rfl ?_
  refine x_aload_n hM dL_agree_12 rfl rfl ?_
  refine x_callS hM ws_L_45 (m_L_read o0 ((wS_ne (by omega)).trans wS_eq) wS_eq (by omega) (by omega)) ⟨Nat.le_of_ble_eq_true rfl, Nat.le_of_ble_eq_true rfl⟩ rfl rfl (Nat.le_of_ble_eq_true rfl) ⟨Nat.le_of_ble_eq_true rfl, Nat.le_of_ble_eq_true rfl⟩ dL_agree_13 (k_qV fun w_13 q_13 => ?_)
  obtain ⟨qr, qf⟩ := q_13
  exact A1 _ (o0.kp (qf.kp (by omega) (by omega))) qr
