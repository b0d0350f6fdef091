/-! The reference: exchange -/
/-- the piece that is a range by its number -/
theorem pie_at : ∀ (L : List Sg) (i n r : Int), n ≤ r → r < n + rnF L → ∃ (A : List Sg) (s : Sg) (B : List Sg), L = A ++ s :: B ∧ 0 ≤ s.1 ∧ pieF L i n r = i + A.length ∧ ((rngS A).length : Int) = r - n := by
  intro L
  induction L with
  | nil => intro i n r h1 h2; have : rnF [] = 0 := rfl; omega
  | cons s L ih =>
    intro i n r h1 h2
    rw [rnF_cons] at h2
    rw [pieF]
    by_cases c : 0 ≤ s.1
    · rw [if_pos c] at h2 ⊢
      by_cases d : n = r
      · rw [if_pos d]
        exact ⟨[], s, L, rfl, c, (Int.add_zero i).symm, by simp [rngS]; omega⟩
      · rw [if_neg d]
        obtain ⟨A, u, B, e1, e2, e3, e4⟩ := ih (i + 1) (n + 1) r (by omega) (by omega)
        refine ⟨s :: A, u, B, by rw [e1]; rfl, e2, by rw [e3, List.length_cons]; omega, ?_⟩
        rw [rngS_pos c, List.length_cons]; omega
    · rw [if_neg c] at h2 ⊢
      obtain ⟨A, u, B, e1, e2, e3, e4⟩ := ih (i + 1) n r h1 (by omega)
      refine ⟨s :: A, u, B, by rw [e1]; rfl, e2, by rw [e3, List.length_cons]; omega, ?_⟩
      rw [rngS_neg (by omega)]; exact e4
theorem pie_ix {L : List Sg} {r : Nat} (h : (r : Int) < rnF L) : ∃ p : Nat, pieF L 0 0 r = p ∧ ∃ hp : p < L.length, 0 ≤ L[p].1 := by
  obtain ⟨A, s, B, e1, e2, e3, -⟩ := pie_at L 0 0 r (by omega) (by omega)
  subst e1
  refine ⟨A.length, by omega, by simp, ?_⟩
  rw [List.getElem_append_right (Nat.le_refl _)]
  simpa using e2
theorem rbN_len (L : List Sg) (p q : Nat) : ∀ i : Nat, (rbN L p q i).length ≤ i := by
  intro i
  induction i with
  | zero => exact Nat.le_refl _
  | succ i ih =>
    have := layF_len (rbN L p q i) (gA_ L i) (gB_ L i) (rbV L p q i)
    unfold rbN
    omega
abbrev exRk (L : List Sg) (a b : Nat) : Int := rnF (rbN L (pieF L 0 0 a).toNat (pieF L 0 0 b).toNat L.length)
abbrev exRc (L : List Sg) (a b : Nat) (c : Int) : Prop := gB_ L (pieF L 0 0 a).toNat - gA_ L (pieF L 0 0 a).toNat = gB_ L (pieF L 0 0 b).toNat - gA_ L (pieF L 0 0 b).toNat ∧ gO L (pieF L 0 0 a).toNat ≠ gO L (pieF L 0 0 b).toNat ∧ exRk L a b < c
def exRS (L : List Sg) (a : Nat) (c : Int × Int × Int) (b : Nat) : Int × Int × Int := if exRc L a b c.2.2 then ((a : Int), (b : Int), exRk L a b) else c
def exRI (L : List Sg) (N : Nat) (c : Int × Int × Int) (a : Nat) : Int × Int × Int := ((List.range N).drop (a + 1)).foldl (exRS L a) c
def exRF (L : List Sg) (N : Nat) : Int × Int × Int := (List.range N).foldl (exRI L N) (-6, -6, (N : Int))
def exRV (L : List Sg) (k : Int) : Int := if 0 ≤ k ∧ k ≤ 2 then (if (exRF L (rnF L).toNat).1 < 0 then -6 else if k = 0 then (exRF L (rnF L).toNat).1 else if k = 1 then (exRF L (rnF L).toNat).2.1 else (exRF L (rnF L).toNat).2.2) else -2
theorem m_X7_exchange {l : Launch} {G : xG} {w : Wd} {z m : Nat} {it : Int} {t : St} {hs : List St} {sg mn pl wr kk : Int} (h : muA G w m it t hs sg mn pl wr) (hk0 : iR kk) : xMet l G yX7_exchange cX7_exchange 10 (some .int) ({ frames := 3, cells := 0, slots := 0, locals := 65 } : Room) [.ref m, .int (iI kk)] w z (mqP G w z m it t hs sg mn pl wr (exRV t.L kk)) := by
  obtain ⟨R, hh, hn, hm, hr⟩ := id h
  obtain ⟨f, g, hn1, hp, hn2, hg⟩ := id hn
  have hrd := rd_mk hh hn1 hp
  have hl := (np_w hp).1
  have hrb := rnF_b t.L
  refine xMet_of RX7 rfl (by decide +kernel) false (by decide +kernel) (Nat.le_of_ble_eq_true rfl) rfl ?_
  intro P hM hR
  by_cases ck : 0 ≤ kk ∧ kk ≤ 2
  · obtain ⟨N, hN⟩ : ∃ N : Nat, rnF t.L = N := ⟨(rnF t.L).toNat, by omega⟩
    have hNt : (rnF t.L).toNat = N := by omega
    have fin : ∀ (c : Int × Int × Int) (w1 : Wd) (ls : List (Option Value)), iR c.1 → c = exRF t.L N → muA G w1 m it t hs sg mn pl wr → Fm m w w1 → P 135 ([some (.ref m), some (.int (iI kk)), some (.int (iI (N : Int))), some (.int (iI c.2.2)), some (.int (iI c.1)), some (.int (iI c.2.1))] ++ ls) [] w1 (z, 0, 0) := by
      intro c w1 ls hc he hmu hF
      obtain ⟨c1, c2, c3⟩ := c
      have e0 : exRV t.L kk = if c1 < 0 then -6 else if kk = 0 then c1 else if kk = 1 then c2 else c3 := by unfold exRV; rw [if_pos ck, hNt, ← he]
      dsimp only at hc ⊢
      refine x_iload hM dX7_exchange_135 rfl ?_
      refine x_if_ge (tgt := 145) hM dX7_exchange_137 (by decide) (by omega) (fun c_137 => ?_) (fun c_137 => ?_)
      · refine x_iload_n hM dX7_exchange_145 rfl rfl ?_
        refine x_if_ne (tgt := 154) hM dX7_exchange_146 (by decide) (by omega) (fun c_146 => ?_) (fun c_146 => ?_)
        · refine x_iload_n hM dX7_exchange_154 rfl rfl ?_
          refine x_iconst hM dX7_exchange_155 ?_
          refine x_icmp_ne (tgt := 164) hM dX7_exchange_156 (by decide) (by omega) (by omega) (fun c_156 => ?_) (fun c_156 => ?_)
          · refine x_iload_n hM dX7_exchange_164 rfl rfl ?_
            refine hR.i dX7_exchange_165 (Nat.zero_le _) (Nat.zero_le _) ?_
            exact p_qI ⟨by rw [e0]; first | rw [if_pos (by omega)] | (rw [if_neg (by omega)]; first | rw [if_pos (by omega)] | (rw [if_neg (by omega)]; first | rw [if_pos (by omega)] | rw [if_neg (by omega)])), hmu, hF⟩
          · refine x_iload hM dX7_exchange_159 rfl ?_
            refine x_goto (tgt := 165) hM dX7_exchange_161 (by decide) ?_
            refine hR.i dX7_exchange_165 (Nat.zero_le _) (Nat.zero_le _) ?_
            exact p_qI ⟨by rw [e0]; first | rw [if_pos (by omega)] | (rw [if_neg (by omega)]; first | rw [if_pos (by omega)] | (rw [if_neg (by omega)]; first | rw [if_pos (by omega)] | rw [if_neg (by omega)])), hmu, hF⟩
        · refine x_iload hM dX7_exchange_149 rfl ?_
          refine x_goto (tgt := 165) hM dX7_exchange_151 (by decide) ?_
          refine hR.i dX7_exchange_165 (Nat.zero_le _) (Nat.zero_le _) ?_
          exact p_qI ⟨by rw [e0]; first | rw [if_pos (by omega)] | (rw [if_neg (by omega)]; first | rw [if_pos (by omega)] | (rw [if_neg (by omega)]; first | rw [if_pos (by omega)] | rw [if_neg (by omega)])), hmu, hF⟩
      · refine x_bipush hM dX7_exchange_140 rfl ?_
        refine x_goto (tgt := 165) hM dX7_exchange_142 (by decide) ?_
        refine hR.i dX7_exchange_165 (Nat.zero_le _) (Nat.zero_le _) ?_
        exact p_qI ⟨by rw [e0]; first | rw [if_pos (by omega)] | (rw [if_neg (by omega)]; first | rw [if_pos (by omega)] | (rw [if_neg (by omega)]; first | rw [if_pos (by omega)] | rw [if_neg (by omega)])), hmu, hF⟩
    have KI : ∀ (k i : Nat) (c : Int × Int × Int) (w1 : Wd) (x7 x8 x9 : Option Value), N - i < k → i ≤ N → (-6 ≤ c.1 ∧ c.1 ≤ 100) ∧ 0 ≤ c.2.2 ∧ c.2.2 ≤ 100 → ((List.range N).drop i).foldl (exRI t.L N) c = exRF t.L N → muA G w1 m it t hs sg mn pl wr → Fm m w w1 → P 30 [some (.ref m), some (.int (iI kk)), some (.int (iI (N : Int))), some (.int (iI c.2.2)), some (.int (iI c.1)), some (.int (iI c.2.1)), some (.int (iI i)), x7, x8, x9] [] w1 (z, 0, 0) := by
      intro k
      induction k with
      | zero => intro i c w1 x7 x8 x9 hk; omega
      | succ k ih =>
        intro i c w1 x7 x8 x9 hk hi hc hinv hmu hF
        by_cases hlt : i < N
        · rw [range_drop _ hlt] at hinv
          have KJ : ∀ (k2 j : Nat) (c : Int × Int × Int) (w1 : Wd) (x8 x9 : Option Value), N - j < k2 → i < j → j ≤ N → (-6 ≤ c.1 ∧ c.1 ≤ 100) ∧ 0 ≤ c.2.2 ∧ c.2.2 ≤ 100 → ((List.range N).drop (i + 1)).foldl (exRI t.L N) (((List.range N).drop j).foldl (exRS t.L i) c) = exRF t.L N → muA G w1 m it t hs sg mn pl wr → Fm m w w1 → P 42 [some (.ref m), some (.int (iI kk)), some (.int (iI (N : Int))), some (.int (iI c.2.2)), some (.int (iI c.1)), some (.int (iI c.2.1)), some (.int (iI i)), some (.int (iI j)), x8, x9] [] w1 (z, 0, 0) := by
            intro k2
            induction k2 with
            | zero => intro j c w1 x8 x9 hk; omega
            | succ k2 ih2 =>
              intro j c w1 x8 x9 hk2 hij hj hc hinv hmu hF
              by_cases hlj : j < N
              · rw [range_drop _ hlj] at hinv
                obtain ⟨R1, hh1, hnA, hm1, hr1⟩ := id hmu
                obtain ⟨f1, g1, hb1, hp1, -, -⟩ := id hnA
                have hrd1 := rd_mk hh1 hb1 hp1
                obtain ⟨pa, hpa, hpl, hpo⟩ := pie_ix (L := t.L) (r := i) (by omega)
                obtain ⟨qb, hqb, hql, hqo⟩ := pie_ix (L := t.L) (r := j) (by omega)
                have hgp := np_at hp1 hpl
                have hgq := np_at hp1 hql
                have ea := gO_at hpl
                have eb := gO_at hql
                have rb := rnF_b (rbN t.L pa qb t.L.length)
                have rb2 := rbN_len t.L pa qb t.L.length
                have ek : exRk t.L i j = rnF (rbN t.L pa qb t.L.length) := by show rnF (rbN t.L (pieF t.L 0 0 i).toNat (pieF t.L 0 0 j).toNat t.L.length) = _; rw [hpa, hqb]; rfl
                have ec : exRc t.L i j c.2.2 ↔ (t.L[pa].2.2 - t.L[pa].2.1 = t.L[qb].2.2 - t.L[qb].2.1 ∧ t.L[pa].1 ≠ t.L[qb].1 ∧ rnF (rbN t.L pa qb t.L.length) < c.2.2) := by
                  show (gB_ t.L (pieF t.L 0 0 i).toNat - gA_ t.L (pieF t.L 0 0 i).toNat = gB_ t.L (pieF t.L 0 0 j).toNat - gA_ t.L (pieF t.L 0 0 j).toNat ∧ gO t.L (pieF t.L 0 0 i).toNat ≠ gO t.L (pieF t.L 0 0 j).toNat ∧ rnF (rbN t.L (pieF t.L 0 0 i).toNat (pieF t.L 0 0 j).toNat t.L.length) < c.2.2) ↔ _
                  rw [hpa, hqb, Int.toNat_natCast, Int.toNat_natCast, ea.1, ea.2.1, ea.2.2, eb.1, eb.2.1, eb.2.2]
                have J123 : ∀ (c2 : Int × Int × Int) (w2 : Wd) (x8 x9 : Option Value), exRS t.L i c j = c2 → (-6 ≤ c2.1 ∧ c2.1 ≤ 100) ∧ 0 ≤ c2.2.2 ∧ c2.2.2 ≤ 100 → muA G w2 m it t hs sg mn pl wr → Fm m w w2 → P 123 [some (.ref m), some (.int (iI kk)), some (.int (iI (N : Int))), some (.int (iI c2.2.2)), some (.int (iI c2.1)), some (.int (iI c2.2.1)), some (.int (iI i)), some (.int (iI j)), x8, x9] [] w2 (z, 0, 0) := by
                  intro c2 w2 x8 x9 hc2 hcb hmu2 hF2
                  rw [hc2] at hinv
                  refine x_iinc hM dX7_exchange_123 rfl rfl rfl ?_
                  refine x_goto (tgt := 42) hM dX7_exchange_126 (by decide) ?_
                  exact ih2 (j + 1) c2 w2 _ _ (by omega) (by omega) (by omega) hcb hinv hmu2 hF2
                have no : ¬ (t.L[pa].2.2 - t.L[pa].2.1 = t.L[qb].2.2 - t.L[qb].2.1 ∧ t.L[pa].1 ≠ t.L[qb].1 ∧ rnF (rbN t.L pa qb t.L.length) < c.2.2) → exRS t.L i c j = c := fun q => if_neg (fun z => q (ec.mp z))
                have yes : (t.L[pa].2.2 - t.L[pa].2.1 = t.L[qb].2.2 - t.L[qb].2.1 ∧ t.L[pa].1 ≠ t.L[qb].1 ∧ rnF (rbN t.L pa qb t.L.length) < c.2.2) → exRS t.L i c j = ((i : Int), (j : Int), rnF (rbN t.L pa qb t.L.length)) := fun q => by rw [← ek]; exact if_pos (ec.mpr q)
                refine x_iload hM dX7_exchange_42 rfl ?_
                refine x_iload_n hM dX7_exchange_44 rfl rfl ?_
                refine x_icmp_ge (tgt := 129) hM dX7_exchange_45 (by decide) (by omega) (by omega) (fun c_45 => ?_) (fun c_45 => ?_)
                · exfalso; omega
                · refine x_aload_n hM dX7_exchange_48 rfl rfl ?_
                  refine x_iload hM dX7_exchange_49 rfl ?_
                  refine x_callV hM wv_X7_168 (m_X7_pieceOf hrd1 (by omega)) ⟨Nat.le_of_ble_eq_true rfl, Nat.le_of_ble_eq_true rfl⟩ hh1 rfl rfl rfl rfl (Nat.le_of_ble_eq_true rfl) ⟨Nat.le_of_ble_eq_true rfl, Nat.le_of_ble_eq_true rfl⟩ dX7_exchange_51 (k_rI ?_)
                  rw [hpa]
                  refine x_istore hM dX7_exchange_54 rfl (Nat.le_of_ble_eq_true rfl) rfl ?_
                  refine x_aload_n hM dX7_exchange_56 rfl rfl ?_
                  refine x_iload hM dX7_exchange_57 rfl ?_
                  refine x_callV hM wv_X7_168 (m_X7_pieceOf hrd1 (by omega)) ⟨Nat.le_of_ble_eq_true rfl, Nat.le_of_ble_eq_true rfl⟩ hh1 rfl rfl rfl rfl (Nat.le_of_ble_eq_true rfl) ⟨Nat.le_of_ble_eq_true rfl, Nat.le_of_ble_eq_true rfl⟩ dX7_exchange_59 (k_rI ?_)
                  rw [hqb]
                  refine x_istore hM dX7_exchange_62 rfl (Nat.le_of_ble_eq_true rfl) rfl ?_
                  refine x_aload_n hM dX7_exchange_64 rfl rfl ?_
                  refine x_iload hM dX7_exchange_65 rfl ?_
                  refine x_callV hM wv_X7_124 (m_X7_length (i := pa) hrd1 hpl) ⟨Nat.le_of_ble_eq_true rfl, Nat.le_of_ble_eq_true rfl⟩ hh1 rfl rfl rfl rfl (Nat.le_of_ble_eq_true rfl) ⟨Nat.le_of_ble_eq_true rfl, Nat.le_of_ble_eq_true rfl⟩ dX7_exchange_67 (k_rI ?_)
                  refine x_aload_n hM dX7_exchange_70 rfl rfl ?_
                  refine x_iload hM dX7_exchange_71 rfl ?_
                  refine x_callV hM wv_X7_124 (m_X7_length (i := qb) hrd1 hql) ⟨Nat.le_of_ble_eq_true rfl, Nat.le_of_ble_eq_true rfl⟩ hh1 rfl rfl rfl rfl (Nat.le_of_ble_eq_true rfl) ⟨Nat.le_of_ble_eq_true rfl, Nat.le_of_ble_eq_true rfl⟩ dX7_exchange_73 (k_rI ?_)
                  refine x_icmp_ne (tgt := 123) hM dX7_exchange_76 (by decide) (by omega) (by omega) (fun c_76 => ?_) (fun c_76 => ?_)
                  · first | exact J123 ((i : Int), (j : Int), rnF (rbN t.L pa qb t.L.length)) _ _ _ (yes ⟨by assumption, by assumption, by assumption⟩) (by dsimp only; omega) hmu3 hF3 | exact J123 c _ _ _ (no (fun q => absurd q.2.2 (by omega))) hc hmu2 hF2 | exact J123 c _ _ _ (no (fun q => q.2.1 (by assumption))) hc hmu hF | exact J123 c _ _ _ (no (fun q => absurd q.1 (by assumption))) hc hmu hF
                  · refine x_aload_n hM dX7_exchange_79 rfl rfl ?_
                    refine x_iload hM dX7_exchange_80 rfl ?_
                    refine x_callV hM wv_X7_87 (m_X7_ownerOf (i := pa) hrd1 hpl) ⟨Nat.le_of_ble_eq_true rfl, Nat.le_of_ble_eq_true rfl⟩ hh1 rfl rfl rfl rfl (Nat.le_of_ble_eq_true rfl) ⟨Nat.le_of_ble_eq_true rfl, Nat.le_of_ble_eq_true rfl⟩ dX7_exchange_82 (k_rI ?_)
                    refine x_aload_n hM dX7_exchange_85 rfl rfl ?_
                    refine x_iload hM dX7_exchange_86 rfl ?_
                    refine x_callV hM wv_X7_87 (m_X7_ownerOf (i := qb) hrd1 hql) ⟨Nat.le_of_ble_eq_true rfl, Nat.le_of_ble_eq_true rfl⟩ hh1 rfl rfl rfl rfl (Nat.le_of_ble_eq_true rfl) ⟨Nat.le_of_ble_eq_true rfl, Nat.le_of_ble_eq_true rfl⟩ dX7_exchange_88 (k_rI ?_)
                    refine x_icmp_eq (tgt := 123) hM dX7_exchange_91 (by decide) (by omega) (by omega) (fun c_91 => ?_) (fun c_91 => ?_)
                    · first | exact J123 ((i : Int), (j : Int), rnF (rbN t.L pa qb t.L.length)) _ _ _ (yes ⟨by assumption, by assumption, by assumption⟩) (by dsimp only; omega) hmu3 hF3 | exact J123 c _ _ _ (no (fun q => absurd q.2.2 (by omega))) hc hmu2 hF2 | exact J123 c _ _ _ (no (fun q => q.2.1 (by assumption))) hc hmu hF | exact J123 c _ _ _ (no (fun q => absurd q.1 (by assumption))) hc hmu hF
                    · refine x_aload_n hM dX7_exchange_94 rfl rfl ?_
                      refine x_iload hM dX7_exchange_95 rfl ?_
                      refine x_iload hM dX7_exchange_97 rfl ?_
                      refine x_callV hM wv_X7_194 (m_X7_rangesBy hh1 hr1 hb1 hp1 hpl hql) ⟨Nat.le_of_ble_eq_true rfl, Nat.le_of_ble_eq_true rfl⟩ hh1 rfl rfl rfl rfl (Nat.le_of_ble_eq_true rfl) ⟨Nat.le_of_ble_eq_true rfl, Nat.le_of_ble_eq_true rfl⟩ dX7_exchange_99 (k_qI fun x_99 w_99 q_99 => ?_)
                      obtain ⟨rfl, R2, k1, k2, k3⟩ := q_99
                      have hmu2 := mu_row hnA hm1 k1 k2 k3
                      have hF2 := hF.tr (Fm.r k3)
                      have hb2 := (k3 (m + 1) (by omega) (by omega)).trans hb1
                      refine x_iload_n hM dX7_exchange_102 rfl rfl ?_
                      refine x_icmp_ge (tgt := 123) hM dX7_exchange_103 (by decide) (by omega) (by omega) (fun c_103 => ?_) (fun c_103 => ?_)
                      · first | exact J123 ((i : Int), (j : Int), rnF (rbN t.L pa qb t.L.length)) _ _ _ (yes ⟨by assumption, by assumption, by assumption⟩) (by dsimp only; omega) hmu3 hF3 | exact J123 c _ _ _ (no (fun q => absurd q.2.2 (by omega))) hc hmu2 hF2 | exact J123 c _ _ _ (no (fun q => q.2.1 (by assumption))) hc hmu hF | exact J123 c _ _ _ (no (fun q => absurd q.1 (by assumption))) hc hmu hF
                      · refine x_aload_n hM dX7_exchange_106 rfl rfl ?_
                        refine x_iload hM dX7_exchange_107 rfl ?_
                        refine x_iload hM dX7_exchange_109 rfl ?_
                        refine x_callV hM wv_X7_194 (m_X7_rangesBy k1 k2 hb2 hp1 hpl hql) ⟨Nat.le_of_ble_eq_true rfl, Nat.le_of_ble_eq_true rfl⟩ k1 rfl rfl rfl rfl (Nat.le_of_ble_eq_true rfl) ⟨Nat.le_of_ble_eq_true rfl, Nat.le_of_ble_eq_true rfl⟩ dX7_exchange_111 (k_qI fun x_111 w_111 q_111 => ?_)
                        obtain ⟨rfl, R3, n1, n2, n3⟩ := q_111
                        have hnA2 := hnA.kpf (k3 (m + 1) (by omega) (by omega)) (k3 (m + 2) (by omega) (by omega))
                        have hm2 := hm1.kpf (k3 (m + 6) (by omega) (by omega)) (k3 (m + 7) (by omega) (by omega))
                        have hmu3 := mu_row hnA2 hm2 n1 n2 n3
                        have hF3 := hF2.tr (Fm.r n3)
                        refine x_istore_n hM dX7_exchange_114 rfl rfl (Nat.le_of_ble_eq_true rfl) rfl ?_
                        refine x_iload hM dX7_exchange_115 rfl ?_
                        refine x_istore hM dX7_exchange_117 rfl (Nat.le_of_ble_eq_true rfl) rfl ?_
                        refine x_iload hM dX7_exchange_119 rfl ?_
                        refine x_istore hM dX7_exchange_121 rfl (Nat.le_of_ble_eq_true rfl) rfl ?_
                        first | exact J123 ((i : Int), (j : Int), rnF (rbN t.L pa qb t.L.length)) _ _ _ (yes ⟨by assumption, by assumption, by assumption⟩) (by dsimp only; omega) hmu3 hF3 | exact J123 c _ _ _ (no (fun q => absurd q.2.2 (by omega))) hc hmu2 hF2 | exact J123 c _ _ _ (no (fun q => q.2.1 (by assumption))) hc hmu hF | exact J123 c _ _ _ (no (fun q => absurd q.1 (by assumption))) hc hmu hF
              · rw [range_dropE (exRS t.L i) (show N ≤ j by omega)] at hinv
                refine x_iload hM dX7_exchange_42 rfl ?_
                refine x_iload_n hM dX7_exchange_44 rfl rfl ?_
                refine x_icmp_ge (tgt := 129) hM dX7_exchange_45 (by decide) (by omega) (by omega) (fun c_45 => ?_) (fun c_45 => ?_)
                · refine x_iinc hM dX7_exchange_129 rfl rfl rfl ?_
                  refine x_goto (tgt := 30) hM dX7_exchange_132 (by decide) ?_
                  exact ih (i + 1) c _ _ _ _ (by omega) (by omega) hc hinv hmu hF
                · exfalso; omega
          refine x_iload hM dX7_exchange_30 rfl ?_
          refine x_iload_n hM dX7_exchange_32 rfl rfl ?_
          refine x_icmp_ge (tgt := 135) hM dX7_exchange_33 (by decide) (by omega) (by omega) (fun c_33 => ?_) (fun c_33 => ?_)
          · exfalso; omega
          · refine x_iload hM dX7_exchange_36 rfl ?_
            refine x_iconst hM dX7_exchange_38 ?_
            refine x_iadd hM dX7_exchange_39 ?_
            refine x_istore hM dX7_exchange_40 rfl (Nat.le_of_ble_eq_true rfl) rfl ?_
            exact KJ (N + 1) (i + 1) c _ _ _ (by omega) (by omega) (by omega) hc hinv hmu hF
        · rw [range_dropE _ (by omega)] at hinv
          refine x_iload hM dX7_exchange_30 rfl ?_
          refine x_iload_n hM dX7_exchange_32 rfl rfl ?_
          refine x_icmp_ge (tgt := 135) hM dX7_exchange_33 (by decide) (by omega) (by omega) (fun c_33 => ?_) (fun c_33 => ?_)
          · exact fin c _ [_, _, _, _] ⟨by omega, by omega⟩ hinv hmu hF
          · exfalso; omega
    refine x_iload_n hM dX7_exchange_0 rfl rfl ?_
    refine x_iconst hM dX7_exchange_1 ?_
    refine x_iconst hM dX7_exchange_2 ?_
    refine x_callS hM ws_X7_62 (m_X7_in (by omega) (by omega) (by omega)) ⟨Nat.le_of_ble_eq_true rfl, Nat.le_of_ble_eq_true rfl⟩ rfl rfl (Nat.le_of_ble_eq_true rfl) ⟨Nat.le_of_ble_eq_true rfl, Nat.le_of_ble_eq_true rfl⟩ dX7_exchange_3 (k_rI ?_)
    rw [if_pos ck]
    refine x_if_ne (tgt := 12) hM dX7_exchange_6 (by decide) (by omega) (fun c_6 => ?_) (fun c_6 => ?_)
    · refine x_aload_n hM dX7_exchange_12 rfl rfl ?_
      refine x_callV hM wv_X7_121 (m_X7_rangesNow hrd) ⟨Nat.le_of_ble_eq_true rfl, Nat.le_of_ble_eq_true rfl⟩ hh rfl rfl rfl rfl (Nat.le_of_ble_eq_true rfl) ⟨Nat.le_of_ble_eq_true rfl, Nat.le_of_ble_eq_true rfl⟩ dX7_exchange_13 (k_rI ?_)
      rw [hN]
      refine x_istore_n hM dX7_exchange_16 rfl rfl (Nat.le_of_ble_eq_true rfl) rfl ?_
      refine x_iload_n hM dX7_exchange_17 rfl rfl ?_
      refine x_istore_n hM dX7_exchange_18 rfl rfl (Nat.le_of_ble_eq_true rfl) rfl ?_
      refine x_bipush hM dX7_exchange_19 rfl ?_
      refine x_istore hM dX7_exchange_21 rfl (Nat.le_of_ble_eq_true rfl) rfl ?_
      refine x_bipush hM dX7_exchange_23 rfl ?_
      refine x_istore hM dX7_exchange_25 rfl (Nat.le_of_ble_eq_true rfl) rfl ?_
      refine x_iconst hM dX7_exchange_27 ?_
      refine x_istore hM dX7_exchange_28 rfl (Nat.le_of_ble_eq_true rfl) rfl ?_
      exact KI (N + 1) 0 (-6, -6, (N : Int)) w _ _ _ (by omega) (by omega) ⟨⟨by dsimp only; omega, by dsimp only; omega⟩, by dsimp only; omega, by dsimp only; omega⟩ rfl h Fm.rf
    · exfalso; omega
  · skip
    refine x_iload_n hM dX7_exchange_0 rfl rfl ?_
    refine x_iconst hM dX7_exchange_1 ?_
    refine x_iconst hM dX7_exchange_2 ?_
    refine x_callS hM ws_X7_62 (m_X7_in (by omega) (by omega) (by omega)) ⟨Nat.le_of_ble_eq_true rfl, Nat.le_of_ble_eq_true rfl⟩ rfl rfl (Nat.le_of_ble_eq_true rfl) ⟨Nat.le_of_ble_eq_true rfl, Nat.le_of_ble_eq_true rfl⟩ dX7_exchange_3 (k_rI ?_)
    rw [if_neg ck]
    refine x_if_ne (tgt := 12) hM dX7_exchange_6 (by decide) (by omega) (fun c_6 => ?_) (fun c_6 => ?_)
    · exfalso; omega
    · refine x_bipush hM dX7_exchange_9 rfl ?_
      refine hR.i dX7_exchange_11 (Nat.zero_le _) (Nat.zero_le _) ?_
      exact p_qI ⟨(if_neg ck).symm, h, Fm.rf⟩
