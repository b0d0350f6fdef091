/-! The law: the other calls -/
theorem lN_back (v : Int64) : lN v.toUInt64.toNat = v := by
  show Int64.ofNat v.toUInt64.toNat = v
  apply Int64.toBitVec_inj.mp
  simp
theorem muA.kpS {G : xG} {w w1 : Wd} {m : Nat} {it : Int} {t : St} {hs : List St} {sg mn pl wr : Int} (h : muA G w m it t hs sg mn pl wr) (k : Fr (m + 8) (m + 11) w w1) : muA G w1 m it t hs sg mn pl wr := by
  obtain ⟨R, h1, h2, h3, h4⟩ := h
  exact ⟨R, (k m (by omega)).trans h1, h2.kpf (k _ (by omega)) (k _ (by omega)), h3.kpf (k _ (by omega)) (k _ (by omega)), h4.kpf (k _ (by omega)) (k _ (by omega))⟩
theorem m_X6_putV {l : Launch} {G : xG} {w : Wd} {z x : Nat} {v : Int64} {s : St} {cs : List Int} (hc : coA G w x s) (hp : padE G w (x + 213) cs) : xMet l G yX6_put cX6_put 4 (some .int) ({ frames := 1, cells := 0, slots := 0, locals := 26 } : Room) [.ref x, .long v] w z (qI z fun y w1 => y = (putF cs v.toUInt64.toNat).1 ∧ padE G w1 (x + 213) (putF cs v.toUInt64.toNat).2 ∧ Fr (x + 213) (x + 215) w w1) := by
  have q := m_X6_put (l := l) (z := z) (u := v.toUInt64.toNat) hc hp v.toUInt64.toNat_lt
  rwa [lN_back] at q
theorem m_X7_putV {l : Launch} {G : xG} {w : Wd} {z m : Nat} {v : Int64} {cs : List Int} {un it rw mn pl wr : Int} (hh : w m = some (hdV m un cs.length it rw mn pl wr)) (hd : pdA G w m cs) : xMet l G yX7_put cX7_put 7 (some .int) ({ frames := 1, cells := 0, slots := 0, locals := 22 } : Room) [.ref m, .long v] w z (qI z fun y w1 => y = (putF cs v.toUInt64.toNat).1 ∧ w1 m = some (hdV m un (putF cs v.toUInt64.toNat).2.length it rw mn pl wr) ∧ pdA G w1 m (putF cs v.toUInt64.toNat).2 ∧ Fp m w w1) := by
  have q := m_X7_put (l := l) (z := z) (u := v.toUInt64.toNat) hh hd v.toUInt64.toNat_lt
  rwa [lN_back] at q
theorem gdA_und {D F : Int} {t : St} {hs : List St} {sl : Nat → Option St} (h : gdA D F t hs sl) : gdA D F (undF t hs).2.1 (undF t hs).2.2 sl := by
  unfold undF
  cases e : hs.getLast? with
  | none => exact h
  | some u => exact ⟨h.2.1 u (List.mem_of_getLast? e), fun v hv => h.2.1 v (List.dropLast_subset _ hv), h.2.2⟩
theorem gdA_sav {D F : Int} {t : St} {hs : List St} {sl : Nat → Option St} (h : gdA D F t hs sl) (i : Int) : gdA D F t hs (savF t sl i).2 := by
  refine ⟨h.1, h.2.1, fun j u a b => ?_⟩
  unfold savF at b
  split at b
  · have b : (if j = i.toNat then some t else sl j) = some u := b
    split at b
    · cases b; exact h.1
    · exact h.2.2 j u a b
  · exact h.2.2 j u a b
theorem hisA.kpf {G : xG} {w w1 : Wd} {t : Nat} {hs : List St} (h : hisA G w t hs) (k : ∀ q : Nat, t ≤ q → q < t + 156 → w1 q = w q) : hisA G w1 t hs := by
  obtain ⟨h1, p, g, ⟨g1, ⟨f, g2, g3⟩, g4, g5, g6⟩, h3⟩ := h
  refine ⟨h1, p, g, ⟨(k _ (by omega) (by omega)).trans g1, ⟨f, (k _ (by omega) (by omega)).trans g2, g3⟩, g4, g5, fun i hi => (g6 i hi).kpf fun q a b => ?_⟩, h3⟩
  have := g4 i hi
  exact k q (by omega) (by omega)
theorem padE.kpf {G : xG} {w w1 : Wd} {p : Nat} {cs : List Int} (h : padE G w p cs) (k1 : w1 p = w p) (k2 : w1 (p + 1) = w (p + 1)) : padE G w1 p cs := by
  obtain ⟨pl, kd, le, nu, se, h1, h2, f, h3, h4⟩ := h
  exact ⟨pl, kd, le, nu, se, h1, k1.trans h2, f, k2.trans h3, h4⟩
theorem lc_failing {l : Launch} {G : xG} {P : xT} {b L x c z k n : Nat} {xs : Int → Int} {w : Wd} {t : St} {hs : List St} {sl : Nat → Option St} {cs : List Int} (hM : xM RL cL_law 4 room_1 l G false P) (hS : scK P b L xs) (hi : 6 * (c : Int) + 6 ≤ L) (hc5 : c ≤ 511) (hk : k ≤ 300 + 22 * c) (hn : n ≤ 8000 + 248 * c) (h : lwI G w z x t hs sl cs c) (hN : lwJ P G b x c) : P 496 [some (.ref b), some (.ref x), some (.ref (x + 215)), some (.int (iI (6 * (c : Int))))] [] w (z, k, n) := by
  obtain ⟨hc, ⟨mn, pl, wr, hr⟩, hg, hz⟩ := h
  have hX := hS.2.2.2
  refine x_aload_n hM dL_law_496 rfl rfl ?_
  refine x_callV hM wv_L_58 (m_X6_failing hc.1) ⟨Nat.le_of_ble_eq_true rfl, Nat.le_of_ble_eq_true rfl⟩ hc.1.1 rfl rfl rfl rfl (Nat.le_of_ble_eq_true rfl) ⟨show k ≤ 600000 by omega, show n ≤ 7302250 by omega⟩ dL_law_497 (k_qI fun x_497 w_497 q_497 => ?_)
  rw [e_fail hg.1] at q_497
  obtain ⟨rfl, q1, f1⟩ := q_497
  have hr1 := lw_r hr f1 (by omega)
  obtain ⟨R1, hh1, -⟩ := id hr1.1
  refine x_aload_n hM dL_law_500 rfl rfl ?_
  refine x_callV hM wv_L_61 (m_X7_failing hr1.1 hr1.2.1) ⟨Nat.le_of_ble_eq_true rfl, Nat.le_of_ble_eq_true rfl⟩ hh1 rfl rfl rfl rfl (Nat.le_of_ble_eq_true rfl) ⟨show k ≤ 600000 by omega, show n ≤ 7302250 by omega⟩ dL_law_501 (k_qI fun x_501 w_501 q_501 => ?_)
  obtain ⟨rfl, q3, q4, f2⟩ := q_501
  refine x_same (tgt := 1053) hM rfl dL_law_504 (by decide) ?_
  exact hN _ _ (k) (n) _ _ _ _ (lw_in (cp_rd hc q1 f1) f2.w (rp_mk hr1 q3 q4 f2) (gdA_up hg) hz) (by omega) (by omega)
theorem lc_wouldBe {l : Launch} {G : xG} {P : xT} {b L x c z k n : Nat} {xs : Int → Int} {w : Wd} {t : St} {hs : List St} {sl : Nat → Option St} {cs : List Int} (hM : xM RL cL_law 4 room_1 l G false P) (hS : scK P b L xs) (hi : 6 * (c : Int) + 6 ≤ L) (hc5 : c ≤ 511) (hk : k ≤ 300 + 22 * c) (hn : n ≤ 8000 + 248 * c) (h : lwI G w z x t hs sl cs c) (hN : lwJ P G b x c) : P 757 [some (.ref b), some (.ref x), some (.ref (x + 215)), some (.int (iI (6 * (c : Int))))] [] w (z, k, n) := by
  obtain ⟨hc, ⟨mn, pl, wr, hr⟩, hg, hz⟩ := h
  have hX := hS.2.2.2
  refine x_aload_n hM dL_law_757 rfl rfl ?_
  refine x_aload_n hM dL_law_758 rfl rfl ?_
  refine x_iload_n hM dL_law_759 rfl rfl ?_
  refine x_iconst hM dL_law_760 ?_
  refine x_iadd hM dL_law_761 ?_
  refine hS.1 _ _ _ _ _ _ (by omega) (by omega) dL_law_762 ?_
  refine x_aload_n hM dL_law_763 rfl rfl ?_
  refine x_iload_n hM dL_law_764 rfl rfl ?_
  refine x_iconst hM dL_law_765 ?_
  refine x_iadd hM dL_law_766 ?_
  refine hS.1 _ _ _ _ _ _ (by omega) (by omega) dL_law_767 ?_
  refine x_aload_n hM dL_law_768 rfl rfl ?_
  refine x_iload_n hM dL_law_769 rfl rfl ?_
  refine x_iconst hM dL_law_770 ?_
  refine x_iadd hM dL_law_771 ?_
  refine hS.1 _ _ _ _ _ _ (by omega) (by omega) dL_law_772 ?_
  refine x_callV hM wv_L_99 (m_X6_wouldBe hc.1 (hX _) (hX _) (hX _)) ⟨Nat.le_of_ble_eq_true rfl, Nat.le_of_ble_eq_true rfl⟩ hc.1.1 rfl rfl rfl rfl (Nat.le_of_ble_eq_true rfl) ⟨show k ≤ 600000 by omega, show n ≤ 7302250 by omega⟩ dL_law_773 (k_qI fun x_773 w_773 q_773 => ?_)
  rw [e_wb hg.1] at q_773
  obtain ⟨rfl, q1, f1⟩ := q_773
  have hr1 := lw_r hr f1 (by omega)
  obtain ⟨R1, hh1, -⟩ := id hr1.1
  refine x_aload_n hM dL_law_776 rfl rfl ?_
  refine x_aload_n hM dL_law_777 rfl rfl ?_
  refine x_iload_n hM dL_law_778 rfl rfl ?_
  refine x_iconst hM dL_law_779 ?_
  refine x_iadd hM dL_law_780 ?_
  refine hS.1 _ _ _ _ _ _ (by omega) (by omega) dL_law_781 ?_
  refine x_aload_n hM dL_law_782 rfl rfl ?_
  refine x_iload_n hM dL_law_783 rfl rfl ?_
  refine x_iconst hM dL_law_784 ?_
  refine x_iadd hM dL_law_785 ?_
  refine hS.1 _ _ _ _ _ _ (by omega) (by omega) dL_law_786 ?_
  refine x_aload_n hM dL_law_787 rfl rfl ?_
  refine x_iload_n hM dL_law_788 rfl rfl ?_
  refine x_iconst hM dL_law_789 ?_
  refine x_iadd hM dL_law_790 ?_
  refine hS.1 _ _ _ _ _ _ (by omega) (by omega) dL_law_791 ?_
  refine x_callV hM wv_L_102 (m_X7_wouldBe hr1.1 (hX _) (hX _) (hX _)) ⟨Nat.le_of_ble_eq_true rfl, Nat.le_of_ble_eq_true rfl⟩ hh1 rfl rfl rfl rfl (Nat.le_of_ble_eq_true rfl) ⟨show k ≤ 600000 by omega, show n ≤ 7302250 by omega⟩ dL_law_792 (k_qI fun x_792 w_792 q_792 => ?_)
  obtain ⟨rfl, q3, f2⟩ := q_792
  refine x_same (tgt := 1053) hM rfl dL_law_795 (by decide) ?_
  exact hN _ _ (k) (n) _ _ _ _ (lw_in (cp_rd hc q1 f1) f2.w (rp_mm hr1 q3 f2) (gdA_up hg) hz) (by omega) (by omega)
theorem lc_exchange {l : Launch} {G : xG} {P : xT} {b L x c z k n : Nat} {xs : Int → Int} {w : Wd} {t : St} {hs : List St} {sl : Nat → Option St} {cs : List Int} (hM : xM RL cL_law 4 room_1 l G false P) (hS : scK P b L xs) (hi : 6 * (c : Int) + 6 ≤ L) (hc5 : c ≤ 511) (hk : k ≤ 300 + 22 * c) (hn : n ≤ 8000 + 248 * c) (h : lwI G w z x t hs sl cs c) (hN : lwJ P G b x c) : P 856 [some (.ref b), some (.ref x), some (.ref (x + 215)), some (.int (iI (6 * (c : Int))))] [] w (z, k, n) := by
  obtain ⟨hc, ⟨mn, pl, wr, hr⟩, hg, hz⟩ := h
  have hX := hS.2.2.2
  obtain ⟨R1, hh1, -⟩ := id hr.1
  refine x_aload_n hM dL_law_856 rfl rfl ?_
  refine x_aload_n hM dL_law_857 rfl rfl ?_
  refine x_iload_n hM dL_law_858 rfl rfl ?_
  refine x_iconst hM dL_law_859 ?_
  refine x_iadd hM dL_law_860 ?_
  refine hS.1 _ _ _ _ _ _ (by omega) (by omega) dL_law_861 ?_
  refine x_callV hM wv_L_111 (m_X6_exchange hc.1 (hX _)) ⟨Nat.le_of_ble_eq_true rfl, Nat.le_of_ble_eq_true rfl⟩ hc.1.1 rfl rfl rfl rfl (Nat.le_of_ble_eq_true rfl) ⟨show k ≤ 600000 by omega, show n ≤ 7302250 by omega⟩ dL_law_862 (k_rI ?_)
  rw [q_ex (gd_L hg.1)]
  refine x_aload_n hM dL_law_865 rfl rfl ?_
  refine x_aload_n hM dL_law_866 rfl rfl ?_
  refine x_iload_n hM dL_law_867 rfl rfl ?_
  refine x_iconst hM dL_law_868 ?_
  refine x_iadd hM dL_law_869 ?_
  refine hS.1 _ _ _ _ _ _ (by omega) (by omega) dL_law_870 ?_
  refine x_callV hM wv_L_114 (m_X7_exchange hr.1 (hX _)) ⟨Nat.le_of_ble_eq_true rfl, Nat.le_of_ble_eq_true rfl⟩ hh1 rfl rfl rfl rfl (Nat.le_of_ble_eq_true rfl) ⟨show k ≤ 600000 by omega, show n ≤ 7302250 by omega⟩ dL_law_871 (k_qI fun x_871 w_871 q_871 => ?_)
  obtain ⟨rfl, q3, f2⟩ := q_871
  refine x_same (tgt := 1053) hM rfl dL_law_874 (by decide) ?_
  exact hN _ _ (k) (n) _ _ _ _ (lw_in hc f2.w (rp_mm hr q3 f2) (gdA_up hg) hz) (by omega) (by omega)
theorem lc_losesIn {l : Launch} {G : xG} {P : xT} {b L x c z k n : Nat} {xs : Int → Int} {w : Wd} {t : St} {hs : List St} {sl : Nat → Option St} {cs : List Int} (hM : xM RL cL_law 4 room_1 l G false P) (hS : scK P b L xs) (hi : 6 * (c : Int) + 6 ≤ L) (hc5 : c ≤ 511) (hk : k ≤ 300 + 22 * c) (hn : n ≤ 8000 + 248 * c) (h : lwI G w z x t hs sl cs c) (hN : lwJ P G b x c) : P 879 [some (.ref b), some (.ref x), some (.ref (x + 215)), some (.int (iI (6 * (c : Int))))] [] w (z, k, n) := by
  obtain ⟨hc, ⟨mn, pl, wr, hr⟩, hg, hz⟩ := h
  have hX := hS.2.2.2
  obtain ⟨R1, hh1, -⟩ := id hr.1
  refine x_aload_n hM dL_law_879 rfl rfl ?_
  refine x_aload_n hM dL_law_880 rfl rfl ?_
  refine x_iload_n hM dL_law_881 rfl rfl ?_
  refine x_iconst hM dL_law_882 ?_
  refine x_iadd hM dL_law_883 ?_
  refine hS.1 _ _ _ _ _ _ (by omega) (by omega) dL_law_884 ?_
  refine x_callV hM wv_L_115 (m_X6_losesIn hc.1 (hX _)) ⟨Nat.le_of_ble_eq_true rfl, Nat.le_of_ble_eq_true rfl⟩ hc.1.1 rfl rfl rfl rfl (Nat.le_of_ble_eq_true rfl) ⟨show k ≤ 600000 by omega, show n ≤ 7302250 by omega⟩ dL_law_885 (k_rI ?_)
  rw [e_ls (gd_L hg.1)]
  refine x_aload_n hM dL_law_888 rfl rfl ?_
  refine x_aload_n hM dL_law_889 rfl rfl ?_
  refine x_iload_n hM dL_law_890 rfl rfl ?_
  refine x_iconst hM dL_law_891 ?_
  refine x_iadd hM dL_law_892 ?_
  refine hS.1 _ _ _ _ _ _ (by omega) (by omega) dL_law_893 ?_
  refine x_callV hM wv_L_118 (m_X7_losesIn hr.1 hr.2.1 (hX _) (fun q => by have h10 := gd_10 hg.1; have := gd_f hg.1 (xs (6 * (c : Int) + 1)) q.1 (by omega); omega)) ⟨Nat.le_of_ble_eq_true rfl, Nat.le_of_ble_eq_true rfl⟩ hh1 rfl rfl rfl rfl (Nat.le_of_ble_eq_true rfl) ⟨show k ≤ 600000 by omega, show n ≤ 7302250 by omega⟩ dL_law_894 (k_qI fun x_894 w_894 q_894 => ?_)
  obtain ⟨rfl, q3, q4, f2⟩ := q_894
  refine x_same (tgt := 1053) hM rfl dL_law_897 (by decide) ?_
  exact hN _ _ (k) (n) _ _ _ _ (lw_in hc f2.w (rp_mk hr q3 q4 f2) (gdA_up hg) hz) (by omega) (by omega)
theorem lc_put {l : Launch} {G : xG} {P : xT} {b L x c z k n : Nat} {xs : Int → Int} {w : Wd} {t : St} {hs : List St} {sl : Nat → Option St} {cs : List Int} (hM : xM RL cL_law 4 room_1 l G false P) (hS : scK P b L xs) (hi : 6 * (c : Int) + 6 ≤ L) (hc5 : c ≤ 511) (hk : k ≤ 300 + 22 * c) (hn : n ≤ 8000 + 248 * c) (h : lwI G w z x t hs sl cs c) (hN : lwJ P G b x c) : P 902 [some (.ref b), some (.ref x), some (.ref (x + 215)), some (.int (iI (6 * (c : Int))))] [] w (z, k, n) := by
  obtain ⟨hc, ⟨mn, pl, wr, hr⟩, hg, hz⟩ := h
  have hX := hS.2.2.2
  refine x_aload_n hM dL_law_902 rfl rfl ?_
  refine x_aload_n hM dL_law_903 rfl rfl ?_
  refine x_iload_n hM dL_law_904 rfl rfl ?_
  refine x_iconst hM dL_law_905 ?_
  refine x_iadd hM dL_law_906 ?_
  refine hS.1 _ _ _ _ _ _ (by omega) (by omega) dL_law_907 ?_
  refine x_i2l hM dL_law_908 ?_
  refine x_bipush hM dL_law_909 rfl ?_
  refine x_lshl hM dL_law_911 rfl ?_
  refine x_aload_n hM dL_law_912 rfl rfl ?_
  refine x_iload_n hM dL_law_913 rfl rfl ?_
  refine x_iconst hM dL_law_914 ?_
  refine x_iadd hM dL_law_915 ?_
  refine hS.1 _ _ _ _ _ _ (by omega) (by omega) dL_law_916 ?_
  refine x_i2l hM dL_law_917 ?_
  refine x_ldc2 hM dL_law_918 wc_L_119 ?_
  refine x_land hM dL_law_921 ?_
  refine x_lor hM dL_law_922 ?_
  refine x_callV hM wv_L_121 (m_X6_putV hc.1 hc.2.2.2) ⟨Nat.le_of_ble_eq_true rfl, Nat.le_of_ble_eq_true rfl⟩ hc.1.1 rfl rfl rfl rfl (Nat.le_of_ble_eq_true rfl) ⟨show k ≤ 600000 by omega, show n ≤ 7302250 by omega⟩ dL_law_923 (k_qI fun x_923 w_923 q_923 => ?_)
  obtain ⟨rfl, q1, f1⟩ := q_923
  have hr1 := lw_r hr f1 (by omega)
  obtain ⟨R1, hh1, hnA, hmA, hrA⟩ := id hr1.1
  refine x_aload_n hM dL_law_926 rfl rfl ?_
  refine x_aload_n hM dL_law_927 rfl rfl ?_
  refine x_iload_n hM dL_law_928 rfl rfl ?_
  refine x_iconst hM dL_law_929 ?_
  refine x_iadd hM dL_law_930 ?_
  refine hS.1 _ _ _ _ _ _ (by omega) (by omega) dL_law_931 ?_
  refine x_i2l hM dL_law_932 ?_
  refine x_bipush hM dL_law_933 rfl ?_
  refine x_lshl hM dL_law_935 rfl ?_
  refine x_aload_n hM dL_law_936 rfl rfl ?_
  refine x_iload_n hM dL_law_937 rfl rfl ?_
  refine x_iconst hM dL_law_938 ?_
  refine x_iadd hM dL_law_939 ?_
  refine hS.1 _ _ _ _ _ _ (by omega) (by omega) dL_law_940 ?_
  refine x_i2l hM dL_law_941 ?_
  refine x_ldc2 hM dL_law_942 wc_L_119 ?_
  refine x_land hM dL_law_945 ?_
  refine x_lor hM dL_law_946 ?_
  refine x_callV hM wv_L_125 (m_X7_putV hh1 hr1.2.2.1) ⟨Nat.le_of_ble_eq_true rfl, Nat.le_of_ble_eq_true rfl⟩ hh1 rfl rfl rfl rfl (Nat.le_of_ble_eq_true rfl) ⟨show k ≤ 600000 by omega, show n ≤ 7302250 by omega⟩ dL_law_947 (k_qI fun x_947 w_947 q_947 => ?_)
  obtain ⟨rfl, q3, q4, f2⟩ := q_947
  refine x_same (tgt := 1053) hM rfl dL_law_950 (by decide) ?_
  exact hN _ _ (k) (n) _ _ _ _ (lw_in ⟨hc.1.kp f1 (by omega), hc.2.1.kp f1 (by omega), hc.2.2.1.kp f1 (by omega), q1⟩ f2.w (rp_h q3 hnA hmA hrA hr1.2.1 hr1.2.2.2.2 q4 (by obtain ⟨f, hf⟩ := hr1.2.2.2.1; exact ⟨f, (f2 _ (by omega) (by omega)).trans hf⟩) (fun q a b _ => f2 q (by omega) (by omega))) (gdA_up hg) hz) (by omega) (by omega)
theorem lc_wipe {l : Launch} {G : xG} {P : xT} {b L x c z k n : Nat} {xs : Int → Int} {w : Wd} {t : St} {hs : List St} {sl : Nat → Option St} {cs : List Int} (hM : xM RL cL_law 4 room_1 l G false P) (hS : scK P b L xs) (hi : 6 * (c : Int) + 6 ≤ L) (hc5 : c ≤ 511) (hk : k ≤ 300 + 22 * c) (hn : n ≤ 8000 + 248 * c) (h : lwI G w z x t hs sl cs c) (hN : lwJ P G b x c) : P 955 [some (.ref b), some (.ref x), some (.ref (x + 215)), some (.int (iI (6 * (c : Int))))] [] w (z, k, n) := by
  obtain ⟨hc, ⟨mn, pl, wr, hr⟩, hg, hz⟩ := h
  have hX := hS.2.2.2
  refine x_aload_n hM dL_law_955 rfl rfl ?_
  refine x_callV hM wv_L_126 (m_X6_wipe hc.1 hc.2.2.2) ⟨Nat.le_of_ble_eq_true rfl, Nat.le_of_ble_eq_true rfl⟩ hc.1.1 rfl rfl rfl rfl (Nat.le_of_ble_eq_true rfl) ⟨show k ≤ 600000 by omega, show n ≤ 7302250 by omega⟩ dL_law_956 (k_qI fun x_956 w_956 q_956 => ?_)
  obtain ⟨rfl, q1, f1⟩ := q_956
  have hr1 := lw_r hr f1 (by omega)
  obtain ⟨R1, hh1, hnA, hmA, hrA⟩ := id hr1.1
  refine x_aload_n hM dL_law_959 rfl rfl ?_
  refine x_callV hM wv_L_129 (m_X7_wipe hh1 hr1.2.2.1) ⟨Nat.le_of_ble_eq_true rfl, Nat.le_of_ble_eq_true rfl⟩ hh1 rfl rfl rfl rfl (Nat.le_of_ble_eq_true rfl) ⟨show k ≤ 600000 by omega, show n ≤ 7302250 by omega⟩ dL_law_960 (k_qI fun x_960 w_960 q_960 => ?_)
  obtain ⟨rfl, q3, q4, f2⟩ := q_960
  refine x_same (tgt := 1053) hM rfl dL_law_963 (by decide) ?_
  exact hN _ _ (k) (n) _ _ _ _ (lw_in ⟨hc.1.kp f1 (by omega), hc.2.1.kp f1 (by omega), hc.2.2.1.kp f1 (by omega), q1⟩ f2.w (rp_h q3 hnA hmA hrA hr1.2.1 hr1.2.2.2.2 q4 (by obtain ⟨f, hf⟩ := hr1.2.2.2.1; exact ⟨f, (f2 _ (by omega) (by omega)).trans hf⟩) (fun q a b _ => f2 q (by omega) (by omega))) (gdA_up hg) hz) (by omega) (by omega)
theorem lc_fault {l : Launch} {G : xG} {P : xT} {b L x c z k n : Nat} {xs : Int → Int} {w : Wd} {t : St} {hs : List St} {sl : Nat → Option St} {cs : List Int} (hM : xM RL cL_law 4 room_1 l G false P) (hS : scK P b L xs) (hi : 6 * (c : Int) + 6 ≤ L) (hc5 : c ≤ 511) (hk : k ≤ 300 + 22 * c) (hn : n ≤ 8000 + 248 * c) (h : lwI G w z x t hs sl cs c) (hN : lwJ P G b x c) : P 968 [some (.ref b), some (.ref x), some (.ref (x + 215)), some (.int (iI (6 * (c : Int))))] [] w (z, k, n) := by
  obtain ⟨hc, ⟨mn, pl, wr, hr⟩, hg, hz⟩ := h
  have hX := hS.2.2.2
  refine x_aload_n hM dL_law_968 rfl rfl ?_
  refine x_callV hM wv_L_130 (m_X6_fault hc.1 hc.2.2.2) ⟨Nat.le_of_ble_eq_true rfl, Nat.le_of_ble_eq_true rfl⟩ hc.1.1 rfl rfl rfl rfl (Nat.le_of_ble_eq_true rfl) ⟨show k ≤ 600000 by omega, show n ≤ 7302250 by omega⟩ dL_law_969 (k_qI fun x_969 w_969 q_969 => ?_)
  obtain ⟨rfl, q1, f1⟩ := q_969
  have hr1 := lw_r hr f1 (by omega)
  obtain ⟨R1, hh1, hnA, hmA, hrA⟩ := id hr1.1
  refine x_aload_n hM dL_law_972 rfl rfl ?_
  refine x_callV hM wv_L_133 (m_X7_fault hh1 hr1.2.2.1 hr1.2.2.2.1) ⟨Nat.le_of_ble_eq_true rfl, Nat.le_of_ble_eq_true rfl⟩ hh1 rfl rfl rfl rfl (Nat.le_of_ble_eq_true rfl) ⟨show k ≤ 600000 by omega, show n ≤ 7302250 by omega⟩ dL_law_973 (k_qI fun x_973 w_973 q_973 => ?_)
  obtain ⟨rfl, f2, ⟨mn2, pl2, wr2, q3⟩, q4⟩ := q_973
  refine x_same (tgt := 1053) hM rfl dL_law_976 (by decide) ?_
  exact hN _ _ (k) (n) _ _ _ _ (lw_in ⟨hc.1.kp f1 (by omega), hc.2.1.kp f1 (by omega), hc.2.2.1.kp f1 (by omega), q1⟩ f2.w (rp_h q3 hnA hmA hrA hr1.2.1 hr1.2.2.2.2 (hr1.2.2.1.kpf (f2 _ (by omega) (by omega))) q4 (fun q a b d => f2 q (by omega) (by omega))) (gdA_up hg) hz) (by omega) (by omega)
theorem lc_carryOut {l : Launch} {G : xG} {P : xT} {b L x c z k n : Nat} {xs : Int → Int} {w : Wd} {t : St} {hs : List St} {sl : Nat → Option St} {cs : List Int} (hM : xM RL cL_law 4 room_1 l G false P) (hS : scK P b L xs) (hi : 6 * (c : Int) + 6 ≤ L) (hc5 : c ≤ 511) (hk : k ≤ 300 + 22 * c) (hn : n ≤ 8000 + 248 * c) (h : lwI G w z x t hs sl cs c) (hN : lwJ P G b x c) : P 981 [some (.ref b), some (.ref x), some (.ref (x + 215)), some (.int (iI (6 * (c : Int))))] [] w (z, k, n) := by
  obtain ⟨hc, ⟨mn, pl, wr, hr⟩, hg, hz⟩ := h
  have hX := hS.2.2.2
  refine x_aload_n hM dL_law_981 rfl rfl ?_
  refine x_callV hM wv_L_134 (m_X6_carryOut hc.1 hc.2.1 hc.2.2.2 (by have := gd_d hg.1; show 0 ≤ t.day ∧ t.day ≤ 900000000; omega)) ⟨Nat.le_of_ble_eq_true rfl, Nat.le_of_ble_eq_true rfl⟩ hc.1.1 rfl rfl rfl rfl (Nat.le_of_ble_eq_true rfl) ⟨show k ≤ 600000 by omega, show n ≤ 7302250 by omega⟩ dL_law_982 (k_qI fun x_982 w_982 q_982 => ?_)
  rw [(e_car hr.2.2.1.1 hg.1).1] at q_982
  obtain ⟨rfl, q1, q2, q3, f1⟩ := q_982
  have hr1 := hr.kpf (fun q a b => f1 q (by omega) (by omega))
  obtain ⟨R1, hh1, -⟩ := id hr1.1
  refine x_aload_n hM dL_law_985 rfl rfl ?_
  refine x_callV hM wv_L_137 (m_X7_carryOut hr1.1 hr1.2.2.1 hr1.2.2.2.1 (by have := gd_d hg.1; omega)) ⟨Nat.le_of_ble_eq_true rfl, Nat.le_of_ble_eq_true rfl⟩ hh1 rfl rfl rfl rfl (Nat.le_of_ble_eq_true rfl) ⟨show k ≤ 600000 by omega, show n ≤ 7302250 by omega⟩ dL_law_986 (k_qI fun x_986 w_986 q_986 => ?_)
  obtain ⟨rfl, ⟨mn2, pl2, wr2, q4⟩, q5, q6, f2⟩ := q_986
  refine x_same (tgt := 1053) hM rfl dL_law_989 (by decide) ?_
  exact hN _ _ (k) (n) _ _ _ _ (lw_in ⟨q1, by rw [← his_e]; exact q2, hc.2.2.1.kp2 f1 (by omega) (by omega), q3⟩ f2.w ⟨q4, hr1.2.1.kpf (f2 _ (by omega) (by omega) (by omega) (by omega) (by omega) (by omega) (by omega) (by omega)) (f2 _ (by omega) (by omega) (by omega) (by omega) (by omega) (by omega) (by omega) (by omega)), q5, q6, hr1.2.2.2.2.kpf (f2 _ (by omega) (by omega) (by omega) (by omega) (by omega) (by omega) (by omega) (by omega)) (f2 _ (by omega) (by omega) (by omega) (by omega) (by omega) (by omega) (by omega) (by omega)) (f2 _ (by omega) (by omega) (by omega) (by omega) (by omega) (by omega) (by omega) (by omega))⟩ ((gdA_up hg).his (gd_up (e_car hr.2.2.1.1 hg.1).2 (by omega) (by omega)) _) hz) (by omega) (by omega)
theorem lc_undo {l : Launch} {G : xG} {P : xT} {b L x c z k n : Nat} {xs : Int → Int} {w : Wd} {t : St} {hs : List St} {sl : Nat → Option St} {cs : List Int} (hM : xM RL cL_law 4 room_1 l G false P) (hS : scK P b L xs) (hi : 6 * (c : Int) + 6 ≤ L) (hc5 : c ≤ 511) (hk : k ≤ 300 + 22 * c) (hn : n ≤ 8000 + 248 * c) (h : lwI G w z x t hs sl cs c) (hN : lwJ P G b x c) : P 994 [some (.ref b), some (.ref x), some (.ref (x + 215)), some (.int (iI (6 * (c : Int))))] [] w (z, k, n) := by
  obtain ⟨hc, ⟨mn, pl, wr, hr⟩, hg, hz⟩ := h
  have hX := hS.2.2.2
  refine x_aload_n hM dL_law_994 rfl rfl ?_
  refine x_callV hM wv_L_138 (m_X6_undo hc.1 hc.2.1) ⟨Nat.le_of_ble_eq_true rfl, Nat.le_of_ble_eq_true rfl⟩ hc.1.1 rfl rfl rfl rfl (Nat.le_of_ble_eq_true rfl) ⟨show k ≤ 600000 by omega, show n ≤ 7302250 by omega⟩ dL_law_995 (k_qI fun x_995 w_995 q_995 => ?_)
  rw [e_und] at q_995
  obtain ⟨rfl, q1, q2, f1⟩ := q_995
  have hr1 := lw_r hr f1 (by omega)
  obtain ⟨R1, hh1, -⟩ := id hr1.1
  refine x_aload_n hM dL_law_998 rfl rfl ?_
  refine x_callV hM wv_L_141 (m_X7_undo hr1.1) ⟨Nat.le_of_ble_eq_true rfl, Nat.le_of_ble_eq_true rfl⟩ hh1 rfl rfl rfl rfl (Nat.le_of_ble_eq_true rfl) ⟨show k ≤ 600000 by omega, show n ≤ 7302250 by omega⟩ dL_law_999 (k_qI fun x_999 w_999 q_999 => ?_)
  obtain ⟨rfl, q3, f2⟩ := q_999
  refine x_same (tgt := 1053) hM rfl dL_law_1002 (by decide) ?_
  exact hN _ _ (k) (n) _ _ _ _ (lw_in ⟨q1, q2, hc.2.2.1.kp f1 (by omega), hc.2.2.2.kp f1 (by omega)⟩ f2.w (rp_mm hr1 q3 f2) (gdA_und (gdA_up hg)) hz) (by omega) (by omega)
theorem lc_save {l : Launch} {G : xG} {P : xT} {b L x c z k n : Nat} {xs : Int → Int} {w : Wd} {t : St} {hs : List St} {sl : Nat → Option St} {cs : List Int} (hM : xM RL cL_law 4 room_1 l G false P) (hS : scK P b L xs) (hi : 6 * (c : Int) + 6 ≤ L) (hc5 : c ≤ 511) (hk : k ≤ 300 + 22 * c) (hn : n ≤ 8000 + 248 * c) (h : lwI G w z x t hs sl cs c) (hN : lwJ P G b x c) : P 1007 [some (.ref b), some (.ref x), some (.ref (x + 215)), some (.int (iI (6 * (c : Int))))] [] w (z, k, n) := by
  obtain ⟨hc, ⟨mn, pl, wr, hr⟩, hg, hz⟩ := h
  have hX := hS.2.2.2
  refine x_aload_n hM dL_law_1007 rfl rfl ?_
  refine x_aload_n hM dL_law_1008 rfl rfl ?_
  refine x_iload_n hM dL_law_1009 rfl rfl ?_
  refine x_iconst hM dL_law_1010 ?_
  refine x_iadd hM dL_law_1011 ?_
  refine hS.1 _ _ _ _ _ _ (by omega) (by omega) dL_law_1012 ?_
  refine x_callV hM wv_L_142 (m_X6_save hc.1 hc.2.2.1 (hX _) hz) ⟨Nat.le_of_ble_eq_true rfl, Nat.le_of_ble_eq_true rfl⟩ hc.1.1 rfl rfl rfl rfl (Nat.le_of_ble_eq_true rfl) ⟨show k + 22 ≤ 600000 by omega, show n + 248 ≤ 7302250 by omega⟩ dL_law_1013 (k_eI fun x_1013 w_1013 z_1013 q_1013 => ?_)
  rw [e_sav] at q_1013
  obtain ⟨rfl, q1, q2, hz1, f1⟩ := q_1013
  have hr1 := hr.kpf (fun q a b => f1 q (by omega) (by omega))
  obtain ⟨R1, hh1, hnA, hmA, hrA⟩ := id hr1.1
  refine x_aload_n hM dL_law_1016 rfl rfl ?_
  refine x_aload_n hM dL_law_1017 rfl rfl ?_
  refine x_iload_n hM dL_law_1018 rfl rfl ?_
  refine x_iconst hM dL_law_1019 ?_
  refine x_iadd hM dL_law_1020 ?_
  refine hS.1 _ _ _ _ _ _ (by omega) (by omega) dL_law_1021 ?_
  refine x_callV hM wv_L_145 (m_X7_save ⟨_, _, _, _, _, _, _, hh1⟩ hnA hr1.2.2.2.2 (hX _)) ⟨Nat.le_of_ble_eq_true rfl, Nat.le_of_ble_eq_true rfl⟩ hh1 rfl rfl rfl rfl (Nat.le_of_ble_eq_true rfl) ⟨show k + 22 ≤ 600000 by omega, show n + 248 ≤ 7302250 by omega⟩ dL_law_1022 (k_qI fun x_1022 w_1022 q_1022 => ?_)
  obtain ⟨rfl, q3, f2⟩ := q_1022
  refine x_same (tgt := 1053) hM rfl dL_law_1025 (by decide) ?_
  exact hN _ _ (k + 22) (n + 248) _ _ _ _ (lw_in ⟨q1, hc.2.1.kpf (fun q a b => f1 q (by omega) (by omega)), q2, hc.2.2.2.kpf (f1 _ (by omega) (by omega)) (f1 _ (by omega) (by omega))⟩ (f2.mo (by omega) (by omega)) ⟨hr1.1.kpS f2, hr1.2.1.kpf (f2 _ (by omega)) (f2 _ (by omega)), hr1.2.2.1.kpf (f2 _ (by omega)), (by obtain ⟨f, hf⟩ := hr1.2.2.2.1; exact ⟨f, (f2 _ (by omega)).trans hf⟩), q3⟩ (gdA_sav (gdA_up hg) _) (by omega)) (by omega) (by omega)
