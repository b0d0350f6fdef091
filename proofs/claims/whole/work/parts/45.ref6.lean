/-! The reference: rows laid from the pieces -/
theorem rd_mk {G : xG} {w : Wd} {m : Nat} {f : Int → Int} {t : St} {un sg it rw mn pl wr : Int} (hh : w m = some (hdV m un sg it rw mn pl wr)) (hn : w (m + 1) = some (aI G 400 f)) (hp : nowP f t) : rdA G w m f t := ⟨⟨_, _, _, _, _, _, _, hh⟩, hn, hp⟩
theorem rwA_nil {G : xG} {w : Wd} {m : Nat} {R : List Sg} (h : rwA G w m R) : rwA G w m [] := by
  obtain ⟨rf, ro, h1, h2, -⟩ := h
  exact ⟨rf, ro, h1, h2, by decide, fun s q => absurd q List.not_mem_nil, fun i q => absurd q (Nat.not_lt_zero _)⟩
abbrev lyP (G : xG) (w : Wd) (z m : Nat) (un sg it mn pl wr : Int) (R : List Sg) : xPo := qV z fun w1 => w1 m = some (hdV m un sg it R.length mn pl wr) ∧ rwA G w1 m R ∧ Fr2 m (m + 1) (m + 12) (m + 14) w w1
def lrS (a b o : Int) (R : List Sg) (s : Sg) : List Sg := layF (if s.2.1 ≤ a ∧ a < s.2.2 then layF (layF R s.2.1 (if s.2.2 < a then s.2.2 else a) s.1) a b o else layF R s.2.1 (if s.2.2 < a then s.2.2 else a) s.1) (if b < s.2.1 then s.2.1 else b) s.2.2 s.1
def lrF (L : List Sg) (a b o : Int) : List Sg := L.foldl (lrS a b o) []
theorem m_X7_layRow {l : Launch} {G : xG} {w : Wd} {z m : Nat} {R0 : List Sg} {f : Int → Int} {t : St} {a b o un sg it rw mn pl wr : Int} (hh : w m = some (hdV m un sg it rw mn pl wr)) (hr : rwA G w m R0) (hn : w (m + 1) = some (aI G 400 f)) (hp : nowP f t) (ha : 0 ≤ a ∧ a < b ∧ b ≤ 10000) (ho : okO o) : xMet l G yX7_layRow cX7_layRow 7 none ({ frames := 2, cells := 0, slots := 0, locals := 42 } : Room) [.ref m, .int (iI a), .int (iI b), .int (iI o)] w z (lyP G w z m un sg it mn pl wr (lrF t.L a b o)) := by
  have hl := (np_w hp).1
  refine xMet_of RX7 rfl (by decide +kernel) false (by decide +kernel) (Nat.le_of_ble_eq_true rfl) rfl ?_
  intro P hM hR
  have K : ∀ (k i : Nat) (R : List Sg) (w1 : Wd) (x5 x6 : Option Value), t.L.length - i < k → i ≤ t.L.length → w1 m = some (hdV m un sg it R.length mn pl wr) → rwA G w1 m R → Fr2 m (m + 1) (m + 12) (m + 14) w w1 → R.length ≤ i + 2 → (∀ h : i < t.L.length, t.L[i].2.1 ≤ a → R.length ≤ i) → (t.L.drop i).foldl (lrS a b o) R = lrF t.L a b o → P 8 [some (.ref m), some (.int (iI a)), some (.int (iI b)), some (.int (iI o)), some (.int (iI i)), x5, x6] [] w1 (z, 0, 0) := by
    intro k
    induction k with
    | zero => intro i R w1 x5 x6 hk; omega
    | succ k ih =>
      intro i R w1 x5 x6 hk hi hh1 hr1 hF hb1 hb2 hinv
      have hn1 := (hF (m + 1) (by omega) (by omega)).trans hn
      have hd1 := rd_mk hh1 hn1 hp
      by_cases hlt : i < t.L.length
      · have hg := np_at hp hlt
        obtain ⟨-, -, -, -, g5, -⟩ := chn_at 0 (np_w hp).2.1 i hlt
        have hb3 := hb2 hlt
        rw [drop_fold _ _ hlt] at hinv
        have J79 : ∀ (R2 : List Sg) (w2 : Wd), w2 m = some (hdV m un sg it R2.length mn pl wr) → rwA G w2 m R2 → Fr2 m (m + 1) (m + 12) (m + 14) w w2 → R2.length ≤ i + 2 + (if t.L[i].2.1 ≤ a ∧ b < t.L[i].2.2 then 0 else if b < t.L[i].2.2 then 0 else 1) → (t.L[i].2.2 ≤ a → R2.length ≤ i + 1) → R2 = (if t.L[i].2.1 ≤ a ∧ a < t.L[i].2.2 then layF (layF R t.L[i].2.1 (if t.L[i].2.2 < a then t.L[i].2.2 else a) t.L[i].1) a b o else layF R t.L[i].2.1 (if t.L[i].2.2 < a then t.L[i].2.2 else a) t.L[i].1) → P 79 [some (.ref m), some (.int (iI a)), some (.int (iI b)), some (.int (iI o)), some (.int (iI i)), some (.int (iI t.L[i].2.1)), some (.int (iI t.L[i].2.2))] [] w2 (z, 0, 0) := by
          intro R2 w2 hh2 hr2 hF2 hb4 hb5 hR2
          have hd2 := rd_mk hh2 ((hF2 (m + 1) (by omega) (by omega)).trans hn) hp
          have J92 : ∀ v : Int, v = (if b < t.L[i].2.1 then t.L[i].2.1 else b) → P 92 [some (.ref m), some (.int (iI a)), some (.int (iI b)), some (.int (iI o)), some (.int (iI i)), some (.int (iI t.L[i].2.1)), some (.int (iI t.L[i].2.2))] [.int (iI v), .ref m] w2 (z, 0, 0) := by
            intro v hv
            have hvb : iR v := by rw [hv]; split <;> omega
            have hvb2 : b ≤ v ∧ t.L[i].2.1 ≤ v := by rw [hv]; split <;> omega
            have hvb3 : v < t.L[i].2.2 → b < t.L[i].2.2 := by omega
            have lb := layF_len R2 v t.L[i].2.2 t.L[i].1
            have hb6 : R2.length < 200 := by clear hR2 hinv; split at hb4 <;> (try split at hb4) <;> omega
            refine x_iload hM dX7_layRow_92 rfl ?_
            refine x_aload_n hM dX7_layRow_94 rfl rfl ?_
            refine x_iload hM dX7_layRow_95 rfl ?_
            refine x_callV hM wv_X7_87 (m_X7_ownerOf (by assumption) (by omega)) ⟨Nat.le_of_ble_eq_true rfl, Nat.le_of_ble_eq_true rfl⟩ (by first | assumption | exact md_o (by assumption)) rfl rfl rfl rfl (Nat.le_of_ble_eq_true rfl) ⟨Nat.le_of_ble_eq_true rfl, Nat.le_of_ble_eq_true rfl⟩ dX7_layRow_97 (k_rI ?_)
            refine x_callV hM wv_X7_93 (m_X7_lay hh2 hr2 hb6 (by omega) (by omega) (by omega)) ⟨Nat.le_of_ble_eq_true rfl, Nat.le_of_ble_eq_true rfl⟩ (by first | assumption | exact md_o (by assumption)) rfl rfl rfl rfl (Nat.le_of_ble_eq_true rfl) ⟨Nat.le_of_ble_eq_true rfl, Nat.le_of_ble_eq_true rfl⟩ dX7_layRow_100 (k_qV fun w_100 q_100 => ?_)
            obtain ⟨qh, qr, qf⟩ := q_100
            refine x_iinc hM dX7_layRow_103 rfl rfl rfl ?_
            refine x_goto (tgt := 8) hM dX7_layRow_106 (by decide) ?_
            refine ih (i + 1) (layF R2 v t.L[i].2.2 t.L[i].1) _ _ _ (by omega) (by omega) qh qr (hF2.tr qf) ?_ (fun h5 h6 => ?_) ?_
            · clear hR2 hinv; split at hb4 <;> (try split at hb4) <;> omega
            · have := g5 h5; have := hb5 (by omega); have := lb.2.2 (by omega); omega
            · rw [← hinv, hR2, hv]; rfl
          refine x_aload_n hM dX7_layRow_79 rfl rfl ?_
          refine x_iload hM dX7_layRow_80 rfl ?_
          refine x_iload_n hM dX7_layRow_82 rfl rfl ?_
          refine x_icmp_le (tgt := 91) hM dX7_layRow_83 (by decide) (by omega) (by omega) (fun c_83 => ?_) (fun c_83 => ?_)
          · refine x_iload_n hM dX7_layRow_91 rfl rfl ?_
            exact J92 _ (by first | rw [if_pos (by omega)] | rw [if_neg (by omega)])
          · refine x_iload hM dX7_layRow_86 rfl ?_
            refine x_goto (tgt := 92) hM dX7_layRow_88 (by decide) ?_
            exact J92 _ (by first | rw [if_pos (by omega)] | rw [if_neg (by omega)])
        have J51 : ∀ v : Int, v = (if t.L[i].2.2 < a then t.L[i].2.2 else a) → P 51 [some (.ref m), some (.int (iI a)), some (.int (iI b)), some (.int (iI o)), some (.int (iI i)), some (.int (iI t.L[i].2.1)), some (.int (iI t.L[i].2.2))] [.int (iI v), .int (iI t.L[i].2.1), .ref m] w1 (z, 0, 0) := by
          intro v hv
          have hvb : iR v := by rw [hv]; split <;> omega
          have hvb2 : v ≤ a ∧ v ≤ t.L[i].2.2 := by rw [hv]; split <;> omega
          have lb := layF_len R t.L[i].2.1 v t.L[i].1
          have lb2 := layF_len (layF R t.L[i].2.1 v t.L[i].1) a b o
          refine x_aload_n hM dX7_layRow_51 rfl rfl ?_
          refine x_iload hM dX7_layRow_52 rfl ?_
          refine x_callV hM wv_X7_87 (m_X7_ownerOf (by assumption) (by omega)) ⟨Nat.le_of_ble_eq_true rfl, Nat.le_of_ble_eq_true rfl⟩ (by first | assumption | exact md_o (by assumption)) rfl rfl rfl rfl (Nat.le_of_ble_eq_true rfl) ⟨Nat.le_of_ble_eq_true rfl, Nat.le_of_ble_eq_true rfl⟩ dX7_layRow_54 (k_rI ?_)
          refine x_callV hM wv_X7_93 (m_X7_lay hh1 hr1 (by omega) (by omega) (by omega) (by omega)) ⟨Nat.le_of_ble_eq_true rfl, Nat.le_of_ble_eq_true rfl⟩ (by first | assumption | exact md_o (by assumption)) rfl rfl rfl rfl (Nat.le_of_ble_eq_true rfl) ⟨Nat.le_of_ble_eq_true rfl, Nat.le_of_ble_eq_true rfl⟩ dX7_layRow_57 (k_qV fun w_57 q_57 => ?_)
          obtain ⟨qh, qr, qf⟩ := q_57
          refine x_iload_n hM dX7_layRow_60 rfl rfl ?_
          refine x_iload hM dX7_layRow_61 rfl ?_
          refine x_icmp_lt (tgt := 79) hM dX7_layRow_63 (by decide) (by omega) (by omega) (fun c_63 => ?_) (fun c_63 => ?_)
          · first | exact J79 _ _ qh2 qr2 ((hF.tr qf).tr qf2) (by clear hinv hv; by_cases q : b < t.L[i].2.2; rw [if_pos ⟨by omega, q⟩]; omega; rw [if_neg (by omega), if_neg q]; omega) (fun q => by omega) (by rw [if_pos (by omega), hv]) | exact J79 _ _ qh qr (hF.tr qf) (by clear hinv hv; by_cases q : b < t.L[i].2.2; rw [if_neg (by omega), if_pos q]; have := lb.2.2; omega; rw [if_neg (by omega), if_neg q]; omega) (fun q => by omega) (by rw [if_neg (by omega), hv])
          · refine x_iload_n hM dX7_layRow_66 rfl rfl ?_
            refine x_iload hM dX7_layRow_67 rfl ?_
            refine x_icmp_ge (tgt := 79) hM dX7_layRow_69 (by decide) (by omega) (by omega) (fun c_69 => ?_) (fun c_69 => ?_)
            · first | exact J79 _ _ qh2 qr2 ((hF.tr qf).tr qf2) (by clear hinv hv; by_cases q : b < t.L[i].2.2; rw [if_pos ⟨by omega, q⟩]; omega; rw [if_neg (by omega), if_neg q]; omega) (fun q => by omega) (by rw [if_pos (by omega), hv]) | exact J79 _ _ qh qr (hF.tr qf) (by clear hinv hv; by_cases q : b < t.L[i].2.2; rw [if_neg (by omega), if_pos q]; have := lb.2.2; omega; rw [if_neg (by omega), if_neg q]; omega) (fun q => by omega) (by rw [if_neg (by omega), hv])
            · refine x_aload_n hM dX7_layRow_72 rfl rfl ?_
              refine x_iload_n hM dX7_layRow_73 rfl rfl ?_
              refine x_iload_n hM dX7_layRow_74 rfl rfl ?_
              refine x_iload_n hM dX7_layRow_75 rfl rfl ?_
              refine x_callV hM wv_X7_93 (m_X7_lay qh qr (by omega) (by omega) (by omega) (by omega)) ⟨Nat.le_of_ble_eq_true rfl, Nat.le_of_ble_eq_true rfl⟩ (by first | assumption | exact md_o (by assumption)) rfl rfl rfl rfl (Nat.le_of_ble_eq_true rfl) ⟨Nat.le_of_ble_eq_true rfl, Nat.le_of_ble_eq_true rfl⟩ dX7_layRow_76 (k_qV fun w_76 q_76 => ?_)
              obtain ⟨qh2, qr2, qf2⟩ := q_76
              first | exact J79 _ _ qh2 qr2 ((hF.tr qf).tr qf2) (by clear hinv hv; by_cases q : b < t.L[i].2.2; rw [if_pos ⟨by omega, q⟩]; omega; rw [if_neg (by omega), if_neg q]; omega) (fun q => by omega) (by rw [if_pos (by omega), hv]) | exact J79 _ _ qh qr (hF.tr qf) (by clear hinv hv; by_cases q : b < t.L[i].2.2; rw [if_neg (by omega), if_pos q]; have := lb.2.2; omega; rw [if_neg (by omega), if_neg q]; omega) (fun q => by omega) (by rw [if_neg (by omega), hv])
        refine x_iload hM dX7_layRow_8 rfl ?_
        refine x_aload_n hM dX7_layRow_10 rfl rfl ?_
        refine x_get hM wf_X7_7 wl_X7 (by first | assumption | exact md_o (by assumption)) rfl dX7_layRow_11 ?_
        refine x_bipush hM dX7_layRow_14 rfl ?_
        refine x_iald hM (by first | assumption | exact row_c (by first | assumption | exact sr1 (by assumption) | exact sr2 (by assumption) | exact sr3 (by assumption) | exact sr4 (by assumption) | exact sr5 (by assumption) | exact rg1 (by assumption) | exact rg2 (by assumption) | exact rg3 (by assumption))) (by omega) dX7_layRow_16 ?_
        rw [np_n hp]
        refine x_icmp_ge (tgt := 109) hM dX7_layRow_17 (by decide) (by omega) (by omega) (fun c_17 => ?_) (fun c_17 => ?_)
        · exfalso; omega
        · refine x_aload_n hM dX7_layRow_20 rfl rfl ?_
          refine x_iload hM dX7_layRow_21 rfl ?_
          refine x_callV hM wv_X7_81 (m_X7_first (by assumption) (by omega)) ⟨Nat.le_of_ble_eq_true rfl, Nat.le_of_ble_eq_true rfl⟩ (by first | assumption | exact md_o (by assumption)) rfl rfl rfl rfl (Nat.le_of_ble_eq_true rfl) ⟨Nat.le_of_ble_eq_true rfl, Nat.le_of_ble_eq_true rfl⟩ dX7_layRow_23 (k_rI ?_)
          refine x_istore hM dX7_layRow_26 rfl (Nat.le_of_ble_eq_true rfl) rfl ?_
          refine x_aload_n hM dX7_layRow_28 rfl rfl ?_
          refine x_iload hM dX7_layRow_29 rfl ?_
          refine x_callV hM wv_X7_84 (m_X7_behind (by assumption) (by omega)) ⟨Nat.le_of_ble_eq_true rfl, Nat.le_of_ble_eq_true rfl⟩ (by first | assumption | exact md_o (by assumption)) rfl rfl rfl rfl (Nat.le_of_ble_eq_true rfl) ⟨Nat.le_of_ble_eq_true rfl, Nat.le_of_ble_eq_true rfl⟩ dX7_layRow_31 (k_rI ?_)
          refine x_istore hM dX7_layRow_34 rfl (Nat.le_of_ble_eq_true rfl) rfl ?_
          refine x_aload_n hM dX7_layRow_36 rfl rfl ?_
          refine x_iload hM dX7_layRow_37 rfl ?_
          refine x_iload hM dX7_layRow_39 rfl ?_
          refine x_iload_n hM dX7_layRow_41 rfl rfl ?_
          refine x_icmp_ge (tgt := 50) hM dX7_layRow_42 (by decide) (by omega) (by omega) (fun c_42 => ?_) (fun c_42 => ?_)
          · refine x_iload_n hM dX7_layRow_50 rfl rfl ?_
            exact J51 _ (by first | rw [if_pos (by omega)] | rw [if_neg (by omega)])
          · refine x_iload hM dX7_layRow_45 rfl ?_
            refine x_goto (tgt := 51) hM dX7_layRow_47 (by decide) ?_
            exact J51 _ (by first | rw [if_pos (by omega)] | rw [if_neg (by omega)])
      · rw [drop_foldE _ _ (by omega)] at hinv
        refine x_iload hM dX7_layRow_8 rfl ?_
        refine x_aload_n hM dX7_layRow_10 rfl rfl ?_
        refine x_get hM wf_X7_7 wl_X7 (by first | assumption | exact md_o (by assumption)) rfl dX7_layRow_11 ?_
        refine x_bipush hM dX7_layRow_14 rfl ?_
        refine x_iald hM (by first | assumption | exact row_c (by first | assumption | exact sr1 (by assumption) | exact sr2 (by assumption) | exact sr3 (by assumption) | exact sr4 (by assumption) | exact sr5 (by assumption) | exact rg1 (by assumption) | exact rg2 (by assumption) | exact rg3 (by assumption))) (by omega) dX7_layRow_16 ?_
        rw [np_n hp]
        refine x_icmp_ge (tgt := 109) hM dX7_layRow_17 (by decide) (by omega) (by omega) (fun c_17 => ?_) (fun c_17 => ?_)
        · refine hR.v dX7_layRow_109 (Nat.zero_le _) (Nat.zero_le _) ?_
          subst hinv
          exact p_qV ⟨hh1, hr1, hF⟩
        · exfalso; omega
  refine x_aload_n hM dX7_layRow_0 rfl rfl ?_
  refine x_iconst hM dX7_layRow_1 ?_
  refine x_put hM wf_X7_90 wl_X7 (by first | assumption | exact md_o (by assumption)) wq_X7_90 rfl rfl (Nat.le_of_ble_eq_true rfl) rfl dX7_layRow_2 ?_
  refine x_iconst hM dX7_layRow_5 ?_
  refine x_istore hM dX7_layRow_6 rfl (Nat.le_of_ble_eq_true rfl) rfl ?_
  exact K _ 0 [] _ _ _ (Nat.lt_succ_self _) (Nat.zero_le _) wS_eq ((rwA_nil hr).kpf (wS_ne (by omega)) (wS_ne (by omega))) (wF.l2 (by omega) (by omega)) (by decide) (fun _ _ => by decide) rfl
def laS (o h : Int) (R : List Sg) (s : Sg) : List Sg := layF R s.2.1 s.2.2 (if s.1 = o then h else s.1)
def laF (L : List Sg) (o h : Int) : List Sg := L.foldl (laS o h) []
theorem m_X7_layAll {l : Launch} {G : xG} {w : Wd} {z m : Nat} {R0 : List Sg} {f : Int → Int} {t : St} {o h0 un sg it rw mn pl wr : Int} (hh : w m = some (hdV m un sg it rw mn pl wr)) (hr : rwA G w m R0) (hn : w (m + 1) = some (aI G 400 f)) (hp : nowP f t) (ho : iR o) (hh0 : okO h0) : xMet l G yX7_layAll cX7_layAll 4 none ({ frames := 2, cells := 0, slots := 0, locals := 42 } : Room) [.ref m, .int (iI o), .int (iI h0)] w z (lyP G w z m un sg it mn pl wr (laF t.L o h0)) := by
  have hl := (np_w hp).1
  refine xMet_of RX7 rfl (by decide +kernel) false (by decide +kernel) (Nat.le_of_ble_eq_true rfl) rfl ?_
  intro P hM hR
  have K : ∀ (k i : Nat) (R : List Sg) (w1 : Wd), t.L.length - i < k → i ≤ t.L.length → w1 m = some (hdV m un sg it R.length mn pl wr) → rwA G w1 m R → Fr2 m (m + 1) (m + 12) (m + 14) w w1 → R.length ≤ i → (t.L.drop i).foldl (laS o h0) R = laF t.L o h0 → P 7 [some (.ref m), some (.int (iI o)), some (.int (iI h0)), some (.int (iI i))] [] w1 (z, 0, 0) := by
    intro k
    induction k with
    | zero => intro i R w1 hk; omega
    | succ k ih =>
      intro i R w1 hk hi hh1 hr1 hF hb1 hinv
      have hn1 := (hF (m + 1) (by omega) (by omega)).trans hn
      have hd1 := rd_mk hh1 hn1 hp
      by_cases hlt : i < t.L.length
      · have hg := np_at hp hlt
        rw [drop_fold _ _ hlt] at hinv
        have J47 : ∀ v : Int, v = (if t.L[i].1 = o then h0 else t.L[i].1) → P 47 [some (.ref m), some (.int (iI o)), some (.int (iI h0)), some (.int (iI i))] [.int (iI v), .int (iI t.L[i].2.2), .int (iI t.L[i].2.1), .ref m] w1 (z, 0, 0) := by
          intro v hv
          have hvb : okO v := by rw [hv]; split <;> omega
          have lb := layF_len R t.L[i].2.1 t.L[i].2.2 v
          refine x_callV hM wv_X7_93 (m_X7_lay hh1 hr1 (by omega) (by omega) (by omega) hvb) ⟨Nat.le_of_ble_eq_true rfl, Nat.le_of_ble_eq_true rfl⟩ (by first | assumption | exact md_o (by assumption)) rfl rfl rfl rfl (Nat.le_of_ble_eq_true rfl) ⟨Nat.le_of_ble_eq_true rfl, Nat.le_of_ble_eq_true rfl⟩ dX7_layAll_47 (k_qV fun w_47 q_47 => ?_)
          obtain ⟨qh, qr, qf⟩ := q_47
          refine x_iinc hM dX7_layAll_50 rfl rfl rfl ?_
          refine x_goto (tgt := 7) hM dX7_layAll_53 (by decide) ?_
          exact ih (i + 1) _ _ (by omega) (by omega) qh qr (hF.tr qf) (by omega) (by rw [← hinv, hv]; rfl)
        refine x_iload_n hM dX7_layAll_7 rfl rfl ?_
        refine x_aload_n hM dX7_layAll_8 rfl rfl ?_
        refine x_get hM wf_X7_7 wl_X7 (by first | assumption | exact md_o (by assumption)) rfl dX7_layAll_9 ?_
        refine x_bipush hM dX7_layAll_12 rfl ?_
        refine x_iald hM (by first | assumption | exact row_c (by first | assumption | exact sr1 (by assumption) | exact sr2 (by assumption) | exact sr3 (by assumption) | exact sr4 (by assumption) | exact sr5 (by assumption) | exact rg1 (by assumption) | exact rg2 (by assumption) | exact rg3 (by assumption))) (by omega) dX7_layAll_14 ?_
        rw [np_n hp]
        refine x_icmp_ge (tgt := 56) hM dX7_layAll_15 (by decide) (by omega) (by omega) (fun c_15 => ?_) (fun c_15 => ?_)
        · exfalso; omega
        · refine x_aload_n hM dX7_layAll_18 rfl rfl ?_
          refine x_aload_n hM dX7_layAll_19 rfl rfl ?_
          refine x_iload_n hM dX7_layAll_20 rfl rfl ?_
          refine x_callV hM wv_X7_81 (m_X7_first (by assumption) (by omega)) ⟨Nat.le_of_ble_eq_true rfl, Nat.le_of_ble_eq_true rfl⟩ (by first | assumption | exact md_o (by assumption)) rfl rfl rfl rfl (Nat.le_of_ble_eq_true rfl) ⟨Nat.le_of_ble_eq_true rfl, Nat.le_of_ble_eq_true rfl⟩ dX7_layAll_21 (k_rI ?_)
          refine x_aload_n hM dX7_layAll_24 rfl rfl ?_
          refine x_iload_n hM dX7_layAll_25 rfl rfl ?_
          refine x_callV hM wv_X7_84 (m_X7_behind (by assumption) (by omega)) ⟨Nat.le_of_ble_eq_true rfl, Nat.le_of_ble_eq_true rfl⟩ (by first | assumption | exact md_o (by assumption)) rfl rfl rfl rfl (Nat.le_of_ble_eq_true rfl) ⟨Nat.le_of_ble_eq_true rfl, Nat.le_of_ble_eq_true rfl⟩ dX7_layAll_26 (k_rI ?_)
          refine x_aload_n hM dX7_layAll_29 rfl rfl ?_
          refine x_iload_n hM dX7_layAll_30 rfl rfl ?_
          refine x_callV hM wv_X7_87 (m_X7_ownerOf (by assumption) (by omega)) ⟨Nat.le_of_ble_eq_true rfl, Nat.le_of_ble_eq_true rfl⟩ (by first | assumption | exact md_o (by assumption)) rfl rfl rfl rfl (Nat.le_of_ble_eq_true rfl) ⟨Nat.le_of_ble_eq_true rfl, Nat.le_of_ble_eq_true rfl⟩ dX7_layAll_31 (k_rI ?_)
          refine x_iload_n hM dX7_layAll_34 rfl rfl ?_
          refine x_icmp_ne (tgt := 42) hM dX7_layAll_35 (by decide) (by omega) (by omega) (fun c_35 => ?_) (fun c_35 => ?_)
          · refine x_aload_n hM dX7_layAll_42 rfl rfl ?_
            refine x_iload_n hM dX7_layAll_43 rfl rfl ?_
            refine x_callV hM wv_X7_87 (m_X7_ownerOf (by assumption) (by omega)) ⟨Nat.le_of_ble_eq_true rfl, Nat.le_of_ble_eq_true rfl⟩ (by first | assumption | exact md_o (by assumption)) rfl rfl rfl rfl (Nat.le_of_ble_eq_true rfl) ⟨Nat.le_of_ble_eq_true rfl, Nat.le_of_ble_eq_true rfl⟩ dX7_layAll_44 (k_rI ?_)
            exact J47 _ (by first | rw [if_pos (by omega)] | rw [if_neg (by omega)])
          · refine x_iload_n hM dX7_layAll_38 rfl rfl ?_
            refine x_goto (tgt := 47) hM dX7_layAll_39 (by decide) ?_
            exact J47 _ (by first | rw [if_pos (by omega)] | rw [if_neg (by omega)])
      · rw [drop_foldE _ _ (by omega)] at hinv
        refine x_iload_n hM dX7_layAll_7 rfl rfl ?_
        refine x_aload_n hM dX7_layAll_8 rfl rfl ?_
        refine x_get hM wf_X7_7 wl_X7 (by first | assumption | exact md_o (by assumption)) rfl dX7_layAll_9 ?_
        refine x_bipush hM dX7_layAll_12 rfl ?_
        refine x_iald hM (by first | assumption | exact row_c (by first | assumption | exact sr1 (by assumption) | exact sr2 (by assumption) | exact sr3 (by assumption) | exact sr4 (by assumption) | exact sr5 (by assumption) | exact rg1 (by assumption) | exact rg2 (by assumption) | exact rg3 (by assumption))) (by omega) dX7_layAll_14 ?_
        rw [np_n hp]
        refine x_icmp_ge (tgt := 56) hM dX7_layAll_15 (by decide) (by omega) (by omega) (fun c_15 => ?_) (fun c_15 => ?_)
        · refine hR.v dX7_layAll_56 (Nat.zero_le _) (Nat.zero_le _) ?_
          subst hinv
          exact p_qV ⟨hh1, hr1, hF⟩
        · exfalso; omega
  refine x_aload_n hM dX7_layAll_0 rfl rfl ?_
  refine x_iconst hM dX7_layAll_1 ?_
  refine x_put hM wf_X7_90 wl_X7 (by first | assumption | exact md_o (by assumption)) wq_X7_90 rfl rfl (Nat.le_of_ble_eq_true rfl) rfl dX7_layAll_2 ?_
  refine x_iconst hM dX7_layAll_5 ?_
  refine x_istore_n hM dX7_layAll_6 rfl rfl (Nat.le_of_ble_eq_true rfl) rfl ?_
  exact K _ 0 [] _ (Nat.lt_succ_self _) (Nat.zero_le _) wS_eq ((rwA_nil hr).kpf (wS_ne (by omega)) (wS_ne (by omega))) (wF.l2 (by omega) (by omega)) (by decide) rfl
def rbV (L : List Sg) (p q i : Nat) : Int := if i = p then gO L q else if i = q then gO L p else gO L i
def rbN (L : List Sg) (p q : Nat) : Nat → List Sg
  | 0 => []
  | i + 1 => layF (rbN L p q i) (gA_ L i) (gB_ L i) (rbV L p q i)
theorem m_X7_rangesBy {l : Launch} {G : xG} {w : Wd} {z m p q : Nat} {R0 : List Sg} {f : Int → Int} {t : St} {un sg it rw mn pl wr : Int} (hh : w m = some (hdV m un sg it rw mn pl wr)) (hr : rwA G w m R0) (hn : w (m + 1) = some (aI G 400 f)) (hp : nowP f t) (hpl : p < t.L.length) (hql : q < t.L.length) : xMet l G yX7_rangesBy cX7_rangesBy 4 (some .int) ({ frames := 2, cells := 0, slots := 0, locals := 42 } : Room) [.ref m, .int (iI p), .int (iI q)] w z (qI z fun y w1 => y = rnF (rbN t.L p q t.L.length) ∧ ∃ R : List Sg, w1 m = some (hdV m un sg it R.length mn pl wr) ∧ rwA G w1 m R ∧ Fr2 m (m + 1) (m + 12) (m + 14) w w1) := by
  have hl := (np_w hp).1
  refine xMet_of RX7 rfl (by decide +kernel) false (by decide +kernel) (Nat.le_of_ble_eq_true rfl) rfl ?_
  intro P hM hR
  have K : ∀ (k i : Nat) (w1 : Wd), i + k = t.L.length → w1 m = some (hdV m un sg it (rbN t.L p q i).length mn pl wr) → rwA G w1 m (rbN t.L p q i) → Fr2 m (m + 1) (m + 12) (m + 14) w w1 → (rbN t.L p q i).length ≤ i → P 7 [some (.ref m), some (.int (iI p)), some (.int (iI q)), some (.int (iI i))] [] w1 (z, 0, 0) := by
    intro k
    induction k with
    | zero =>
      intro i w1 hk hh1 hr1 hF hb1
      have hn1 := (hF (m + 1) (by omega) (by omega)).trans hn
      refine x_iload_n hM dX7_rangesBy_7 rfl rfl ?_
      refine x_aload_n hM dX7_rangesBy_8 rfl rfl ?_
      refine x_get hM wf_X7_7 wl_X7 (by first | assumption | exact md_o (by assumption)) rfl dX7_rangesBy_9 ?_
      refine x_bipush hM dX7_rangesBy_12 rfl ?_
      refine x_iald hM (by first | assumption | exact row_c (by first | assumption | exact sr1 (by assumption) | exact sr2 (by assumption) | exact sr3 (by assumption) | exact sr4 (by assumption) | exact sr5 (by assumption) | exact rg1 (by assumption) | exact rg2 (by assumption) | exact rg3 (by assumption))) (by omega) dX7_rangesBy_14 ?_
      rw [np_n hp]
      refine x_icmp_ge (tgt := 69) hM dX7_rangesBy_15 (by decide) (by omega) (by omega) (fun c_15 => ?_) (fun c_15 => ?_)
      · refine x_aload_n hM dX7_rangesBy_69 rfl rfl ?_
        refine x_callV hM wv_X7_111 (m_X7_rangesInRow hh1 hr1) ⟨Nat.le_of_ble_eq_true rfl, Nat.le_of_ble_eq_true rfl⟩ (by first | assumption | exact md_o (by assumption)) rfl rfl rfl rfl (Nat.le_of_ble_eq_true rfl) ⟨Nat.le_of_ble_eq_true rfl, Nat.le_of_ble_eq_true rfl⟩ dX7_rangesBy_70 (k_rI ?_)
        refine hR.i dX7_rangesBy_73 (Nat.zero_le _) (Nat.zero_le _) ?_
        exact p_qI ⟨by rw [show i = t.L.length by omega], _, hh1, hr1, hF⟩
      · exfalso; omega
    | succ k ih =>
      intro i w1 hk hh1 hr1 hF hb1
      have hn1 := (hF (m + 1) (by omega) (by omega)).trans hn
      have hd1 := rd_mk hh1 hn1 hp
      have hlt : i < t.L.length := by omega
      have hg := np_at hp hlt
      have hgp := np_at hp hpl
      have hgq := np_at hp hql
      have e1 := gO_at hlt
      have e2 := gO_at hpl
      have e3 := gO_at hql
      have J60 : ∀ v : Int, v = rbV t.L p q i → P 60 [some (.ref m), some (.int (iI p)), some (.int (iI q)), some (.int (iI i))] [.int (iI v), .int (iI t.L[i].2.2), .int (iI t.L[i].2.1), .ref m] w1 (z, 0, 0) := by
        intro v hv
        have hvb : okO v := by rw [hv]; unfold rbV; rw [e1.1, e2.1, e3.1]; split <;> (try split) <;> omega
        have lb := layF_len (rbN t.L p q i) t.L[i].2.1 t.L[i].2.2 v
        have e4 : layF (rbN t.L p q i) t.L[i].2.1 t.L[i].2.2 v = rbN t.L p q (i + 1) := by rw [hv, ← e1.2.1, ← e1.2.2]; rfl
        refine x_callV hM wv_X7_93 (m_X7_lay hh1 hr1 (by omega) (by omega) (by omega) hvb) ⟨Nat.le_of_ble_eq_true rfl, Nat.le_of_ble_eq_true rfl⟩ (by first | assumption | exact md_o (by assumption)) rfl rfl rfl rfl (Nat.le_of_ble_eq_true rfl) ⟨Nat.le_of_ble_eq_true rfl, Nat.le_of_ble_eq_true rfl⟩ dX7_rangesBy_60 (k_qV fun w_60 q_60 => ?_)
        obtain ⟨qh, qr, qf⟩ := q_60
        rw [e4] at qh qr lb
        refine x_iinc hM dX7_rangesBy_63 rfl rfl rfl ?_
        refine x_goto (tgt := 7) hM dX7_rangesBy_66 (by decide) ?_
        exact ih (i + 1) _ (by omega) qh qr (hF.tr qf) (by omega)
      refine x_iload_n hM dX7_rangesBy_7 rfl rfl ?_
      refine x_aload_n hM dX7_rangesBy_8 rfl rfl ?_
      refine x_get hM wf_X7_7 wl_X7 (by first | assumption | exact md_o (by assumption)) rfl dX7_rangesBy_9 ?_
      refine x_bipush hM dX7_rangesBy_12 rfl ?_
      refine x_iald hM (by first | assumption | exact row_c (by first | assumption | exact sr1 (by assumption) | exact sr2 (by assumption) | exact sr3 (by assumption) | exact sr4 (by assumption) | exact sr5 (by assumption) | exact rg1 (by assumption) | exact rg2 (by assumption) | exact rg3 (by assumption))) (by omega) dX7_rangesBy_14 ?_
      rw [np_n hp]
      refine x_icmp_ge (tgt := 69) hM dX7_rangesBy_15 (by decide) (by omega) (by omega) (fun c_15 => ?_) (fun c_15 => ?_)
      · exfalso; omega
      · refine x_aload_n hM dX7_rangesBy_18 rfl rfl ?_
        refine x_aload_n hM dX7_rangesBy_19 rfl rfl ?_
        refine x_iload_n hM dX7_rangesBy_20 rfl rfl ?_
        refine x_callV hM wv_X7_81 (m_X7_first (by assumption) (by omega)) ⟨Nat.le_of_ble_eq_true rfl, Nat.le_of_ble_eq_true rfl⟩ (by first | assumption | exact md_o (by assumption)) rfl rfl rfl rfl (Nat.le_of_ble_eq_true rfl) ⟨Nat.le_of_ble_eq_true rfl, Nat.le_of_ble_eq_true rfl⟩ dX7_rangesBy_21 (k_rI ?_)
        refine x_aload_n hM dX7_rangesBy_24 rfl rfl ?_
        refine x_iload_n hM dX7_rangesBy_25 rfl rfl ?_
        refine x_callV hM wv_X7_84 (m_X7_behind (by assumption) (by omega)) ⟨Nat.le_of_ble_eq_true rfl, Nat.le_of_ble_eq_true rfl⟩ (by first | assumption | exact md_o (by assumption)) rfl rfl rfl rfl (Nat.le_of_ble_eq_true rfl) ⟨Nat.le_of_ble_eq_true rfl, Nat.le_of_ble_eq_true rfl⟩ dX7_rangesBy_26 (k_rI ?_)
        refine x_iload_n hM dX7_rangesBy_29 rfl rfl ?_
        refine x_iload_n hM dX7_rangesBy_30 rfl rfl ?_
        refine x_icmp_ne (tgt := 42) hM dX7_rangesBy_31 (by decide) (by omega) (by omega) (fun c_31 => ?_) (fun c_31 => ?_)
        · refine x_iload_n hM dX7_rangesBy_42 rfl rfl ?_
          refine x_iload_n hM dX7_rangesBy_43 rfl rfl ?_
          refine x_icmp_ne (tgt := 55) hM dX7_rangesBy_44 (by decide) (by omega) (by omega) (fun c_44 => ?_) (fun c_44 => ?_)
          · refine x_aload_n hM dX7_rangesBy_55 rfl rfl ?_
            refine x_iload_n hM dX7_rangesBy_56 rfl rfl ?_
            refine x_callV hM wv_X7_87 (m_X7_ownerOf (by assumption) (by omega)) ⟨Nat.le_of_ble_eq_true rfl, Nat.le_of_ble_eq_true rfl⟩ (by first | assumption | exact md_o (by assumption)) rfl rfl rfl rfl (Nat.le_of_ble_eq_true rfl) ⟨Nat.le_of_ble_eq_true rfl, Nat.le_of_ble_eq_true rfl⟩ dX7_rangesBy_57 (k_rI ?_)
            exact J60 _ (by unfold rbV; first | rw [if_pos (by omega), e3.1] | rw [if_neg (by omega), if_pos (by omega), e2.1] | rw [if_neg (by omega), if_neg (by omega), e1.1])
          · refine x_aload_n hM dX7_rangesBy_47 rfl rfl ?_
            refine x_iload_n hM dX7_rangesBy_48 rfl rfl ?_
            refine x_callV hM wv_X7_87 (m_X7_ownerOf (i := p) hd1 hpl) ⟨Nat.le_of_ble_eq_true rfl, Nat.le_of_ble_eq_true rfl⟩ (by first | assumption | exact md_o (by assumption)) rfl rfl rfl rfl (Nat.le_of_ble_eq_true rfl) ⟨Nat.le_of_ble_eq_true rfl, Nat.le_of_ble_eq_true rfl⟩ dX7_rangesBy_49 (k_rI ?_)
            refine x_goto (tgt := 60) hM dX7_rangesBy_52 (by decide) ?_
            exact J60 _ (by unfold rbV; first | rw [if_pos (by omega), e3.1] | rw [if_neg (by omega), if_pos (by omega), e2.1] | rw [if_neg (by omega), if_neg (by omega), e1.1])
        · refine x_aload_n hM dX7_rangesBy_34 rfl rfl ?_
          refine x_iload_n hM dX7_rangesBy_35 rfl rfl ?_
          refine x_callV hM wv_X7_87 (m_X7_ownerOf (i := q) hd1 hql) ⟨Nat.le_of_ble_eq_true rfl, Nat.le_of_ble_eq_true rfl⟩ (by first | assumption | exact md_o (by assumption)) rfl rfl rfl rfl (Nat.le_of_ble_eq_true rfl) ⟨Nat.le_of_ble_eq_true rfl, Nat.le_of_ble_eq_true rfl⟩ dX7_rangesBy_36 (k_rI ?_)
          refine x_goto (tgt := 60) hM dX7_rangesBy_39 (by decide) ?_
          exact J60 _ (by unfold rbV; first | rw [if_pos (by omega), e3.1] | rw [if_neg (by omega), if_pos (by omega), e2.1] | rw [if_neg (by omega), if_neg (by omega), e1.1])
  refine x_aload_n hM dX7_rangesBy_0 rfl rfl ?_
  refine x_iconst hM dX7_rangesBy_1 ?_
  refine x_put hM wf_X7_90 wl_X7 (by first | assumption | exact md_o (by assumption)) wq_X7_90 rfl rfl (Nat.le_of_ble_eq_true rfl) rfl dX7_rangesBy_2 ?_
  refine x_iconst hM dX7_rangesBy_5 ?_
  refine x_istore_n hM dX7_rangesBy_6 rfl rfl (Nat.le_of_ble_eq_true rfl) rfl ?_
  exact K t.L.length 0 _ (Nat.zero_add _) wS_eq ((rwA_nil hr).kpf (wS_ne (by omega)) (wS_ne (by omega))) (wF.l2 (by omega) (by omega)) (Nat.le_refl 0)
