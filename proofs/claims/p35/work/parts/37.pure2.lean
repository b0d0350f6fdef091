/-! what is laid is in order -/
theorem can_snoc {T : List Sg} {x : Sg} (h : canL T) (hx : ∀ y, T.getLast? = some y → jn y x) : canL (T ++ [x]) := by
  intro i hi
  rw [List.length_append] at hi
  have hi2 : i < T.length := by simp at hi; omega
  rw [List.getElem_append_left hi2]
  by_cases hlt : i + 1 < T.length
  · rw [List.getElem_append_left hlt]
    exact h i hlt
  · have e : i = T.length - 1 := by omega
    have e2 : (T ++ [x])[i + 1]'(by rw [List.length_append]; exact hi) = x := by
      rw [List.getElem_append_right (by omega)]
      simp
    rw [e2]
    exact hx _ (by rw [List.getLast?_eq_getElem?, ← e, List.getElem?_eq_getElem hi2])
theorem can_init {T : List Sg} {x y : Sg} (h : canL (T ++ [x])) (hy : T.getLast? = some y) : jn y x := by
  have hl := len_last hy
  have h1 := h (T.length - 1) (by rw [List.length_append]; simp; omega)
  rw [List.getElem_append_left (by omega), List.getElem_append_right (by omega)] at h1
  have e1 : T[T.length - 1] = y := by
    have := hy
    rw [List.getLast?_eq_getElem?, List.getElem?_eq_getElem (by omega)] at this
    exact Option.some.inj this
  rw [e1] at h1
  simpa using h1
theorem can_left {T : List Sg} {N : List Sg} (h : canL (T ++ N)) : canL T := by
  intro i hi
  have h1 := h i (by rw [List.length_append]; omega)
  rwa [List.getElem_append_left (by omega), List.getElem_append_left hi] at h1
theorem can_ad {T : List Sg} {o a n : Int} (h : canL T) (hT : ∀ y, T.getLast? = some y → y.2.2 ≤ a) : canL (adF T o a n) := by
  by_cases h0 : o < 0 ∨ n ≤ 0
  · rw [adF_no h0]; exact h
  · cases hl : T.getLast? with
    | none =>
      rw [adF_nil h0 hl]
      exact can_snoc h fun y hy => by rw [hl] at hy; cases hy
    | some x =>
      have hx := hT x hl
      by_cases hc : x.1 = o ∧ x.2.2 = a
      · rw [adF_ext h0 hl hc]
        obtain ⟨e1, -⟩ := len_last hl
        have h2 : canL (T.dropLast ++ [x]) := by rw [← e1]; exact h
        refine can_snoc (can_left h2) fun y hy => ?_
        have h3 := can_init h2 hy
        exact ⟨h3.1, fun q => by have := h3.2 q; rw [hc.1] at this; exact this⟩
      · rw [adF_push h0 hl hc]
        refine can_snoc h fun y hy => ?_
        rw [hl] at hy
        cases hy
        exact ⟨hx, fun q e => hc ⟨e, q⟩⟩
theorem ad_last {T : List Sg} {o a n b : Int} (hT : ∀ y, T.getLast? = some y → y.2.2 ≤ b) (hb : 0 < n → a + n ≤ b) : ∀ y, (adF T o a n).getLast? = some y → y.2.2 ≤ b := by
  intro y hy
  by_cases h0 : o < 0 ∨ n ≤ 0
  · rw [adF_no h0] at hy; exact hT y hy
  · cases hl : T.getLast? with
    | none =>
      rw [adF_nil h0 hl, List.getLast?_concat] at hy
      cases hy
      exact hb (by omega)
    | some x =>
      by_cases hc : x.1 = o ∧ x.2.2 = a
      · rw [adF_ext h0 hl hc, List.getLast?_concat] at hy
        cases hy
        show x.2.2 + n ≤ b
        have := hb (by omega)
        omega
      · rw [adF_push h0 hl hc, List.getLast?_concat] at hy
        cases hy
        exact hb (by omega)
theorem can_adL : ∀ (N T : List Sg), canL T → (∀ x ∈ N, 0 < x.2.2 → ∀ y, T.getLast? = some y → y.2.2 ≤ x.2.1) → N.Pairwise (fun x y => 0 < x.2.2 → 0 < y.2.2 → x.2.1 + x.2.2 ≤ y.2.1) → canL (adL T N) := by
  intro N
  induction N with
  | nil => intro T h _ _; exact h
  | cons x N ih =>
    intro T h h1 h2
    obtain ⟨p1, p2⟩ := List.pairwise_cons.mp h2
    rw [adL_cons]
    by_cases h0 : 0 < x.2.2
    · refine ih _ (can_ad h (h1 x List.mem_cons_self h0)) (fun z hz hz0 => ?_) p2
      exact ad_last (fun y hy => h1 z (List.mem_cons_of_mem _ hz) hz0 y hy) (fun _ => p1 z hz h0 hz0)
    · have e : adS T x = T := adF_no (Or.inr (by omega))
      rw [e]
      exact ih T h (fun z hz => h1 z (List.mem_cons_of_mem _ hz)) p2
theorem own_ad {p : Int → Prop} {T : List Sg} {o a n : Int} (h : ∀ y ∈ T, p y.1) (ho : 0 ≤ o → p o) : ∀ y ∈ adF T o a n, p y.1 := by
  intro y hy
  by_cases h0 : o < 0 ∨ n ≤ 0
  · rw [adF_no h0] at hy; exact h y hy
  · have hp := ho (by omega)
    cases hl : T.getLast? with
    | none =>
      rw [adF_nil h0 hl] at hy
      rcases List.mem_append.mp hy with q | q
      · exact h y q
      · rw [List.mem_singleton] at q; rw [q]; exact hp
    | some x =>
      by_cases hc : x.1 = o ∧ x.2.2 = a
      · rw [adF_ext h0 hl hc] at hy
        rcases List.mem_append.mp hy with q | q
        · exact h y ((List.dropLast_sublist T).subset q)
        · rw [List.mem_singleton] at q; rw [q]; exact hp
      · rw [adF_push h0 hl hc] at hy
        rcases List.mem_append.mp hy with q | q
        · exact h y q
        · rw [List.mem_singleton] at q; rw [q]; exact hp
theorem own_adL {p : Int → Prop} : ∀ (N T : List Sg), (∀ y ∈ T, p y.1) → (∀ x ∈ N, 0 ≤ x.1 → p x.1) → ∀ y ∈ adL T N, p y.1 := by
  intro N
  induction N with
  | nil => intro T h _; exact h
  | cons x N ih =>
    intro T h h1
    rw [adL_cons]
    exact ih _ (own_ad h (h1 x List.mem_cons_self)) fun z hz => h1 z (List.mem_cons_of_mem _ hz)
theorem ops_pw {L : List Sg} {o a n : Int} (hL : srtL L) (hn : 0 < n) : (opsB L o a n).Pairwise (fun x y => 0 < x.2.2 → 0 < y.2.2 → x.2.1 + x.2.2 ≤ y.2.1) := by
  unfold opsB
  rw [List.pairwise_append]
  refine ⟨?_, ?_, ?_⟩
  · rw [List.pairwise_map]
    refine hL.imp fun {x y} h _ _ => ?_
    show x.2.1 + ((if a < x.2.2 then a else x.2.2) - x.2.1) ≤ y.2.1
    split <;> omega
  · rw [List.pairwise_cons]
    refine ⟨fun y hy _ h0 => ?_, ?_⟩
    · obtain ⟨s, hs, rfl⟩ := List.mem_map.mp hy
      show a + n ≤ (if s.2.1 < a + n then a + n else s.2.1)
      split <;> omega
    · rw [List.pairwise_map]
      refine hL.imp fun {x y} h _ _ => ?_
      show (if x.2.1 < a + n then a + n else x.2.1) + (x.2.2 - (if x.2.1 < a + n then a + n else x.2.1)) ≤ (if y.2.1 < a + n then a + n else y.2.1)
      split <;> split <;> omega
  · intro x hx y hy h1 h2
    obtain ⟨s, hs, rfl⟩ := List.mem_map.mp hx
    have k : s.2.1 + ((if a < s.2.2 then a else s.2.2) - s.2.1) ≤ a := by split <;> omega
    rcases List.mem_cons.mp hy with q | q
    · subst q
      exact k
    · obtain ⟨t, ht, rfl⟩ := List.mem_map.mp q
      refine Int.le_trans k ?_
      show a ≤ (if t.2.1 < a + n then a + n else t.2.1)
      split <;> omega
/-- the street behind a piece is in order, and whose ranges there are -/
theorem bec_can {L : List Sg} {o a n : Int} (hL : canL L) (ho : ∀ s ∈ L, s.2.1 < s.2.2) (hl : L.length ≤ 40) (hn : 0 < n) : canL (becF L o a n) := by
  have hs := can_srt hL ho
  rw [(bec_ad hs ho hl hn).1]
  exact can_adL _ _ canL_nil (fun x _ _ y hy => by cases hy) (ops_pw hs hn)
theorem bec_own {L : List Sg} {o a n k : Int} (hL : srtL L) (ho : ∀ s ∈ L, s.2.1 < s.2.2) (hl : L.length ≤ 40) (hn : 0 < n) (hk : ∀ s ∈ L, s.1 < k) (hok : o < k) : ∀ s ∈ becF L o a n, s.1 < k := by
  rw [(bec_ad hL ho hl hn).1]
  refine own_adL (p := fun v => v < k) _ _ (fun y hy => absurd hy List.not_mem_nil) fun x hx _ => ?_
  unfold opsB at hx
  rcases List.mem_append.mp hx with q | q
  · obtain ⟨s, hs, rfl⟩ := List.mem_map.mp q
    exact hk s hs
  · rcases List.mem_cons.mp q with q | q
    · subst q; exact hok
    · obtain ⟨s, hs, rfl⟩ := List.mem_map.mp q
      exact hk s hs
/-! all of an owner -/
theorem inh_ad {L : List Sg} {o h : Int} (hl : L.length ≤ 40) : inhF L o h = adL [] (L.map (inhP o h)) ∧ (inhF L o h).length ≤ L.length := by
  have h1 := (adL_len (L.map (inhP o h)) []).2
  rw [List.length_map] at h1
  have h0 : ([] : List Sg).length = 0 := rfl
  have e : inhF L o h = adL [] (L.map (inhP o h)) := by
    unfold inhF
    exact adL_ap _ _ (by omega)
  exact ⟨e, by rw [e]; omega⟩
theorem inh_can {L : List Sg} {o h : Int} (hL : canL L) (ho : ∀ s ∈ L, s.2.1 < s.2.2) (hl : L.length ≤ 40) : canL (inhF L o h) := by
  rw [(inh_ad hl).1]
  refine can_adL _ _ canL_nil (fun x _ _ y hy => by cases hy) ?_
  rw [List.pairwise_map]
  refine (can_srt hL ho).imp fun {x y} q _ _ => ?_
  show x.2.1 + (x.2.2 - x.2.1) ≤ y.2.1
  omega
theorem inh_own {L : List Sg} {o h k : Int} (hl : L.length ≤ 40) (hk : ∀ s ∈ L, s.1 < k) (hh : h < k) : ∀ s ∈ inhF L o h, s.1 < k := by
  rw [(inh_ad hl).1]
  refine own_adL (p := fun v => v < k) _ _ (fun y hy => absurd hy List.not_mem_nil) fun x hx _ => ?_
  obtain ⟨s, hs, rfl⟩ := List.mem_map.mp hx
  show (if s.1 = o then h else s.1) < k
  split
  · exact hh
  · exact hk s hs
/-! a range that is lost -/
def fulP (s : Sg) : Sg := (s.1, s.2.1, s.2.2 - s.2.1)
theorem ad_ful : ∀ (B A : List Sg), canL (A ++ B) → (∀ s ∈ B, 0 ≤ s.1 ∧ s.2.1 < s.2.2) → adL A (B.map fulP) = A ++ B := by
  intro B
  induction B with
  | nil => intro A _ _; rw [List.append_nil]; rfl
  | cons s B ih =>
    intro A h ho
    have h1 := ho s List.mem_cons_self
    have e : A ++ s :: B = (A ++ [s]) ++ B := by simp
    rw [e] at h ⊢
    rw [List.map_cons, adL_cons]
    have h0 : ¬ (s.1 < 0 ∨ s.2.2 - s.2.1 ≤ 0) := by omega
    have es : (s.1, s.2.1, s.2.1 + (s.2.2 - s.2.1)) = s := by rw [show s.2.1 + (s.2.2 - s.2.1) = s.2.2 by omega]
    have e2 : adS A (fulP s) = A ++ [s] := by
      show adF A s.1 s.2.1 (s.2.2 - s.2.1) = _
      cases hl : A.getLast? with
      | none => rw [adF_nil h0 hl, es]
      | some y =>
        have hj := can_init (can_left h) hl
        rw [adF_push h0 hl (fun q => hj.2 q.2 q.1), es]
    rw [e2]
    exact ih _ h fun z hz => ho z (List.mem_cons_of_mem _ hz)
theorem can_erase {L : List Sg} (h : canL L) (ho : ∀ s ∈ L, s.2.1 < s.2.2) (i : Nat) (hi : i < L.length) : canL (L.eraseIdx i) := by
  intro j hj
  rw [List.length_eraseIdx_of_lt hi] at hj
  rw [List.getElem_eraseIdx, List.getElem_eraseIdx]
  by_cases h1 : j + 1 < i
  · rw [dif_pos (by omega), dif_pos h1]
    exact h j (by omega)
  · by_cases h2 : j < i
    · rw [dif_pos h2, dif_neg h1]
      have e : j + 1 = i := by omega
      have g1 := (h j (by omega)).1
      have g2 := (h (j + 1) (by omega)).1
      have g3 := ho L[j + 1] (List.getElem_mem _)
      exact ⟨by omega, fun q => by omega⟩
    · rw [dif_neg h2, dif_neg h1]
      exact h (j + 1) (by omega)
theorem bec_erase {L : List Sg} (h : canL L) (ho : ∀ s ∈ L, 0 ≤ s.1 ∧ s.2.1 < s.2.2) (hl : L.length ≤ 40) (i : Nat) (hi : i < L.length) : becF L (-6) L[i].2.1 (L[i].2.2 - L[i].2.1) = L.eraseIdx i := by
  have ho2 : ∀ s ∈ L, s.2.1 < s.2.2 := fun s hs => (ho s hs).2
  have hoi := ho2 L[i] (List.getElem_mem _)
  rw [(bec_ad (can_srt h ho2) ho2 hl (by omega)).1]
  unfold opsB
  rw [show L[i].2.1 + (L[i].2.2 - L[i].2.1) = L[i].2.2 by omega]
  have hA : ∀ s ∈ L.take i, s.2.2 ≤ L[i].2.1 := by
    intro s hs
    obtain ⟨j, hj, rfl⟩ := List.mem_take_iff_getElem.mp hs
    exact can_le h ho2 (by omega) hi
  have hB : ∀ s ∈ L.drop (i + 1), L[i].2.2 ≤ s.2.1 := by
    intro s hs
    obtain ⟨j, hj, rfl⟩ := List.mem_drop_iff_getElem.mp hs
    exact can_le h ho2 (by omega) (by omega)
  have eL : L = L.take i ++ L[i] :: L.drop (i + 1) := by rw [← List.drop_eq_getElem_cons hi, List.take_append_drop]
  have m1 : ∀ T : List Sg, adL T (L.map (lefP L[i].2.1)) = adL T ((L.take i).map fulP) := by
    intro T
    have e1 : L.map (lefP L[i].2.1) = (L.take i).map (lefP L[i].2.1) ++ (lefP L[i].2.1 L[i] :: (L.drop (i + 1)).map (lefP L[i].2.1)) := by
      rw [← List.map_cons, ← List.map_append, ← eL]
    rw [e1, adL_app]
    have e2 : (L.take i).map (lefP L[i].2.1) = (L.take i).map fulP := by
      refine List.map_congr_left fun s hs => ?_
      have := hA s hs
      unfold lefP fulP
      rw [if_neg (by omega)]
    rw [e2, ← List.map_cons]
    refine lef_no (fun s hs => ?_) _
    rcases List.mem_cons.mp hs with q | q
    · rw [q]; exact Int.le_refl _
    · have := hB s q; omega
  have m2 : ∀ T : List Sg, adL T (L.map (rigP L[i].2.2)) = adL T ((L.drop (i + 1)).map fulP) := by
    intro T
    have e1 : L.map (rigP L[i].2.2) = ((L.take i).map (rigP L[i].2.2) ++ [rigP L[i].2.2 L[i]]) ++ (L.drop (i + 1)).map (rigP L[i].2.2) := by
      rw [List.append_assoc, List.singleton_append, ← List.map_cons, ← List.map_append, ← eL]
    rw [e1, adL_app]
    have e2 : (L.drop (i + 1)).map (rigP L[i].2.2) = (L.drop (i + 1)).map fulP := by
      refine List.map_congr_left fun s hs => ?_
      have := hB s hs
      unfold rigP fulP
      rw [if_neg (by omega)]
    have e3 : adL T ((L.take i).map (rigP L[i].2.2) ++ [rigP L[i].2.2 L[i]]) = T := by
     refine adL_no _ _ fun x hx => Or.inr ?_
     rcases List.mem_append.mp hx with q | q
     · obtain ⟨s, hs, rfl⟩ := List.mem_map.mp q
       have h1 := hA s hs
       have h2 := ho2 s (List.mem_of_mem_take hs)
       show s.2.2 - (if s.2.1 < L[i].2.2 then L[i].2.2 else s.2.1) ≤ 0
       rw [if_pos (by omega)]
       omega
     · rw [List.mem_singleton] at q
       subst q
       show L[i].2.2 - (if L[i].2.1 < L[i].2.2 then L[i].2.2 else L[i].2.1) ≤ 0
       rw [if_pos hoi]
       omega
    rw [e2, e3]
  rw [adL_app, adL_cons, m1, m2]
  have e3 : ∀ T : List Sg, adS T ((-6 : Int), L[i].2.1, L[i].2.2 - L[i].2.1) = T := fun T => adF_no (Or.inl (show (-6 : Int) < 0 by decide))
  rw [e3]
  have hc := can_erase h ho2 i hi
  rw [List.eraseIdx_eq_take_drop_succ] at hc ⊢
  have e4 := ad_ful (L.take i) [] (by rw [List.nil_append]; exact can_left hc) fun s hs => ho s (List.mem_of_mem_take hs)
  rw [List.nil_append] at e4
  rw [e4]
  exact ad_ful _ _ hc fun s hs => ho s (List.mem_of_mem_drop hs)
