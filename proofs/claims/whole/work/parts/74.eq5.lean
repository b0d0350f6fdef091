/-! class and reference: the quietest piece -/
def bitL (m k : Nat) : Prop := ∀ i : Nat, m.testBit i = true → k.testBit i = true
theorem bitL_le {m k : Nat} (h : bitL m k) (i : Nat) : m / 2 ^ i % 2 ≤ k / 2 ^ i % 2 := by
  have h1 := h i
  rw [Nat.testBit_eq_decide_div_mod_eq, Nat.testBit_eq_decide_div_mod_eq] at h1
  by_cases c : m / 2 ^ i % 2 = 1
  · have := of_decide_eq_true (h1 (decide_eq_true c))
    omega
  · have := Nat.mod_lt (m / 2 ^ i) (show 0 < 2 by decide)
    omega
theorem pcM_mono {m k : Nat} (h : bitL m k) : pcM m ≤ pcM k := by
  have h0 : m % 2 ≤ k % 2 := by have := bitL_le h 0; rw [Nat.pow_zero, Nat.div_one, Nat.div_one] at this; exact this
  have h1 : m / 2 % 2 ≤ k / 2 % 2 := bitL_le h 1
  have h2 : m / 4 % 2 ≤ k / 4 % 2 := bitL_le h 2
  have h3 : m / 8 % 2 ≤ k / 8 % 2 := bitL_le h 3
  have h4 : m / 16 % 2 ≤ k / 16 % 2 := bitL_le h 4
  have h5 : m / 32 % 2 ≤ k / 32 % 2 := bitL_le h 5
  have h6 : m / 64 % 2 ≤ k / 64 % 2 := bitL_le h 6
  have h7 : m / 128 % 2 ≤ k / 128 % 2 := bitL_le h 7
  have h8 : m / 256 % 2 ≤ k / 256 % 2 := bitL_le h 8
  have h9 : m / 512 % 2 ≤ k / 512 % 2 := bitL_le h 9
  unfold pcM
  omega
theorem pcM_10 (m : Nat) : pcM m ≤ 10 := by
  unfold pcM
  omega
theorem bitL_or {m k : Nat} (h : bitL m k) (x : Nat) : bitL (m ||| x) (k ||| x) := by
  intro i hi
  rw [Nat.testBit_or] at hi ⊢
  rcases Bool.or_eq_true_iff.mp hi with g | g
  · rw [h i g]; rfl
  · rw [g, Bool.or_true]
theorem bitL_r {m k : Nat} (h : bitL m k) (x : Nat) : bitL m (k ||| x) := by
  intro i hi
  rw [Nat.testBit_or, h i hi]; rfl
theorem mo_sub {a b c d : Int} : ∀ (M : List Sg) (m k : Nat), bitL m k → (∀ s ∈ M, (0 ≤ s.1 ∧ s.2.1 < b ∧ a < s.2.2) → (0 ≤ s.1 ∧ s.2.1 < d ∧ c < s.2.2)) → bitL (M.foldl (moS a b) m) (M.foldl (moS c d) k) := by
  intro M
  induction M with
  | nil => intro m k h _; exact h
  | cons s M ih =>
    intro m k h hs
    rw [List.foldl_cons, List.foldl_cons]
    refine ih _ _ ?_ fun x hx => hs x (List.mem_cons_of_mem _ hx)
    unfold moS
    by_cases q : 0 ≤ s.1 ∧ s.2.1 < b ∧ a < s.2.2
    · rw [if_pos q, if_pos (hs s List.mem_cons_self q)]; exact bitL_or h _
    · rw [if_neg q]
      split
      · exact bitL_r h _
      · exact h
theorem ov_pos {s : Sg} {a n : Int} (hs : s.2.1 < s.2.2) (hn : 1 ≤ n) : 0 < ovF s a n ↔ s.2.1 < a + n ∧ a < s.2.2 := by
  unfold ovF
  by_cases c1 : a + n < s.2.2
  · rw [if_pos c1]
    by_cases c2 : s.2.1 < a
    · rw [if_pos c2]; split <;> omega
    · rw [if_neg c2]; split <;> omega
  · rw [if_neg c1]
    by_cases c2 : s.2.1 < a
    · rw [if_pos c2]; split <;> omega
    · rw [if_neg c2]; split <;> omega
theorem msk_mo {S : List Sg} (hS : chn 0 S) (a : Int) {n : Int} (hn : 1 ≤ n) : mskF (rngS S) a n = moF S a (a + n) := by
  unfold mskF moF
  have gen : ∀ (M : List Sg) (c : Nat), (∀ s ∈ M, s.2.1 < s.2.2) → (rngS M).foldl (mskS a n) c = M.foldl (moS a (a + n)) c := by
    intro M
    induction M with
    | nil => intro c _; rfl
    | cons s M ih =>
      intro c h
      have h0 := h s List.mem_cons_self
      have hp := ov_pos (a := a) h0 hn
      rw [List.foldl_cons]
      by_cases q : 0 ≤ s.1
      · rw [rngS_pos q, List.foldl_cons]
        have : mskS a n c s = moS a (a + n) c s := by
          unfold mskS moS
          by_cases z : 0 < ovF s a n
          · rw [if_pos z, if_pos ⟨q, hp.mp z⟩]
          · rw [if_neg z, if_neg (fun g => z (hp.mpr g.2))]
        rw [this]
        exact ih _ fun x hx => h x (List.mem_cons_of_mem _ hx)
      · rw [rngS_neg (by omega), show moS a (a + n) c s = c from if_neg (fun g => q g.1)]
        exact ih _ fun x hx => h x (List.mem_cons_of_mem _ hx)
  exact gen S 0 fun s hs => (chE_ok 0 ((chE_n 0).mpr hS) s hs).2.2.1
abbrev gM (L : List Sg) (n j : Int) : Int := (pcM (moF L j (j + n)) : Int)
theorem qu_gen {L : List Sg} {n : Int} (hn : 1 ≤ n ∧ n ≤ 10000) : ∀ (k : Nat) (a b fw : Int), a + k = 10001 → 0 ≤ a → ((a = 0 ∧ fw = 99 ∧ b = 0) ∨ (0 ≤ b ∧ b < a ∧ fw = gM L n b ∧ b + n ≤ 10000 ∧ (∀ j, 0 ≤ j → j < a → fw ≤ gM L n j) ∧ (∀ j, 0 ≤ j → j < b → fw < gM L n j))) → (0 ≤ (quL L n k a b fw).1 ∧ (quL L n k a b fw).1 + n ≤ 10000 ∧ (quL L n k a b fw).2 = gM L n (quL L n k a b fw).1 ∧ (∀ j, 0 ≤ j → j + n ≤ 10000 → (quL L n k a b fw).2 ≤ gM L n j) ∧ (∀ j, 0 ≤ j → j < (quL L n k a b fw).1 → (quL L n k a b fw).2 < gM L n j)) := by
  intro k
  induction k with
  | zero =>
    intro a b fw hk ha h
    rcases h with ⟨h1, -⟩ | ⟨h1, h2, h3, h4, h5, h6⟩
    · omega
    · exact ⟨h1, h4, h3, fun j j0 j1 => h5 j j0 (by omega), h6⟩
  | succ k ih =>
    intro a b fw hk ha h
    have hg := pcM_10 (moF L a (a + n))
    have e : quL L n (k + 1) a b fw = if a + n ≤ 10000 ∧ 0 < fw then quL L n k (a + 1) (if gM L n a < fw then a else b) (if gM L n a < fw then gM L n a else fw) else (b, fw) := rfl
    rw [e]
    by_cases c : a + n ≤ 10000 ∧ 0 < fw
    · rw [if_pos c]
      refine ih (a + 1) _ _ (by omega) (by omega) (Or.inr ?_)
      by_cases d : gM L n a < fw
      · rw [if_pos d, if_pos d]
        refine ⟨ha, by omega, rfl, c.1, fun j j0 j1 => ?_, fun j j0 j1 => ?_⟩
        · by_cases q : j = a
          · rw [q]; exact Int.le_refl _
          · rcases h with ⟨h1, -⟩ | ⟨h1, h2, h3, h4, h5, h6⟩
            · omega
            · have := h5 j j0 (by omega); omega
        · rcases h with ⟨h1, -⟩ | ⟨h1, h2, h3, h4, h5, h6⟩
          · omega
          · have := h5 j j0 (by omega); omega
      · rw [if_neg d, if_neg d]
        rcases h with ⟨h1, h2, h3⟩ | ⟨h1, h2, h3, h4, h5, h6⟩
        · exfalso
          have : gM L n a ≤ 10 := by show ((pcM (moF L a (a + n)) : Nat) : Int) ≤ 10; omega
          omega
        · refine ⟨h1, by omega, h3, h4, fun j j0 j1 => ?_, h6⟩
          by_cases q : j = a
          · rw [q]; omega
          · exact h5 j j0 (by omega)
    · rw [if_neg c]
      rcases h with ⟨h1, h2, h3⟩ | ⟨h1, h2, h3, h4, h5, h6⟩
      · omega
      · refine ⟨h1, h4, h3, fun j j0 j1 => ?_, h6⟩
        by_cases q : a + n ≤ 10000
        · have h7 : 0 ≤ gM L n j := Int.natCast_nonneg _
          show fw ≤ gM L n j
          omega
        · exact h5 j j0 (by omega)
theorem qs_gen {n : Int} (g : Int → Int) : ∀ (S : List Sg) (x : Int) (c : Int × Int) (Pr : Int → Prop), chn x S → 0 ≤ x → (∀ e, Pr e → 0 ≤ e ∧ e ≤ x) → Pr c.1 → c.2 = g c.1 → c.1 + n ≤ 10000 → (∀ e, Pr e → e + n ≤ 10000 → c.2 ≤ g e ∧ (e < c.1 → c.2 < g e)) → (0 ≤ ((rngS S).foldl (fun c s => if s.2.2 + n ≤ 10000 then (if g s.2.2 < c.2 then (s.2.2, g s.2.2) else c) else c) c).1 ∧ ((rngS S).foldl (fun c s => if s.2.2 + n ≤ 10000 then (if g s.2.2 < c.2 then (s.2.2, g s.2.2) else c) else c) c).2 = g ((rngS S).foldl (fun c s => if s.2.2 + n ≤ 10000 then (if g s.2.2 < c.2 then (s.2.2, g s.2.2) else c) else c) c).1 ∧ ((rngS S).foldl (fun c s => if s.2.2 + n ≤ 10000 then (if g s.2.2 < c.2 then (s.2.2, g s.2.2) else c) else c) c).1 + n ≤ 10000 ∧ ∀ e, (Pr e ∨ ∃ s ∈ S, 0 ≤ s.1 ∧ s.2.2 = e) → e + n ≤ 10000 → ((rngS S).foldl (fun c s => if s.2.2 + n ≤ 10000 then (if g s.2.2 < c.2 then (s.2.2, g s.2.2) else c) else c) c).2 ≤ g e ∧ (e < ((rngS S).foldl (fun c s => if s.2.2 + n ≤ 10000 then (if g s.2.2 < c.2 then (s.2.2, g s.2.2) else c) else c) c).1 → ((rngS S).foldl (fun c s => if s.2.2 + n ≤ 10000 then (if g s.2.2 < c.2 then (s.2.2, g s.2.2) else c) else c) c).2 < g e)) := by
  intro S
  induction S with
  | nil =>
    intro x c Pr h hx hp h1 h2 h3 h4
    exact ⟨(hp _ h1).1, h2, h3, fun e he => by rcases he with he | ⟨s, hs, -⟩; exact h4 e he; exact absurd hs List.not_mem_nil⟩
  | cons s S ih =>
    intro x c Pr h hx hp h1 h2 h3 h4
    obtain ⟨g1, g2, g3, g4⟩ := h
    by_cases q : 0 ≤ s.1
    · rw [rngS_pos q, List.foldl_cons]
      have key : ∀ c2 : Int × Int, (Pr c2.1 ∨ c2.1 = s.2.2) → c2.2 = g c2.1 → c2.1 + n ≤ 10000 → (∀ e, (Pr e ∨ e = s.2.2) → e + n ≤ 10000 → c2.2 ≤ g e ∧ (e < c2.1 → c2.2 < g e)) → _ := fun c2 k1 k2 k3 k4 => ih s.2.2 c2 (fun e => Pr e ∨ e = s.2.2) g4 (by omega) (fun e he => by rcases he with he | he; have := hp e he; omega; omega) k1 k2 k3 k4
      have fin : ∀ c2 : Int × Int, (Pr c2.1 ∨ c2.1 = s.2.2) → c2.2 = g c2.1 → c2.1 + n ≤ 10000 → (∀ e, (Pr e ∨ e = s.2.2) → e + n ≤ 10000 → c2.2 ≤ g e ∧ (e < c2.1 → c2.2 < g e)) → _ := fun c2 k1 k2 k3 k4 => by
        obtain ⟨r1, r2, r3, r4⟩ := key c2 k1 k2 k3 k4
        exact And.intro r1 (And.intro r2 (And.intro r3 (fun (e : Int) (he : Pr e ∨ ∃ u ∈ s :: S, 0 ≤ u.1 ∧ u.2.2 = e) => r4 e (by
          rcases he with he | ⟨u, hu, u1, u2⟩
          · exact Or.inl (Or.inl he)
          · rcases List.mem_cons.mp hu with z | z
            · subst z; exact Or.inl (Or.inr u2.symm)
            · exact Or.inr ⟨u, z, u1, u2⟩))))
      by_cases d : s.2.2 + n ≤ 10000
      · rw [if_pos d]
        by_cases d2 : g s.2.2 < c.2
        · rw [if_pos d2]
          refine fin (s.2.2, g s.2.2) (Or.inr rfl) rfl d (fun e he hen => ?_)
          rcases he with he | he
          · have := h4 e he hen
            exact ⟨by show g s.2.2 ≤ g e; omega, fun _ => by show g s.2.2 < g e; omega⟩
          · subst he
            exact ⟨Int.le_refl _, fun z => absurd z (Int.lt_irrefl _)⟩
        · rw [if_neg d2]
          refine fin c (Or.inl h1) h2 h3 (fun e he hen => ?_)
          rcases he with he | he
          · exact h4 e he hen
          · subst he
            have := hp _ h1
            exact ⟨by omega, fun z => by omega⟩
      · rw [if_neg d]
        refine fin c (Or.inl h1) h2 h3 (fun e he hen => ?_)
        rcases he with he | he
        · exact h4 e he hen
        · omega
    · rw [rngS_neg (by omega)]
      obtain ⟨r1, r2, r3, r4⟩ := ih s.2.2 c Pr g4 (by omega) (fun e he => by have := hp e he; omega) h1 h2 h3 h4
      refine ⟨r1, r2, r3, fun e he => r4 e ?_⟩
      rcases he with he | ⟨u, hu, u1, u2⟩
      · exact Or.inl he
      · rcases List.mem_cons.mp hu with z | z
        · subst z; exact absurd u1 q
        · exact Or.inr ⟨u, z, u1, u2⟩
theorem q_qst {t : St} (hS : segW t.L) (n k : Int) : qstV (rS t) n k = quV t.L n k := by
  unfold qstV quV
  by_cases c : (1 ≤ n ∧ n ≤ 10000) ∧ 0 ≤ k ∧ k ≤ 1
  · rw [if_pos c, if_pos c]
    have hm : ∀ a : Int, (pcM (mskF (rngS t.L) a n) : Int) = gM t.L n a := fun a => by rw [msk_mo hS.2.1 a c.1.1]
    obtain ⟨b1, b2, b3, b4, b5⟩ := qu_gen (L := t.L) c.1 10001 0 0 99 (by omega) (Int.le_refl 0) (Or.inl ⟨rfl, rfl, rfl⟩)
    have hq : qstF (rngS t.L) n = ((rngS t.L).foldl (fun c s => if s.2.2 + n ≤ 10000 then (if gM t.L n s.2.2 < c.2 then (s.2.2, gM t.L n s.2.2) else c) else c) ((0 : Int), gM t.L n 0)).1 := by
      unfold qstF
      rw [hm]
      congr 2
      funext c s
      unfold qstS
      rw [hm]
    obtain ⟨a1, a2, a3, a4⟩ := qs_gen (n := n) (gM t.L n) t.L 0 ((0 : Int), gM t.L n 0) (fun e => e = 0) hS.2.1 (Int.le_refl 0) (fun e he => by omega) rfl rfl (by show (0 : Int) + n ≤ 10000; omega) (fun e he _ => by subst he; exact ⟨Int.le_refl _, fun z => absurd z (Int.lt_irrefl _)⟩)
    rw [← hq] at a1 a3
    have a2 : _ = gM t.L n (qstF (rngS t.L) n) := a2.trans (by rw [← hq])
    generalize hB : quL t.L n 10001 0 0 99 = B at b1 b2 b3 b4 b5
    -- the reference's piece begins where a range ends
    have cand : B.1 = 0 ∨ ∃ s ∈ t.L, 0 ≤ s.1 ∧ s.2.2 = B.1 := by
      by_cases z : B.1 = 0
      · exact Or.inl z
      · refine Or.inr (Decidable.byContradiction fun no => ?_)
        have h1 := b5 (B.1 - 1) (by omega) (by omega)
        have h2 : pcM (moF t.L (B.1 - 1) (B.1 - 1 + n)) ≤ pcM (moF t.L B.1 (B.1 + n)) := by
          refine pcM_mono (mo_sub t.L 0 0 (fun i hi => hi) (fun s hs q => ?_))
          have : s.2.2 ≠ B.1 := fun e => no ⟨s, hs, q.1, e⟩
          omega
        rw [b3] at h1
        have h1 : ((pcM (moF t.L B.1 (B.1 + n)) : Nat) : Int) < ((pcM (moF t.L (B.1 - 1) (B.1 - 1 + n)) : Nat) : Int) := h1
        omega
    obtain ⟨f1, f2⟩ := a4 B.1 cand b2
    rw [← hq] at f2
    rw [a2] at f1 f2
    have k1 := b4 (qstF (rngS t.L) n) a1 a3
    have e1 : qstF (rngS t.L) n = B.1 := by
      rcases Int.lt_trichotomy (qstF (rngS t.L) n) B.1 with z | z | z
      · have := b5 _ a1 z; omega
      · exact z
      · have := f2 z; omega
    show (if k = 0 then qstF (rngS t.L) n else (pcM (mskF (rngS t.L) (qstF (rngS t.L) n) n) : Int)) = _
    rw [hm, e1, b3]
  · rw [if_neg c, if_neg c]
