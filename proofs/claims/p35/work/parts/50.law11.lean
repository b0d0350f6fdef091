/-! THE CLAIM OUT OF ONE WALK OF THE LAW'S BODY. Your part is whole_start (and what it stands on); all else here is the same for every law, but numbers. -/
def R_law : String := "RangeDeedsLaw"
def lw_P (b : Addr) (xs : List Int32) (args : Array Value) (s : State) : Prop := args = #[.ref b] ∧ s.IntsAt b xs ∧ xs.length ≤ 260 ∧ (Jvm.Cond.and given_1 narrow_1).before args s = true
def lw_Q (_ : Array Value) (s : State) (o : Outcome) (t : State) : Prop := o = .returned (some (.int 1)) ∧ Framed s o t [] 600000 7302250
def lw_Z (below : List Frame) (a : Array Value) (s : State) : State → Prop := fun t => ∃ o, t.status = .running ∧ Ended t below o ∧ lw_Q a s o t
/-- the law's own end, with 1 on the stack, nothing written that was there before, its room as the claim has it -/
theorem lw_ret {p : Program} {l : Launch} {e : Env} {s : State} {m : MethodId} {below : List Frame} {meth : Method} {c : Code} {b : Nat} (hx : p.tables.exec = Jvm.exec) (hb : c.code = code) (hr : meth.sig.returnType = ret) (hlocks : meth.locks = false) {pc : Nat} {H : Heap} {ls : Array Slot} (hdg : decode code pc = .ok (.ireturn, 1)) : W p l e room_1 s m #[Value.ref b] below meth c H [] 600000 7302250 (lw_Z below #[Value.ref b] s) (F0 m pc ls [.int 1]) := by
  intro T hT X
  obtain ⟨fs, hret, hrun, hended, hW, hframe⟩ := X.leave (v := some (.int 1)) (hlocks := hlocks) (fun h => by rw [hr] at h; cases h)
  have hmeth' : T.vm.method? m = some meth := X.method'
  refine ⟨T.setFrames fs, ?_, .returned (some (.int 1)), hrun, hended, rfl, ⟨_, rfl⟩, hW, hframe⟩
  jvm_step X.here [X.here.top, hx, hb, hdg, hmeth', hr, ret, narrow_b1]
  (try refine ⟨rfl, ?_⟩); (try refine ⟨rfl, ?_⟩)
  first | (intro acts; rw [hret _ acts rfl rfl rfl]) | rw [hret _ _ rfl rfl rfl]
  exact Steps.refl _
/-- what holds at the law's entry: the machine, the code, the tables' words (any of lw_tbl by 'hts w (by decide +kernel)'), the script of L ints xs at the cell b, what the Statement gives of the start (any of its parts by flat_of_before) -/
def lw_At (p : Program) (s : State) (m : MethodId) (meth : Method) (c : Code) (b L : Nat) (xs : Nat → Int32) : Prop :=
  p.tables.exec = Jvm.exec ∧ c.code = code ∧ meth.sig.returnType = ret ∧ c.maxLocals = 4 ∧ s.vm.findClass R_law = some m.cls ∧ (∀ w ∈ lw_tbl, w.before #[Value.ref b] s = true) ∧ va_X b L xs s s.heap ∧ b < s.heap.size ∧ meth.locks = false ∧ (Jvm.Cond.and given_1 narrow_1).before #[Value.ref b] s = true
theorem ar_K {s : State} {args : Array Value} (ty : FieldType) (h : (Cond.arrayClass ty).before args s = true) (ho : ∀ C, ty ≠ .object C) : ∃ c : ClassId, ArrOfT s c ty ∧ va_RA s c ty := by
  obtain ⟨c, k, comp, h1, h2, h3⟩ := Cond.arrayClass_spec h
  refine ⟨c, fun n z => ⟨fun k h => (by cases h), k, h2, comp, h3⟩, ?_⟩
  cases ty with
  | object C => exact absurd rfl (ho C)
  | _ => exact h1
theorem ar_O {s : State} {args : Array Value} {C : String} (h : (Cond.arrayOver (.object C)).before args s = true) : ∃ c : ClassId, ArrOfT s c (.object C) ∧ va_RA s c (.object C) := by
  obtain ⟨comp, c, k, h1, h2, h3, h4, h5⟩ := Cond.arrayOver_spec h
  exact ⟨c, fun n z => ⟨fun k h => (by cases h), k, h3, comp, h4⟩, k, comp, h3, h4, h1, h5⟩
theorem cl_K {s : State} {args : Array Value} (hts : ∀ w ∈ gd_w, w.before args s = true) : ∃ (dC : Nat → ClassId) (dI : Nat → Nat → Nat), ∀ (c : Nat) (q : vw_C), vwCl[c]? = some q → u_Kn s q.1 q.2.1 q.2.2 (dC c) (dI c) := by
  have H : ∀ c : Nat, ∃ p : ClassId × (Nat → Nat), ∀ q : vw_C, vwCl[c]? = some q → u_Kn s q.1 q.2.1 q.2.2 p.1 p.2 := by
    intro c
    have key : ∀ (C : String) (T : u_T) (N : Nat), vwCl[c]? = some (C, T, N) → (∀ w ∈ u_ws C T N, w ∈ gd_w) → Cond.instantiable C N ∈ gd_w → ∃ p : ClassId × (Nat → Nat), ∀ q : vw_C, vwCl[c]? = some q → u_Kn s q.1 q.2.1 q.2.2 p.1 p.2 := by
      intro C T N h1 h2 h3
      obtain ⟨cC, iS, hk⟩ := u_known (C := C) (T := T) (N := N) (n := N) hts h2 (hts _ h3)
      exact ⟨(cC, iS), fun q hq => by rw [h1] at hq; cases hq; exact hk⟩
    match c with
    | 0 => exact key _ _ _ rfl (wl_X0 _ rfl).1 wn_X0
    | 1 => exact key _ _ _ rfl (wl_X1 _ rfl).1 wn_X1
    | 2 => exact key _ _ _ rfl (wl_X2 _ rfl).1 wn_X2
    | 3 => exact key _ _ _ rfl (wl_X3 _ rfl).1 wn_X3
    | 4 => exact key _ _ _ rfl (wl_X4 _ rfl).1 wn_X4
    | 5 => exact key _ _ _ rfl (wl_X5 _ rfl).1 wn_X5
    | 6 => exact key _ _ _ rfl (wl_X6 _ rfl).1 wn_X6
    | c + 7 => exact ⟨(0, fun _ => 0), fun q hq => by simp [vwCl] at hq⟩
  obtain ⟨f, hf⟩ := Classical.axiomOfChoice H
  exact ⟨fun c => (f c).1, fun c => (f c).2, hf⟩
/-- one of the class's static arrays -/
theorem st_K {s : State} {b : Addr} {A : Nat → Prop} (i : Nat) (hgv : ∀ c ∈ flatC (Jvm.Cond.and given_1 narrow_1), c.before #[Value.ref b] s = true) (hl : (Cond.laysStatic "RangeDeeds" (sv_n i) "[I").before #[Value.ref b] s = true) (hini : (Cond.initialized "RangeDeeds").before #[Value.ref b] s = true)
    (h1 : (Cond.arrayOf (.static "RangeDeeds" (sv_n i) "[I") .int) ∈ flatC (Jvm.Cond.and given_1 narrow_1)) (h2 : Cond.eq (.length (.static "RangeDeeds" (sv_n i) "[I")) (.int (5 : Int32)) ∈ flatC (Jvm.Cond.and given_1 narrow_1))
    (h3 : ∀ j : Nat, j < 5 → Cond.eq (.elem (.static "RangeDeeds" (sv_n i) "[I") (.int (Int32.ofNat j))) (.int (iI (sv_f i j))) ∈ flatC (Jvm.Cond.and given_1 narrow_1)) (hA : ∀ a : Nat, a < s.heap.size → ¬ A a) :
    ∃ t : Nat, va_Z "RangeDeeds" (sv_n i) "[I" (.ref t) A s s.heap ∧ va_T .int t 5 (fun j => .int (iI (sv_f i j))) A s s.heap := by
  obtain ⟨t, ht, hT⟩ := va_Tof (N := 5) (f := fun j => .int (iI (sv_f i j))) (by decide) (hgv _ h1) (va_eqt (hgv _ h2)) (fun j hj => va_eqt (hgv _ (h3 j hj))) hA
  exact ⟨t, va_Zref hl hini ht hA, hT⟩
set_option maxRecDepth 100000 in
theorem st_mem : ∀ i : Nat, i < 3 → ((Cond.arrayOf (.static "RangeDeeds" (sv_n i) "[I") .int) ∈ flatC (Jvm.Cond.and given_1 narrow_1) ∧ Cond.eq (.length (.static "RangeDeeds" (sv_n i) "[I")) (.int (5 : Int32)) ∈ flatC (Jvm.Cond.and given_1 narrow_1)) ∧ (∀ j : Nat, j < 5 → Cond.eq (.elem (.static "RangeDeeds" (sv_n i) "[I") (.int (Int32.ofNat j))) (.int (iI (sv_f i j))) ∈ flatC (Jvm.Cond.and given_1 narrow_1)) ∧ Cond.laysStatic "RangeDeeds" (sv_n i) "[I" ∈ lw_tbl := by
  intro i hi
  match i, hi with
  | 0, _ => exact ⟨⟨by decide +kernel, by decide +kernel⟩, (fun j hj => match j, hj with
    | 0, _ => by decide +kernel
    | 1, _ => by decide +kernel
    | 2, _ => by decide +kernel
    | 3, _ => by decide +kernel
    | 4, _ => by decide +kernel), by decide +kernel⟩
  | 1, _ => exact ⟨⟨by decide +kernel, by decide +kernel⟩, (fun j hj => match j, hj with
    | 0, _ => by decide +kernel
    | 1, _ => by decide +kernel
    | 2, _ => by decide +kernel
    | 3, _ => by decide +kernel
    | 4, _ => by decide +kernel), by decide +kernel⟩
  | 2, _ => exact ⟨⟨by decide +kernel, by decide +kernel⟩, (fun j hj => match j, hj with
    | 0, _ => by decide +kernel
    | 1, _ => by decide +kernel
    | 2, _ => by decide +kernel
    | 3, _ => by decide +kernel
    | 4, _ => by decide +kernel), by decide +kernel⟩
theorem wo_reg : Cond.arrayOver (.object "RangeDeeds$Register") ∈ lw_tbl := by decide +kernel
theorem wi_rd : Cond.initialized "RangeDeeds" ∈ gd_w := wz_X6
/-- what stays the same all the time, at the start -/
theorem start_K {s : State} {b : Addr} (hts : ∀ w ∈ lw_tbl, w.before #[Value.ref b] s = true) (hgv : (Jvm.Cond.and given_1 narrow_1).before #[Value.ref b] s = true) {L : Nat} {xs : Nat → Int32} (hL : L ≤ 260) (hX : va_X b L xs s s.heap) (hbl : b < s.heap.size) : ∃ G : xG, G.2.2.1 = s.heap.size ∧ G.2.2.2 3 = b ∧ gK G s := by
  have htg : ∀ w ∈ gd_w, w.before #[Value.ref b] s = true := fun w hw => hts w (List.mem_filter.mp hw).1
  have hf := flat_of_before _ hgv
  obtain ⟨dC, dI, hC⟩ := cl_K htg
  obtain ⟨a0, ha0⟩ := ar_K .int (htg _ wy_int) (fun C h => by cases h)
  obtain ⟨a1, ha1⟩ := ar_K .long (htg _ wy_long) (fun C h => by cases h)
  obtain ⟨a2, ha2⟩ := ar_K .char (htg _ wy_char) (fun C h => by cases h)
  obtain ⟨a3, ha3⟩ := ar_K .int (htg _ wy_int) (fun C h => by cases h)
  obtain ⟨a4, ha4⟩ := ar_O (hts _ wo_reg)
  have hA : ∀ a : Nat, a < s.heap.size → ¬ (fun q : Nat => s.heap.size ≤ q) a := fun a h => Nat.not_le.mpr h
  have T : ∀ i : Nat, ∃ t : Nat, i < 3 → va_Z "RangeDeeds" (sv_n i) "[I" (.ref t) (fun q : Nat => s.heap.size ≤ q) s s.heap ∧ va_T .int t 5 (fun j => .int (iI (sv_f i j))) (fun q : Nat => s.heap.size ≤ q) s s.heap := by
    intro i
    by_cases h : i < 3
    · obtain ⟨⟨h1, h2⟩, h3, h4⟩ := st_mem i h
      obtain ⟨t, ht⟩ := st_K i hf (hts _ h4) (htg _ wi_rd) h1 h2 h3 hA
      exact ⟨t, fun _ => ht⟩
    · exact ⟨0, fun q => absurd q h⟩
  obtain ⟨ts, hT⟩ := Classical.axiomOfChoice T
  refine ⟨((dC, dI), (fun k => if k = 0 then a0 else if k = 1 then a1 else if k = 2 then a2 else if k = 3 then a3 else a4), s.heap.size, (fun k => if k = 3 then b else ts k)), rfl, rfl, ⟨hC, fun k q hq => ?_⟩, fun w hw => ?_, Nat.le_refl _, va_AO.of (hts _ wo_reg), ⟨L, xs, hL, ?_⟩, fun i hi => ?_⟩
  · match k, hq with
    | 0, hq => cases hq; exact ha0
    | 1, hq => cases hq; exact ha1
    | 2, hq => cases hq; exact ha2
    | 3, hq => cases hq; exact ha3
    | 4, hq => cases hq; exact ha4
    | k + 5, hq => simp [gT] at hq
  · have hn := (List.mem_filter.mp hw).2
    have hb := hts w (List.mem_filter.mp hw).1
    cases w <;> first | exact va_Nw.of rfl hb | cases hn
  · obtain ⟨scr, q1, q2, q3, q4, q5⟩ := hX
    exact ⟨scr, q1, q2, q3, by omega, by rw [q4], q5, hA b hbl⟩
  · have e : (if i = 3 then b else ts i) = ts i := if_neg (by omega)
    show va_Z "RangeDeeds" (sv_n i) "[I" (.ref (if i = 3 then b else ts i)) _ s s.heap ∧ va_T .int (if i = 3 then b else ts i) 5 _ _ s s.heap
    rw [e]
    exact hT i hi
/-- THE LAW, from its entry -/
theorem whole_start {p : Program} {e : Env} {s : State} {m : MethodId} {below : List Frame} {meth : Method} {c : Code} (l : Launch) (hflags : l.flags = flags0) {b L : Nat} {xs : Nat → Int32} (hL : L ≤ 260) (C0 : lw_At p s m meth c b L xs) : W p l e room_1 s m #[Value.ref b] below meth c s.heap [] 0 0 (lw_Z below #[Value.ref b] s) (entryFrame m ([Value.ref b] : List Value).toArray 4) := by
  obtain ⟨hx, hb, hr, hml, hown, hts, hX, hbl, hlocks, hgv⟩ := id C0
  obtain ⟨G, hG, hG3, hK⟩ := start_K hts hgv hL hX hbl
  have htg : ∀ w ∈ gd_w, w.before #[Value.ref b] s = true := fun w hw => hts w (List.mem_filter.mp hw).1
  obtain ⟨P, hP⟩ : ∃ P : xT, P = fun pc ls st w a => ∀ (H : Heap) (locs : List Loc) (lsA : Array Slot), gH G w H → H.size = a.1 → va_S (gA G) s.heap H locs → xL lsA ls → ls.length = 4 → W p l e room_1 s m #[Value.ref b] below meth c H locs a.2.1 a.2.2 (lw_Z below #[Value.ref b] s) (F0 m pc lsA st) := ⟨_, rfl⟩
  have hM : xM RL cL_law 4 room_1 l G false P := ⟨p, e, s, m, #[Value.ref b], below, meth, c, lw_Z below #[Value.ref b] s, ⟨hx, hb, hml, hown, htg⟩, hK, (fun h => by cases h), hP⟩
  have hE : lwE P := by
    subst hP
    intro pc ls w z k n hd hk hn H locs lsA g1 g2 g3 g4 g5
    refine va_forget (fun q hq => by rw [← hG]; exact g3.2.2 q hq) ?_
    refine W.widen hk hn ?_
    exact lw_ret hx hb hr hlocks hd
  have X := lc_start (x := s.heap.size) (w := fun _ => none) hM hE
  rw [hG3] at X
  subst hP
  rw [lg_entry_eq]
  exact X s.heap [] _ (fun q e h => by cases h) rfl va_S.rf (xe_entry [.ref b] (n := 4) (Nat.le_of_ble_eq_true rfl)) rfl
