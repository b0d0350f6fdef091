/-! THE MACHINE AS A PREDICATE. A world is a function from addresses to cells; a method's proof speaks of a predicate P over
(place in the code, locals, operand stack, world, (heap size, cells made, slots made)), of which xM says that it is backed by the machine. -/
def iI (z : Int) : Int32 := Int32.ofInt z
def jJ (z : Int) : Int64 := Int64.ofInt z
abbrev iR (z : Int) : Prop := -2147483648 ≤ z ∧ z ≤ 2147483647
abbrev jR (z : Int) : Prop := -9223372036854775808 ≤ z ∧ z ≤ 9223372036854775807
theorem iI_toInt {z : Int} (h : iR z) : (iI z).toInt = z := Int32.toInt_ofInt_of_le (by have := h.1; omega) (by have := h.2; omega)
theorem iI_of (x : Int32) : iI x.toInt = x := Int32.ofInt_toInt x
theorem iR_of (x : Int32) : iR x.toInt := ⟨by have := Int32.le_toInt x; omega, by have := Int32.toInt_lt x; omega⟩
theorem iI_ex (x : Int32) : ∃ z, iR z ∧ x = iI z := ⟨x.toInt, iR_of x, (iI_of x).symm⟩
theorem iI_add (x y : Int) : iI x + iI y = iI (x + y) := (Int32.ofInt_add x y).symm
theorem iI_sub (x y : Int) : iI x - iI y = iI (x - y) := (Int32.ofInt_sub x y).symm
theorem iI_mul (x y : Int) : iI x * iI y = iI (x * y) := (Int32.ofInt_mul x y).symm
theorem iI_neg (x : Int) : -iI x = iI (-x) := (Int32.ofInt_neg x).symm
theorem iI_inj {x y : Int} (hx : iR x) (hy : iR y) : iI x = iI y ↔ x = y := by
  constructor
  · intro h
    have := congrArg Int32.toInt h
    rwa [iI_toInt hx, iI_toInt hy] at this
  · intro h; rw [h]
theorem iI_lt {x y : Int} (hx : iR x) (hy : iR y) : iI x < iI y ↔ x < y := by rw [Int32.lt_iff_toInt_lt, iI_toInt hx, iI_toInt hy]
theorem iI_le {x y : Int} (hx : iR x) (hy : iR y) : iI x ≤ iI y ↔ x ≤ y := by rw [Int32.le_iff_toInt_le, iI_toInt hx, iI_toInt hy]
theorem iI_nat (n : Nat) : Int32.ofNat n = iI n := by unfold iI; rw [Int32.ofInt_eq_ofNat]
theorem iI_clamp {z : Int} (h0 : 0 ≤ z) (h : z ≤ 2147483647) : (iI z).toNatClampNeg = z.toNat := by
  have h1 : (iI z).toNatClampNeg = (iI z).toInt.toNat := rfl
  rw [h1, iI_toInt ⟨by omega, h⟩]
theorem iI_in {z : Int} {n : Nat} (h0 : 0 ≤ z) (h : z < n) (hn : n ≤ 2147483647) : vp_in (iI z) n := by
  rw [vp_in_iff, iI_toInt ⟨by omega, by omega⟩]
  exact ⟨h0, h⟩
theorem iI_nn {z : Int} (h : 0 ≤ z) (h2 : z ≤ 2147483647) : ¬ iI z < 0 := by
  intro q
  rw [Int32.lt_iff_toInt_lt, iI_toInt ⟨by omega, h2⟩, Int32.toInt_zero] at q
  omega
theorem iI_div {x y : Int} (hx : 0 ≤ x) (hx2 : x ≤ 2147483647) (hy : 0 < y) (hy2 : y ≤ 2147483647) : iI x / iI y = iI (x / y) := by
  have e1 : iI x = nI x.toNat := by rw [show nI x.toNat = iI (x.toNat : Int) from iI_nat _]; congr 1; omega
  have e2 : iI y = nI y.toNat := by rw [show nI y.toNat = iI (y.toNat : Int) from iI_nat _]; congr 1; omega
  rw [e1, e2, pk_div (by omega) (by omega) (by omega), show nI (x.toNat / y.toNat) = iI ((x.toNat / y.toNat : Nat) : Int) from iI_nat _]
  congr 1
  rw [Int.natCast_ediv]
  congr 1 <;> omega
theorem jJ_toInt {z : Int} (h : jR z) : (jJ z).toInt = z := Int64.toInt_ofInt_of_le (by have := h.1; omega) (by have := h.2; omega)
theorem jJ_of (x : Int64) : jJ x.toInt = x := Int64.ofInt_toInt x
theorem jJ_add (x y : Int) : jJ x + jJ y = jJ (x + y) := (Int64.ofInt_add x y).symm
theorem jJ_sub (x y : Int) : jJ x - jJ y = jJ (x - y) := (Int64.ofInt_sub x y).symm
theorem jJ_mul (x y : Int) : jJ x * jJ y = jJ (x * y) := (Int64.ofInt_mul x y).symm
theorem iI_long {z : Int} (h : iR z) : (iI z).toInt64 = jJ z := by
  apply Int64.toInt_inj.mp
  rw [Int32.toInt_toInt64, iI_toInt h, jJ_toInt ⟨by omega, by omega⟩]
/-! worlds -/
abbrev Wd : Type := Nat → Option va_E
def wS (w : Wd) (q : Nat) (e : va_E) : Wd := fun x => if x = q then some e else w x
theorem wS_eq {w : Wd} {q : Nat} {e : va_E} : wS w q e q = some e := if_pos rfl
theorem wS_ne {w : Wd} {q x : Nat} {e : va_E} (h : x ≠ q) : wS w q e x = w x := if_neg h
/-- what stays the same all the time: the classes' numbers and slots, the array classes (int, long, char, int, Register), the first address that is ours, the static arrays -/
abbrev xG : Type := va_G × (Nat → ClassId) × Nat × (Nat → Nat)
def gA (G : xG) : Nat → Prop := fun q => G.2.2.1 ≤ q
def gT (G : xG) : List (ClassId × FieldType) := [(G.2.1 0, .int), (G.2.1 1, .long), (G.2.1 2, .char), (G.2.1 3, .int), (G.2.1 4, .object "RangeDeeds$Register")]
def gd_w : List Cond := lw_tbl.filter goodWord
def is_nest : Cond → Bool
  | .fieldLinkNest _ _ _ _ _ _ => true
  | .methodLinkNest _ _ _ _ => true
  | _ => false
def ns_w : List Cond := lw_tbl.filter is_nest
theorem gd_at {w : Cond} (i : Nat) (h : lw_tbl[i]? = some w) (g : goodWord w = true) : w ∈ gd_w := List.mem_filter.mpr ⟨List.mem_of_getElem? h, g⟩
theorem ns_at {w : Cond} (i : Nat) (h : lw_tbl[i]? = some w) (g : is_nest w = true) : w ∈ ns_w := List.mem_filter.mpr ⟨List.mem_of_getElem? h, g⟩
theorem gd_in {w : Cond} (h : w ∈ gd_w) : GoodIn gd_w (w :: gd_w) := by
  intro x hx
  have hm : x ∈ gd_w := by
    rcases List.mem_cons.mp hx with rfl | h1
    · exact h
    · exact h1
  exact ⟨hm, good_of_word (List.mem_filter.mp hm).2⟩
def sv_n : Nat → String
  | 0 => "FIRST_SETTING"
  | 1 => "LOWEST_SETTING"
  | _ => "HIGHEST_SETTING"
def sv_f (i : Nat) (j : Int) : Int := match i with
  | 0 => if j = 0 then 10 else if j = 1 then 25 else if j = 2 then 5 else if j = 3 then 1 else 10000
  | 1 => if j ≤ 2 then 0 else 1
  | _ => if j ≤ 2 then 1000 else if j = 3 then 100 else 10000
def gK (G : xG) (U : State) : Prop := va_K G.1 vwCl (gT G) U ∧ (∀ w ∈ ns_w, va_Nw w U) ∧ G.2.2.1 ≤ U.heap.size ∧ va_AO "RangeDeeds$Register" U ∧
  (∃ (L : Nat) (xs : Nat → Int32), L ≤ 260 ∧ va_T .int (G.2.2.2 3) L (fun j => .int (xs j)) (gA G) U U.heap) ∧
  ∀ i : Nat, i < 3 → va_Z "RangeDeeds" (sv_n i) "[I" (.ref (G.2.2.2 i)) (gA G) U U.heap ∧ va_T .int (G.2.2.2 i) 5 (fun j => .int (iI (sv_f i j))) (gA G) U U.heap
def gH (G : xG) (w : Wd) (H : Heap) : Prop := ∀ (q : Nat) (e : va_E), w q = some e → va_at G.1 vwCl (q, e) H ∧ G.2.2.1 ≤ q
theorem ns_moved {s U : State} (hW : s.WarmedH U.vm) {w : Cond} (hw : w ∈ ns_w) (h : va_Nw w s) : va_Nw w U := by
  have hn := (List.mem_filter.mp hw).2
  cases w <;> first | exact va_Nw.warmF hW h | exact va_Nw.warmM hW h | cases hn
theorem gK_moved {G : xG} {s U : State} {locs : List Loc} (hW : s.WarmedH U.vm) (h : gK G s) (hS : va_S (gA G) s.heap U.heap locs) : gK G U := by
  obtain ⟨h1, h2, h3, h4, ⟨L, xs, hL, h6⟩, h5⟩ := h
  refine ⟨h1.moved hW.alike, fun w hw => ns_moved hW hw (h2 w hw), Nat.le_trans h3 hS.1, h4.moved hW.alike, ⟨L, xs, hL, (h6.kept hS.2.1).moved hW.alike⟩, fun i hi => ⟨?_, ?_⟩⟩
  · exact ((h5 i hi).1.kept hS.2.1).moved hW.alike
  · exact ((h5 i hi).2.kept hS.2.1).moved hW.alike
theorem gK_calling {G : xG} {U : State} {g : JFrame} {mk : MethodId} {a : Array Value} (h : gK G U) : gK G (U.calling g mk a) := by
  obtain ⟨h1, h2, h3, h4, ⟨L, xs, hL, h6⟩, h5⟩ := h
  refine ⟨va_K.moved (u := U) (U := U.calling g mk a) (Vm.Alike.refl U.vm) h1, fun w hw => ?_, h3, va_AO.moved (u := U) (U := U.calling g mk a) (Vm.Alike.refl U.vm) h4, ⟨L, xs, hL, va_T.moved (u := U) (U := U.calling g mk a) (Vm.Alike.refl U.vm) h6⟩, fun i hi => ⟨va_Z.moved (u := U) (U := U.calling g mk a) (Vm.Alike.refl U.vm) (h5 i hi).1, va_T.moved (u := U) (U := U.calling g mk a) (Vm.Alike.refl U.vm) (h5 i hi).2⟩⟩
  refine va_Nw.same (u := U) ?_ rfl (h2 w hw)
  have hn := (List.mem_filter.mp hw).2
  cases w <;> first | rfl | cases hn
theorem gH_of {G : xG} {w : Wd} {H : Heap} (h : gH G w H) {q : Nat} {e : va_E} (hq : w q = some e) : va_P G.1 vwCl [(q, e)] H := by
  intro k x hk
  match k, hk with
  | 0, hk => cases hk; exact (h q e hq).1
theorem gH_put {G : xG} {w : Wd} {H H1 : Heap} (h : gH G w H) {q : Nat} {e e0 : va_E} (hq : w q = some e0) (he : va_at G.1 vwCl (q, e) H1) (oq : ∀ x : Nat, x ≠ q → H1[x]? = H[x]?) : gH G (wS w q e) H1 := by
  intro x y hx
  by_cases hxq : x = q
  · subst hxq
    rw [wS_eq] at hx
    cases hx
    exact ⟨he, (h x e0 hq).2⟩
  · rw [wS_ne hxq] at hx
    exact ⟨(h x y hx).1.kept (oq x hxq), (h x y hx).2⟩
theorem gH_new {G : xG} {w : Wd} {H H1 : Heap} (h : gH G w H) {q : Nat} {e : va_E} (hz : H.size = q) (hb : G.2.2.1 ≤ q) (he : va_at G.1 vwCl (q, e) H1) (oq : ∀ x : Nat, x < q → H1[x]? = H[x]?) : gH G (wS w q e) H1 := by
  intro x y hx
  by_cases hxq : x = q
  · subst hxq
    rw [wS_eq] at hx
    cases hx
    exact ⟨he, hb⟩
  · rw [wS_ne hxq] at hx
    have hl := (h x y hx).1.lt
    exact ⟨(h x y hx).1.kept (oq x (by rw [← hz]; exact hl)), (h x y hx).2⟩
theorem gH_grow {G : xG} {w : Wd} {H : Heap} {b : Nat} (h : gH G w H) : gH G w H := h
/-! locals -/
def xp (ls : List (Option Value)) : List (Nat × Value) := (List.range ls.length).filterMap fun j => (ls[j]?).join.map fun v => (j, v)
theorem xp_mem {ls : List (Option Value)} {j : Nat} {v : Value} : (j, v) ∈ xp ls ↔ ls[j]? = some (some v) := by
  unfold xp
  rw [List.mem_filterMap]
  constructor
  · rintro ⟨i, hi, h⟩
    cases h1 : ls[i]? with
    | none => rw [h1] at h; cases h
    | some o =>
      cases o with
      | none => rw [h1] at h; cases h
      | some x =>
        rw [h1] at h
        cases h
        exact h1
  · intro h
    refine ⟨j, List.mem_range.mpr (List.getElem?_eq_some_iff.mp h).1, ?_⟩
    rw [h]
    rfl
def xL (lsA : Array Slot) (ls : List (Option Value)) : Prop := lv_has lsA ls.length (xp ls)
theorem xL_at {lsA : Array Slot} {ls : List (Option Value)} (h : xL lsA ls) {i : Nat} {v : Value} (hi : ls[i]? = some (some v)) : lsA[i]? = some (.val v) := h.2.2 (i, v) (xp_mem.mpr hi)
/-- no long stands right before place i -/
def xS1 (ls : List (Option Value)) (i : Nat) : Bool := match i with
  | 0 => true
  | j + 1 => match ls[j]? with
    | some (some v) => v.category != 2
    | _ => true
theorem xL_set {lsA : Array Slot} {ls ls' : List (Option Value)} {i : Nat} {v : Value} (hc : xS1 ls i = true) (hi : i < ls.length) (hls : ls.set i (some v) = ls') (h : lv_has lsA ls.length ((i, v) :: (xp ls).filter (fun q => !(q.1 == i) && !(q.1 + 1 == i && q.2.category == 2)))) : xL lsA ls' := by
  subst hls
  obtain ⟨h1, h2, h3⟩ := h
  refine ⟨by rw [List.length_set]; exact h1, h2, fun q hq => ?_⟩
  obtain ⟨j, x⟩ := q
  have hj := xp_mem.mp hq
  by_cases hji : j = i
  · subst hji
    rw [List.getElem?_set_self hi] at hj
    cases hj
    exact h3 _ List.mem_cons_self
  · rw [List.getElem?_set_ne (Ne.symm hji)] at hj
    refine h3 (j, x) (List.mem_cons_of_mem _ (List.mem_filter.mpr ⟨xp_mem.mpr hj, ?_⟩))
    have hb : (j + 1 == i && x.category == 2) = false := by
      by_cases hj1 : j + 1 = i
      · subst hj1
        have hc2 : (x.category != 2) = true := by
          have h9 : xS1 ls (j + 1) = (x.category != 2) := by simp [xS1, hj]
          rw [← h9]; exact hc
        have h8 : (x.category == 2) = false := by
          simp only [bne, Bool.not_eq_true'] at hc2
          exact hc2
        rw [h8, Bool.and_false]
      · have h8 : (j + 1 == i) = false := beq_eq_false_iff_ne.mpr hj1
        rw [h8, Bool.false_and]
    simp [hb, hji]
theorem xL_set2 {lsA : Array Slot} {ls ls' : List (Option Value)} {i : Nat} {v : Value} (hc : xS1 ls i = true) (hi : i + 1 < ls.length) (hls : (ls.set i (some v)).set (i + 1) none = ls') (h : lv_has lsA ls.length ((i, v) :: (xp ls).filter (fun q => !(q.1 == i) && (!(q.1 == i + 1) && !(q.1 + 1 == i && q.2.category == 2))))) : xL lsA ls' := by
  subst hls
  obtain ⟨h1, h2, h3⟩ := h
  refine ⟨by rw [List.length_set, List.length_set]; exact h1, h2, fun q hq => ?_⟩
  obtain ⟨j, x⟩ := q
  have hj := xp_mem.mp hq
  by_cases hji1 : j = i + 1
  · subst hji1
    rw [List.getElem?_set_self (by rw [List.length_set]; exact hi)] at hj
    cases hj
  · rw [List.getElem?_set_ne (Ne.symm hji1)] at hj
    by_cases hji : j = i
    · subst hji
      rw [List.getElem?_set_self (by omega)] at hj
      cases hj
      exact h3 _ List.mem_cons_self
    · rw [List.getElem?_set_ne (Ne.symm hji)] at hj
      refine h3 (j, x) (List.mem_cons_of_mem _ (List.mem_filter.mpr ⟨xp_mem.mpr hj, ?_⟩))
      have hb : (j + 1 == i && x.category == 2) = false := by
        by_cases hj1 : j + 1 = i
        · subst hj1
          have hc2 : (x.category != 2) = true := by
            have h9 : xS1 ls (j + 1) = (x.category != 2) := by simp [xS1, hj]
            rw [← h9]; exact hc
          have h8 : (x.category == 2) = false := by
            simp only [bne, Bool.not_eq_true'] at hc2
            exact hc2
          rw [h8, Bool.and_false]
        · have h8 : (j + 1 == i) = false := beq_eq_false_iff_ne.mpr hj1
          rw [h8, Bool.false_and]
      simp [hb, hji, hji1]
/-- a method's first locals -/
def xe (n : Nat) (vs : List Value) : List (Option Value) :=
  let l := vs.flatMap fun v => if v.category = 2 then [some v, none] else [some v]
  l ++ List.replicate (n - l.length) none
theorem xe_args : ∀ (vs : List Value) (i j : Nat) (v : Value), (vs.flatMap fun v => if v.category = 2 then [some v, none] else [some v])[j]? = some (some v) → (i + j, v) ∈ lv_args i vs
  | [], i, j, v, h => by simp at h
  | x :: vs, i, j, v, h => by
    rw [List.flatMap_cons] at h
    by_cases hc : x.category = 2
    · rw [if_pos hc] at h
      match j, h with
      | 0, h => simp at h; subst h; simp [lv_args]
      | 1, h => simp at h
      | j + 2, h =>
        have h' : (vs.flatMap fun v => if v.category = 2 then [some v, none] else [some v])[j]? = some (some v) := by simpa using h
        have := xe_args vs (i + 2) j v h'
        simp only [lv_args, hc, if_true]
        refine List.mem_cons_of_mem _ ?_
        rw [show i + (j + 2) = i + 2 + j by omega]
        exact this
    · rw [if_neg hc] at h
      match j, h with
      | 0, h => simp at h; subst h; simp [lv_args]
      | j + 1, h =>
        have h' : (vs.flatMap fun v => if v.category = 2 then [some v, none] else [some v])[j]? = some (some v) := by simpa using h
        have := xe_args vs (i + 1) j v h'
        simp only [lv_args, hc, if_false]
        refine List.mem_cons_of_mem _ ?_
        rw [show i + (j + 1) = i + 1 + j by omega]
        exact this
theorem xe_len (vs : List Value) : (vs.flatMap fun v => if v.category = 2 then [some v, none] else [some v]).length = (lg_sl vs).length := by
  induction vs with
  | nil => rfl
  | cons x vs ih =>
    unfold lg_sl at ih ⊢
    rw [List.flatMap_cons, List.flatMap_cons, List.length_append, List.length_append, ih]
    by_cases hc : x.category = 2 <;> simp [hc]
theorem xe_entry (vs : List Value) {n : Nat} (h : (lg_sl vs).length ≤ n) : xL ((lg_sl vs ++ List.replicate (n - (lg_sl vs).length) Slot.unset).toArray) (xe n vs) := by
  have e := lv_entry vs h
  have hl : (xe n vs).length = n := by
    simp only [xe, List.length_append, List.length_replicate, xe_len]
    omega
  refine ⟨by rw [hl]; exact e.1, e.2.1, fun q hq => e.2.2 q ?_⟩
  obtain ⟨j, v⟩ := q
  have hj := xp_mem.mp hq
  simp only [xe] at hj
  rw [List.getElem?_append] at hj
  split at hj
  · have := xe_args vs 0 j v hj
    rwa [Nat.zero_add] at this
  · rw [List.getElem?_replicate] at hj
    split at hj <;> cases hj
/-! the machine -/
abbrev xT : Type := Nat → List (Option Value) → List Value → Wd → Nat × Nat × Nat → Prop
def xM (own : String) (cc : ByteArray) (nL : Nat) (R : Room) (l : Launch) (G : xG) (ct : Bool) (P : xT) : Prop :=
  ∃ (p : Program) (e : Env) (s : State) (m : MethodId) (args : Array Value) (below : List Frame) (meth : Method) (c : Code) (Q : State → Prop),
    CallFix p m c cc nL s args gd_w own ∧ gK G s ∧ (ct = true → meth.name = "<init>") ∧
    P = fun pc ls st w a => ∀ (H : Heap) (locs : List Loc) (lsA : Array Slot), gH G w H → H.size = a.1 → va_S (gA G) s.heap H locs → xL lsA ls → ls.length = nL → W p l e R s m args below meth c H locs a.2.1 a.2.2 Q (F0 m pc lsA st)
section XR
variable {own : String} {cc : ByteArray} {nL : Nat} {R : Room} {l : Launch} {G : xG} {ct : Bool} {P : xT} {pc : Nat} {ls : List (Option Value)} {st : List Value} {w : Wd} {a : Nat × Nat × Nat}
theorem x_iconst (h : xM own cc nL R l G ct P) {n : Int} (d : decode cc pc = .ok (.iconst n, 1)) (k : P (pc + 1) ls (.int (iI n) :: st) w a) : P pc ls st w a := by
  obtain ⟨p, e, s, m, args, below, meth, c, Q, ⟨hx, hb, hml, hown, hts⟩, hK, hct, rfl⟩ := h
  intro H locs lsA h1 h2 h3 h4 h5
  exact lv_iconst hx hb d rfl (k H locs lsA h1 h2 h3 h4 h5)
theorem x_bipush (h : xM own cc nL R l G ct P) {n : Int} (d : decode cc pc = .ok (.bipush n, 2)) (hv : (Int8.ofInt n).toInt32 = iI n) (k : P (pc + 2) ls (.int (iI n) :: st) w a) : P pc ls st w a := by
  obtain ⟨p, e, s, m, args, below, meth, c, Q, ⟨hx, hb, hml, hown, hts⟩, hK, hct, rfl⟩ := h
  intro H locs lsA h1 h2 h3 h4 h5
  exact lv_bipush hx hb d hv (k H locs lsA h1 h2 h3 h4 h5)
theorem x_sipush (h : xM own cc nL R l G ct P) {n : Int} (d : decode cc pc = .ok (.sipush n, 3)) (hv : (Int16.ofInt n).toInt32 = iI n) (k : P (pc + 3) ls (.int (iI n) :: st) w a) : P pc ls st w a := by
  obtain ⟨p, e, s, m, args, below, meth, c, Q, ⟨hx, hb, hml, hown, hts⟩, hK, hct, rfl⟩ := h
  intro H locs lsA h1 h2 h3 h4 h5
  exact lv_sipush hx hb d hv (k H locs lsA h1 h2 h3 h4 h5)
theorem x_lconst (h : xM own cc nL R l G ct P) {n : Fin 2} {z : Int} (d : decode cc pc = .ok (.lconst n, 1)) (hv : Int64.ofNat (n : Nat) = jJ z) (k : P (pc + 1) ls (.long (jJ z) :: st) w a) : P pc ls st w a := by
  obtain ⟨p, e, s, m, args, below, meth, c, Q, ⟨hx, hb, hml, hown, hts⟩, hK, hct, rfl⟩ := h
  intro H locs lsA h1 h2 h3 h4 h5
  exact lv_lconst hx hb d hv (k H locs lsA h1 h2 h3 h4 h5)
theorem x_ldc (h : xM own cc nL R l G ct P) {i : Nat} {z : Int} (d : decode cc pc = .ok (.ldc i, 2)) (hw : Cond.constant own i (iI z) ∈ gd_w) (k : P (pc + 2) ls (.int (iI z) :: st) w a) : P pc ls st w a := by
  obtain ⟨p, e, s, m, args, below, meth, c, Q, ⟨hx, hb, hml, hown, hts⟩, hK, hct, rfl⟩ := h
  intro H locs lsA h1 h2 h3 h4 h5
  exact lv_ldc hx hb hown (hts _ hw) d (k H locs lsA h1 h2 h3 h4 h5)
theorem x_ldcw (h : xM own cc nL R l G ct P) {i : Nat} {z : Int} (d : decode cc pc = .ok (.ldc_w i, 3)) (hw : Cond.constant own i (iI z) ∈ gd_w) (k : P (pc + 3) ls (.int (iI z) :: st) w a) : P pc ls st w a := by
  obtain ⟨p, e, s, m, args, below, meth, c, Q, ⟨hx, hb, hml, hown, hts⟩, hK, hct, rfl⟩ := h
  intro H locs lsA h1 h2 h3 h4 h5
  exact lv_ldcw hx hb hown (hts _ hw) d (k H locs lsA h1 h2 h3 h4 h5)
theorem x_ldc2 (h : xM own cc nL R l G ct P) {i : Nat} {z : Int} (d : decode cc pc = .ok (.ldc2_w i, 3)) (hw : Cond.constantLong own i (jJ z) ∈ gd_w) (k : P (pc + 3) ls (.long (jJ z) :: st) w a) : P pc ls st w a := by
  obtain ⟨p, e, s, m, args, below, meth, c, Q, ⟨hx, hb, hml, hown, hts⟩, hK, hct, rfl⟩ := h
  intro H locs lsA h1 h2 h3 h4 h5
  exact lv_ldc2 hx hb hown (hts _ hw) d (k H locs lsA h1 h2 h3 h4 h5)
theorem x_null (h : xM own cc nL R l G ct P)  (d : decode cc pc = .ok (.aconst_null, 1)) (k : P (pc + 1) ls (.null :: st) w a) : P pc ls st w a := by
  obtain ⟨p, e, s, m, args, below, meth, c, Q, ⟨hx, hb, hml, hown, hts⟩, hK, hct, rfl⟩ := h
  intro H locs lsA h1 h2 h3 h4 h5
  exact lv_null hx hb d (k H locs lsA h1 h2 h3 h4 h5)
theorem x_iload_n (h : xM own cc nL R l G ct P) {k0 : Fin 4} {i : Nat} {x : Int32} (d : decode cc pc = .ok (.iload_n k0, 1)) (hi : (k0 : Nat) = i) (hl : ls[i]? = some (some (.int x))) (k : P (pc + 1) ls (.int x :: st) w a) : P pc ls st w a := by
  obtain ⟨p, e, s, m, args, below, meth, c, Q, ⟨hx, hb, hml, hown, hts⟩, hK, hct, rfl⟩ := h
  intro H locs lsA h1 h2 h3 h4 h5
  exact lv_iload_n hx hb d hi (xL_at h4 hl) (k H locs lsA h1 h2 h3 h4 h5)
theorem x_iload (h : xM own cc nL R l G ct P) {i : Nat} {x : Int32} (d : decode cc pc = .ok (.iload i, 2)) (hl : ls[i]? = some (some (.int x))) (k : P (pc + 2) ls (.int x :: st) w a) : P pc ls st w a := by
  obtain ⟨p, e, s, m, args, below, meth, c, Q, ⟨hx, hb, hml, hown, hts⟩, hK, hct, rfl⟩ := h
  intro H locs lsA h1 h2 h3 h4 h5
  exact lv_iload hx hb d (xL_at h4 hl) (k H locs lsA h1 h2 h3 h4 h5)
theorem x_lload_n (h : xM own cc nL R l G ct P) {k0 : Fin 4} {i : Nat} {x : Int64} (d : decode cc pc = .ok (.lload_n k0, 1)) (hi : (k0 : Nat) = i) (hl : ls[i]? = some (some (.long x))) (k : P (pc + 1) ls (.long x :: st) w a) : P pc ls st w a := by
  obtain ⟨p, e, s, m, args, below, meth, c, Q, ⟨hx, hb, hml, hown, hts⟩, hK, hct, rfl⟩ := h
  intro H locs lsA h1 h2 h3 h4 h5
  exact lv_lload_n hx hb d hi (xL_at h4 hl) (k H locs lsA h1 h2 h3 h4 h5)
theorem x_lload (h : xM own cc nL R l G ct P) {i : Nat} {x : Int64} (d : decode cc pc = .ok (.lload i, 2)) (hl : ls[i]? = some (some (.long x))) (k : P (pc + 2) ls (.long x :: st) w a) : P pc ls st w a := by
  obtain ⟨p, e, s, m, args, below, meth, c, Q, ⟨hx, hb, hml, hown, hts⟩, hK, hct, rfl⟩ := h
  intro H locs lsA h1 h2 h3 h4 h5
  exact lv_lload hx hb d (xL_at h4 hl) (k H locs lsA h1 h2 h3 h4 h5)
theorem x_aload_n (h : xM own cc nL R l G ct P) {k0 : Fin 4} {i : Nat} {x : Nat} (d : decode cc pc = .ok (.aload_n k0, 1)) (hi : (k0 : Nat) = i) (hl : ls[i]? = some (some (.ref x))) (k : P (pc + 1) ls (.ref x :: st) w a) : P pc ls st w a := by
  obtain ⟨p, e, s, m, args, below, meth, c, Q, ⟨hx, hb, hml, hown, hts⟩, hK, hct, rfl⟩ := h
  intro H locs lsA h1 h2 h3 h4 h5
  exact lv_aload_n hx hb d hi (xL_at h4 hl) (k H locs lsA h1 h2 h3 h4 h5)
theorem x_aload (h : xM own cc nL R l G ct P) {i : Nat} {x : Nat} (d : decode cc pc = .ok (.aload i, 2)) (hl : ls[i]? = some (some (.ref x))) (k : P (pc + 2) ls (.ref x :: st) w a) : P pc ls st w a := by
  obtain ⟨p, e, s, m, args, below, meth, c, Q, ⟨hx, hb, hml, hown, hts⟩, hK, hct, rfl⟩ := h
  intro H locs lsA h1 h2 h3 h4 h5
  exact lv_aload hx hb d (xL_at h4 hl) (k H locs lsA h1 h2 h3 h4 h5)
theorem x_aload_nN (h : xM own cc nL R l G ct P) {k0 : Fin 4} {i : Nat} (d : decode cc pc = .ok (.aload_n k0, 1)) (hi : (k0 : Nat) = i) (hl : ls[i]? = some (some .null)) (k : P (pc + 1) ls (.null :: st) w a) : P pc ls st w a := by
  obtain ⟨p, e, s, m, args, below, meth, c, Q, ⟨hx, hb, hml, hown, hts⟩, hK, hct, rfl⟩ := h
  intro H locs lsA h1 h2 h3 h4 h5
  exact lv_aload_nN hx hb d hi (xL_at h4 hl) (k H locs lsA h1 h2 h3 h4 h5)
theorem x_fload_n (h : xM own cc nL R l G ct P) {k0 : Fin 4} {i : Nat} {x : UInt32} (d : decode cc pc = .ok (.fload_n k0, 1)) (hi : (k0 : Nat) = i) (hl : ls[i]? = some (some (.float x))) (k : P (pc + 1) ls (.float x :: st) w a) : P pc ls st w a := by
  obtain ⟨p, e, s, m, args, below, meth, c, Q, ⟨hx, hb, hml, hown, hts⟩, hK, hct, rfl⟩ := h
  intro H locs lsA h1 h2 h3 h4 h5
  exact lv_fload_n hx hb d hi (xL_at h4 hl) (k H locs lsA h1 h2 h3 h4 h5)
theorem x_istore_n (h : xM own cc nL R l G ct P) {k0 : Fin 4} {i : Nat} {x : Int32} {ls2 : List (Option Value)} (d : decode cc pc = .ok (.istore_n k0, 1)) (hi : (k0 : Nat) = i) (hc : xS1 ls i = true) (hi2 : i < ls.length) (hl : ls.set i (some (.int x)) = ls2) (k : P (pc + 1) ls2 st w a) : P pc ls (.int x :: st) w a := by
  obtain ⟨p, e, s, m, args, below, meth, c, Q, ⟨hx, hb, hml, hown, hts⟩, hK, hct, rfl⟩ := h
  intro H locs lsA h1 h2 h3 h4 h5
  exact lv_istore_n hx hb d hi h4 hi2 rfl (fun lsB hB => k H locs lsB h1 h2 h3 (xL_set hc hi2 hl hB) (by rw [← hl, List.length_set]; exact h5))
theorem x_istore (h : xM own cc nL R l G ct P) {i : Nat} {x : Int32} {ls2 : List (Option Value)} (d : decode cc pc = .ok (.istore i, 2)) (hc : xS1 ls i = true) (hi2 : i < ls.length) (hl : ls.set i (some (.int x)) = ls2) (k : P (pc + 2) ls2 st w a) : P pc ls (.int x :: st) w a := by
  obtain ⟨p, e, s, m, args, below, meth, c, Q, ⟨hx, hb, hml, hown, hts⟩, hK, hct, rfl⟩ := h
  intro H locs lsA h1 h2 h3 h4 h5
  exact lv_istore hx hb d h4 hi2 rfl (fun lsB hB => k H locs lsB h1 h2 h3 (xL_set hc hi2 hl hB) (by rw [← hl, List.length_set]; exact h5))
theorem x_astore_n (h : xM own cc nL R l G ct P) {k0 : Fin 4} {i : Nat} {x : Nat} {ls2 : List (Option Value)} (d : decode cc pc = .ok (.astore_n k0, 1)) (hi : (k0 : Nat) = i) (hc : xS1 ls i = true) (hi2 : i < ls.length) (hl : ls.set i (some (.ref x)) = ls2) (k : P (pc + 1) ls2 st w a) : P pc ls (.ref x :: st) w a := by
  obtain ⟨p, e, s, m, args, below, meth, c, Q, ⟨hx, hb, hml, hown, hts⟩, hK, hct, rfl⟩ := h
  intro H locs lsA h1 h2 h3 h4 h5
  exact lv_astore_n hx hb d hi h4 hi2 rfl (fun lsB hB => k H locs lsB h1 h2 h3 (xL_set hc hi2 hl hB) (by rw [← hl, List.length_set]; exact h5))
theorem x_astore (h : xM own cc nL R l G ct P) {i : Nat} {x : Nat} {ls2 : List (Option Value)} (d : decode cc pc = .ok (.astore i, 2)) (hc : xS1 ls i = true) (hi2 : i < ls.length) (hl : ls.set i (some (.ref x)) = ls2) (k : P (pc + 2) ls2 st w a) : P pc ls (.ref x :: st) w a := by
  obtain ⟨p, e, s, m, args, below, meth, c, Q, ⟨hx, hb, hml, hown, hts⟩, hK, hct, rfl⟩ := h
  intro H locs lsA h1 h2 h3 h4 h5
  exact lv_astore hx hb d h4 hi2 rfl (fun lsB hB => k H locs lsB h1 h2 h3 (xL_set hc hi2 hl hB) (by rw [← hl, List.length_set]; exact h5))
theorem x_astore_nN (h : xM own cc nL R l G ct P) {k0 : Fin 4} {i : Nat} {ls2 : List (Option Value)} (d : decode cc pc = .ok (.astore_n k0, 1)) (hi : (k0 : Nat) = i) (hc : xS1 ls i = true) (hi2 : i < ls.length) (hl : ls.set i (some .null) = ls2) (k : P (pc + 1) ls2 st w a) : P pc ls (.null :: st) w a := by
  obtain ⟨p, e, s, m, args, below, meth, c, Q, ⟨hx, hb, hml, hown, hts⟩, hK, hct, rfl⟩ := h
  intro H locs lsA h1 h2 h3 h4 h5
  exact lv_astore_nN hx hb d hi h4 hi2 rfl (fun lsB hB => k H locs lsB h1 h2 h3 (xL_set hc hi2 hl hB) (by rw [← hl, List.length_set]; exact h5))
theorem x_lstore_n (h : xM own cc nL R l G ct P) {k0 : Fin 4} {i : Nat} {x : Int64} {ls2 : List (Option Value)} (d : decode cc pc = .ok (.lstore_n k0, 1)) (hi : (k0 : Nat) = i) (hc : xS1 ls i = true) (hi2 : i + 1 < ls.length) (hl : (ls.set i (some (.long x))).set (i + 1) none = ls2) (k : P (pc + 1) ls2 st w a) : P pc ls (.long x :: st) w a := by
  obtain ⟨p, e, s, m, args, below, meth, c, Q, ⟨hx, hb, hml, hown, hts⟩, hK, hct, rfl⟩ := h
  intro H locs lsA h1 h2 h3 h4 h5
  exact lv_lstore_n hx hb d hi h4 hi2 rfl (fun lsB hB => k H locs lsB h1 h2 h3 (xL_set2 hc hi2 hl hB) (by rw [← hl, List.length_set, List.length_set]; exact h5))
theorem x_lstore (h : xM own cc nL R l G ct P) {i : Nat} {x : Int64} {ls2 : List (Option Value)} (d : decode cc pc = .ok (.lstore i, 2)) (hc : xS1 ls i = true) (hi2 : i + 1 < ls.length) (hl : (ls.set i (some (.long x))).set (i + 1) none = ls2) (k : P (pc + 2) ls2 st w a) : P pc ls (.long x :: st) w a := by
  obtain ⟨p, e, s, m, args, below, meth, c, Q, ⟨hx, hb, hml, hown, hts⟩, hK, hct, rfl⟩ := h
  intro H locs lsA h1 h2 h3 h4 h5
  exact lv_lstore hx hb d h4 hi2 rfl (fun lsB hB => k H locs lsB h1 h2 h3 (xL_set2 hc hi2 hl hB) (by rw [← hl, List.length_set, List.length_set]; exact h5))
theorem x_iinc (h : xM own cc nL R l G ct P) {i : Nat} {n : Int} {x : Int} {ls2 : List (Option Value)} (d : decode cc pc = .ok (.iinc i n, 3)) (hl0 : ls[i]? = some (some (.int (iI x)))) (hc : xS1 ls i = true) (hl : ls.set i (some (.int (iI (x + n)))) = ls2) (k : P (pc + 3) ls2 st w a) : P pc ls st w a := by
  obtain ⟨p, e, s, m, args, below, meth, c, Q, ⟨hx, hb, hml, hown, hts⟩, hK, hct, rfl⟩ := h
  intro H locs lsA h1 h2 h3 h4 h5
  have hi2 : i < ls.length := (List.getElem?_eq_some_iff.mp hl0).1
  obtain ⟨k1, hk1⟩ := List.getElem?_of_mem (xp_mem.mpr hl0)
  exact lv_iinc hx hb d h4 hk1 (v := iI (x + n)) (by rw [← iI_add]; rfl) hi2 rfl (fun lsB hB => k H locs lsB h1 h2 h3 (xL_set hc hi2 hl hB) (by rw [← hl, List.length_set]; exact h5))
theorem x_iadd (h : xM own cc nL R l G ct P) {x y : Int} (d : decode cc pc = .ok (.iadd, 1)) (k : P (pc + 1) ls (.int (iI (x + y)) :: st) w a) : P pc ls (.int (iI y) :: .int (iI x) :: st) w a := by
  obtain ⟨p, e, s, m, args, below, meth, c, Q, ⟨hx, hb, hml, hown, hts⟩, hK, hct, rfl⟩ := h
  intro H locs lsA h1 h2 h3 h4 h5
  exact lv_iadd hx hb d (by rw [iI_add]; exact k H locs lsA h1 h2 h3 h4 h5)
theorem x_isub (h : xM own cc nL R l G ct P) {x y : Int} (d : decode cc pc = .ok (.isub, 1)) (k : P (pc + 1) ls (.int (iI (x - y)) :: st) w a) : P pc ls (.int (iI y) :: .int (iI x) :: st) w a := by
  obtain ⟨p, e, s, m, args, below, meth, c, Q, ⟨hx, hb, hml, hown, hts⟩, hK, hct, rfl⟩ := h
  intro H locs lsA h1 h2 h3 h4 h5
  exact lv_isub hx hb d (by rw [iI_sub]; exact k H locs lsA h1 h2 h3 h4 h5)
theorem x_imul (h : xM own cc nL R l G ct P) {x y : Int} (d : decode cc pc = .ok (.imul, 1)) (k : P (pc + 1) ls (.int (iI (x * y)) :: st) w a) : P pc ls (.int (iI y) :: .int (iI x) :: st) w a := by
  obtain ⟨p, e, s, m, args, below, meth, c, Q, ⟨hx, hb, hml, hown, hts⟩, hK, hct, rfl⟩ := h
  intro H locs lsA h1 h2 h3 h4 h5
  exact lv_imul hx hb d (by rw [iI_mul]; exact k H locs lsA h1 h2 h3 h4 h5)
theorem x_ineg (h : xM own cc nL R l G ct P) {x : Int} (d : decode cc pc = .ok (.ineg, 1)) (k : P (pc + 1) ls (.int (iI (-x)) :: st) w a) : P pc ls (.int (iI x) :: st) w a := by
  obtain ⟨p, e, s, m, args, below, meth, c, Q, ⟨hx, hb, hml, hown, hts⟩, hK, hct, rfl⟩ := h
  intro H locs lsA h1 h2 h3 h4 h5
  exact lv_ineg hx hb d (by rw [iI_neg]; exact k H locs lsA h1 h2 h3 h4 h5)
theorem x_idiv (h : xM own cc nL R l G ct P) {x y : Int} (d : decode cc pc = .ok (.idiv, 1)) (hx0 : 0 ≤ x) (hx2 : x ≤ 2147483647) (hy : 0 < y) (hy2 : y ≤ 2147483647) (k : P (pc + 1) ls (.int (iI (x / y)) :: st) w a) : P pc ls (.int (iI y) :: .int (iI x) :: st) w a := by
  obtain ⟨p, e, s, m, args, below, meth, c, Q, ⟨hx, hb, hml, hown, hts⟩, hK, hct, rfl⟩ := h
  intro H locs lsA h1 h2 h3 h4 h5
  exact lv_idiv hx hb d (by intro q; have := congrArg Int32.toInt q; rw [iI_toInt ⟨by omega, hy2⟩, Int32.toInt_zero] at this; omega) (by rw [iI_div hx0 hx2 hy hy2]; exact k H locs lsA h1 h2 h3 h4 h5)
theorem x_iand (h : xM own cc nL R l G ct P) {x y : Int32} (d : decode cc pc = .ok (.iand, 1)) (k : P (pc + 1) ls (.int (x &&& y) :: st) w a) : P pc ls (.int y :: .int x :: st) w a := by
  obtain ⟨p, e, s, m, args, below, meth, c, Q, ⟨hx, hb, hml, hown, hts⟩, hK, hct, rfl⟩ := h
  intro H locs lsA h1 h2 h3 h4 h5
  exact lv_iand hx hb d (k H locs lsA h1 h2 h3 h4 h5)
theorem x_ior (h : xM own cc nL R l G ct P) {x y : Int32} (d : decode cc pc = .ok (.ior, 1)) (k : P (pc + 1) ls (.int (x ||| y) :: st) w a) : P pc ls (.int y :: .int x :: st) w a := by
  obtain ⟨p, e, s, m, args, below, meth, c, Q, ⟨hx, hb, hml, hown, hts⟩, hK, hct, rfl⟩ := h
  intro H locs lsA h1 h2 h3 h4 h5
  exact lv_ior hx hb d (k H locs lsA h1 h2 h3 h4 h5)
theorem x_iaddR (h : xM own cc nL R l G ct P) {x y : Int32} (d : decode cc pc = .ok (.iadd, 1)) (k : P (pc + 1) ls (.int (x + y) :: st) w a) : P pc ls (.int y :: .int x :: st) w a := by
  obtain ⟨p, e, s, m, args, below, meth, c, Q, ⟨hx, hb, hml, hown, hts⟩, hK, hct, rfl⟩ := h
  intro H locs lsA h1 h2 h3 h4 h5
  exact lv_iadd hx hb d (k H locs lsA h1 h2 h3 h4 h5)
theorem x_isubR (h : xM own cc nL R l G ct P) {x y : Int32} (d : decode cc pc = .ok (.isub, 1)) (k : P (pc + 1) ls (.int (x - y) :: st) w a) : P pc ls (.int y :: .int x :: st) w a := by
  obtain ⟨p, e, s, m, args, below, meth, c, Q, ⟨hx, hb, hml, hown, hts⟩, hK, hct, rfl⟩ := h
  intro H locs lsA h1 h2 h3 h4 h5
  exact lv_isub hx hb d (k H locs lsA h1 h2 h3 h4 h5)
theorem x_iushr (h : xM own cc nL R l G ct P) {x : Int32} {y : Int32} {v : Int32} (d : decode cc pc = .ok (.iushr, 1)) (hv : (x.toUInt32 >>> (y.toUInt32 &&& Int32.toUInt32 31)).toInt32 = v) (k : P (pc + 1) ls (.int v :: st) w a) : P pc ls (.int y :: .int x :: st) w a := by
  obtain ⟨p, e, s, m, args, below, meth, c, Q, ⟨hx, hb, hml, hown, hts⟩, hK, hct, rfl⟩ := h
  intro H locs lsA h1 h2 h3 h4 h5
  exact lv_iushr hx hb d hv (k H locs lsA h1 h2 h3 h4 h5)
theorem x_lushr (h : xM own cc nL R l G ct P) {x : Int64} {y : Int32} {v : Int64} (d : decode cc pc = .ok (.lushr, 1)) (hv : (x.toUInt64 >>> (y.toInt64.toUInt64 &&& Int64.toUInt64 63)).toInt64 = v) (k : P (pc + 1) ls (.long v :: st) w a) : P pc ls (.int y :: .long x :: st) w a := by
  obtain ⟨p, e, s, m, args, below, meth, c, Q, ⟨hx, hb, hml, hown, hts⟩, hK, hct, rfl⟩ := h
  intro H locs lsA h1 h2 h3 h4 h5
  exact lv_lushr hx hb d hv (k H locs lsA h1 h2 h3 h4 h5)
theorem x_lshl (h : xM own cc nL R l G ct P) {x : Int64} {y : Int32} {v : Int64} (d : decode cc pc = .ok (.lshl, 1)) (hv : x <<< (y.toInt64 &&& 63) = v) (k : P (pc + 1) ls (.long v :: st) w a) : P pc ls (.int y :: .long x :: st) w a := by
  obtain ⟨p, e, s, m, args, below, meth, c, Q, ⟨hx, hb, hml, hown, hts⟩, hK, hct, rfl⟩ := h
  intro H locs lsA h1 h2 h3 h4 h5
  exact lv_lshl hx hb d hv (k H locs lsA h1 h2 h3 h4 h5)
theorem x_ishl (h : xM own cc nL R l G ct P) {x y v : Int32} (d : decode cc pc = .ok (.ishl, 1)) (hv : x <<< (y &&& 31) = v) (k : P (pc + 1) ls (.int v :: st) w a) : P pc ls (.int y :: .int x :: st) w a := by
  obtain ⟨p, e, s, m, args, below, meth, c, Q, ⟨hx, hb, hml, hown, hts⟩, hK, hct, rfl⟩ := h
  intro H locs lsA h1 h2 h3 h4 h5
  exact lv_ishl hx hb d (by rw [hv]; exact k H locs lsA h1 h2 h3 h4 h5)
theorem x_ishr (h : xM own cc nL R l G ct P) {x y v : Int32} (d : decode cc pc = .ok (.ishr, 1)) (hv : x >>> (y &&& 31) = v) (k : P (pc + 1) ls (.int v :: st) w a) : P pc ls (.int y :: .int x :: st) w a := by
  obtain ⟨p, e, s, m, args, below, meth, c, Q, ⟨hx, hb, hml, hown, hts⟩, hK, hct, rfl⟩ := h
  intro H locs lsA h1 h2 h3 h4 h5
  exact lv_ishr hx hb d (by rw [hv]; exact k H locs lsA h1 h2 h3 h4 h5)
theorem x_ldiv (h : xM own cc nL R l G ct P) {x y : Int64} (d : decode cc pc = .ok (.ldiv, 1)) (hy : ¬ y = 0) (k : P (pc + 1) ls (.long (x / y) :: st) w a) : P pc ls (.long y :: .long x :: st) w a := by
  obtain ⟨p, e, s, m, args, below, meth, c, Q, ⟨hx, hb, hml, hown, hts⟩, hK, hct, rfl⟩ := h
  intro H locs lsA h1 h2 h3 h4 h5
  exact lv_ldiv hx hb d hy (k H locs lsA h1 h2 h3 h4 h5)
theorem x_ladd (h : xM own cc nL R l G ct P) {x y : Int64} (d : decode cc pc = .ok (.ladd, 1)) (k : P (pc + 1) ls (.long (x + y) :: st) w a) : P pc ls (.long y :: .long x :: st) w a := by
  obtain ⟨p, e, s, m, args, below, meth, c, Q, ⟨hx, hb, hml, hown, hts⟩, hK, hct, rfl⟩ := h
  intro H locs lsA h1 h2 h3 h4 h5
  exact lv_ladd hx hb d (k H locs lsA h1 h2 h3 h4 h5)
theorem x_lsub (h : xM own cc nL R l G ct P) {x y : Int64} (d : decode cc pc = .ok (.lsub, 1)) (k : P (pc + 1) ls (.long (x - y) :: st) w a) : P pc ls (.long y :: .long x :: st) w a := by
  obtain ⟨p, e, s, m, args, below, meth, c, Q, ⟨hx, hb, hml, hown, hts⟩, hK, hct, rfl⟩ := h
  intro H locs lsA h1 h2 h3 h4 h5
  exact lv_lsub hx hb d (k H locs lsA h1 h2 h3 h4 h5)
theorem x_lmul (h : xM own cc nL R l G ct P) {x y : Int64} (d : decode cc pc = .ok (.lmul, 1)) (k : P (pc + 1) ls (.long (x * y) :: st) w a) : P pc ls (.long y :: .long x :: st) w a := by
  obtain ⟨p, e, s, m, args, below, meth, c, Q, ⟨hx, hb, hml, hown, hts⟩, hK, hct, rfl⟩ := h
  intro H locs lsA h1 h2 h3 h4 h5
  exact lv_lmul hx hb d (k H locs lsA h1 h2 h3 h4 h5)
theorem x_land (h : xM own cc nL R l G ct P) {x y : Int64} (d : decode cc pc = .ok (.land, 1)) (k : P (pc + 1) ls (.long (x &&& y) :: st) w a) : P pc ls (.long y :: .long x :: st) w a := by
  obtain ⟨p, e, s, m, args, below, meth, c, Q, ⟨hx, hb, hml, hown, hts⟩, hK, hct, rfl⟩ := h
  intro H locs lsA h1 h2 h3 h4 h5
  exact lv_land hx hb d (k H locs lsA h1 h2 h3 h4 h5)
theorem x_lor (h : xM own cc nL R l G ct P) {x y : Int64} (d : decode cc pc = .ok (.lor, 1)) (k : P (pc + 1) ls (.long (x ||| y) :: st) w a) : P pc ls (.long y :: .long x :: st) w a := by
  obtain ⟨p, e, s, m, args, below, meth, c, Q, ⟨hx, hb, hml, hown, hts⟩, hK, hct, rfl⟩ := h
  intro H locs lsA h1 h2 h3 h4 h5
  exact lv_lor hx hb d (k H locs lsA h1 h2 h3 h4 h5)
theorem x_i2l (h : xM own cc nL R l G ct P) {x : Int32} (d : decode cc pc = .ok (.i2l, 1)) (k : P (pc + 1) ls (.long x.toInt64 :: st) w a) : P pc ls (.int x :: st) w a := by
  obtain ⟨p, e, s, m, args, below, meth, c, Q, ⟨hx, hb, hml, hown, hts⟩, hK, hct, rfl⟩ := h
  intro H locs lsA h1 h2 h3 h4 h5
  exact lv_i2l hx hb d rfl (k H locs lsA h1 h2 h3 h4 h5)
theorem x_l2i (h : xM own cc nL R l G ct P) {x : Int64} (d : decode cc pc = .ok (.l2i, 1)) (k : P (pc + 1) ls (.int x.toInt32 :: st) w a) : P pc ls (.long x :: st) w a := by
  obtain ⟨p, e, s, m, args, below, meth, c, Q, ⟨hx, hb, hml, hown, hts⟩, hK, hct, rfl⟩ := h
  intro H locs lsA h1 h2 h3 h4 h5
  exact lv_l2i hx hb d rfl (k H locs lsA h1 h2 h3 h4 h5)
theorem x_dup (h : xM own cc nL R l G ct P) {v : Value} (d : decode cc pc = .ok (.dup, 1)) (hv : v.category = 1) (k : P (pc + 1) ls (v :: v :: st) w a) : P pc ls (v :: st) w a := by
  obtain ⟨p, e, s, m, args, below, meth, c, Q, ⟨hx, hb, hml, hown, hts⟩, hK, hct, rfl⟩ := h
  intro H locs lsA h1 h2 h3 h4 h5
  exact lv_dup hx hb d hv (k H locs lsA h1 h2 h3 h4 h5)
theorem x_dup2 (h : xM own cc nL R l G ct P) {v u : Value} (d : decode cc pc = .ok (.dup2, 1)) (hv : v.category = 1) (hu : u.category = 1) (k : P (pc + 1) ls (v :: u :: v :: u :: st) w a) : P pc ls (v :: u :: st) w a := by
  obtain ⟨p, e, s, m, args, below, meth, c, Q, ⟨hx, hb, hml, hown, hts⟩, hK, hct, rfl⟩ := h
  intro H locs lsA h1 h2 h3 h4 h5
  exact lv_dup2_11 hx hb d hv hu (k H locs lsA h1 h2 h3 h4 h5)
theorem x_pop (h : xM own cc nL R l G ct P) {v : Value} (d : decode cc pc = .ok (.pop, 1)) (hv : v.category = 1) (k : P (pc + 1) ls st w a) : P pc ls (v :: st) w a := by
  obtain ⟨p, e, s, m, args, below, meth, c, Q, ⟨hx, hb, hml, hown, hts⟩, hK, hct, rfl⟩ := h
  intro H locs lsA h1 h2 h3 h4 h5
  exact lv_pop hx hb d hv (k H locs lsA h1 h2 h3 h4 h5)
theorem x_if_eq (h : xM own cc nL R l G ct P) {x : Int} {off : Int} {tgt : Nat} (d : decode cc pc = .ok (.ifCond .eq off, 3)) (ht : (pc : Int) + off = (tgt : Int)) (hx1 : iR x) (kt : x = 0 → P tgt ls st w a) (kf : x ≠ 0 → P (pc + 3) ls st w a) : P pc ls (.int (iI x) :: st) w a := by
  obtain ⟨p, e, s, m, args, below, meth, c, Q, ⟨hx, hb, hml, hown, hts⟩, hK, hct, rfl⟩ := h
  intro H locs lsA h1 h2 h3 h4 h5
  have e0 : iI 0 = 0 := rfl
  refine lv_if_eq hx hb d ht (fun q => kt ?_ H locs lsA h1 h2 h3 h4 h5) (fun q => kf ?_ H locs lsA h1 h2 h3 h4 h5) <;> rw [← e0] at q <;> have q1 := q <;> simp only [ge_iff_le, gt_iff_lt, iI_inj hx1 (by omega : iR 0), iI_lt hx1 (by omega : iR 0), iI_le hx1 (by omega : iR 0), iI_lt (by omega : iR 0) hx1, iI_le (by omega : iR 0) hx1] at q1 <;> omega
theorem x_if_ne (h : xM own cc nL R l G ct P) {x : Int} {off : Int} {tgt : Nat} (d : decode cc pc = .ok (.ifCond .ne off, 3)) (ht : (pc : Int) + off = (tgt : Int)) (hx1 : iR x) (kt : x ≠ 0 → P tgt ls st w a) (kf : x = 0 → P (pc + 3) ls st w a) : P pc ls (.int (iI x) :: st) w a := by
  obtain ⟨p, e, s, m, args, below, meth, c, Q, ⟨hx, hb, hml, hown, hts⟩, hK, hct, rfl⟩ := h
  intro H locs lsA h1 h2 h3 h4 h5
  have e0 : iI 0 = 0 := rfl
  refine lv_if_ne hx hb d ht (fun q => kt ?_ H locs lsA h1 h2 h3 h4 h5) (fun q => kf ?_ H locs lsA h1 h2 h3 h4 h5) <;> rw [← e0] at q <;> have q1 := q <;> simp only [ge_iff_le, gt_iff_lt, iI_inj hx1 (by omega : iR 0), iI_lt hx1 (by omega : iR 0), iI_le hx1 (by omega : iR 0), iI_lt (by omega : iR 0) hx1, iI_le (by omega : iR 0) hx1] at q1 <;> omega
theorem x_if_lt (h : xM own cc nL R l G ct P) {x : Int} {off : Int} {tgt : Nat} (d : decode cc pc = .ok (.ifCond .lt off, 3)) (ht : (pc : Int) + off = (tgt : Int)) (hx1 : iR x) (kt : x < 0 → P tgt ls st w a) (kf : 0 ≤ x → P (pc + 3) ls st w a) : P pc ls (.int (iI x) :: st) w a := by
  obtain ⟨p, e, s, m, args, below, meth, c, Q, ⟨hx, hb, hml, hown, hts⟩, hK, hct, rfl⟩ := h
  intro H locs lsA h1 h2 h3 h4 h5
  have e0 : iI 0 = 0 := rfl
  refine lv_if_lt hx hb d ht (fun q => kt ?_ H locs lsA h1 h2 h3 h4 h5) (fun q => kf ?_ H locs lsA h1 h2 h3 h4 h5) <;> rw [← e0] at q <;> have q1 := q <;> simp only [ge_iff_le, gt_iff_lt, iI_inj hx1 (by omega : iR 0), iI_lt hx1 (by omega : iR 0), iI_le hx1 (by omega : iR 0), iI_lt (by omega : iR 0) hx1, iI_le (by omega : iR 0) hx1] at q1 <;> omega
theorem x_if_ge (h : xM own cc nL R l G ct P) {x : Int} {off : Int} {tgt : Nat} (d : decode cc pc = .ok (.ifCond .ge off, 3)) (ht : (pc : Int) + off = (tgt : Int)) (hx1 : iR x) (kt : 0 ≤ x → P tgt ls st w a) (kf : x < 0 → P (pc + 3) ls st w a) : P pc ls (.int (iI x) :: st) w a := by
  obtain ⟨p, e, s, m, args, below, meth, c, Q, ⟨hx, hb, hml, hown, hts⟩, hK, hct, rfl⟩ := h
  intro H locs lsA h1 h2 h3 h4 h5
  have e0 : iI 0 = 0 := rfl
  refine lv_if_ge hx hb d ht (fun q => kt ?_ H locs lsA h1 h2 h3 h4 h5) (fun q => kf ?_ H locs lsA h1 h2 h3 h4 h5) <;> rw [← e0] at q <;> have q1 := q <;> simp only [ge_iff_le, gt_iff_lt, iI_inj hx1 (by omega : iR 0), iI_lt hx1 (by omega : iR 0), iI_le hx1 (by omega : iR 0), iI_lt (by omega : iR 0) hx1, iI_le (by omega : iR 0) hx1] at q1 <;> omega
theorem x_if_gt (h : xM own cc nL R l G ct P) {x : Int} {off : Int} {tgt : Nat} (d : decode cc pc = .ok (.ifCond .gt off, 3)) (ht : (pc : Int) + off = (tgt : Int)) (hx1 : iR x) (kt : 0 < x → P tgt ls st w a) (kf : x ≤ 0 → P (pc + 3) ls st w a) : P pc ls (.int (iI x) :: st) w a := by
  obtain ⟨p, e, s, m, args, below, meth, c, Q, ⟨hx, hb, hml, hown, hts⟩, hK, hct, rfl⟩ := h
  intro H locs lsA h1 h2 h3 h4 h5
  have e0 : iI 0 = 0 := rfl
  refine lv_if_gt hx hb d ht (fun q => kt ?_ H locs lsA h1 h2 h3 h4 h5) (fun q => kf ?_ H locs lsA h1 h2 h3 h4 h5) <;> rw [← e0] at q <;> have q1 := q <;> simp only [ge_iff_le, gt_iff_lt, iI_inj hx1 (by omega : iR 0), iI_lt hx1 (by omega : iR 0), iI_le hx1 (by omega : iR 0), iI_lt (by omega : iR 0) hx1, iI_le (by omega : iR 0) hx1] at q1 <;> omega
theorem x_if_le (h : xM own cc nL R l G ct P) {x : Int} {off : Int} {tgt : Nat} (d : decode cc pc = .ok (.ifCond .le off, 3)) (ht : (pc : Int) + off = (tgt : Int)) (hx1 : iR x) (kt : x ≤ 0 → P tgt ls st w a) (kf : 0 < x → P (pc + 3) ls st w a) : P pc ls (.int (iI x) :: st) w a := by
  obtain ⟨p, e, s, m, args, below, meth, c, Q, ⟨hx, hb, hml, hown, hts⟩, hK, hct, rfl⟩ := h
  intro H locs lsA h1 h2 h3 h4 h5
  have e0 : iI 0 = 0 := rfl
  refine lv_if_le hx hb d ht (fun q => kt ?_ H locs lsA h1 h2 h3 h4 h5) (fun q => kf ?_ H locs lsA h1 h2 h3 h4 h5) <;> rw [← e0] at q <;> have q1 := q <;> simp only [ge_iff_le, gt_iff_lt, iI_inj hx1 (by omega : iR 0), iI_lt hx1 (by omega : iR 0), iI_le hx1 (by omega : iR 0), iI_lt (by omega : iR 0) hx1, iI_le (by omega : iR 0) hx1] at q1 <;> omega
theorem x_icmp_eq (h : xM own cc nL R l G ct P) {x y : Int} {off : Int} {tgt : Nat} (d : decode cc pc = .ok (.if_icmp .eq off, 3)) (ht : (pc : Int) + off = (tgt : Int)) (hx1 : iR x) (hy1 : iR y) (kt : x = y → P tgt ls st w a) (kf : x ≠ y → P (pc + 3) ls st w a) : P pc ls (.int (iI y) :: .int (iI x) :: st) w a := by
  obtain ⟨p, e, s, m, args, below, meth, c, Q, ⟨hx, hb, hml, hown, hts⟩, hK, hct, rfl⟩ := h
  intro H locs lsA h1 h2 h3 h4 h5
  refine lv_icmp_eq hx hb d ht (fun q => kt ?_ H locs lsA h1 h2 h3 h4 h5) (fun q => kf ?_ H locs lsA h1 h2 h3 h4 h5) <;> have q1 := q <;> simp only [ge_iff_le, gt_iff_lt, iI_inj hx1 hy1, iI_lt hx1 hy1, iI_le hx1 hy1, iI_lt hy1 hx1, iI_le hy1 hx1] at q1 <;> omega
theorem x_icmp_ne (h : xM own cc nL R l G ct P) {x y : Int} {off : Int} {tgt : Nat} (d : decode cc pc = .ok (.if_icmp .ne off, 3)) (ht : (pc : Int) + off = (tgt : Int)) (hx1 : iR x) (hy1 : iR y) (kt : x ≠ y → P tgt ls st w a) (kf : x = y → P (pc + 3) ls st w a) : P pc ls (.int (iI y) :: .int (iI x) :: st) w a := by
  obtain ⟨p, e, s, m, args, below, meth, c, Q, ⟨hx, hb, hml, hown, hts⟩, hK, hct, rfl⟩ := h
  intro H locs lsA h1 h2 h3 h4 h5
  refine lv_icmp_ne hx hb d ht (fun q => kt ?_ H locs lsA h1 h2 h3 h4 h5) (fun q => kf ?_ H locs lsA h1 h2 h3 h4 h5) <;> have q1 := q <;> simp only [ge_iff_le, gt_iff_lt, iI_inj hx1 hy1, iI_lt hx1 hy1, iI_le hx1 hy1, iI_lt hy1 hx1, iI_le hy1 hx1] at q1 <;> omega
theorem x_icmp_lt (h : xM own cc nL R l G ct P) {x y : Int} {off : Int} {tgt : Nat} (d : decode cc pc = .ok (.if_icmp .lt off, 3)) (ht : (pc : Int) + off = (tgt : Int)) (hx1 : iR x) (hy1 : iR y) (kt : x < y → P tgt ls st w a) (kf : y ≤ x → P (pc + 3) ls st w a) : P pc ls (.int (iI y) :: .int (iI x) :: st) w a := by
  obtain ⟨p, e, s, m, args, below, meth, c, Q, ⟨hx, hb, hml, hown, hts⟩, hK, hct, rfl⟩ := h
  intro H locs lsA h1 h2 h3 h4 h5
  refine lv_icmp_lt hx hb d ht (fun q => kt ?_ H locs lsA h1 h2 h3 h4 h5) (fun q => kf ?_ H locs lsA h1 h2 h3 h4 h5) <;> have q1 := q <;> simp only [ge_iff_le, gt_iff_lt, iI_inj hx1 hy1, iI_lt hx1 hy1, iI_le hx1 hy1, iI_lt hy1 hx1, iI_le hy1 hx1] at q1 <;> omega
theorem x_icmp_ge (h : xM own cc nL R l G ct P) {x y : Int} {off : Int} {tgt : Nat} (d : decode cc pc = .ok (.if_icmp .ge off, 3)) (ht : (pc : Int) + off = (tgt : Int)) (hx1 : iR x) (hy1 : iR y) (kt : y ≤ x → P tgt ls st w a) (kf : x < y → P (pc + 3) ls st w a) : P pc ls (.int (iI y) :: .int (iI x) :: st) w a := by
  obtain ⟨p, e, s, m, args, below, meth, c, Q, ⟨hx, hb, hml, hown, hts⟩, hK, hct, rfl⟩ := h
  intro H locs lsA h1 h2 h3 h4 h5
  refine lv_icmp_ge hx hb d ht (fun q => kt ?_ H locs lsA h1 h2 h3 h4 h5) (fun q => kf ?_ H locs lsA h1 h2 h3 h4 h5) <;> have q1 := q <;> simp only [ge_iff_le, gt_iff_lt, iI_inj hx1 hy1, iI_lt hx1 hy1, iI_le hx1 hy1, iI_lt hy1 hx1, iI_le hy1 hx1] at q1 <;> omega
theorem x_icmp_gt (h : xM own cc nL R l G ct P) {x y : Int} {off : Int} {tgt : Nat} (d : decode cc pc = .ok (.if_icmp .gt off, 3)) (ht : (pc : Int) + off = (tgt : Int)) (hx1 : iR x) (hy1 : iR y) (kt : y < x → P tgt ls st w a) (kf : x ≤ y → P (pc + 3) ls st w a) : P pc ls (.int (iI y) :: .int (iI x) :: st) w a := by
  obtain ⟨p, e, s, m, args, below, meth, c, Q, ⟨hx, hb, hml, hown, hts⟩, hK, hct, rfl⟩ := h
  intro H locs lsA h1 h2 h3 h4 h5
  refine lv_icmp_gt hx hb d ht (fun q => kt ?_ H locs lsA h1 h2 h3 h4 h5) (fun q => kf ?_ H locs lsA h1 h2 h3 h4 h5) <;> have q1 := q <;> simp only [ge_iff_le, gt_iff_lt, iI_inj hx1 hy1, iI_lt hx1 hy1, iI_le hx1 hy1, iI_lt hy1 hx1, iI_le hy1 hx1] at q1 <;> omega
theorem x_icmp_le (h : xM own cc nL R l G ct P) {x y : Int} {off : Int} {tgt : Nat} (d : decode cc pc = .ok (.if_icmp .le off, 3)) (ht : (pc : Int) + off = (tgt : Int)) (hx1 : iR x) (hy1 : iR y) (kt : x ≤ y → P tgt ls st w a) (kf : y < x → P (pc + 3) ls st w a) : P pc ls (.int (iI y) :: .int (iI x) :: st) w a := by
  obtain ⟨p, e, s, m, args, below, meth, c, Q, ⟨hx, hb, hml, hown, hts⟩, hK, hct, rfl⟩ := h
  intro H locs lsA h1 h2 h3 h4 h5
  refine lv_icmp_le hx hb d ht (fun q => kt ?_ H locs lsA h1 h2 h3 h4 h5) (fun q => kf ?_ H locs lsA h1 h2 h3 h4 h5) <;> have q1 := q <;> simp only [ge_iff_le, gt_iff_lt, iI_inj hx1 hy1, iI_lt hx1 hy1, iI_le hx1 hy1, iI_lt hy1 hx1, iI_le hy1 hx1] at q1 <;> omega
theorem x_goto (h : xM own cc nL R l G ct P) {off : Int} {tgt : Nat} (d : decode cc pc = .ok (.goto off, 3)) (ht : (pc : Int) + off = (tgt : Int)) (k : P tgt ls st w a) : P pc ls st w a := by
  obtain ⟨p, e, s, m, args, below, meth, c, Q, ⟨hx, hb, hml, hown, hts⟩, hK, hct, rfl⟩ := h
  intro H locs lsA h1 h2 h3 h4 h5
  exact lv_goto hx hb d ht (k H locs lsA h1 h2 h3 h4 h5)
theorem x_ifnull (h : xM own cc nL R l G ct P) {x : Nat} {off : Int} (d : decode cc pc = .ok (.ifnull off, 3)) (k : P (pc + 3) ls st w a) : P pc ls (.ref x :: st) w a := by
  obtain ⟨p, e, s, m, args, below, meth, c, Q, ⟨hx, hb, hml, hown, hts⟩, hK, hct, rfl⟩ := h
  intro H locs lsA h1 h2 h3 h4 h5
  exact lv_ifnull hx hb d (k H locs lsA h1 h2 h3 h4 h5)
theorem x_ifnullN (h : xM own cc nL R l G ct P) {off : Int} {tgt : Nat} (d : decode cc pc = .ok (.ifnull off, 3)) (ht : (pc : Int) + off = (tgt : Int)) (k : P tgt ls st w a) : P pc ls (.null :: st) w a := by
  obtain ⟨p, e, s, m, args, below, meth, c, Q, ⟨hx, hb, hml, hown, hts⟩, hK, hct, rfl⟩ := h
  intro H locs lsA h1 h2 h3 h4 h5
  exact lv_ifnullN hx hb d ht (k H locs lsA h1 h2 h3 h4 h5)
theorem x_ifnonnull (h : xM own cc nL R l G ct P) {x : Nat} {off : Int} {tgt : Nat} (d : decode cc pc = .ok (.ifnonnull off, 3)) (ht : (pc : Int) + off = (tgt : Int)) (k : P tgt ls st w a) : P pc ls (.ref x :: st) w a := by
  obtain ⟨p, e, s, m, args, below, meth, c, Q, ⟨hx, hb, hml, hown, hts⟩, hK, hct, rfl⟩ := h
  intro H locs lsA h1 h2 h3 h4 h5
  exact lv_ifnonnull hx hb d ht (k H locs lsA h1 h2 h3 h4 h5)
theorem x_ifnonnullN (h : xM own cc nL R l G ct P) {off : Int} (d : decode cc pc = .ok (.ifnonnull off, 3)) (k : P (pc + 3) ls st w a) : P pc ls (.null :: st) w a := by
  obtain ⟨p, e, s, m, args, below, meth, c, Q, ⟨hx, hb, hml, hown, hts⟩, hK, hct, rfl⟩ := h
  intro H locs lsA h1 h2 h3 h4 h5
  exact lv_ifnonnullN hx hb d (k H locs lsA h1 h2 h3 h4 h5)
/-- a long compare, and the branch that follows is on its sign -/
theorem x_lcmp (h : xM own cc nL R l G ct P) {x y : Int64} (d : decode cc pc = .ok (.lcmp, 1)) (k : ∀ z : Int, iR z → (z < 0 ↔ x < y) → (z = 0 ↔ x = y) → P (pc + 1) ls (.int (iI z) :: st) w a) : P pc ls (.long y :: .long x :: st) w a := by
  obtain ⟨p, e, s, m, args, below, meth, c, Q, ⟨hx, hb, hml, hown, hts⟩, hK, hct, rfl⟩ := h
  intro H locs lsA h1 h2 h3 h4 h5
  refine W.lcmp hx hb d ?_
  have e1 : ∃ z : Int, iR z ∧ lg_cmp x y = iI z ∧ (z < 0 ↔ x < y) ∧ (z = 0 ↔ x = y) := by
    unfold lg_cmp
    have hlt : x < y ↔ x.toInt < y.toInt := Int64.lt_iff_toInt_lt
    have heq : x = y ↔ x.toInt = y.toInt := Int64.toInt_inj.symm
    have hgt : y < x ↔ y.toInt < x.toInt := Int64.lt_iff_toInt_lt
    by_cases q1 : y < x
    · exact ⟨1, by omega, by rw [if_pos q1]; rfl, by rw [hlt]; rw [hgt] at q1; omega, by rw [heq]; rw [hgt] at q1; omega⟩
    · by_cases q2 : x = y
      · exact ⟨0, by omega, by rw [if_neg q1, if_pos q2]; rfl, by rw [hlt]; rw [heq] at q2; omega, by simp [q2]⟩
      · exact ⟨-1, by omega, by rw [if_neg q1, if_neg q2]; rfl, by rw [hlt]; rw [hgt] at q1; rw [heq] at q2; omega, by rw [heq]; rw [heq] at q2; omega⟩
  obtain ⟨z, z1, z2, z3, z4⟩ := e1
  rw [z2]
  exact k z z1 z3 z4 H locs lsA h1 h2 h3 h4 h5
end XR
