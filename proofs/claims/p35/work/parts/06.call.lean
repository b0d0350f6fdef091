/-! contracts and calls -/
abbrev xPo : Type := Option Value → Wd → Nat → Prop
def xQ (G : xG) (post : xPo) : Array Value → State → Outcome → State → Prop := fun _ st oc t => (∃ (r : Option Value) (w1 : Wd), oc = .returned r ∧ post r w1 t.heap.size ∧ gH G w1 t.heap) ∧ va_F (gA G) st t
def xPre (G : xG) (av : List Value) (w : Wd) (z : Nat) : Array Value → State → Prop := va_Pc av (fun U => U.heap.size = z ∧ gH G w U.heap ∧ gK G U)
/-- method y, begun with the arguments av in the world w (z cells), returns, and post holds of what it returns, the world and its size behind it -/
def xMet (l : Launch) (G : xG) (y : MethodName) (cc : ByteArray) (nL : Nat) (ret : Option FieldType) (rm : Room) (av : List Value) (w : Wd) (z : Nat) (post : xPo) : Prop :=
  Met l y (.code y cc nL ret :: gd_w) rm (xPre G av w z) (xQ G post) rm.cells rm.slots (gA G)
def xR (cc : ByteArray) (ret : Option FieldType) (rm : Room) (post : xPo) (P : xT) : Prop :=
  (∀ (pc : Nat) (ls : List (Option Value)) (w : Wd) (z k n : Nat) (x : Int32) (ty : FieldType), ret = some ty → narrow ty (.int x) = .int x → decode cc pc = .ok (.ireturn, 1) → k ≤ rm.cells → n ≤ rm.slots → post (some (.int x)) w z → P pc ls [.int x] w (z, k, n)) ∧
  (∀ (pc : Nat) (ls : List (Option Value)) (w : Wd) (z k n : Nat) (x : Int64), ret = some .long → decode cc pc = .ok (.lreturn, 1) → k ≤ rm.cells → n ≤ rm.slots → post (some (.long x)) w z → P pc ls [.long x] w (z, k, n)) ∧
  (∀ (pc : Nat) (ls : List (Option Value)) (w : Wd) (z k n : Nat), ret = none → decode cc pc = .ok (.return_, 1) → k ≤ rm.cells → n ≤ rm.slots → post none w z → P pc ls [] w (z, k, n))
theorem xMet_of {l : Launch} {G : xG} {y : MethodName} {cc : ByteArray} {nL : Nat} {ret : Option FieldType} {rm : Room} {av : List Value} {w : Wd} {z : Nat} {post : xPo} (own : String) (hy : y.cls = own) (hp : plainName y.cls = true) (ct : Bool) (hct : ct = true → y.name = "<init>") (hsz : (lg_sl av).length ≤ nL) {ls0 : List (Option Value)} (hls : xe nL av = ls0)
    (body : ∀ P : xT, xM own cc nL rm l G ct P → xR cc ret rm post P → P 0 ls0 [] w (z, 0, 0)) : xMet l G y cc nL ret rm av w z post := by
  refine Met.ofW (cc := cc) (maxL := nL) (ret := ret) hp rfl ?_
  intro p e s m args below meth c s₁ B hml hv
  obtain ⟨rfl, hsz2, hH, hK⟩ := hv
  have hts := atoms_spec (ws := .code y cc nL ret :: gd_w) B.pre
  have hown : s.vm.findClass own = some m.cls := by rw [← hy]; exact findClass_of_methodNamed B.named
  have hin : meth.name = y.name := (name_of_methodNamed B.named B.method).1
  have hb := B.bytes
  have hx := B.exec
  have hr := B.returns
  have hlocks := B.notSynchronized
  have X := body _ ⟨p, e, s, m, av.toArray, below, meth, c, MQ below (xQ G post) av.toArray s rm.cells rm.slots (gA G), ⟨hx, hb, hml, hown, fun w hw => hts w (List.mem_cons_of_mem _ hw)⟩, hK, (fun h => hin.trans (hct h)), rfl⟩ ?_
  · rw [lg_entry_eq]
    exact X s.heap [] _ hH hsz2 va_S.rf (by rw [← hls]; exact xe_entry av hsz) (by rw [← hls]; simp only [xe, List.length_append, List.length_replicate, xe_len]; omega)
  · refine ⟨?_, ?_, ?_⟩
    · intro pc ls w1 z1 k n x ty h1 h2 h3 h4 h5 h6 H locs lsA g1 g2 g3 g4 g5
      refine W.widen h4 h5 ?_
      exact W.zret hx hb (hr.trans h1) h2 (fun t ht hW => ⟨⟨_, w1, rfl, by rw [ht, g2]; exact h6, by rw [ht]; exact g1⟩, g3.F ht⟩) g3.2.2 h3
    · intro pc ls w1 z1 k n x h1 h3 h4 h5 h6 H locs lsA g1 g2 g3 g4 g5
      refine W.widen h4 h5 ?_
      exact W.lret hx hb (hr.trans h1) (fun t ht hW => ⟨⟨_, w1, rfl, by rw [ht, g2]; exact h6, by rw [ht]; exact g1⟩, g3.F ht⟩) g3.2.2 h3
    · intro pc ls w1 z1 k n h1 h3 h4 h5 h6 H locs lsA g1 g2 g3 g4 g5
      refine W.widen h4 h5 ?_
      exact W.vret hx hb (hr.trans h1) (fun t ht hW => ⟨⟨_, w1, rfl, by rw [ht, g2]; exact h6, by rw [ht]; exact g1⟩, g3.F ht⟩) g3.2.2 h3
section XC
variable {own : String} {cc : ByteArray} {nL : Nat} {R : Room} {l : Launch} {G : xG} {ct : Bool} {P : xT} {pc : Nat} {ls : List (Option Value)} {st : List Value} {w : Wd} {a : Nat × Nat × Nat}
/-- words of a virtual call -/
def Wv (own : String) (idx : Nat) (C : String) (y : MethodName) (c2 : ByteArray) (n2 : Nat) (ret : Option FieldType) (np : Nat) : Prop :=
  Cond.methodLink own idx y ∈ gd_w ∧ Cond.instanceMethod y ∈ gd_w ∧ Cond.selects C y y ∈ gd_w ∧ Cond.initialized C ∈ gd_w ∧ Cond.code y c2 n2 ret ∈ gd_w ∧ (y.cls = C ∧ y.cls ≠ "java/lang/invoke/MethodHandle" ∧ y.cls ≠ "java/lang/invoke/VarHandle" ∧ (parseMethodDescriptor y.desc).map (fun d => d.parameters.length) = some np)
/-- words of a static call -/
def Ws (own : String) (idx : Nat) (y : MethodName) (c2 : ByteArray) (n2 : Nat) (ret : Option FieldType) (np : Nat) : Prop :=
  Cond.methodLink own idx y ∈ gd_w ∧ Cond.static y ∈ gd_w ∧ Cond.initialized y.cls ∈ gd_w ∧ Cond.code y c2 n2 ret ∈ gd_w ∧ (y.cls ≠ "java/lang/invoke/MethodHandle" ∧ y.cls ≠ "java/lang/invoke/VarHandle" ∧ (parseMethodDescriptor y.desc).map (fun d => d.parameters.length) = some np)
/-- words of a constructor's call -/
def Wi (own : String) (idx : Nat) (y : MethodName) (c2 : ByteArray) (n2 : Nat) (np : Nat) : Prop :=
  (Cond.methodLink own idx y ∈ gd_w ∨ ∃ host : String, Cond.methodLinkNest own idx y host ∈ ns_w) ∧ Cond.instanceMethod y ∈ gd_w ∧ Cond.initialized y.cls ∈ gd_w ∧ Cond.code y c2 n2 none ∈ gd_w ∧ y.name = "<init>" ∧ (y.cls ≠ "java/lang/invoke/MethodHandle" ∧ y.cls ≠ "java/lang/invoke/VarHandle" ∧ (parseMethodDescriptor y.desc).map (fun d => d.parameters.length) = some np)
theorem xBlind {G : xG} {av : List Value} {w : Wd} {z : Nat} : FrameBlind (xPre G av w z) := fun a U g mk h => ⟨h.1, h.2.1, h.2.2.1, gK_calling h.2.2.2⟩
theorem x_after {p : Program} {e : Env} {s : State} {m : MethodId} {args : Array Value} {below : List Frame} {meth : Method} {c : Code} {Q : State → Prop} {H : Heap} {locs : List Loc} {lsA : Array Slot} {k n mc ms : Nat} {post : xPo} {av st0 : List Value} (hr : va_Run p l e R s m args below meth c H locs k n mc ms (F0 m pc lsA st0) st (xQ G post av.toArray) (gA G)) (h3 : va_S (gA G) s.heap H locs)
    (kk : ∀ (r : Option Value) (w1 : Wd) (H1 : Heap) (locs1 : List Loc), post r w1 H1.size → gH G w1 H1 → va_S (gA G) s.heap H1 locs1 → W p l e R s m args below meth c H1 locs1 (k + mc) (n + ms) Q (F0 m (pc + 3) lsA (r.toList ++ st))) : W p l e R s m args below meth c H locs k n Q (F0 m pc lsA st0) := by
  intro T hT X
  obtain ⟨v, st₀, t, T', L, h0, X', hL, e1, e2, ⟨⟨r, w1, hv, hp, hb⟩, hz, hk⟩, stp⟩ := hr T hT X
  cases hv
  rw [h0] at hz hk
  obtain ⟨t2, a1, b1⟩ := kk v w1 T'.heap (locs ++ L) (by rw [e1]; exact hp) (by rw [e1]; exact hb) ⟨Nat.le_trans h3.1 (by rw [e1]; exact hz), fun q g1 g2 => by rw [e1, hk q (Nat.lt_of_lt_of_le g1 h3.1) g2]; exact h3.2.1 q g1 g2, fun q hq => by
      rcases List.mem_append.mp hq with h | h
      · exact h3.2.2 q h
      · exact hL q h⟩ T' rfl X'
  exact ⟨t2, stp t2 a1, b1⟩
theorem x_callV (h : xM own cc nL R l G ct P) {idx n2 np : Nat} {C : String} {y : MethodName} {c2 : ByteArray} {ret : Option FieldType} (hw : Wv own idx C y c2 n2 ret np) {rm : Room} {As stk fs : List Value} {post : xPo} {b z k n ci : Nat} {q : vw_C} (hm : xMet l G y c2 n2 ret rm (.ref b :: As) w z post) (hR : rm.frames + 1 ≤ R.frames ∧ 8 + (n2 + 11) + rm.locals ≤ R.locals) (hrec : w b = some (.inr (ci, fs))) (hci : vwCl[ci]? = some q) (hC : q.1 = C) (hn : As.length = np) (hst : stk = As.reverse ++ .ref b :: st) (hro : (st.map fun v => v.category).sum ≤ 8) (hc : k + rm.cells ≤ R.cells ∧ n + rm.slots ≤ R.slots) (d : decode cc pc = .ok (.invokevirtual idx, 3))
    (kk : ∀ (r : Option Value) (w1 : Wd) (z1 : Nat), post r w1 z1 → P (pc + 3) ls (r.toList ++ st) w1 (z1, k + rm.cells, n + rm.slots)) : P pc ls stk w (z, k, n) := by
  obtain ⟨p, e, s, m, args, below, meth, c, Q, CF, hK, hct, rfl⟩ := h
  intro H locs lsA h1 h2 h3 h4 h5
  obtain ⟨hx, hb, hml, hown, hts⟩ := id CF
  obtain ⟨w1, w2, w3, w4, w5, w6⟩ := hw
  have hG : GoodIn gd_w (wsV own idx C y (.code y c2 n2 ret :: gd_w)) := by
    intro x hx
    unfold wsV at hx
    rcases List.mem_append.mp hx with hx | hx
    · have hm : x ∈ gd_w := by
        simp only [List.mem_cons, List.not_mem_nil, or_false] at hx
        rcases hx with rfl | rfl | rfl | rfl <;> assumption
      exact ⟨hm, good_of_word (List.mem_filter.mp hm).2⟩
    · exact gd_in w5 x hx
  refine x_after (Q := Q) (av := .ref b :: As) (mc := rm.cells) (ms := rm.slots) (post := post) (va_runV CF hm (cwV np hts hG rfl rfl rfl w6 hR) ⟨xBlind, va_recv (q0 := 0) hK.1 (gH_of h1 hrec) hci rfl |> fun z => by rw [← hC]; exact z, fun U hU hW => ⟨rfl, by rw [hU]; exact h2, by rw [hU]; exact h1, gK_moved hW hK (by rw [hU]; exact h3)⟩⟩ rfl hn (h4.1.trans h5) hst (lv_room hro) d hc) h3 ?_
  intro r w1' H1 locs1 g1 g2 g3
  exact kk r w1' H1.size g1 H1 locs1 lsA g2 rfl g3 h4 h5
theorem x_callS (h : xM own cc nL R l G ct P) {idx n2 np : Nat} {y : MethodName} {c2 : ByteArray} {ret : Option FieldType} (hw : Ws own idx y c2 n2 ret np) {rm : Room} {As stk : List Value} {post : xPo} {z k n : Nat} (hm : xMet l G y c2 n2 ret rm As w z post) (hR : rm.frames + 1 ≤ R.frames ∧ 8 + (n2 + 11) + rm.locals ≤ R.locals) (hn : As.length = np) (hst : stk = As.reverse ++ st) (hro : (st.map fun v => v.category).sum ≤ 8) (hc : k + rm.cells ≤ R.cells ∧ n + rm.slots ≤ R.slots) (d : decode cc pc = .ok (.invokestatic idx, 3))
    (kk : ∀ (r : Option Value) (w1 : Wd) (z1 : Nat), post r w1 z1 → P (pc + 3) ls (r.toList ++ st) w1 (z1, k + rm.cells, n + rm.slots)) : P pc ls stk w (z, k, n) := by
  obtain ⟨p, e, s, m, args, below, meth, c, Q, CF, hK, hct, rfl⟩ := h
  intro H locs lsA h1 h2 h3 h4 h5
  obtain ⟨hx, hb, hml, hown, hts⟩ := id CF
  obtain ⟨w1, w2, w3, w5, w6⟩ := hw
  refine x_after (Q := Q) (av := As) (mc := rm.cells) (ms := rm.slots) (post := post) (va_runS CF hm ⟨callB_of np hts (gd_in w5) rfl rfl rfl (hts _ w3) (hts _ w1) w6 hR, hts _ w2⟩ ⟨xBlind, fun U hU hW => ⟨rfl, by rw [hU]; exact h2, by rw [hU]; exact h1, gK_moved hW hK (by rw [hU]; exact h3)⟩⟩ rfl hn (h4.1.trans h5) hst (lv_room hro) d hc) h3 ?_
  intro r w1' H1 locs1 g1 g2 g3
  exact kk r w1' H1.size g1 H1 locs1 lsA g2 rfl g3 h4 h5
theorem x_callI (h : xM own cc nL R l G ct P) {idx n2 np : Nat} {y : MethodName} {c2 : ByteArray} (hw : Wi own idx y c2 n2 np) {rm : Room} {As stk : List Value} {post : xPo} {b z k n : Nat} (hm : xMet l G y c2 n2 none rm (.ref b :: As) w z post) (hR : rm.frames + 1 ≤ R.frames ∧ 8 + (n2 + 11) + rm.locals ≤ R.locals) (hn : As.length = np) (hst : stk = As.reverse ++ .ref b :: st) (hro : (st.map fun v => v.category).sum ≤ 8) (hc : k + rm.cells ≤ R.cells ∧ n + rm.slots ≤ R.slots) (d : decode cc pc = .ok (.invokespecial idx, 3))
    (kk : ∀ (r : Option Value) (w1 : Wd) (z1 : Nat), post r w1 z1 → P (pc + 3) ls (r.toList ++ st) w1 (z1, k + rm.cells, n + rm.slots)) : P pc ls stk w (z, k, n) := by
  obtain ⟨p, e, s, m, args, below, meth, c, Q, CF, hK, hct, rfl⟩ := h
  intro H locs lsA h1 h2 h3 h4 h5
  obtain ⟨hx, hb, hml, hown, hts⟩ := id CF
  obtain ⟨w1, w2, w3, w5, wn, w6⟩ := hw
  have hpre : PreS s H (xPre G (.ref b :: As) w z) (.ref b :: As) := ⟨xBlind, fun U hU hW => ⟨rfl, by rw [hU]; exact h2, by rw [hU]; exact h1, gK_moved hW hK (by rw [hU]; exact h3)⟩⟩
  rcases w1 with w1 | ⟨host, w1⟩
  · refine x_after (Q := Q) (av := .ref b :: As) (mc := rm.cells) (ms := rm.slots) (post := post) (va_runI CF hm (cwI np hts (gd_in w5) rfl rfl rfl (hts _ w3) (hts _ w1) (hts _ w2) wn w6 hR) hpre rfl hn (h4.1.trans h5) hst (lv_room hro) d hc) h3 ?_
    intro r w1' H1 locs1 g1 g2 g3
    exact kk r w1' H1.size g1 H1 locs1 lsA g2 rfl g3 h4 h5
  · refine x_after (Q := Q) (av := .ref b :: As) (mc := rm.cells) (ms := rm.slots) (post := post) (va_runIN CF hm ⟨va_cnB np hts (gd_in w5) rfl rfl rfl (hK.2.1 _ w1) (hts _ w3) w6 hR, wn, hts _ w2⟩ hpre rfl hn (h4.1.trans h5) hst (lv_room hro) d hc) h3 ?_
    intro r w1' H1 locs1 g1 g2 g3
    exact kk r w1' H1.size g1 H1 locs1 lsA g2 rfl g3 h4 h5
theorem x_objInit (h : xM own cc nL R l G ct P) {idx b : Nat} (hw : Cond.methodLink own idx Lib.objectInit ∈ gd_w ∧ Cond.instanceMethod Lib.objectInit ∈ gd_w ∧ Cond.code Lib.objectInit ⟨#[0xb1]⟩ 1 none ∈ gd_w) (hf : 1 ≤ R.frames) (hlo : (st.map fun v => v.category).sum + 12 ≤ R.locals) (d : decode cc pc = .ok (.invokespecial idx, 3)) (kk : P (pc + 3) ls st w a) : P pc ls (.ref b :: st) w a := by
  obtain ⟨p, e, s, m, args, below, meth, c, Q, ⟨hx, hb, hml, hown, hts⟩, hK, hct, rfl⟩ := h
  intro H locs lsA h1 h2 h3 h4 h5
  exact W.objInit hx hb hown (hts _ hw.1) (hts _ hw.2.1) (hts _ hw.2.2) rfl (by rw [hml]; exact h4.1.trans h5) rfl d hf (by show 2 * 0 + _ + 12 ≤ _; omega) (kk H locs lsA h1 h2 h3 h4 h5)
/-! what methods answer -/
def rI (v : Int) (w : Wd) (z : Nat) : xPo := fun r w1 z1 => r = some (.int (iI v)) ∧ w1 = w ∧ z1 = z
def rL (v : Int64) (w : Wd) (z : Nat) : xPo := fun r w1 z1 => r = some (.long v) ∧ w1 = w ∧ z1 = z
def rV (w : Wd) (z : Nat) : xPo := fun r w1 z1 => r = none ∧ w1 = w ∧ z1 = z
def qI (z : Nat) (f : Int → Wd → Prop) : xPo := fun r w1 z1 => z1 = z ∧ ∃ x : Int, r = some (.int (iI x)) ∧ f x w1
def qV (z : Nat) (f : Wd → Prop) : xPo := fun r w1 z1 => z1 = z ∧ r = none ∧ f w1
def aV (f : Wd → Nat → Prop) : xPo := fun r w1 z1 => r = none ∧ f w1 z1
def eI (f : Int → Wd → Nat → Prop) : xPo := fun r w1 z1 => ∃ x : Int, r = some (.int (iI x)) ∧ f x w1 z1
theorem k_rI {v : Int} {z k n : Nat} (h : P pc ls (.int (iI v) :: st) w (z, k, n)) : ∀ (r : Option Value) (w1 : Wd) (z1 : Nat), rI v w z r w1 z1 → P pc ls (r.toList ++ st) w1 (z1, k, n) := by
  rintro r w1 z1 ⟨rfl, rfl, rfl⟩; exact h
theorem k_rL {v : Int64} {z k n : Nat} (h : P pc ls (.long v :: st) w (z, k, n)) : ∀ (r : Option Value) (w1 : Wd) (z1 : Nat), rL v w z r w1 z1 → P pc ls (r.toList ++ st) w1 (z1, k, n) := by
  rintro r w1 z1 ⟨rfl, rfl, rfl⟩; exact h
theorem k_rV {z k n : Nat} (h : P pc ls st w (z, k, n)) : ∀ (r : Option Value) (w1 : Wd) (z1 : Nat), rV w z r w1 z1 → P pc ls (r.toList ++ st) w1 (z1, k, n) := by
  rintro r w1 z1 ⟨rfl, rfl, rfl⟩; exact h
theorem k_qI {f : Int → Wd → Prop} {z k n : Nat} (h : ∀ (x : Int) (w1 : Wd), f x w1 → P pc ls (.int (iI x) :: st) w1 (z, k, n)) : ∀ (r : Option Value) (w1 : Wd) (z1 : Nat), qI z f r w1 z1 → P pc ls (r.toList ++ st) w1 (z1, k, n) := by
  rintro r w1 z1 ⟨rfl, x, rfl, hf⟩; exact h x w1 hf
theorem k_qV {f : Wd → Prop} {z k n : Nat} (h : ∀ w1 : Wd, f w1 → P pc ls st w1 (z, k, n)) : ∀ (r : Option Value) (w1 : Wd) (z1 : Nat), qV z f r w1 z1 → P pc ls (r.toList ++ st) w1 (z1, k, n) := by
  rintro r w1 z1 ⟨rfl, rfl, hf⟩; exact h w1 hf
theorem k_aV {f : Wd → Nat → Prop} {k n : Nat} (h : ∀ (w1 : Wd) (z1 : Nat), f w1 z1 → P pc ls st w1 (z1, k, n)) : ∀ (r : Option Value) (w1 : Wd) (z1 : Nat), aV f r w1 z1 → P pc ls (r.toList ++ st) w1 (z1, k, n) := by
  rintro r w1 z1 ⟨rfl, hf⟩; exact h w1 z1 hf
theorem k_eI {f : Int → Wd → Nat → Prop} {k n : Nat} (h : ∀ (x : Int) (w1 : Wd) (z1 : Nat), f x w1 z1 → P pc ls (.int (iI x) :: st) w1 (z1, k, n)) : ∀ (r : Option Value) (w1 : Wd) (z1 : Nat), eI f r w1 z1 → P pc ls (r.toList ++ st) w1 (z1, k, n) := by
  rintro r w1 z1 ⟨x, rfl, hf⟩; exact h x w1 z1 hf
/-- ends -/
theorem xR.i {rm : Room} {post : xPo} (h : xR cc (some .int) rm post P) (d : decode cc pc = .ok (.ireturn, 1)) {z k n : Nat} {x : Int} (hk : k ≤ rm.cells) (hn : n ≤ rm.slots) (hp : post (some (.int (iI x))) w z) : P pc ls [.int (iI x)] w (z, k, n) := h.1 pc ls w z k n _ .int rfl rfl d hk hn hp
theorem xR.raw {rm : Room} {post : xPo} (h : xR cc (some .int) rm post P) (d : decode cc pc = .ok (.ireturn, 1)) {z k n : Nat} {x : Int32} {v : Int} (hx : x = iI v) (hk : k ≤ rm.cells) (hn : n ≤ rm.slots) (hp : post (some (.int (iI v))) w z) : P pc ls [.int x] w (z, k, n) := by
  subst hx
  exact h.1 pc ls w z k n _ .int rfl rfl d hk hn hp
theorem xR.b {rm : Room} {post : xPo} (h : xR cc (some .boolean) rm post P) (d : decode cc pc = .ok (.ireturn, 1)) {z k n : Nat} {x : Int} (hx : narrow .boolean (.int (iI x)) = .int (iI x)) (hk : k ≤ rm.cells) (hn : n ≤ rm.slots) (hp : post (some (.int (iI x))) w z) : P pc ls [.int (iI x)] w (z, k, n) := h.1 pc ls w z k n _ .boolean rfl hx d hk hn hp
theorem xR.c {rm : Room} {post : xPo} (h : xR cc (some .char) rm post P) (d : decode cc pc = .ok (.ireturn, 1)) {z k n : Nat} {x : Int} (hx : narrow .char (.int (iI x)) = .int (iI x)) (hk : k ≤ rm.cells) (hn : n ≤ rm.slots) (hp : post (some (.int (iI x))) w z) : P pc ls [.int (iI x)] w (z, k, n) := h.1 pc ls w z k n _ .char rfl hx d hk hn hp
theorem xR.j {rm : Room} {post : xPo} (h : xR cc (some .long) rm post P) (d : decode cc pc = .ok (.lreturn, 1)) {z k n : Nat} {x : Int64} (hk : k ≤ rm.cells) (hn : n ≤ rm.slots) (hp : post (some (.long x)) w z) : P pc ls [.long x] w (z, k, n) := h.2.1 pc ls w z k n _ rfl d hk hn hp
theorem xR.v {rm : Room} {post : xPo} (h : xR cc none rm post P) (d : decode cc pc = .ok (.return_, 1)) {z k n : Nat} (hk : k ≤ rm.cells) (hn : n ≤ rm.slots) (hp : post none w z) : P pc ls [] w (z, k, n) := h.2.2 pc ls w z k n rfl d hk hn hp
/-! statics, switches, Math, arraycopy -/
theorem x_gets (h : xM own cc nL R l G ct P) {idx : Nat} (i : Nat) (hi : i < 3) (hw : Cond.fieldLink own idx "RangeDeeds" (sv_n i) "[I" ∈ gd_w ∨ ∃ host : String, Cond.fieldLinkNest own idx "RangeDeeds" (sv_n i) "[I" host ∈ ns_w) (d : decode cc pc = .ok (.getstatic idx, 3)) (kk : P (pc + 3) ls (.ref (G.2.2.2 i) :: st) w a) : P pc ls st w a := by
  obtain ⟨p, e, s, m, args, below, meth, c, Q, ⟨hx, hb, hml, hown, hts⟩, hK, hct, rfl⟩ := h
  intro H locs lsA h1 h2 h3 h4 h5
  rcases hw with hw | ⟨host, hw⟩
  · exact va_gets hx hb (hK.2.2.2.2.2 i hi).1 h3 hown (hts _ hw) (fun _ z => z) d (kk H locs lsA h1 h2 h3 h4 h5)
  · exact va_getsN hx hb (hK.2.2.2.2.2 i hi).1 h3 hown (va_Nw.use rfl (hK.2.1 _ hw)) (fun _ z => z) d (kk H locs lsA h1 h2 h3 h4 h5)
theorem x_tald (h : xM own cc nL R l G ct P) {i : Nat} {j : Int} (hi : i < 3) (hj : 0 ≤ j ∧ j < 5) (d : decode cc pc = .ok (.iaload, 1)) (kk : P (pc + 1) ls (.int (iI (sv_f i j)) :: st) w a) : P pc ls (.int (iI j) :: .ref (G.2.2.2 i) :: st) w a := by
  obtain ⟨p, e, s, m, args, below, meth, c, Q, ⟨hx, hb, hml, hown, hts⟩, hK, hct, rfl⟩ := h
  intro H locs lsA h1 h2 h3 h4 h5
  exact va_ti hx hb (hK.2.2.2.2.2 i hi).2 h3 (iI_in hj.1 hj.2 (by omega)) (by rw [iI_clamp hj.1 (by omega), show ((j.toNat : Nat) : Int) = j by omega]) d (kk H locs lsA h1 h2 h3 h4 h5)
theorem x_tlen (h : xM own cc nL R l G ct P) {i : Nat} (hi : i < 3) (d : decode cc pc = .ok (.arraylength, 1)) (kk : P (pc + 1) ls (.int (iI 5) :: st) w a) : P pc ls (.ref (G.2.2.2 i) :: st) w a := by
  obtain ⟨p, e, s, m, args, below, meth, c, Q, ⟨hx, hb, hml, hown, hts⟩, hK, hct, rfl⟩ := h
  intro H locs lsA h1 h2 h3 h4 h5
  exact va_tlen hx hb (hK.2.2.2.2.2 i hi).2 h3 rfl d (kk H locs lsA h1 h2 h3 h4 h5)
theorem x_tableIn (h : xM own cc nL R l G ct P) {dflt lo hi : Int} {offs : Array Int} {len : Nat} {x off : Int} {tgt : Nat} (d : decode cc pc = .ok (.tableswitch dflt lo hi offs, len)) (hx1 : iR x) (g1 : lo ≤ x) (g2 : x ≤ hi) (ho : offs[(x - lo).toNat]? = some off) (ht : (pc : Int) + off = (tgt : Int)) (kk : P tgt ls st w a) : P pc ls (.int (iI x) :: st) w a := by
  obtain ⟨p, e, s, m, args, below, meth, c, Q, ⟨hx, hb, hml, hown, hts⟩, hK, hct, rfl⟩ := h
  intro H locs lsA h1 h2 h3 h4 h5
  exact lv_tableIn hx hb d (by rw [iI_toInt hx1]; omega) (by rw [iI_toInt hx1]; omega) (by rw [iI_toInt hx1]; exact ho) ht (kk H locs lsA h1 h2 h3 h4 h5)
theorem x_tableOut (h : xM own cc nL R l G ct P) {dflt lo hi : Int} {offs : Array Int} {len : Nat} {x : Int} {tgt : Nat} (d : decode cc pc = .ok (.tableswitch dflt lo hi offs, len)) (hx1 : iR x) (g : x < lo ∨ hi < x) (ht : (pc : Int) + dflt = (tgt : Int)) (kk : P tgt ls st w a) : P pc ls (.int (iI x) :: st) w a := by
  obtain ⟨p, e, s, m, args, below, meth, c, Q, ⟨hx, hb, hml, hown, hts⟩, hK, hct, rfl⟩ := h
  intro H locs lsA h1 h2 h3 h4 h5
  exact lv_tableOut hx hb d (by rw [iI_toInt hx1]; exact g) ht (kk H locs lsA h1 h2 h3 h4 h5)
theorem x_lookup (h : xM own cc nL R l G ct P) {dflt : Int} {ps : Array (Int × Int)} {len : Nat} {x off : Int} {tgt : Nat} (d : decode cc pc = .ok (.lookupswitch dflt ps, len)) (hx1 : iR x) (hp : (ps.toList.zip (ps.toList.drop 1)).all (fun (a, next) => a.1 < next.1) = true) (ho : Op.lookupswitch.offset ps.toList dflt x = off) (ht : (pc : Int) + off = (tgt : Int)) (kk : P tgt ls st w a) : P pc ls (.int (iI x) :: st) w a := by
  obtain ⟨p, e, s, m, args, below, meth, c, Q, ⟨hx, hb, hml, hown, hts⟩, hK, hct, rfl⟩ := h
  intro H locs lsA h1 h2 h3 h4 h5
  exact lv_lookup hx hb d hp (by rw [iI_toInt hx1]; exact ho) ht (kk H locs lsA h1 h2 h3 h4 h5)
def Wm (own : String) (idx : Nat) (y : MethodName) (c2 : ByteArray) : Prop := Cond.methodLink own idx y ∈ gd_w ∧ Cond.static y ∈ gd_w ∧ Cond.initialized "java/lang/Math" ∈ gd_w ∧ Cond.code y c2 2 (some .int) ∈ gd_w
theorem x_max (h : xM own cc nL R l G ct P) {idx z k n : Nat} {x y : Int} (hw : Wm own idx Lib.Math.max.name Lib.Math.max.code) (hx1 : iR x) (hy1 : iR y) (hf : 1 ≤ R.frames) (hlo : (st.map fun v => v.category).sum + 13 ≤ R.locals) (hc : k ≤ R.cells ∧ n ≤ R.slots) (d : decode cc pc = .ok (.invokestatic idx, 3)) (kk : P (pc + 3) ls (.int (iI (if x < y then y else x)) :: st) w (z, k, n)) : P pc ls (.int (iI y) :: .int (iI x) :: st) w (z, k, n) := by
  obtain ⟨p, e, s, m, args, below, meth, c, Q, ⟨hx, hb, hml, hown, hts⟩, hK, hct, rfl⟩ := h
  intro H locs lsA h1 h2 h3 h4 h5
  refine va_mmax hx hb (hml.trans (h4.1.trans h5).symm) hown (hts _ hw.1) (hts _ hw.2.1) (hts _ hw.2.2.1) (hts _ hw.2.2.2) hf hlo hc.1 hc.2 d ?_
  have e1 : (if iI x < iI y then iI y else iI x) = iI (if x < y then y else x) := by
    have q := iI_lt hx1 hy1
    by_cases g : x < y
    · rw [if_pos g, if_pos (q.mpr g)]
    · rw [if_neg g, if_neg (fun z => g (q.mp z))]
  rw [e1]
  exact kk H locs lsA h1 h2 h3 h4 h5
theorem x_min (h : xM own cc nL R l G ct P) {idx z k n : Nat} {x y : Int} (hw : Wm own idx Lib.Math.min.name Lib.Math.min.code) (hx1 : iR x) (hy1 : iR y) (hf : 1 ≤ R.frames) (hlo : (st.map fun v => v.category).sum + 13 ≤ R.locals) (hc : k ≤ R.cells ∧ n ≤ R.slots) (d : decode cc pc = .ok (.invokestatic idx, 3)) (kk : P (pc + 3) ls (.int (iI (if y < x then y else x)) :: st) w (z, k, n)) : P pc ls (.int (iI y) :: .int (iI x) :: st) w (z, k, n) := by
  obtain ⟨p, e, s, m, args, below, meth, c, Q, ⟨hx, hb, hml, hown, hts⟩, hK, hct, rfl⟩ := h
  intro H locs lsA h1 h2 h3 h4 h5
  refine va_mmin hx hb (hml.trans (h4.1.trans h5).symm) hown (hts _ hw.1) (hts _ hw.2.1) (hts _ hw.2.2.1) (hts _ hw.2.2.2) hf hlo hc.1 hc.2 d ?_
  have e1 : (if iI y < iI x then iI y else iI x) = iI (if y < x then y else x) := by
    have q := iI_lt hy1 hx1
    by_cases g : y < x
    · rw [if_pos g, if_pos (q.mpr g)]
    · rw [if_neg g, if_neg (fun z => g (q.mp z))]
  rw [e1]
  exact kk H locs lsA h1 h2 h3 h4 h5
def Wa (own : String) (idx : Nat) : Prop := Cond.methodLink own idx arraycopyName ∈ gd_w ∧ Cond.native arraycopyName ∈ gd_w ∧ Cond.static arraycopyName ∈ gd_w ∧ Cond.initialized "java/lang/System" ∈ gd_w
def fC {α : Type} (f g : Int → α) (n : Int) : Int → α := fun j => if 0 ≤ j ∧ j < n then f j else g j
/-- System.arraycopy(f, 0, g, 0, x) -/
theorem x_copyI (h : xM own cc nL R l G ct P) {idx r0 r1 n0 n1 : Nat} {f g : Int → Int} {x : Int} (hw : Wa own idx) (h0 : w r0 = some (aI G n0 f)) (hr : w r1 = some (aI G n1 g)) (hx0 : 0 ≤ x ∧ x ≤ 2147483647) (hx1 : x ≤ n0) (hx2 : x ≤ n1) (hf : 1 ≤ R.frames) (hlo : (st.map fun v => v.category).sum + (nativeFrameWords "java/lang/System" "arraycopy" 5 + 11) ≤ R.locals) (d : decode cc pc = .ok (.invokestatic idx, 3)) (kk : P (pc + 3) ls st (wS w r1 (aI G n1 (fC f g x))) a) : P pc ls (.int (iI x) :: .int (iI 0) :: .ref r1 :: .int (iI 0) :: .ref r0 :: st) w a := by
  obtain ⟨p, e, s, m, args, below, meth, c, Q, ⟨hx, hb, hml, hown, hts⟩, hK, hct, rfl⟩ := h
  intro H locs lsA h1 h2 h3 h4 h5
  have hz : (iI 0).toNatClampNeg = 0 := rfl
  have hzi : (iI 0).toInt = 0 := rfl
  have hxi : (iI x).toInt = x := iI_toInt ⟨by omega, hx0.2⟩
  have hxn : (iI x).toNatClampNeg = x.toNat := iI_clamp hx0.1 hx0.2
  obtain ⟨c0, -⟩ := h1 _ _ h0
  obtain ⟨c1, hb1⟩ := h1 _ _ hr
  have c0 : H[r0]? = some (arrV (G.2.1 0) n0 (fun j => .int (iI (f j)))) := c0
  have c1 : H[r1]? = some (arrV (G.2.1 0) n1 (fun j => .int (iI (g j)))) := c1
  intro T hT X
  obtain ⟨-, k0, hk0, cm0, hkk0⟩ := (hK.1.2 0 _ rfl).1 n0 (fun j => .int (iI (f j)))
  obtain ⟨-, k1, hk1, cm1, hkk1⟩ := (hK.1.2 0 _ rfl).1 n1 (fun j => .int (iI (g j)))
  have e2 := va_copied (fun z : Int32 => .int z) (G.2.1 0) (G.2.1 0) (n0 := n0) (n1 := n1) (sp := 0) (dp := 0) (n := x.toNat) (fun j => iI (f j)) (fun j => iI (g j)) (by omega)
  have e3 : (fun j : Nat => Value.int (va_cpy (fun j : Nat => iI (f j)) (fun j : Nat => iI (g j)) 0 0 x.toNat j)) = fun j : Nat => Value.int (iI (fC f g x j)) := by
    funext j
    congr 1
    unfold fC va_cpy
    by_cases hj : (j : Int) < x
    · rw [if_pos ⟨by omega, by omega⟩, if_pos ⟨by omega, hj⟩]
      congr 2
      omega
    · rw [if_neg (by omega), if_neg (by omega)]
  rw [e3] at e2
  obtain ⟨vm1, X1, step⟩ := X.arraycopy hx hown (hts _ hw.1) (hts _ hw.2.1) (hts _ hw.2.2.1) (hts _ hw.2.2.2) (src := r0) (dst := r1) (srcPos := iI 0) (destPos := iI 0) (n := iI x) (by rw [hT]; exact c0) (by rw [hT]; exact c1)
    (fun _ h => by cases h) (fun _ h => by cases h) (fun h => by cases h) (fun h => by cases h) hk0 hk1 hkk0 hkk1 rfl (by decide) (by decide) (iI_nn hx0.1 hx0.2) (by rw [hzi, hxi, arrV_size]; omega) (by rw [hzi, hxi, arrV_size]; omega)
    (fun vm2 _ i hi => by
      rw [hxn] at hi
      have e : (arrV (G.2.1 0) n0 (fun j => .int (iI (f j)))).slots.getD ((iI 0).toNatClampNeg + i) .null = .int (iI (f i)) := by
        rw [Array.getD_eq_getD_getElem?, hz, Nat.zero_add, arrV_read _ _ (by omega)]
        rfl
      rw [e]
      exact ⟨rfl, trivial⟩)
    (g := F0 m pc lsA (.int (iI x) :: .int (iI 0) :: .ref r1 :: .int (iI 0) :: .ref r0 :: st)) rfl (by rw [hml]; exact h4.1.trans h5) (rest := st) rfl (by rw [hb]; exact d) hf (by show 2 * 0 + _ + _ ≤ _; omega)
  have e4 : copied (arrV (G.2.1 0) n0 (fun j => .int (iI (f j)))) (arrV (G.2.1 0) n1 (fun j => .int (iI (g j)))) (iI 0) (iI 0) (iI x) = arrV (G.2.1 0) n1 (fun j => .int (iI (fC f g x j))) := by
    unfold copied
    rw [hz, hxn]
    exact e2
  rw [e4] at X1 step
  have hlt : r1 < H.size := (Array.getElem?_eq_some_iff.mp c1).1
  have oq : ∀ q : Nat, q ≠ r1 → (H.setIfInBounds r1 (arrV (G.2.1 0) n1 (fun j => .int (iI (fC f g x j)))))[q]? = H[q]? := fun q hq => by simp [Array.getElem?_setIfInBounds, Ne.symm hq]
  obtain ⟨t, a1, b1⟩ := kk (H.setIfInBounds r1 (arrV (G.2.1 0) n1 (fun j => .int (iI (fC f g x j))))) _ lsA (gH_put h1 hr (show (H.setIfInBounds r1 _)[r1]? = some _ by simp [Array.getElem?_setIfInBounds, hlt]; rfl) oq) (by rw [Array.size_setIfInBounds]; exact h2) ⟨by rw [Array.size_setIfInBounds]; exact h3.1, fun q g1 g2 => by
      rw [oq q (fun e => g2 (by rw [e]; exact hb1))]
      exact h3.2.1 q g1 g2, fun q hq => by
      rcases List.mem_append.mp hq with h | h
      · exact h3.2.2 q h
      · obtain ⟨z, -, hz⟩ := List.mem_map.mp h
        rw [← hz]
        exact hb1⟩ h4 h5 _ (by rw [← hT]; rfl) X1
  exact ⟨t, step t a1, b1⟩
/-- System.arraycopy(f, 0, g, 0, x) -/
theorem x_copyJ (h : xM own cc nL R l G ct P) {idx r0 r1 n0 n1 : Nat} {f g : Int → Int64} {x : Int} (hw : Wa own idx) (h0 : w r0 = some (aJ G n0 f)) (hr : w r1 = some (aJ G n1 g)) (hx0 : 0 ≤ x ∧ x ≤ 2147483647) (hx1 : x ≤ n0) (hx2 : x ≤ n1) (hf : 1 ≤ R.frames) (hlo : (st.map fun v => v.category).sum + (nativeFrameWords "java/lang/System" "arraycopy" 5 + 11) ≤ R.locals) (d : decode cc pc = .ok (.invokestatic idx, 3)) (kk : P (pc + 3) ls st (wS w r1 (aJ G n1 (fC f g x))) a) : P pc ls (.int (iI x) :: .int (iI 0) :: .ref r1 :: .int (iI 0) :: .ref r0 :: st) w a := by
  obtain ⟨p, e, s, m, args, below, meth, c, Q, ⟨hx, hb, hml, hown, hts⟩, hK, hct, rfl⟩ := h
  intro H locs lsA h1 h2 h3 h4 h5
  have hz : (iI 0).toNatClampNeg = 0 := rfl
  have hzi : (iI 0).toInt = 0 := rfl
  have hxi : (iI x).toInt = x := iI_toInt ⟨by omega, hx0.2⟩
  have hxn : (iI x).toNatClampNeg = x.toNat := iI_clamp hx0.1 hx0.2
  obtain ⟨c0, -⟩ := h1 _ _ h0
  obtain ⟨c1, hb1⟩ := h1 _ _ hr
  have c0 : H[r0]? = some (arrV (G.2.1 1) n0 (fun j => .long ( (f j)))) := c0
  have c1 : H[r1]? = some (arrV (G.2.1 1) n1 (fun j => .long ( (g j)))) := c1
  intro T hT X
  obtain ⟨-, k0, hk0, cm0, hkk0⟩ := (hK.1.2 1 _ rfl).1 n0 (fun j => .long ( (f j)))
  obtain ⟨-, k1, hk1, cm1, hkk1⟩ := (hK.1.2 1 _ rfl).1 n1 (fun j => .long ( (g j)))
  have e2 := va_copied (fun z : Int64 => .long z) (G.2.1 1) (G.2.1 1) (n0 := n0) (n1 := n1) (sp := 0) (dp := 0) (n := x.toNat) (fun j =>  (f j)) (fun j =>  (g j)) (by omega)
  have e3 : (fun j : Nat => Value.long (va_cpy (fun j : Nat =>  (f j)) (fun j : Nat =>  (g j)) 0 0 x.toNat j)) = fun j : Nat => Value.long ((fC f g x j)) := by
    funext j
    congr 1
    unfold fC va_cpy
    by_cases hj : (j : Int) < x
    · rw [if_pos ⟨by omega, by omega⟩, if_pos ⟨by omega, hj⟩]
      congr 2
      omega
    · rw [if_neg (by omega), if_neg (by omega)]
  rw [e3] at e2
  obtain ⟨vm1, X1, step⟩ := X.arraycopy hx hown (hts _ hw.1) (hts _ hw.2.1) (hts _ hw.2.2.1) (hts _ hw.2.2.2) (src := r0) (dst := r1) (srcPos := iI 0) (destPos := iI 0) (n := iI x) (by rw [hT]; exact c0) (by rw [hT]; exact c1)
    (fun _ h => by cases h) (fun _ h => by cases h) (fun h => by cases h) (fun h => by cases h) hk0 hk1 hkk0 hkk1 rfl (by decide) (by decide) (iI_nn hx0.1 hx0.2) (by rw [hzi, hxi, arrV_size]; omega) (by rw [hzi, hxi, arrV_size]; omega)
    (fun vm2 _ i hi => by
      rw [hxn] at hi
      have e : (arrV (G.2.1 1) n0 (fun j => .long ( (f j)))).slots.getD ((iI 0).toNatClampNeg + i) .null = .long ( (f i)) := by
        rw [Array.getD_eq_getD_getElem?, hz, Nat.zero_add, arrV_read _ _ (by omega)]
        rfl
      rw [e]
      exact ⟨rfl, trivial⟩)
    (g := F0 m pc lsA (.int (iI x) :: .int (iI 0) :: .ref r1 :: .int (iI 0) :: .ref r0 :: st)) rfl (by rw [hml]; exact h4.1.trans h5) (rest := st) rfl (by rw [hb]; exact d) hf (by show 2 * 0 + _ + _ ≤ _; omega)
  have e4 : copied (arrV (G.2.1 1) n0 (fun j => .long ( (f j)))) (arrV (G.2.1 1) n1 (fun j => .long ( (g j)))) (iI 0) (iI 0) (iI x) = arrV (G.2.1 1) n1 (fun j => .long ( (fC f g x j))) := by
    unfold copied
    rw [hz, hxn]
    exact e2
  rw [e4] at X1 step
  have hlt : r1 < H.size := (Array.getElem?_eq_some_iff.mp c1).1
  have oq : ∀ q : Nat, q ≠ r1 → (H.setIfInBounds r1 (arrV (G.2.1 1) n1 (fun j => .long ( (fC f g x j)))))[q]? = H[q]? := fun q hq => by simp [Array.getElem?_setIfInBounds, Ne.symm hq]
  obtain ⟨t, a1, b1⟩ := kk (H.setIfInBounds r1 (arrV (G.2.1 1) n1 (fun j => .long ( (fC f g x j))))) _ lsA (gH_put h1 hr (show (H.setIfInBounds r1 _)[r1]? = some _ by simp [Array.getElem?_setIfInBounds, hlt]; rfl) oq) (by rw [Array.size_setIfInBounds]; exact h2) ⟨by rw [Array.size_setIfInBounds]; exact h3.1, fun q g1 g2 => by
      rw [oq q (fun e => g2 (by rw [e]; exact hb1))]
      exact h3.2.1 q g1 g2, fun q hq => by
      rcases List.mem_append.mp hq with h | h
      · exact h3.2.2 q h
      · obtain ⟨z, -, hz⟩ := List.mem_map.mp h
        rw [← hz]
        exact hb1⟩ h4 h5 _ (by rw [← hT]; rfl) X1
  exact ⟨t, step t a1, b1⟩
end XC
