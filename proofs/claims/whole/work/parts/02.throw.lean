/-! THROWS: contracts of methods that end by a throw, the row that throws a new exception, calls that throw on, calls whose throw is caught. -/
/-- no stack traces in this launch -/
theorem tx_off {l : Launch} {e : Env} (hl : l.flags = flags0) (ha : l.admits e) : e.platform.stackTraces = false := by
  have h : e.platform.stackTraces = l.stackTraces := by rw [ha.platform]
  rw [h]
  unfold Launch.stackTraces
  rw [hl]
  decide +kernel
/-- what an invocation leaves, returned or thrown -/
def tx_FE (first t : State) (L : List Loc) (k n : Nat) : Prop := first.WarmedH t.vm ∧ first.sameButNew ({ t with vm := first.vm } : State) L k n
/-- it threw a new object of the class E; nothing outside A changed -/
def tx_Q (E : String) (A : Nat → Prop) (B : Heap → Prop) (st : State) (o : Outcome) (t : State) : Prop :=
  ((∃ (y : Addr) (ce : Cell), o = .threw y ∧ st.heap.size ≤ y ∧ t.heap[y]? = some ce ∧ ce.vm.isStatics = false ∧ st.vm.findClass E = some ce.cls) ∧ va_F A st t) ∧ B t.heap
def MeT (l : Launch) (y : MethodName) (ws : List Cond) (rm : Room) (Pc : Array Value → State → Prop) (E : String) (A : Nat → Prop) (B : Heap → Prop) (mc ms : Nat) : Prop :=
  MetFree l y (headSpec ws rm) Pc (fun _ _ _ _ _ => True) (fun _ st o t => tx_Q E A B st o t ∧ ∃ L, tx_FE st t L mc ms ∧ ∀ q ∈ L, A q.base)
def tx_MQ (below : List Frame) (E : String) (A : Nat → Prop) (B : Heap → Prop) (s : State) (mc ms : Nat) : State → Prop := fun t =>
  ∃ o, t.status = .running ∧ Ended t below o ∧ tx_Q E A B s o t ∧ ∃ L, tx_FE s t L mc ms ∧ ∀ q ∈ L, A q.base
theorem MeT.ofW {l : Launch} {y : MethodName} {ws ws' : List Cond} {rm : Room} {Pc : Array Value → State → Prop} {E : String} {A : Nat → Prop} {Bw : Heap → Prop} {mc ms : Nat} {cc : ByteArray} {maxL : Nat} {ret : Option FieldType}
    (hy : plainName y.cls = true) (hw : ws = Cond.code y cc maxL ret :: ws')
    (body : ∀ p e s m args below meth c s₁, BodyLoose p l y (headSpec ws rm) cc maxL ret e s m args below meth c s₁ → c.maxLocals = maxL → c.exceptionTable.isEmpty = true → Pc args s →
      W p l e (headSpec ws rm).room s m args below meth c s.heap [] 0 0 (tx_MQ below E A Bw s mc ms) (entryFrame m args maxL)) : MeT l y ws rm Pc E A Bw mc ms := by
  refine MetFree.of_bodyS (code := cc) (maxLocals := maxL) (ret := ret) hy ?_ ?_
  · intro args s m h hn
    obtain ⟨meth, c, h1, h2, h3, h4, h5, h6, -, -⟩ := Cond.code_spec hn (atoms_spec (ws := ws) h _ (by rw [hw]; exact List.mem_cons_self))
    exact ⟨meth, c, h1, h2, h3, h4, h5, h6⟩
  · intro p e s m args below meth c s₁ B hml hP _
    have hh0 : s₁.heap = s.heap := by rw [B.state]; rfl
    have hno := B.noHandlers (atoms_spec (ws := ws) B.pre _ (by rw [hw]; exact List.mem_cons_self))
    obtain ⟨t, a1, o, b1, b2, b3⟩ := body p e s m args below meth c s₁ B hml hno hP s₁ hh0 (Stand.of_body B)
    exact ⟨t, o, a1, b1, b2, b3⟩
theorem tx_keep {s U : State} {locs : List Loc} {cells slots : Nat} {A : Nat → Prop} (h : s.sameButNew U locs cells slots) (hL : ∀ q ∈ locs, A q.base) : s.heap.size ≤ U.heap.size ∧ ∀ q : Nat, q < s.heap.size → ¬ A q → U.heap[q]? = s.heap[q]? := by
  obtain ⟨-, h1, -, -, -, h2⟩ := h
  refine ⟨h1, fun q hq hn => ?_⟩
  obtain ⟨c', e1, e2, e3, e4⟩ := h2 q _ (Array.getElem?_eq_getElem hq)
  rw [e1, Array.getElem?_eq_getElem hq, e2]
  congr 1
  have hs : c'.slots = s.heap[q].slots := by
    apply Array.ext_getElem?
    intro i
    exact e4 i (fun hm => hn (hL _ hm))
  rw [hs]
section TXT
variable {p : Program} {l : Launch} {e : Env} {R : Room} {s : State} {m : MethodId} {args : Array Value} {below : List Frame} {meth : Method} {c : Code} {H : Heap} {locs : List Loc} {cells slots : Nat} {Q : State → Prop}
variable {pc : Nat} {ls : Array Slot} {rest : List Value} {A : Nat → Prop}
theorem tx_noH (hx : c.exceptionTable.isEmpty = true) (k : Nat) : ∀ y ∈ c.exceptionTable.toList, covers y k = false := by
  have h0 : c.exceptionTable.size = 0 := by simpa [Array.isEmpty] using hx
  have h1 : c.exceptionTable.toList = [] := List.eq_nil_of_length_eq_zero (by simpa using h0)
  intro y hy
  rw [h1] at hy
  cases hy
/-- no cell that A names is a class's statics -/
def tx_NS (A : Nat → Prop) (s : State) : Prop := ∀ (q : Nat) (cell : Cell), A q → s.heap[q]? = some cell → cell.vm.isStatics = false
/-- new E(); throw it: the end of a method without handlers -/
theorem tx_throw0 {cc : ByteArray} (hl : l.flags = flags0) (hexec : p.tables.exec = Jvm.exec) (hb : c.code = cc) (hx : c.exceptionTable.isEmpty = true) (hlocks : meth.locks = false) {own E : String} {ia ic : Nat} {names : List String}
    (hown : s.vm.findClass own = some m.cls) (hE : Bundle.fit E = true) (hn : ∀ n ∈ names, Bundle.fit n = true) (hat : ∀ a ∈ Bundle.ownAtoms0 own ic E names, a.before args s = true)
    (hcl : (Cond.classLink own ia E).before args s = true) (hini : (Cond.initialized E).before args s = true)
    (hd0 : decode cc pc = .ok (.new ia, 3)) (hd3 : decode cc (pc + 3) = .ok (.dup, 1)) (hd4 : decode cc (pc + 4) = .ok (.invokespecial ic, 3)) (hd7 : decode cc (pc + 7) = .ok (.athrow, 1))
    (hsz : ls.size = c.maxLocals) (hS : va_S A s.heap H locs) (hA : ∀ q, s.heap.size ≤ q → A q) (hNS : tx_NS A s)
    (hc : cells + 1 ≤ R.cells) (hs6 : slots + 6 ≤ R.slots) (hRf : names.length + 3 < R.frames) (hRl : (rest.map fun v => v.category).sum + (13 * (names.length + 1) + 42) ≤ R.locals) :
    W p l e R s m args below meth c H locs cells slots (tx_MQ below E A (fun _ => True) s (cells + 1) (slots + 6)) (F0 m pc ls rest) := by
  have hins : (Cond.instantiable E 6).before args s = true := hat _ (by simp [Bundle.ownAtoms0])
  obtain ⟨cX, kX0, hfX, hk0, -⟩ := Cond.instantiable_spec (show (Cond.instantiable E 6).holds args s none s [] = true from hins)
  refine W.newcK (n := 6) hexec hb hown hcl hins hini (g := F0 m pc ls rest) rfl hd0 hc hs6 (cC := cX) hfX (h := H.size) rfl fun H' kC hkC e1 e2 e3 => ?_
  refine lv_dup hexec hb hd3 rfl ?_
  intro T hT X
  have hlocs : ∀ y ∈ locs, ∀ cell, s.heap[y.base]? = some cell → cell.vm.isStatics = false := fun y hy cell h => hNS y.base cell (hS.2.2 y hy) h
  obtain ⟨U, st, hrun, hend, hW, hsame, ce, hce, hO⟩ := X.ctorThrow0 hexec (tx_off hl X.admits) hown hE hn hat hlocs (a := H.size) hfX hkC (by rw [hT]; exact e1) hS.1
    (g := F0 m (pc + 3 + 1) ls (.ref H.size :: .ref H.size :: rest)) rfl (by exact hsz) rfl rfl rfl (by rw [hb]; exact hd4) (by rw [hb]; exact hd7) (tx_noH hx _) hRf
    (by
      show 2 * (F0 m (pc + 3 + 1) ls (.ref H.size :: .ref H.size :: rest)).monitorRoom + ((Value.ref H.size :: rest).map fun v => v.category).sum + (13 * (names.length + 1) + 41) ≤ R.locals
      have h1 : (F0 m (pc + 3 + 1) ls (.ref H.size :: .ref H.size :: rest)).monitorRoom = 0 := rfl
      have h2 : (Value.ref H.size).category = 1 := rfl
      rw [h1, List.map_cons, List.sum_cons, h2]
      omega) hlocks
  have hk := tx_keep hsame hS.2.2
  exact ⟨U, st, .threw H.size, hrun, hend, ⟨⟨⟨H.size, ce, rfl, hS.1, hce, by rw [hO.vm]; rfl, hO.cls⟩, hk.1, hk.2⟩, trivial⟩, locs, ⟨hW, hsame⟩, fun q hq => hS.2.2 q hq⟩
theorem st_own {s t : State} {L : List Loc} {k n : Nat} (h : s.sameButNew t L k n) : t.setFrames t.frames = t := by
  have h1 := h.1
  have h3 : ∀ (u : State) (fs : List Frame) (hp : Heap) (su : Nat), ({ u with heap := hp, slotsUsed := su } : State).setFrames fs = ({ u.setFrames fs with heap := hp, slotsUsed := su } : State) := fun _ _ _ _ => rfl
  have h2 : t.setFrames t.frames = ({ s.setFrames t.frames with heap := t.heap, slotsUsed := t.slotsUsed } : State).setFrames t.frames := congrArg (fun x => State.setFrames x t.frames) h1
  rw [h2, h3, State.setFrames_setFrames]
  exact h1.symm
/-- the state at hand as a new start: the invocation as if it were made there -/
theorem st_rebase {T : State} {R2 : Room} (X : Stand p l e R s m args below meth c T locs cells slots) (hf : R2.frames ≤ R.frames) (hl : R2.locals ≤ R.locals) (hc : cells + R2.cells ≤ R.cells) (hs : slots + R2.slots ≤ R.slots) :
    Stand p l e R2 (T.setFrames (.invoking m args :: below)) m args below meth c T [] 0 0 := by
  obtain ⟨g₀, hfr⟩ := X.frames_eq
  have hcur : T.cur < T.threads.size := State.cur_lt_of_frames hfr
  have hF : (T.setFrames (.invoking m args :: below)).frames = .invoking m args :: below := State.frames_setFrames _ hcur
  have hown : T.setFrames T.frames = T := congrArg (fun x => State.setVm x T.vm) (st_own X.same)
  refine ⟨X.admits, X.cas, X.clock, hF, ?_, ?_, X.method', X.code, X.here, X.tail, State.WarmedH.refl _, (State.stackLimits_setFrames _ _ _).symm, (State.stackBytes_setFrames _ _).symm, ?_⟩
  · have h := X.room
    have e1 : (T.setFrames (.invoking m args :: below)).localsInUse = s.localsInUse := by
      rw [State.localsInUse_invoking hF X.method' X.code, State.localsInUse_invoking X.frames X.method X.code]
    have e2 : (T.setFrames (.invoking m args :: below)).frames.length = s.frames.length := by rw [hF, X.frames]
    have e3 : (T.setFrames (.invoking m args :: below)).heap.size ≤ s.heap.size + cells := X.heapSize
    have e4 : (T.setFrames (.invoking m args :: below)).slotsUsed ≤ s.slotsUsed + slots := X.used
    have e5 : (T.setFrames (.invoking m args :: below)).slotsTrue = true := X.book
    have e6 := State.stackLimits_setFrames e.platform T (.invoking m args :: below)
    have e7 := State.stackBytes_setFrames T (.invoking m args :: below)
    simp only [State.hasRoom, Bool.and_eq_true, decide_eq_true_eq] at h ⊢
    rw [e1, e2, e6, e7, X.limits, X.bytes]
    obtain ⟨⟨⟨⟨h1, h2, h3, h4, h5, h6⟩, h7⟩, h8⟩, -⟩ := h
    exact ⟨⟨⟨⟨by omega, by omega, by omega, by omega, by omega, h6⟩, by omega⟩, by omega⟩, e5⟩
  · have h := X.hears
    have hal := X.warmed.alike
    rcases below with _ | ⟨y, r⟩
    · have : (T.setFrames [.invoking m args]).vm = T.vm := rfl
      simp only [State.hears] at h ⊢
      rw [this, hal.method?]
      exact h
    · cases y <;> first | rfl | (simp only [State.hears] at h ⊢; first | (rw [State.code?_eq] at h ⊢; rw [show ∀ x, (T.setFrames (.invoking m args :: _ :: r)).vm.method? x = s.vm.method? x from fun x => hal.method? x]; exact h) | (rw [show ∀ x, (T.setFrames (.invoking m args :: _ :: r)).vm.method? x = s.vm.method? x from fun x => hal.method? x]; exact h))
  · have h0 : (T.setFrames (.invoking m args :: below)).setFrames T.frames = T := by rw [State.setFrames_setFrames]; exact hown
    obtain ⟨t, ht, -⟩ := State.frames_cons hF
    have h1 := (State.sameButNew.refl (T.setFrames (.invoking m args :: below)) ht).setFrames T.frames (State.cur_lt_of_frames hF)
    have h2 : (T.setFrames (.invoking m args :: below)).sameButNew T [] 0 0 := by
      have h3 := h1
      rw [h0] at h3
      exact h3
    exact h2
theorem st_off {A B : State} {F : List Frame} {locs : List Loc} {cells slots : Nat} (h : (A.setFrames F).sameButNew B locs cells slots) : A.sameButNew B locs cells slots := by
  obtain ⟨h1, h2⟩ := h
  rw [State.setFrames_setFrames] at h1
  exact ⟨h1, h2⟩
/-- new E(); throw it: and the world as it stands -/
theorem tx_throw {cc : ByteArray} (hl : l.flags = flags0) (hexec : p.tables.exec = Jvm.exec) (hb : c.code = cc) (hx : c.exceptionTable.isEmpty = true) (hlocks : meth.locks = false) {own E : String} {ia ic : Nat} {names : List String} {B : Heap → Prop}
    (hown : s.vm.findClass own = some m.cls) (hE : Bundle.fit E = true) (hn : ∀ n ∈ names, Bundle.fit n = true) (hat : ∀ U : State, s.WarmedH U.vm → s.heap.size ≤ U.heap.size → (∀ q : Nat, q < s.heap.size → ¬ A q → U.heap[q]? = s.heap[q]?) → ∀ a ∈ Bundle.ownAtoms0 own ic E names, a.before args U = true)
    (hcl : ∀ U : State, s.WarmedH U.vm → (Cond.classLink own ia E).before args U = true) (hini : ∀ U : State, s.WarmedH U.vm → (Cond.initialized E).before args U = true)
    (hd0 : decode cc pc = .ok (.new ia, 3)) (hd3 : decode cc (pc + 3) = .ok (.dup, 1)) (hd4 : decode cc (pc + 4) = .ok (.invokespecial ic, 3)) (hd7 : decode cc (pc + 7) = .ok (.athrow, 1))
    (hsz : ls.size = c.maxLocals) (hS : va_S A s.heap H locs) (hA : ∀ q, s.heap.size ≤ q → A q)
    (hc : cells + 1 ≤ R.cells) (hs6 : slots + 6 ≤ R.slots) (hRf : names.length + 3 < R.frames) (hRl : (rest.map fun v => v.category).sum + (13 * (names.length + 1) + 42) ≤ R.locals)
    (hB : ∀ H1 : Heap, (∀ q : Nat, q < H.size → H1[q]? = H[q]?) → B H1) :
    W p l e R s m args below meth c H locs cells slots (tx_MQ below E A B s (cells + 1) (slots + 6)) (F0 m pc ls rest) := by
  intro T hT X
  have X2 := st_rebase (R2 := { frames := R.frames, cells := 1, slots := 6, locals := R.locals }) X (Nat.le_refl _) (Nat.le_refl _) hc hs6
  have hal := X.warmed.alike
  have hW2 : s.WarmedH (T.setFrames (.invoking m args :: below)).vm := X.warmed
  have hTH : (T.setFrames (.invoking m args :: below)).heap = H := hT
  obtain ⟨t, a1, o, b1, b2, ⟨⟨⟨y, ce, c1, c2, c3, c4, c5⟩, c6, c7⟩, -⟩, L, ⟨d1, d2⟩, d3⟩ := tx_throw0 (R := { frames := R.frames, cells := 1, slots := 6, locals := R.locals }) (A := fun q => H.size ≤ q) (s := T.setFrames (.invoking m args :: below)) (H := H) (locs := []) (cells := 0) (slots := 0) hl hexec hb hx hlocks
    (by show T.vm.findClass own = some m.cls; rw [hal.findClass]; exact hown) hE hn
    (hat _ hW2 (by rw [hTH]; exact hS.1) (by rw [hTH]; exact hS.2.1)) (hcl _ hW2) (hini _ hW2) hd0 hd3 hd4 hd7 hsz
    ⟨by rw [hTH]; exact Nat.le_refl _, fun q _ _ => by rw [hTH], fun q hq => by simp at hq⟩ (fun q h => by rw [hTH] at h; exact h)
    (fun q cell h hc => by rw [hTH] at hc; exact absurd (Array.getElem?_eq_some_iff.mp hc).1 (Nat.not_lt.mpr h)) (Nat.le_refl _) (Nat.le_refl _) hRf hRl T hT X2
  rw [hTH] at c2 c6 c7
  have d2' : T.sameButNew ({ t with vm := T.vm } : State) L (0 + 1) (0 + 6) := st_off d2
  have d4 := X.same.trans (d2'.setVm s.vm)
  refine ⟨t, a1, o, b1, b2, ⟨⟨⟨y, ce, c1, Nat.le_trans hS.1 c2, c3, c4, ?_⟩, Nat.le_trans hS.1 c6, fun q h1 h2 => ?_⟩, hB _ (fun q hq => c7 q hq (Nat.not_le.mpr hq))⟩, locs ++ L, ⟨State.WarmedH.trans X.warmed d1, ?_⟩, ?_⟩
  · rw [← hal.findClass]; exact c5
  · rw [c7 q (Nat.lt_of_lt_of_le h1 hS.1) (Nat.not_le.mpr (Nat.lt_of_lt_of_le h1 hS.1))]; exact hS.2.1 q h1 h2
  · rw [Nat.zero_add, Nat.zero_add] at d4; exact d4
  · intro q hq
    rcases List.mem_append.mp hq with h | h
    · exact hS.2.2 q h
    · exact hA _ (Nat.le_trans hS.1 (d3 q h))
end TXT
