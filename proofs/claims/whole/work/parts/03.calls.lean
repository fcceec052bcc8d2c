/-! CALLS THAT THROW: out of a contract MeT: what comes behind the callee's throw, in the caller. -/
section TXB
variable {p : Program} {l : Launch} {e : Env} {R : Room} {s : State} {m : MethodId} {args : Array Value} {below : List Frame} {meth : Method} {c : Code} {H : Heap} {locs : List Loc} {cells slots : Nat} {Q : State → Prop}
/-- behind the callee's throw: the caller stands again, the note lies over its frame -/
def tx_Thr (p : Program) (l : Launch) (e : Env) (R : Room) (s : State) (m : MethodId) (args : Array Value) (below : List Frame) (meth : Method) (c : Code) (H : Heap) (locs : List Loc) (cells slots mc ms : Nat) (g : JFrame) (rest : List Value) (E : String) (A : Nat → Prop) (B : Heap → Prop) : Prop :=
  ∀ T : State, T.heap = H → Stand p l e R s m args below meth c T locs cells slots → ∃ (y : Addr) (ce : Cell) (T' : State) (L : List Loc), Stand p l e R s m args below meth c T' (locs ++ L) (cells + mc) (slots + ms) ∧ (∀ q ∈ L, A q.base) ∧ H.size ≤ y ∧ T'.heap[y]? = some ce ∧ ce.vm.isStatics = false ∧ s.vm.findClass E = some ce.cls ∧ H.size ≤ T'.heap.size ∧ (∀ q : Nat, q < H.size → ¬ A q → T'.heap[q]? = H[q]?) ∧ B T'.heap ∧
    ∀ target, Steps p.tables e below ((T'.setTop { g with stack := rest }).pushFrame (.throwing y)) target → Steps p.tables e below (T.setTop g) target
set_option maxHeartbeats 1000000 in
theorem tx_back {y : MethodName} {ws : List Cond} {rm : Room} {Pc : Array Value → State → Prop} {E : String} {A : Nat → Prop} {Bw : Heap → Prop} {mc ms wd : Nat} {bytes : ByteArray} {maxL : Nat} {ret : Option FieldType}
    (hM : MeT l y ws rm Pc E A Bw mc ms) (hblind : FrameBlind Pc) (hrc : rm.cells = mc) (hrs : rm.slots = ms) (hframes : rm.frames + 1 ≤ R.frames) (hlocals : wd + (maxL + 11) + rm.locals ≤ R.locals)
    (hws : ∀ w ∈ ws, ∀ a' U, s.WarmedH U.vm → w.before a' U = true) (hcode : Cond.code y bytes maxL ret ∈ ws) (hinit : ∀ a' U, s.WarmedH U.vm → (Cond.initialized y.cls).before a' U = true)
    {U : State} {g : JFrame} {ig : Instr} {len : Nat} {mk : MethodId} {a : Array Value} (X : Stand p l e R s m args below meth c U locs cells slots) (hg : g.method = m) (hsize : g.locals.size = c.maxLocals) (hdg : decode c.code g.pc = .ok (ig, len))
    (hW : 2 * g.monitorRoom + (g.stack.map fun v => v.category).sum ≤ wd) (hn : U.methodNamed? y = some mk) (hcl : cells + mc ≤ R.cells) (hsl : slots + ms ≤ R.slots) (hPc : Pc a U) :
    ∃ (z : Addr) (t T' : State) (L : List Loc), Stand p l e R s m args below meth c T' (locs ++ L) (cells + mc) (slots + ms) ∧ (∀ q ∈ L, A q.base) ∧ T'.heap = t.heap ∧ tx_Q E A Bw (U.calling g mk a) (.threw z) t ∧
      Steps p.tables e below (doInvoke e (U.setTop g) [] mk a).1 ((T'.setTop g).pushFrame (.throwing z)) := by
  have h1 : (headSpec ws rm).pre.before a U = true := atoms_intro fun w hw => hws w hw _ _ X.warmed
  have h2 : (Cond.code y bytes maxL ret).before a U = true := hws _ hcode _ _ X.warmed
  have h3 := hinit a U X.warmed
  obtain ⟨methY, cY, hmY, hcY, -, hlY, -, -, -, -⟩ := Cond.code_spec hn h2
  obtain ⟨kY, hkY, -⟩ := className_of_methodNamed hn
  have hinitY : kY.init = .initialized := Cond.initialized_spec (findClass_of_methodNamed hn) hkY h3
  have h : At U g.method c below := by rw [hg]; exact X.here
  have hz : (headSpec ws rm).room.locals = rm.locals := rfl
  have happ : (headSpec ws rm).appliesLoose y e.platform (U.calling g mk a) = true :=
    Spec.appliesLoose_calling (g := g) h hdg hn hkY hinitY
      (X.room_calling (g := g) (R' := (headSpec ws rm).room) hsize hmY hcY hframes (by rw [hlY, hz]; omega) (by show cells + rm.cells ≤ R.cells; omega) (by show slots + rm.slots ≤ R.slots; omega)) h1
  obtain ⟨mid, hmid⟩ := h.above
  have hfr : (U.setTop g).frames = (.java g :: mid) ++ below := by rw [State.frames_setTop' g h.top, hmid]; rfl
  obtain ⟨o, s₂, hsteps, -, hend, hq, L, hFE, hL⟩ := Steps.callFree hM p X.admits X.cas X.clock (acts := []) hfr happ (hblind _ _ _ _ hPc) trivial
  obtain ⟨⟨⟨z, ce, rfl, hz1, hz2, hz3, hz4⟩, hF⟩, hBw⟩ := id hq
  rw [State.frames_setTop' g h.top, X.tail] at hend
  obtain ⟨T', X', -, -, ht⟩ := X.outOfThrown hg (mk := mk) (a := a) (t := s₂) (x := z) (L := L) (k := mc) (n := ms) hend hFE.1 hFE.2
  refine ⟨z, s₂, T', L, X', hL, ?_, hq, ?_⟩
  · rw [ht]
    rfl
  · rw [← ht]
    exact hsteps
variable {cc bytes : ByteArray} {nL maxL index n mc ms : Nat} {own C : String} {y : MethodName} {ret : Option FieldType} {ws : List Cond} {rm : Room} {Pc : Array Value → State → Prop} {E : String} {A : Nat → Prop} {Bw : Heap → Prop} {Ts : List Cond} {b : Addr} {As rest : List Value} {g : JFrame}
/-- a call of an instance method that throws -/
theorem tx_runV (S : CallFix p m c cc nL s args Ts own) (hM : MeT l y ws rm Pc E A Bw mc ms) (cw : CallW R s args own C index y bytes maxL ret ws rm mc ms n) (hp : PreV s H C b Pc As)
    (hg : g.method = m) (hn : As.length = n) (hsize : g.locals.size = nL) (hstack : g.stack = As.reverse ++ .ref b :: rest) (hW : 2 * g.monitorRoom + (rest.map fun v => v.category).sum ≤ 8) (hdg : decode cc g.pc = .ok (.invokevirtual index, 3)) (hf : cells + mc ≤ R.cells ∧ slots + ms ≤ R.slots) :
    tx_Thr p l e R s m args below meth c H locs cells slots mc ms g rest E A Bw := by
  obtain ⟨⟨hrc, hrs, hfr, hlo, hws, hcw, hcode, hini, hy, hlen, hlk⟩, hin, hse⟩ := cw
  obtain ⟨hx, hb, hml, hown, -⟩ := S
  obtain ⟨hbl, ⟨cellB, hcB, hoB, hclB⟩, hPc⟩ := hp
  intro T hT X
  obtain ⟨mk, methM, hnamed, hmethM, hstM, habM⟩ := Cond.instanceMethod_spec hin
  obtain ⟨methM', cM, hmethM', -, -, -, -, -, -, hsigM⟩ := Cond.code_spec hnamed hcode
  cases hmethM.symm.trans hmethM'
  obtain ⟨c2, r2, m2, q1, q2, q3, q4, kP, hkP, hkPi⟩ := Cond.selects_spec hse
  cases hclB.symm.trans q1
  cases (State.methodFound?_of_named hnamed hy).symm.trans q2
  cases hnamed.symm.trans q3
  have hselP : selectMethod e.platform s.vm cellB.cls mk = .method mk := by rw [Launch.admits_selectMethod X.admits]; exact q4
  obtain ⟨vm₁, X₁, hstep₁⟩ := X.invokevirtual hx hown hlk hnamed hmethM hstM hkP hkPi hy (a := b) (cell := cellB) (by rw [hT]; exact hcB)
    (fun z h => by rw [h] at hoB; cases hoB) hselP hmethM habM hkP hkPi (g := g) hg (argsL := As) (rest := rest) (hn.trans (hlen _ hsigM)) hstack (by rw [hb]; exact hdg)
  obtain ⟨z, t, T', L, X', hL, e1, hq, hsteps⟩ := tx_back (wd := 8) (bytes := bytes) (maxL := maxL) (ret := ret) hM hbl hrc hrs hfr hlo hws hcw (fun a' U hW => word_at hW (Or.inl (by first | rfl | simp [Cond.onTables, Cond.keeps, Cond.steady])) hini)
    X₁ (g := { g with stack := rest }) (a := (Value.ref b :: As).toArray) hg (hsize.trans hml.symm) (by rw [hb]; exact hdg) hW (X₁.named hnamed) hf.1 hf.2 (hPc _ hT X₁.warmed)
  obtain ⟨⟨⟨z', ce, hz0, hz1, hz2, hz3, hz4⟩, hF1, hF2⟩, hBw⟩ := hq
  cases hz0
  have hh : ((T.setVm vm₁).calling { g with stack := rest } mk (Value.ref b :: As).toArray).heap = H := hT
  rw [hh] at hz1 hF1 hF2
  have hal : s.vm.Alike vm₁ := X₁.warmed.alike
  refine ⟨z, ce, T', L, X', hL, hz1, by rw [e1]; exact hz2, hz3, ?_, by rw [e1]; exact hF1, fun q h1 h2 => by rw [e1]; exact hF2 q h1 h2, by rw [e1]; exact hBw, fun target h => hstep₁ _ fun acts => by rw [doInvoke_state]; exact hsteps.trans h⟩
  rw [← hal.findClass]
  exact hz4
/-- the caller has no handlers: it throws on -/
theorem tx_on {pc : Nat} {ls : Array Slot} {st0 : List Value} {A0 : Nat → Prop} (hr : tx_Thr p l e R s m args below meth c H locs cells slots mc ms (F0 m pc ls st0) rest E A Bw) (hx : c.exceptionTable.isEmpty = true) (hlocks : meth.locks = false)
    (hS : va_S A0 s.heap H locs) (hA : ∀ q, A q → A0 q) :
    W p l e R s m args below meth c H locs cells slots (tx_MQ below E A0 Bw s (cells + mc) (slots + ms)) (F0 m pc ls st0) := by
  intro T hT X
  obtain ⟨z, ce, T', L, X', hL, h1, h2, h3, h4, h5, h6, hBw, st⟩ := hr T hT X
  obtain ⟨w1, w2, w3, w4, w5⟩ := X'.leaveThrown z (g := { F0 m pc ls st0 with stack := rest }) rfl rfl rfl (tx_noH hx _) hlocks
  have hLL : ∀ q ∈ locs ++ L, A0 q.base := fun q hq => (List.mem_append.mp hq).elim (hS.2.2 q) (fun h => hA _ (hL q h))
  have hk := tx_keep w5 hLL
  exact ⟨_, st _ w1, .threw z, w2, w3, ⟨⟨⟨z, ce, rfl, Nat.le_trans hS.1 h1, h2, h3, h4⟩, hk.1, hk.2⟩, hBw⟩, locs ++ L, ⟨w4, w5⟩, hLL⟩
end TXB
