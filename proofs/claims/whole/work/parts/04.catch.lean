/-! THE CALLER CATCHES: the search through its table, each entry's class resolved or not yet. -/
/-- an object of the class E is not of the class C -/
def tx_NC (E C : String) (U : State) : Prop := ∀ cE cC : ClassId, U.vm.findClass E = some cE → U.vm.findClass C = some cC → U.vm.assignable cE cC = false
theorem tx_NC.moved {E C : String} {u U : State} (hvm : u.vm.Alike U.vm) (h : tx_NC E C u) : tx_NC E C U := by
  intro cE cC h1 h2
  rw [hvm.findClass] at h1 h2
  rw [hvm.assignable]
  exact h cE cC h1 h2
abbrev tx_f : ExceptionTableEntry → Nat × Nat × Nat × Nat := fun h => (h.startPc, h.endPc, h.handlerPc, h.catchType)
section TXC
variable {p : Program} {l : Launch} {e : Env} {R : Room} {s : State} {m : MethodId} {args : Array Value} {below : List Frame} {meth : Method} {c : Code} {H : Heap} {locs : List Loc} {cells slots mc ms : Nat} {Q : State → Prop}
theorem tx_go1 {QH : Handler → Pre} {EH : CtlPost} {d : Bool} {acts : List Action} {u : State} {f : JFrame} {a : Addr} {y : ExceptionTableEntry} {t : List ExceptionTableEntry} {k : ClassId} {cell : Cell} {vm' : Vm} (hx : covers y f.pc = true) (h0 : y.catchType ≠ 0)
    (hg : (Jvm.resolveClass f.method.cls y.catchType).Gives e.toSetting u.vm (.ok k) vm') (hsz : vm'.classes.size ≤ u.vm.classes.size) (hcell : u.heap[a]? = some cell) (hobj : ∀ k, cell.vm ≠ .statics k)
    (hk : ∃ k, vm'.classes[cell.cls]? = some k) (hc : ∃ q, vm'.classes[k]? = some q) :
    wp (findHandler.go f a (y :: t)) QH EH e d acts u ↔ if vm'.assignable cell.cls k = true then QH (.found y.handlerPc) d acts (u.setVm vm') else wp (findHandler.go f a t) QH EH e d acts (u.setVm vm') := by
  simp only [covers] at hx
  obtain ⟨ha, ht⟩ := hg.op (op := VmOp.resolveClass f.method.cls y.catchType) rfl
  have hcell' : (u.setVm vm').heap[a]? = some cell := hcell
  cases hfit : vm'.assignable cell.cls k <;>
    simp [findHandler.go, hx, h0, ha, ht, hsz, hcell, hobj, hk, hc, hfit, VmOp.dirties, VmOp.acts]
/-- entries that are passed, then the one that takes it -/
theorem tx_search {own : String} (hown : s.vm.findClass own = some m.cls) (hpl : e.platform.magicAccessors = ({} : Platform).magicAccessors) {f : JFrame} (hf : f.method = m) {z : Addr} {ce : Cell} {E : String} (hE : s.vm.findClass E = some ce.cls) (hst : ce.vm.isStatics = false)
    {x : Nat × Nat × Nat × Nat} {post : List (Nat × Nat × Nat × Nat)} (hx : (decide (x.1 ≤ f.pc) && decide (f.pc < x.2.1)) = true) (hx0 : x.2.2.2 ≠ 0) {C : String} (hlk : (Cond.classLink own x.2.2.2 C).before args s = true) (hyes : (Cond.castable E C).before args s = true) :
    ∀ (pre : List (Nat × Nat × Nat × Nat)) (tb : List ExceptionTableEntry), tb.map tx_f = pre ++ x :: post →
      (∀ y ∈ pre, (decide (y.1 ≤ f.pc) && decide (f.pc < y.2.1)) = true ∧ y.2.2.2 ≠ 0 ∧ ∃ D, (Cond.classLink own y.2.2.2 D).before args s = true ∧ tx_NC E D s) →
      ∀ vm0 : Vm, s.WarmedH vm0 → ∃ vm' : Vm, s.WarmedH vm' ∧ ∀ (QH : Handler → Pre) (EH : CtlPost) (d : Bool) (acts : List Action) (u : State), u.vm = vm0 → u.heap[z]? = some ce →
        (wp (findHandler.go f z tb) QH EH e d acts u ↔ QH (.found x.2.2.1) d acts (u.setVm vm')) := by
  have hobj : ∀ k, ce.vm ≠ .statics k := fun k h => by rw [h] at hst; cases hst
  intro pre
  induction pre with
  | nil =>
    intro tb htb _ vm0 hW0
    cases tb with
    | nil => cases htb
    | cons y t =>
      simp only [List.map_cons, List.nil_append, List.cons.injEq] at htb
      obtain ⟨h1, -⟩ := htb
      subst h1
      obtain ⟨cC, hfC, hcl⟩ := Cond.classLink_spec hown hlk e.platform hpl
      obtain ⟨hg₁, hwarm₁, hready₁⟩ := State.classEntry (e := e) hW0 hcl
      obtain ⟨k1, k2, hk1, hk2, hasg⟩ := Cond.castable_spec (show (Cond.castable E C).holds args s none s [] = true from hyes)
      cases hE.symm.trans hk1
      cases hfC.symm.trans hk2
      refine ⟨_, hwarm₁, fun QH EH d acts u hu hz => ?_⟩
      have hal := hwarm₁.alike
      rw [tx_go1 (k := cC) (cell := ce) (vm' := vm0.noted m.cls y.catchType (.cls cC)) hx hx0 (by rw [hu, hf]; exact hg₁) (by rw [hu, Vm.size_noted]; exact Nat.le_refl _) hz hobj
        (Vm.classAt_of_findClass (name := E) (by rw [hal.findClass]; exact hE)) (Vm.classAt_of_findClass (name := C) (by rw [hal.findClass]; exact hfC)), if_pos (by rw [hal.assignable]; exact hasg)]
  | cons q pre ih =>
    intro tb htb hpre vm0 hW0
    cases tb with
    | nil => cases htb
    | cons y t =>
      simp only [List.map_cons, List.cons_append, List.cons.injEq] at htb
      obtain ⟨h1, h2⟩ := htb
      obtain ⟨hc1, hc2, D, hD1, hD2⟩ := hpre q List.mem_cons_self
      subst h1
      obtain ⟨cC, hfC, hcl⟩ := Cond.classLink_spec hown hD1 e.platform hpl
      obtain ⟨hg₁, hwarm₁, hready₁⟩ := State.classEntry (e := e) hW0 hcl
      obtain ⟨vm', hW', hrest⟩ := ih t h2 (fun y hy => hpre y (List.mem_cons_of_mem _ hy)) _ hwarm₁
      refine ⟨vm', hW', fun QH EH d acts u hu hz => ?_⟩
      have hal := hwarm₁.alike
      rw [tx_go1 (k := cC) (cell := ce) (vm' := vm0.noted m.cls y.catchType (.cls cC)) hc1 hc2 (by rw [hu, hf]; exact hg₁) (by rw [hu, Vm.size_noted]; exact Nat.le_refl _) hz hobj
        (Vm.classAt_of_findClass (name := E) (by rw [hal.findClass]; exact hE)) (Vm.classAt_of_findClass (name := D) (by rw [hal.findClass]; exact hfC)), if_neg (by rw [hal.assignable, hD2 _ _ hE hfC]; decide)]
      exact hrest QH EH d acts (u.setVm _) rfl hz
/-- a call throws, and the method catches it -/
theorem tx_catch {E own C : String} {A A0 : Nat → Prop} {Bw : Heap → Prop} {pc : Nat} {ls : Array Slot} {st0 rest : List Value} (hr : tx_Thr p l e R s m args below meth c H locs cells slots mc ms (F0 m pc ls st0) rest E A Bw) (hown : s.vm.findClass own = some m.cls)
    (hS : va_S A0 s.heap H locs) (hA : ∀ q, A q → A0 q) {hs : List (Nat × Nat × Nat × Nat)} (htab : c.exceptionTable.toList.map tx_f = hs)
    (pre post : List (Nat × Nat × Nat × Nat)) (x : Nat × Nat × Nat × Nat) (hsp : hs = pre ++ x :: post) (hx : (decide (x.1 ≤ pc) && decide (pc < x.2.1)) = true) (hx0 : x.2.2.2 ≠ 0) (hlk : (Cond.classLink own x.2.2.2 C).before args s = true) (hyes : (Cond.castable E C).before args s = true)
    (hpre : ∀ y ∈ pre, (decide (y.1 ≤ pc) && decide (pc < y.2.1)) = true ∧ y.2.2.2 ≠ 0 ∧ ∃ D, (Cond.classLink own y.2.2.2 D).before args s = true ∧ tx_NC E D s)
    (kk : ∀ (z : Nat) (H1 : Heap) (locs1 : List Loc), H.size ≤ H1.size → (∀ q : Nat, q < H.size → ¬ A q → H1[q]? = H[q]?) → Bw H1 → va_S A0 s.heap H1 locs1 → W p l e R s m args below meth c H1 locs1 (cells + mc) (slots + ms) Q (F0 m x.2.2.1 ls [.ref z])) :
    W p l e R s m args below meth c H locs cells slots Q (F0 m pc ls st0) := by
  intro T hT X
  obtain ⟨z, ce, T', L, X', hL, h1, h2, h3, h4, h5, h6, hBw, st⟩ := hr T hT X
  have hpl : e.platform.magicAccessors = ({} : Platform).magicAccessors := by rw [X.admits.platform]
  obtain ⟨vm', hW', hfind⟩ := tx_search (e := e) (m := m) (args := args) hown hpl (f := { F0 m pc ls st0 with stack := rest }) rfl (z := z) h4 h3 (x := x) (post := post) hx hx0 hlk hyes pre c.exceptionTable.toList (htab.trans hsp) hpre T'.vm X'.warmed
  have hLL : ∀ q ∈ locs ++ L, A0 q.base := fun q hq => (List.mem_append.mp hq).elim (hS.2.2 q) (fun h => hA _ (hL q h))
  have hk := tx_keep X'.same hLL
  have hN := X'.noted hW'
  obtain ⟨t2, a1, b1⟩ := kk z T'.heap (locs ++ L) h5 h6 hBw ⟨hk.1, hk.2, hLL⟩ (T'.setVm vm') rfl hN
  refine ⟨t2, st _ ?_, b1⟩
  have hAt : At T' m c below := X'.here
  obtain ⟨hgo, hw⟩ := At.throwing (g := { F0 m pc ls st0 with stack := rest }) hAt z
  refine Steps.head hgo hw ?_
  rw [stepThread_throwing (frames_entered hAt.top _)]
  have hcat : (stepThrowing e ((T'.setTop { F0 m pc ls st0 with stack := rest }).pushFrame (.throwing z)) z (.java { F0 m pc ls st0 with stack := rest } :: T'.frames.tail)).1 = (((T'.setTop { F0 m pc ls st0 with stack := rest }).pushFrame (.throwing z)).setVm vm').setFrames (.java (F0 m x.2.2.1 ls [.ref z]) :: T'.frames.tail) := by
    simp only [stepThrowing, searchFrame, vmDo]
    generalize hr : Sem.go _ e false [] _ = res
    obtain ⟨as, rfl, ha⟩ := Sem.eq_ok_of hr (a := Handler.found x.2.2.1) (s' := ((T'.setTop { F0 m pc ls st0 with stack := rest }).pushFrame (.throwing z)).setVm vm') (acts' := [])
      (by
        have hm' : ((T'.setTop { F0 m pc ls st0 with stack := rest }).pushFrame (.throwing z)).vm.method? m = some meth := X'.method'
        have hfe := fun (QH : Handler → Pre) (EH : CtlPost) (d : Bool) (acts : List Action) => (W.findHandler_eq (e := e) (s := (T'.setTop { F0 m pc ls st0 with stack := rest }).pushFrame (.throwing z)) (f := { F0 m pc ls st0 with stack := rest }) (a := z) (Q := QH) (E := EH) (d := d) (acts := acts) hm' X'.code).trans (hfind QH EH d acts _ rfl h2)
        simp [hfe])
    rfl
  rw [hcat]
  obtain ⟨g₀, hg⟩ := Option.isSome_iff_exists.mp hAt.top
  obtain ⟨r, hr'⟩ := State.topJava?_eq_some.mp hg
  have hr2 : (T'.setVm vm').frames = .java g₀ :: r := hr'
  rw [State.setTop_of_frames _ hr2] at a1
  have hcm : ∀ (V : State) (fs : List Frame) (v : Vm), (V.setFrames fs).setVm v = (V.setVm v).setFrames fs := fun _ _ _ => rfl
  rw [State.pushFrame, State.setTop_of_frames _ hr', State.setFrames_setFrames, hr', hcm, State.setFrames_setFrames]
  exact a1
end TXC
