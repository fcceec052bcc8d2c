/-! WHAT A CONTRACT TAKES OF THE SURROUNDINGS: words that are not on the tables alone, statics of Throwable; short forms of rows. -/
abbrev e_IA : String := "java/lang/IllegalArgumentException"
abbrev e_IS : String := "java/lang/IllegalStateException"
abbrev e_NE : String := "java/util/NoSuchElementException"
abbrev e_IB : String := "java/lang/IndexOutOfBoundsException"
def ev_v (U : State) : Prop :=
  (va_AO "JoinedTrees$Op" U ∧ va_AO "JoinedTrees$Change" U ∧ va_AO "JoinedTrees$Replica" U ∧ va_AO "JoinedTrees$Value" U ∧ (Cond.arrayOver (.array .boolean)).before #[] U = true) ∧
  (va_Nw (.castable e_IA e_IA) U ∧ va_Nw (.castable e_IS e_IS) U ∧ va_Nw (.castable e_NE e_NE) U ∧ va_Nw (.castable e_IB e_IB) U) ∧
  (va_Nw (.methodLinkNest "JoinedTrees" 11 ⟨"JoinedTrees$Store", "<init>", "()V"⟩ "JoinedTrees") U ∧ va_Nw (.methodLinkNest "JoinedTrees$JsonReader" 26 ⟨"JoinedTrees$Value", "<init>", "()V"⟩ "JoinedTrees") U) ∧
  (tx_NC e_NE e_IA U ∧ tx_NC e_NE e_IS U ∧ tx_NC e_IS e_IA U) ∧
  (va_Nw (.declares (Bundle.init0 "java/lang/RuntimeException")) U ∧ va_Nw (.declares (Bundle.init0 "java/lang/Exception")) U ∧ va_Nw (.declares (Bundle.init0 Bundle.tN)) U)
theorem ev_v.warm {s U : State} (hW : s.WarmedH U.vm) (h : ev_v s) : ev_v U := by
  obtain ⟨⟨a1, a2, a3, a4, a5⟩, ⟨b1, b2, b3, b4⟩, ⟨c1, c2⟩, ⟨d1, d2, d3⟩, f1, f2, f3⟩ := h
  exact ⟨⟨a1.moved hW.alike, a2.moved hW.alike, a3.moved hW.alike, a4.moved hW.alike, over_moved hW.alike a5⟩, ⟨va_Nw.warmC hW b1, va_Nw.warmC hW b2, va_Nw.warmC hW b3, va_Nw.warmC hW b4⟩, ⟨va_Nw.warmM hW c1, va_Nw.warmM hW c2⟩, ⟨d1.moved hW.alike, d2.moved hW.alike, d3.moved hW.alike⟩, va_Nw.warmD hW f1, va_Nw.warmD hW f2, va_Nw.warmD hW f3⟩
def ev_ls (C n d : String) (U : State) : Prop := (Cond.laysStatic C n d).before #[] U = true
theorem ev_ls.go {C n d : String} {s U : State} (h : ev_ls C n d s) (hW : s.WarmedH U.vm) (hk : ∀ (q : Nat) (cell : Cell), s.heap[q]? = some cell → cell.vm.isStatics = true → U.heap[q]? = some cell) : ev_ls C n d U := by
  obtain ⟨c, k, i, f, a, cell, hc, hi, hst, ha, hcell, hs, hcls, hlt, hty⟩ := Cond.laysStatic_spec (show (Cond.laysStatic C n d).holds #[] s none s [] = true from h)
  obtain ⟨k', hi', hek⟩ := State.fieldFound?_setVm hW.alike hi
  exact Cond.laysStatic_of (s := U) (by rw [hW.alike.findClass]; exact hc) hi' hst (by rw [hek]; exact ha) (hk _ _ hcell hs) hs hcls hlt (by rw [hek]; exact hty)
/-- the class's own table of the check number -/
def crcT (j : Nat) : Int32 := ([0, 498536548, 997073096, 651767980, 1994146192, 1802195444, 1303535960, 1342533948, (-306674912), (-267414716), (-690576408), (-882789492), (-1687895376), (-2032938284), (-1609899400), (-1111625188)] : List Int32).getD j 0
def evc (A : Nat → Prop) (U : State) : Prop := ∃ t : Nat, va_Z "JoinedTrees$Saver" "CRC_OF_FOUR_BITS" "[I" (.ref t) A U U.heap ∧ va_T .int t 16 (fun j => .int (crcT j)) A U U.heap
/-- the statics of Throwable and of Saver, which no cell of A is, and the words -/
def ev (A : Nat → Prop) (U : State) : Prop :=
  (va_Zq Bundle.tN "UNASSIGNED_STACK" Bundle.steD A U U.heap ∧ evc A U) ∧ va_Zq Bundle.tN "SUPPRESSED_SENTINEL" Bundle.listD A U U.heap ∧ ev_ls Bundle.tN "UNASSIGNED_STACK" Bundle.steD U ∧ ev_ls Bundle.tN "SUPPRESSED_SENTINEL" Bundle.listD U ∧ ev_v U
theorem ns_of {D : va_G} {cl : List vw_C} {ws : va_W} {s : State} (hP : va_P D cl ws s.heap) : tx_NS (va_A ws s.heap.size) s := by
  intro q cell hA hc
  rcases hA with ⟨k, e, h⟩ | h
  · have h1 := hP k _ h
    cases e with
    | inl a =>
      have h2 : s.heap[q]? = some (vp_cell a.1 a.2) := h1
      cases hc.symm.trans h2
      unfold vp_cell
      split <;> rfl
    | inr o =>
      obtain ⟨r, -, cell', e1, -, e3, -⟩ := h1
      cases hc.symm.trans e1
      rw [e3]; rfl
  · exact absurd (Array.getElem?_eq_some_iff.mp hc).1 (by omega)
theorem ev.go {A A' : Nat → Prop} {s U : State} {H : Heap} {locs : List Loc} (h : ev A s) (hN : tx_NS A s) (hS : va_S A s.heap H locs) (hA : ∀ q, A' q → A q) (hU : U.heap = H) (hW : s.WarmedH U.vm) : ev A' U := by
  obtain ⟨⟨h1, tc, hz, hT⟩, h2, h3, h4, h5⟩ := h
  have hk : ∀ (q : Nat) (cell : Cell), s.heap[q]? = some cell → cell.vm.isStatics = true → U.heap[q]? = some cell := fun q cell hc hs => by
    rw [hU, hS.2.1 q (Array.getElem?_eq_some_iff.mp hc).1 (fun hq => by have := hN q cell hq hc; rw [hs] at this; cases this)]
    exact hc
  exact ⟨⟨by rw [hU]; exact ((h1.kept hS.2.1).moved hW.alike).narrow hA, tc, by rw [hU]; exact ((hz.kept hS.2.1).moved hW.alike).narrow hA, by rw [hU]; exact ((hT.kept hS.2.1).moved hW.alike).narrow hA⟩, by rw [hU]; exact ((h2.kept hS.2.1).moved hW.alike).narrow hA, h3.go hW hk, h4.go hW hk, h5.warm hW⟩
theorem ev.calling {A : Nat → Prop} {U : State} (h : ev A U) (g : JFrame) (mk : MethodId) (a : Array Value) : ev A (U.calling g mk a) := by
  obtain ⟨⟨h1, tc, hz, hT⟩, h2, h3, h4, h5⟩ := h
  have hW : U.WarmedH (U.calling g mk a).vm := State.WarmedH.refl U
  exact ⟨⟨h1.moved hW.alike, tc, hz.moved hW.alike, hT.moved hW.alike⟩, h2.moved hW.alike, h3.go hW (fun _ _ h _ => h), h4.go hW (fun _ _ h _ => h), h5.warm hW⟩
theorem va_Zq.ref {args : Array Value} {A : Nat → Prop} {s : State} {C n d : String} (h : va_Zq C n d A s s.heap) : (Cond.isRef (.static C n d)).before args s = true := by
  rcases h with h | ⟨t, h⟩ <;>
  · obtain ⟨cf, kf, fi, f, a, cell, h1, h2, h3, h4, h5, h6, h7, -⟩ := h
    simp [Cond.before, Cond.holds, Cond.value, Term.eval, State.fieldNamed?, h1, h2, h4, h5, h6, h7]
/-- all words that a throw of E asks for, out of the common list and the surroundings -/
theorem ev.atoms {args : Array Value} {A : Nat → Prop} {s : State} (h : ev A s) (hts : ∀ w ∈ gb, w.before args s = true) {own E : String} {ic : Nat} {names : List String} (hc : va_Nw (.castable E E) s)
    (hw : ∀ a ∈ Bundle.ownAtoms0 own ic E names, a ∈ gb ∨ a = .castable E E ∨ a = .laysStatic Bundle.tN "UNASSIGNED_STACK" Bundle.steD ∨ a = .laysStatic Bundle.tN "SUPPRESSED_SENTINEL" Bundle.listD ∨ a = .isRef (.static Bundle.tN "UNASSIGNED_STACK" Bundle.steD) ∨ a = .isRef (.static Bundle.tN "SUPPRESSED_SENTINEL" Bundle.listD) ∨ a = .declares (Bundle.init0 "java/lang/RuntimeException") ∨ a = .declares (Bundle.init0 "java/lang/Exception") ∨ a = .declares (Bundle.init0 Bundle.tN)) :
    ∀ a ∈ Bundle.ownAtoms0 own ic E names, a.before args s = true := by
  obtain ⟨⟨h1, -⟩, h2, h3, h4, h5⟩ := h
  intro a ha
  rcases hw a ha with h | rfl | rfl | rfl | rfl | rfl | rfl | rfl | rfl
  · exact hts a h
  · exact va_Nw.use rfl hc
  · exact h3
  · exact h4
  · exact h1.ref
  · exact h2.ref
  · exact va_Nw.use rfl h5.2.2.2.2.1
  · exact va_Nw.use rfl h5.2.2.2.2.2.1
  · exact va_Nw.use rfl h5.2.2.2.2.2.2
section EV
variable {p : Program} {l : Launch} {e : Env} {R : Room} {s : State} {m : MethodId} {args : Array Value} {below : List Frame} {meth : Method} {c : Code} {H : Heap} {locs : List Loc} {cells slots : Nat} {Q : State → Prop}
variable {cc : ByteArray} {pc : Nat} {ls : Array Slot} {rest : List Value} {D : va_G} {cl : List vw_C} {A : Nat → Prop} {a : Nat} {tys : List (ClassId × FieldType)} {ws : va_W} {H0 : Heap}
/-- the number on top, said otherwise -/
theorem w_i {x y : Int32} (h : x = y) (k : W p l e R s m args below meth c H locs cells slots Q (F0 m pc ls (.int y :: rest))) : W p l e R s m args below meth c H locs cells slots Q (F0 m pc ls (.int x :: rest)) := by rw [h]; exact k
theorem w_l {x y : Int64} (h : x = y) (k : W p l e R s m args below meth c H locs cells slots Q (F0 m pc ls (.long y :: rest))) : W p l e R s m args below meth c H locs cells slots Q (F0 m pc ls (.long x :: rest)) := by rw [h]; exact k
theorem w_v {x y : Value} (h : x = y) (k : W p l e R s m args below meth c H locs cells slots Q (F0 m pc ls (y :: rest))) : W p l e R s m args below meth c H locs cells slots Q (F0 m pc ls (x :: rest)) := by rw [h]; exact k
theorem set_same {α : Type} {l : List α} {k : Nat} {x : α} (h : l[k]? = some x) : l.set k x = l := by
  obtain ⟨hk, rfl⟩ := List.getElem?_eq_some_iff.mp h
  exact List.set_getElem_self hk
/-- putfield of what is there already -/
theorem w_putS (hexec : p.tables.exec = Jvm.exec) (hb : c.code = cc) {own ref C : String} {T : u_T} {N ci index : Nat} {Ts : List Cond} (hts : ∀ w ∈ Ts, w.before args s = true) (hin : ∀ w ∈ u_ws C T N, w ∈ Ts) (ty0 : Nat → FieldType) (hty : ∀ k, k < N → parseFieldDescriptor (T k).2.2.1 = some (ty0 k)) (hnm : ∀ a, a < N → ∀ b, b < N → a ≠ b → (T a).2.1 ≠ (T b).2.1) (hown : s.vm.findClass own = some m.cls) (hK : va_K D cl tys s) (hP : va_P D cl ws H) (hD : va_D A ws) (hS0 : va_S A H0 H locs) (q0 : Nat) {fs : List Value} (he : ws[q0]? = some (a, .inr (ci, fs))) (hc : cl[ci]? = some (C, T, N)) (k : Nat) (hk : k < N) (hlink : (Cond.fieldLink own index ref (T k).2.1 (T k).2.2.1).before args s = true) (hsame : ∀ x, s.fieldFound? (T k).1 (T k).2.1 (T k).2.2.1 = some x → s.fieldFound? ref (T k).2.1 (T k).2.2.1 = some x) (hfin : (T k).2.2.2 = false) {ty : FieldType} {v : Value} (hd : parseFieldDescriptor (T k).2.2.1 = some ty) (hn : narrow ty v = v) (hfit : fits ty v = true) (hl : k < fs.length) (hv : fs[k]? = some v)
    (hdg : decode cc pc = .ok (.putfield index, 3)) (kk : ∀ (H1 : Heap) (locs1 : List Loc), va_P D cl ws H1 → va_D A ws → va_S A H0 H1 locs1 → W p l e R s m args below meth c H1 locs1 cells slots Q (F0 m (pc + 3) ls rest)) : W p l e R s m args below meth c H locs cells slots Q (F0 m pc ls (v :: .ref a :: rest)) := by
  have h1 : fs.set k v = fs := set_same hv
  have h2 : ws.set q0 (a, .inr (ci, fs.set k v)) = ws := by rw [h1]; exact set_same he
  refine va_put hexec hb hts hin ty0 hty hnm hown hK hP hD hS0 q0 he hc k hk hlink hsame hfin hd hn hfit hl hdg fun H1 locs1 p1 d1 s1 => ?_
  rw [h2] at p1 d1
  exact kk H1 locs1 p1 d1 s1
end EV
/-- the callee gets the whole world -/
theorem fr_all {A0 : Nat → Prop} {ws : va_W} {H0 H : Heap} {locs : List Loc} (hD : va_D A0 ws) (hS : va_S A0 H0 H locs) (hA : ∀ q, H0.size ≤ q → A0 q) : ∀ q, va_A ws H.size q → A0 q := by
  intro q h
  rcases h with ⟨k, e, h⟩ | h
  · exact hD.2 k _ h
  · exact hA q (Nat.le_trans hS.1 h)
section CWX
variable {R : Room} {s : State} {args : Array Value} {own C : String} {index maxL n mc ms : Nat} {y : MethodName} {bytes : ByteArray} {ret : Option FieldType} {rm : Room}
theorem gb_ws {y : MethodName} {bytes : ByteArray} {maxL : Nat} {ret : Option FieldType} (hts : ∀ w ∈ gb, w.before args s = true) (kc : Cond.code y bytes maxL ret ∈ gb) : ∀ w ∈ Cond.code y bytes maxL ret :: gb, ∀ (a' : Array Value) (U : State), s.WarmedH U.vm → w.before a' U = true := by
  intro w hw a' U hW
  have hm : w ∈ gb := (List.mem_cons.mp hw).elim (fun h => h ▸ kc) id
  exact word_at hW (good_of_word (gb_good hm)) (hts w hm)
theorem cw_b (n : Nat) (hts : ∀ w ∈ gb, w.before args s = true) (kc : Cond.code y bytes maxL ret ∈ gb) (kl : Cond.methodLink own index y ∈ gb) (kn : Cond.initialized y.cls ∈ gb) (hrc : rm.cells = mc) (hrs : rm.slots = ms) (hd : y.cls ≠ "java/lang/invoke/MethodHandle" ∧ y.cls ≠ "java/lang/invoke/VarHandle" ∧ (parseMethodDescriptor y.desc).map (fun d => d.parameters.length) = some n) (hR : rm.frames + 1 ≤ R.frames ∧ 8 + (maxL + 11) + rm.locals ≤ R.locals) :
    CallB R s args own index y bytes maxL ret (Cond.code y bytes maxL ret :: gb) rm mc ms n := by
  refine ⟨hrc, hrs, hR.1, hR.2, gb_ws hts kc, List.mem_cons_self, hts _ kc, hts _ kn, ⟨hd.1, hd.2.1⟩, fun sig h => ?_, hts _ kl⟩
  have h2 := hd.2.2
  rw [h] at h2
  exact (Option.some.inj h2).symm
theorem cw_v (n : Nat) (hts : ∀ w ∈ gb, w.before args s = true) (kc : Cond.code y bytes maxL ret ∈ gb) (kl : Cond.methodLink own index y ∈ gb) (ki : Cond.instanceMethod y ∈ gb) (ks : Cond.selects C y y ∈ gb) (kn : Cond.initialized y.cls ∈ gb) (hrc : rm.cells = mc) (hrs : rm.slots = ms) (hd : y.cls ≠ "java/lang/invoke/MethodHandle" ∧ y.cls ≠ "java/lang/invoke/VarHandle" ∧ (parseMethodDescriptor y.desc).map (fun d => d.parameters.length) = some n) (hR : rm.frames + 1 ≤ R.frames ∧ 8 + (maxL + 11) + rm.locals ≤ R.locals) :
    CallW R s args own C index y bytes maxL ret (Cond.code y bytes maxL ret :: gb) rm mc ms n := ⟨cw_b n hts kc kl kn hrc hrs hd hR, hts _ ki, hts _ ks⟩
theorem cw_s (n : Nat) (hts : ∀ w ∈ gb, w.before args s = true) (kc : Cond.code y bytes maxL ret ∈ gb) (kl : Cond.methodLink own index y ∈ gb) (ki : Cond.static y ∈ gb) (kn : Cond.initialized y.cls ∈ gb) (hrc : rm.cells = mc) (hrs : rm.slots = ms) (hd : y.cls ≠ "java/lang/invoke/MethodHandle" ∧ y.cls ≠ "java/lang/invoke/VarHandle" ∧ (parseMethodDescriptor y.desc).map (fun d => d.parameters.length) = some n) (hR : rm.frames + 1 ≤ R.frames ∧ 8 + (maxL + 11) + rm.locals ≤ R.locals) :
    CallB R s args own index y bytes maxL ret (Cond.code y bytes maxL ret :: gb) rm mc ms n ∧ (Cond.static y).before args s = true := ⟨cw_b n hts kc kl kn hrc hrs hd hR, hts _ ki⟩
theorem cw_i (n : Nat) (hts : ∀ w ∈ gb, w.before args s = true) (kc : Cond.code y bytes maxL none ∈ gb) (kl : Cond.methodLink own index y ∈ gb) (ki : Cond.instanceMethod y ∈ gb) (kn : Cond.initialized y.cls ∈ gb) (hrc : rm.cells = mc) (hrs : rm.slots = ms) (hy : y.name = "<init>") (hd : y.cls ≠ "java/lang/invoke/MethodHandle" ∧ y.cls ≠ "java/lang/invoke/VarHandle" ∧ (parseMethodDescriptor y.desc).map (fun d => d.parameters.length) = some n) (hR : rm.frames + 1 ≤ R.frames ∧ 8 + (maxL + 11) + rm.locals ≤ R.locals) :
    CallB R s args own index y bytes maxL none (Cond.code y bytes maxL none :: gb) rm mc ms n ∧ y.name = "<init>" ∧ (Cond.instanceMethod y).before args s = true := ⟨cw_b n hts kc kl kn hrc hrs hd hR, hy, hts _ ki⟩
theorem cw_n {host : String} (n : Nat) (hts : ∀ w ∈ gb, w.before args s = true) (kc : Cond.code y bytes maxL ret ∈ gb) (kl : va_Nw (.methodLinkNest own index y host) s) (kn : Cond.initialized y.cls ∈ gb) (hrc : rm.cells = mc) (hrs : rm.slots = ms) (hd : y.cls ≠ "java/lang/invoke/MethodHandle" ∧ y.cls ≠ "java/lang/invoke/VarHandle" ∧ (parseMethodDescriptor y.desc).map (fun d => d.parameters.length) = some n) (hR : rm.frames + 1 ≤ R.frames ∧ 8 + (maxL + 11) + rm.locals ≤ R.locals) :
    va_CN R s args own index y host bytes maxL ret (Cond.code y bytes maxL ret :: gb) rm mc ms n := by
  refine ⟨⟨hrc, hrs, hR.1, hR.2, gb_ws hts kc, List.mem_cons_self⟩, hts _ kc, hts _ kn, ⟨hd.1, hd.2.1⟩, fun sig h => ?_, va_Nw.use rfl kl⟩
  have h2 := hd.2.2
  rw [h] at h2
  exact (Option.some.inj h2).symm
theorem cw_w {hs : List (Nat × Nat × Nat × Nat)} (n : Nat) (hts : ∀ w ∈ gb, w.before args s = true) (kc : Cond.codeWith y bytes maxL ret hs ∈ gb) (kl : Cond.methodLink own index y ∈ gb) (ki : Cond.static y ∈ gb) (kn : Cond.initialized y.cls ∈ gb) (hrc : rm.cells = mc) (hrs : rm.slots = ms) (hd : y.cls ≠ "java/lang/invoke/MethodHandle" ∧ y.cls ≠ "java/lang/invoke/VarHandle" ∧ (parseMethodDescriptor y.desc).map (fun d => d.parameters.length) = some n) (hR : rm.frames + 1 ≤ R.frames ∧ 8 + (maxL + 11) + rm.locals ≤ R.locals) :
    tx_CW R s args own index y bytes maxL ret hs (Cond.codeWith y bytes maxL ret hs :: gb) rm mc ms n := by
  refine ⟨hrc, hrs, hR.1, hR.2, fun w hw a' U hW => ?_, List.mem_cons_self, hts _ kc, hts _ kn, ⟨hd.1, hd.2.1⟩, fun sig h => ?_, hts _ kl, hts _ ki⟩
  · have hm : w ∈ gb := (List.mem_cons.mp hw).elim (fun h => h ▸ kc) id
    exact word_at hW (good_of_word (gb_good hm)) (hts w hm)
  · have h2 := hd.2.2
    rw [h] at h2
    exact (Option.some.inj h2).symm
end CWX
