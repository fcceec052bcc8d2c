/-! multianewarray of two dimensions (no row of the kit) -/
theorem mn_instr {tb : Tables} [Ours tb] {e : Env} {below : List Frame} {s : State} {f : JFrame} {c : Code} {i : Instr} {len : Nat} {Ψ : State → Prop} (h : At s f.method c below) (hd : decode c.code f.pc = .ok (i, len))
    (hw : wpRun (tb.exec i) (fun _ s₁ _ => Ψ s₁) (fun _ _ _ => False) e (s.setTop f)) : ∃ s₁, Ψ s₁ ∧ ∀ target, (∀ acts, Steps tb e below (afterInstr e len (.ok () s₁ acts)).1 target) → Steps tb e below (s.setTop f) target := by
  have hw2 := (wpRun_iff_run _ _ _ _ _).mp hw
  cases hr : (tb.exec i).run e (s.setTop f) with
  | ok a s₁ acts =>
    rw [hr] at hw2
    refine ⟨s₁, hw2, fun target ht => Steps.instr h ?_⟩
    rw [hd]
    refine (wpRun_iff_run _ _ _ _ _).mpr ?_
    rw [hr]
    exact ht
  | ctl x s₁ acts =>
    rw [hr] at hw2
    cases x <;> exact hw2.elim
theorem mn_inner {E : CtlPost} {e : Env} {d : Bool} {acts : List Action} {u : State} {k : ClassId} {kB : Class} {kc : ClassId} {Q : Addr → Pre} (hk : u.vm.classes[k]? = some kB) (hkind : kB.kind = .array kc .boolean) (hlim : e.platform.arrayLengthLimit = 2147483645) (hheap : e.platform.maxHeapBytes = 536870912)
    (hc : u.heap.size < e.platform.maxCells) (hs : u.slotsUsed + 1000 ≤ e.platform.maxSlots) (hq : ∀ acts', Q u.heap.size d acts' (u.pushCell { cls := k, slots := Array.replicate 1000 (.int 0) })) :
    wp (multianewarray.make k [1000]) Q E e d acts u := by
  have hn : ¬ (1000 : Int32) < 0 := by decide
  have h1000 : (1000 : Int32).toNatClampNeg = 1000 := by decide
  rw [multianewarray.make]
  simp only [wp_bind', W.ite, hn, if_false, wp_pure', W.theClass]
  refine ⟨kB, hk, ?_⟩
  rw [hkind, h1000]
  exact W.newArray_of hk hkind (by rw [hlim]; decide) (by rw [hheap]; decide) hc hs rfl hq
theorem mn_outer {E : CtlPost} {e : Env} {d : Bool} {acts : List Action} {u : State} {k kc : ClassId} {kA : Class} {Q : Addr → Pre} (I : List Nat → State → Prop) (hk : u.vm.classes[k]? = some kA) (hkind : kA.kind = .array kc (.array .boolean)) (hlim : e.platform.arrayLengthLimit = 2147483645) (hheap : e.platform.maxHeapBytes = 536870912)
    (hc : u.heap.size < e.platform.maxCells) (hs : u.slotsUsed + 8 ≤ e.platform.maxSlots) (h0 : I (List.range' 0 8 1) (u.pushCell { cls := k, slots := Array.replicate 8 .null }))
    (hstep : ∀ i rest s' d' acts' (Q' : Unit → Pre), I (i :: rest) s' → (∀ s'' d'' acts'', I rest s'' → Q' () d'' acts'' s'') → wp (do writeLoc u.heap.size i (.ref (← multianewarray.make kc [1000]))) Q' E e d' acts' s')
    (hq : ∀ s' d' acts', I [] s' → Q u.heap.size d' acts' s') : wp (multianewarray.make k [8, 1000]) Q E e d acts u := by
  have hn : ¬ (8 : Int32) < 0 := by decide
  have h8 : (8 : Int32).toNatClampNeg = 8 := by decide
  have h80 : ¬ ((8 : Int32) == 0) = true := by decide
  rw [multianewarray.make]
  simp only [wp_bind', W.ite, hn, if_false, wp_pure', W.theClass]
  refine ⟨kA, hk, ?_⟩
  rw [hkind, h8]
  simp only [wp_bind', W.ite, h80, if_false, wp_pure']
  refine W.newArray_of hk hkind (by rw [hlim]; decide) (by rw [hheap]; decide) hc hs rfl fun acts' => ?_
  simp only [Bool.false_eq_true, if_false, wp_bind']
  rw [Std.Legacy.Range.forIn_eq_forIn_range']
  refine wp_forIn_inv I _ _ h0 ?_ ?_
  case refine_2 =>
    intro s' d' acts2 hI
    simp only [wp_pure']
    exact hq s' d' acts2 hI
  intro i rest s' d' acts2 Q' hI hQ'
  have h := hstep i rest s' d' acts2 (fun _ d a s => Q' (ForInStep.yield PUnit.unit) d a s) hI hQ'
  simp only [wp_bind'] at h ⊢
  have he : (fun a : Addr => wp (do writeLoc u.heap.size i (.ref a); Pure.pure (ForInStep.yield PUnit.unit)) Q' E e) = (fun a : Addr => wp (writeLoc u.heap.size i (.ref a)) (fun _ d a s => Q' (ForInStep.yield PUnit.unit) d a s) E e) := by
    funext a d2 a2 s2
    exact propext (by simp only [wp_bind', wp_pure', W.writeLoc])
  rw [he]
  exact h
section MN
variable {p : Program} {l : Launch} {e : Env} {R : Room} {s : State} {m : MethodId} {args : Array Value} {below : List Frame} {meth : Method} {c : Code} {H : Heap} {locs : List Loc} {cells slots : Nat} {Q : State → Prop}
variable {pc : Nat} {ls : Array Slot} {rest : List Value} {A : Nat → Prop}
set_option maxHeartbeats 4000000 in
theorem mn_core {cc : ByteArray} (hexec : p.tables.exec = Jvm.exec) (hb : c.code = cc) {own : String} {index : Nat} (hown : s.vm.findClass own = some m.cls) (hcl : (Cond.classLink own index "[[Z").before args s = true)
    (hover : (Cond.arrayOver (.array .boolean)).before args s = true) (harr : (Cond.arrayClass .boolean).before args s = true) (hdg : decode cc pc = .ok (.multianewarray index 2, 4)) (hcells : cells + 9 ≤ R.cells) (hslots : slots + 8008 ≤ R.slots)
    {T : State} (hT : T.heap = H) (X : Stand p l e R s m args below meth c T locs cells slots) :
    ∃ (U : State) (L : List Loc) (a : Nat), Stand p l e R s m args below meth c U (locs ++ L) (cells + 9) (slots + 8008) ∧ (∀ q ∈ L, H.size ≤ q.base) ∧ H.size ≤ U.heap.size ∧ (∀ q : Nat, q < H.size → U.heap[q]? = H[q]?) ∧
      ∀ tg, Steps p.tables e below (U.setTop (F0 m (pc + 4) ls (.ref a :: rest))) tg → Steps p.tables e below (T.setTop (F0 m pc ls (.int 1000 :: .int 8 :: rest))) tg := by
  subst hb
  have hpl : e.platform.magicAccessors = ({} : Platform).magicAccessors := by rw [X.admits.platform]
  obtain ⟨comp, cA, kA, hcomp, hidx, hkA, hkindA, hnameA⟩ := arrayOverA_spec hover
  obtain ⟨kComp, hkComp, -⟩ := Vm.findClass_spec hcomp
  obtain ⟨cc', hfcc, hcl2⟩ := Cond.classLink_spec hown hcl e.platform hpl
  have hcA : cc' = cA := Option.some.inj (hfcc.symm.trans hnameA)
  subst hcA
  obtain ⟨hg₁, hwarm₁, hready₁⟩ := State.classEntry (e := e) X.warmed hcl2
  have hsz₁ : (T.vm.noted m.cls index (.cls cc')).classes.size ≤ T.vm.classes.size := by rw [Vm.size_noted]; exact Nat.le_refl _
  generalize T.vm.noted m.cls index (.cls cc') = vm₁ at hg₁ hwarm₁ hready₁ hsz₁
  have hal : s.vm.Alike vm₁ := hwarm₁.alike
  obtain ⟨kA₁, hkA₁, heA⟩ := hal.2.2 _ _ hkA
  have hkindA₁ : kA₁.kind = .array comp (.array .boolean) := by rw [heA]; exact hkindA
  obtain ⟨cB, kB, compB, hfB, hkB, hkindB⟩ := Cond.arrayClass_spec (show (Cond.arrayClass .boolean).holds args s none s [] = true from harr)
  have hcB : comp = cB := Option.some.inj (hcomp.symm.trans hfB)
  subst hcB
  obtain ⟨kB₁, hkB₁, heB⟩ := hal.2.2 _ _ hkB
  have hkindB₁ : kB₁.kind = .array compB .boolean := by rw [heB]; exact hkindB
  have X₁ := X.noted hwarm₁
  obtain ⟨s₁, ⟨U, L, a, he, XU, hL, hsz, hold⟩, hst⟩ := mn_instr (tb := p.tables) (e := e) (below := below) (s := T) (f := F0 m pc ls (.int 1000 :: .int 8 :: rest)) (c := c)
    (Ψ := fun s₁ => ∃ (U : State) (L : List Loc) (a : Nat), s₁ = U.setTop (F0 m pc ls (.ref a :: rest)) ∧ Stand p l e R s m args below meth c U (locs ++ L) (cells + 9) (slots + 8008) ∧ (∀ q ∈ L, H.size ≤ q.base) ∧ H.size ≤ U.heap.size ∧ (∀ q : Nat, q < H.size → U.heap[q]? = H[q]?))
    X.here hdg (by
      rw [hexec]
      have hm1 : (T.setTop (F0 m pc ls (.int 1000 :: .int 8 :: rest))).method? = some m := State.method?_setTop _ X.here.top
      simp only [wpRun, exec, multianewarray.sem, wp_bind', W.resolveClassAt_links (e := e) (t := T.setTop (F0 m pc ls (.int 1000 :: .int 8 :: rest))) hm1 (show (Jvm.resolveClass m.cls index).Gives e.toSetting (T.setTop (F0 m pc ls (.int 1000 :: .int 8 :: rest))).vm (.ok cc') vm₁ from hg₁) hsz₁]
      have htop1 : (T.setVm vm₁).topJava?.isSome := X₁.here.top
      have hpop := fun (QL : List Value → Pre) (EH : CtlPost) (d : Bool) (acts : List Action) => popN_top (Q := QL) (E := EH) (e := e) (d := d) (acts := acts) (s := T.setVm vm₁) (f := F0 m pc ls (.int 1000 :: .int 8 :: rest)) htop1 (args := [.int 8, .int 1000]) (rest := rest) rfl
      rw [show (T.setTop (F0 m pc ls (.int 1000 :: .int 8 :: rest))).setVm vm₁ = (T.setVm vm₁).setTop (F0 m pc ls (.int 1000 :: .int 8 :: rest)) from rfl]
      refine (hpop _ _ _ _).mpr ?_
      simp only [wp_bind', List.mapM_cons, List.mapM_nil, wp_pure']
      have hlim := Launch.admits_arrayLengthLimit X.admits
      have hheap := Launch.admits_maxHeapBytes X.admits
      obtain ⟨r1, r2⟩ := X₁.heapHas (a := 1) (b := 8) (by omega) (by omega)
      have hH : (T.setVm vm₁).heap.size = H.size := by rw [← hT]; rfl
      refine mn_outer (fun rs s' => ∃ (U : State) (L : List Loc) (cO : Cell), s' = U.setTop (F0 m pc ls rest) ∧ rs.length ≤ 8 ∧ Stand p l e R s m args below meth c U (locs ++ L) (cells + 1 + (8 - rs.length)) (slots + 8 + 1000 * (8 - rs.length)) ∧ (∀ i ∈ rs, i < 8) ∧ (∀ q ∈ L, H.size ≤ q.base) ∧ H.size < U.heap.size ∧ (∀ q : Nat, q < H.size → U.heap[q]? = H[q]?) ∧ U.heap[H.size]? = some cO ∧ cO.cls = cc' ∧ cO.vm = .none ∧ cO.slots.size = 8 ∧ U.vm = vm₁)
        (show ((T.setVm vm₁).setTop (F0 m pc ls rest)).vm.classes[cc']? = some kA₁ from hkA₁) hkindA₁ hlim hheap (by show (T.setVm vm₁).heap.size < _; omega) (by show (T.setVm vm₁).slotsUsed + 8 ≤ _; omega) ?_ ?_ ?_
      · refine ⟨(T.setVm vm₁).pushCell { cls := cc', slots := Array.replicate 8 .null }, [], ({ cls := cc', slots := Array.replicate 8 .null } : Cell), rfl, by decide, ?_, by decide, fun q hq => (by cases hq), ?_, ?_, ?_, rfl, rfl, by simp, rfl⟩
        · have h := X₁.pushed { cls := cc', slots := Array.replicate 8 .null }
          simpa using h
        · show H.size < ((T.setVm vm₁).heap.push _).size
          rw [Array.size_push, hH]; omega
        · intro q hq
          show ((T.setVm vm₁).heap.push _)[q]? = _
          rw [Array.getElem?_push, if_neg (by rw [hH]; omega), ← hT]
          rfl
        · show ((T.setVm vm₁).heap.push _)[H.size]? = _
          rw [← hH, Array.getElem?_push_size]
      · intro i rs s' d' acts' Q' hI hQ'
        obtain ⟨U, L, cO, rfl, hlen, XU, hin, hL, hlt, hold, hcO, hc1, hc2, hc3, hvm⟩ := hI
        simp only [List.length_cons] at hlen XU
        obtain ⟨r3, r4⟩ := XU.heapHas (a := 1) (b := 1000) (by omega) (by omega)
        simp only [wp_bind']
        refine mn_inner (kB := kB₁) (kc := compB) (by show U.vm.classes[_]? = _; rw [hvm]; exact hkB₁) hkindB₁ hlim hheap (by show U.heap.size < _; omega) (by show U.slotsUsed + 1000 ≤ _; omega) fun acts2 => ?_
        have hcell : (U.pushCell { cls := comp, slots := Array.replicate 1000 (.int 0) }).heap[H.size]? = some cO := by
          show (U.heap.push _)[H.size]? = _
          rw [Array.getElem?_push, if_neg (by omega)]
          exact hcO
        refine (W.writeLoc _ _ _ _).mpr ⟨cO, ?_, by rw [hc2]; decide, by rw [hc3]; exact hin i List.mem_cons_self, ?_, ?_⟩
        · rw [show ((T.setVm vm₁).setTop (F0 m pc ls rest)).heap.size = H.size from hH]
          exact hcell
        · rw [hc1, hc2]
          have hkA2 : U.vm.classes[cc']? = some kA₁ := by rw [hvm]; exact hkA₁
          simp [State.fitsSlot, State.slotType?, hkA2, hkindA₁, fits]
        · refine hQ' _ _ _ ⟨(U.pushCell { cls := comp, slots := Array.replicate 1000 (.int 0) }).setCell H.size (cO.setSlot i (.ref U.heap.size)), L ++ [⟨H.size, i⟩], cO.setSlot i (.ref U.heap.size), ?_, by omega, ?_, fun j hj => hin j (List.mem_cons_of_mem _ hj), ?_, ?_, ?_, ?_, hc1, hc2, by rw [k2_slotsz]; exact hc3, hvm⟩
          · rw [show ((T.setVm vm₁).setTop (F0 m pc ls rest)).heap.size = H.size from hH]
            rfl
          · have h := (XU.pushed { cls := comp, slots := Array.replicate 1000 (.int 0) }).stored hcell i (.ref U.heap.size)
            rw [List.append_assoc] at h
            rw [show cells + 1 + (8 - rs.length) = cells + 1 + (8 - (rs.length + 1)) + 1 by omega, show slots + 8 + 1000 * (8 - rs.length) = slots + 8 + 1000 * (8 - (rs.length + 1)) + 1000 by omega]
            simpa using h
          · intro q hq
            rcases List.mem_append.mp hq with h | h
            · exact hL q h
            · rw [List.mem_singleton.mp h]
              exact Nat.le_refl _
          · rw [size_setCell, size_pushCell]; omega
          · intro q hq
            show ((U.heap.push _).setIfInBounds H.size _)[q]? = _
            rw [Array.getElem?_setIfInBounds, if_neg (by omega), Array.getElem?_push, if_neg (by omega)]
            exact hold q hq
          · show ((U.heap.push _).setIfInBounds H.size _)[H.size]? = _
            rw [Array.getElem?_setIfInBounds, if_pos rfl, if_pos (by rw [Array.size_push]; omega)]
      · intro s' d' acts' hI
        obtain ⟨U, L, cO, rfl, hlen, XU, hin, hL, hlt, hold, -⟩ := hI
        simp only [wp_bind', W.mark, W.pushRef, State.topJava?_setTop' _ XU.here.top, Option.some.injEq, exists_eq_left', State.setTop_setTop]
        exact ⟨U, L, _, rfl, XU, hL, by omega, hold⟩)
  refine ⟨U, L, a, XU, hL, hsz, hold, fun tg h => hst tg fun acts => ?_⟩
  rw [he, afterInstr_ok]
  exact h
/-- the same, in the walk's words: the old cells stay, a reference lies on the stack -/
theorem tx_mnew {cc : ByteArray} {D : va_G} {cl : List vw_C} {ws : va_W} (hexec : p.tables.exec = Jvm.exec) (hb : c.code = cc) {own : String} {index : Nat} (hown : s.vm.findClass own = some m.cls) (hcl : (Cond.classLink own index "[[Z").before args s = true)
    (hover : (Cond.arrayOver (.array .boolean)).before args s = true) (harr : (Cond.arrayClass .boolean).before args s = true) (hP : va_P D cl ws H) (hS : va_S A s.heap H locs) (hA : ∀ q, s.heap.size ≤ q → A q) (hcells : cells + 9 ≤ R.cells) (hslots : slots + 8008 ≤ R.slots) (hdg : decode cc pc = .ok (.multianewarray index 2, 4))
    (kk : ∀ (a : Nat) (H1 : Heap) (locs1 : List Loc), va_P D cl ws H1 → va_S A s.heap H1 locs1 → W p l e R s m args below meth c H1 locs1 (cells + 9) (slots + 8008) Q (F0 m (pc + 4) ls (.ref a :: rest))) : W p l e R s m args below meth c H locs cells slots Q (F0 m pc ls (.int 1000 :: .int 8 :: rest)) := by
  intro T hT X
  obtain ⟨U, L, a, XU, hL, hsz, hold, st⟩ := mn_core hexec hb hown hcl hover harr hdg hcells hslots hT X
  obtain ⟨t, a1, b1⟩ := kk a U.heap (locs ++ L) (hP.kept (fun k x hx => hold _ ((hP k x hx).lt))) ⟨Nat.le_trans hS.1 hsz, fun q h1 h2 => (hold q (Nat.lt_of_lt_of_le h1 hS.1)).trans (hS.2.1 q h1 h2), fun q hq => (List.mem_append.mp hq).elim (hS.2.2 q) (fun h => hA _ (Nat.le_trans hS.1 (hL q h)))⟩ U rfl XU
  exact ⟨t, st t a1, b1⟩
end MN
