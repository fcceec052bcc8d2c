/-! multianewarray of two dimensions, with all its cells -/
def mnF (h k : Nat) (j : Nat) : Value := if j < k then .ref (h + 1 + j) else .null
theorem arrV_congr2 {cA : ClassId} {n : Nat} {f g : Nat → Value} (h : ∀ j, j < n → f j = g j) : arrV cA n f = arrV cA n g := by
  unfold arrV
  congr 2
  funext j
  exact h j.val j.isLt
section MN2
variable {p : Program} {l : Launch} {e : Env} {R : Room} {s : State} {m : MethodId} {args : Array Value} {below : List Frame} {meth : Method} {c : Code} {H : Heap} {locs : List Loc} {cells slots : Nat} {Q : State → Prop}
variable {pc : Nat} {ls : Array Slot} {rest : List Value} {A : Nat → Prop}
set_option maxHeartbeats 4000000 in
theorem mn_core2 {cc : ByteArray} (hexec : p.tables.exec = Jvm.exec) (hb : c.code = cc) {own : String} {index : Nat} (hown : s.vm.findClass own = some m.cls) (hcl : (Cond.classLink own index "[[Z").before args s = true)
    (hover : (Cond.arrayOver (.array .boolean)).before args s = true) (harr : (Cond.arrayClass .boolean).before args s = true) (hdg : decode cc pc = .ok (.multianewarray index 2, 4)) (hcells : cells + 9 ≤ R.cells) (hslots : slots + 8008 ≤ R.slots)
    {T : State} (hT : T.heap = H) (X : Stand p l e R s m args below meth c T locs cells slots) :
    ∃ (U : State) (L : List Loc) (cA cB : ClassId), Stand p l e R s m args below meth c U (locs ++ L) (cells + 9) (slots + 8008) ∧ (∀ q ∈ L, H.size ≤ q.base) ∧ U.heap.size = H.size + 9 ∧ (∀ q : Nat, q < H.size → U.heap[q]? = H[q]?) ∧ s.vm.findClass "[[Z" = some cA ∧ s.vm.findClass "[Z" = some cB ∧ U.heap[H.size]? = some (arrV cA 8 (mnF H.size 8)) ∧ (∀ j, j < 8 → U.heap[H.size + 1 + j]? = some (arrV cB 1000 (fun _ => .int 0))) ∧
      ∀ tg, Steps p.tables e below (U.setTop (F0 m (pc + 4) ls (.ref H.size :: rest))) tg → Steps p.tables e below (T.setTop (F0 m pc ls (.int 1000 :: .int 8 :: rest))) tg := by
  subst hb
  have hpl : e.platform.magicAccessors = ({} : Platform).magicAccessors := by rw [X.admits.platform]
  obtain ⟨comp, cA, kA, hcomp, hidx, hkA, hkindA, hnameA⟩ := arrayOverA_spec hover
  obtain ⟨kComp, hkComp, -⟩ := Vm.findClass_spec hcomp
  obtain ⟨cc', hfcc, hcl2⟩ := Cond.classLink_spec hown hcl e.platform hpl
  have hcA : cc' = cA := Option.some.inj (hfcc.symm.trans hnameA)
  subst hcA
  obtain ⟨hg₁, hwarm₁, hready₁⟩ := State.classEntry (e := e) X.warmed hcl2
  have hsz₁ : (T.vm.noted m.cls index (.cls cc')).classes.size ≤ T.vm.classes.size := by rw [Vm.size_noted]; exact Nat.le_refl _
  generalize T.vm.noted m.cls index (.cls cc') = vm₁ at hg₁ hwarm₁ hready₁ hsz₁
  have hal : s.vm.Alike vm₁ := hwarm₁.alike
  obtain ⟨kA₁, hkA₁, heA⟩ := hal.2.2 _ _ hkA
  have hkindA₁ : kA₁.kind = .array comp (.array .boolean) := by rw [heA]; exact hkindA
  obtain ⟨cB, kB, compB, hfB, hkB, hkindB⟩ := Cond.arrayClass_spec (show (Cond.arrayClass .boolean).holds args s none s [] = true from harr)
  have hcB : comp = cB := Option.some.inj (hcomp.symm.trans hfB)
  subst hcB
  obtain ⟨kB₁, hkB₁, heB⟩ := hal.2.2 _ _ hkB
  have hkindB₁ : kB₁.kind = .array compB .boolean := by rw [heB]; exact hkindB
  have X₁ := X.noted hwarm₁
  obtain ⟨s₁, ⟨U, L, he, XU, hL, hsz, hold, hO, hR⟩, hst⟩ := mn_instr (tb := p.tables) (e := e) (below := below) (s := T) (f := F0 m pc ls (.int 1000 :: .int 8 :: rest)) (c := c)
    (Ψ := fun s₁ => ∃ (U : State) (L : List Loc), s₁ = U.setTop (F0 m pc ls (.ref H.size :: rest)) ∧ Stand p l e R s m args below meth c U (locs ++ L) (cells + 9) (slots + 8008) ∧ (∀ q ∈ L, H.size ≤ q.base) ∧ U.heap.size = H.size + 9 ∧ (∀ q : Nat, q < H.size → U.heap[q]? = H[q]?) ∧ U.heap[H.size]? = some (arrV cc' 8 (mnF H.size 8)) ∧ ∀ j, j < 8 → U.heap[H.size + 1 + j]? = some (arrV comp 1000 (fun _ => .int 0)))
    X.here hdg (by
      rw [hexec]
      have hm1 : (T.setTop (F0 m pc ls (.int 1000 :: .int 8 :: rest))).method? = some m := State.method?_setTop _ X.here.top
      simp only [wpRun, exec, multianewarray.sem, wp_bind', W.resolveClassAt_links (e := e) (t := T.setTop (F0 m pc ls (.int 1000 :: .int 8 :: rest))) hm1 (show (Jvm.resolveClass m.cls index).Gives e.toSetting (T.setTop (F0 m pc ls (.int 1000 :: .int 8 :: rest))).vm (.ok cc') vm₁ from hg₁) hsz₁]
      have htop1 : (T.setVm vm₁).topJava?.isSome := X₁.here.top
      have hpop := fun (QL : List Value → Pre) (EH : CtlPost) (d : Bool) (acts : List Action) => popN_top (Q := QL) (E := EH) (e := e) (d := d) (acts := acts) (s := T.setVm vm₁) (f := F0 m pc ls (.int 1000 :: .int 8 :: rest)) htop1 (args := [.int 8, .int 1000]) (rest := rest) rfl
      rw [show (T.setTop (F0 m pc ls (.int 1000 :: .int 8 :: rest))).setVm vm₁ = (T.setVm vm₁).setTop (F0 m pc ls (.int 1000 :: .int 8 :: rest)) from rfl]
      refine (hpop _ _ _ _).mpr ?_
      simp only [wp_bind', List.mapM_cons, List.mapM_nil, wp_pure']
      have hlim := Launch.admits_arrayLengthLimit X.admits
      have hheap := Launch.admits_maxHeapBytes X.admits
      obtain ⟨r1, r2⟩ := X₁.heapHas (a := 1) (b := 8) (by omega) (by omega)
      have hH : (T.setVm vm₁).heap.size = H.size := by rw [← hT]; rfl
      refine mn_outer (fun rs s' => ∃ (U : State) (L : List Loc), s' = U.setTop (F0 m pc ls rest) ∧ rs.length ≤ 8 ∧ rs = List.range' (8 - rs.length) rs.length ∧ Stand p l e R s m args below meth c U (locs ++ L) (cells + 1 + (8 - rs.length)) (slots + 8 + 1000 * (8 - rs.length)) ∧ (∀ q ∈ L, H.size ≤ q.base) ∧ U.heap.size = H.size + 1 + (8 - rs.length) ∧ (∀ q : Nat, q < H.size → U.heap[q]? = H[q]?) ∧ U.heap[H.size]? = some (arrV cc' 8 (mnF H.size (8 - rs.length))) ∧ (∀ j, j < 8 - rs.length → U.heap[H.size + 1 + j]? = some (arrV comp 1000 (fun _ => .int 0))) ∧ U.vm = vm₁)
        (show ((T.setVm vm₁).setTop (F0 m pc ls rest)).vm.classes[cc']? = some kA₁ from hkA₁) hkindA₁ hlim hheap (by show (T.setVm vm₁).heap.size < _; omega) (by show (T.setVm vm₁).slotsUsed + 8 ≤ _; omega) ?_ ?_ ?_
      · refine ⟨(T.setVm vm₁).pushCell { cls := cc', slots := Array.replicate 8 .null }, [], rfl, by decide, rfl, ?_, fun q hq => (by cases hq), ?_, ?_, ?_, fun j hj => absurd hj (by simp), rfl⟩
        · have h := X₁.pushed { cls := cc', slots := Array.replicate 8 .null }
          simpa using h
        · show ((T.setVm vm₁).heap.push _).size = _
          rw [Array.size_push, hH]; rfl
        · intro q hq
          show ((T.setVm vm₁).heap.push _)[q]? = _
          rw [Array.getElem?_push, if_neg (by rw [hH]; omega), ← hT]
          rfl
        · show ((T.setVm vm₁).heap.push _)[H.size]? = _
          rw [← hH, Array.getElem?_push_size]
          exact congrArg some (arrV_new cc' 8 .null)
      · intro i rs s' d' acts' Q' hI hQ'
        obtain ⟨U, L, rfl, hlen, hrs, XU, hL, hlt, hold, hcO, hrows, hvm⟩ := hI
        simp only [List.length_cons] at hlen XU hrs hlt hcO hrows
        rw [List.range'_succ] at hrs
        obtain ⟨hi, hrs⟩ := List.cons.inj hrs
        have hk : 8 - rs.length = 8 - (rs.length + 1) + 1 := by omega
        generalize hkk : 8 - (rs.length + 1) = k at hi hrs XU hlt hcO hrows hk
        have hi8 : i < 8 := by omega
        subst hi
        obtain ⟨r3, r4⟩ := XU.heapHas (a := 1) (b := 1000) (by omega) (by omega)
        simp only [wp_bind']
        refine mn_inner (kB := kB₁) (kc := compB) (by show U.vm.classes[_]? = _; rw [hvm]; exact hkB₁) hkindB₁ hlim hheap (by show U.heap.size < _; omega) (by show U.slotsUsed + 1000 ≤ _; omega) fun acts2 => ?_
        have hcell : (U.pushCell { cls := comp, slots := Array.replicate 1000 (.int 0) }).heap[H.size]? = some (arrV cc' 8 (mnF H.size i)) := by
          show (U.heap.push _)[H.size]? = _
          rw [Array.getElem?_push, if_neg (by omega)]
          exact hcO
        refine (W.writeLoc _ _ _ _).mpr ⟨arrV cc' 8 (mnF H.size i), ?_, (by show VmData.none ≠ VmData.unknown; decide), by rw [arrV_size]; exact hi8, ?_, ?_⟩
        · rw [show ((T.setVm vm₁).setTop (F0 m pc ls rest)).heap.size = H.size from hH]
          exact hcell
        · have hkA2 : U.vm.classes[cc']? = some kA₁ := by rw [hvm]; exact hkA₁
          show State.fitsSlot _ (arrV cc' 8 (mnF H.size i)).cls (arrV cc' 8 (mnF H.size i)).vm _ _ = true
          simp [arrV, State.fitsSlot, State.slotType?, hkA2, hkindA₁, fits]
        · refine hQ' _ _ _ ⟨(U.pushCell { cls := comp, slots := Array.replicate 1000 (.int 0) }).setCell H.size ((arrV cc' 8 (mnF H.size i)).setSlot i (.ref U.heap.size)), L ++ [⟨H.size, i⟩], ?_, by omega, ?_, ?_, ?_, ?_, ?_, ?_, ?_, hvm⟩
          · rw [show ((T.setVm vm₁).setTop (F0 m pc ls rest)).heap.size = H.size from hH]
            rfl
          · rw [hk]; exact hrs
          · have h := (XU.pushed { cls := comp, slots := Array.replicate 1000 (.int 0) }).stored hcell i (.ref U.heap.size)
            rw [List.append_assoc] at h
            rw [show cells + 1 + (8 - rs.length) = cells + 1 + i + 1 by omega, show slots + 8 + 1000 * (8 - rs.length) = slots + 8 + 1000 * i + 1000 by omega]
            simpa using h
          · intro q hq
            rcases List.mem_append.mp hq with h | h
            · exact hL q h
            · rw [List.mem_singleton.mp h]
              exact Nat.le_refl _
          · rw [size_setCell, size_pushCell]; omega
          · intro q hq
            show ((U.heap.push _).setIfInBounds H.size _)[q]? = _
            rw [Array.getElem?_setIfInBounds, if_neg (by omega), Array.getElem?_push, if_neg (by omega)]
            exact hold q hq
          · show ((U.heap.push _).setIfInBounds H.size _)[H.size]? = _
            rw [Array.getElem?_setIfInBounds, if_pos rfl, if_pos (by rw [Array.size_push]; omega), arrV_store, hlt, hk]
            congr 2
            funext j
            unfold updV mnF
            by_cases hj : j = i
            · subst hj; rw [if_pos rfl, if_pos (by omega)]
            · rw [if_neg hj]
              by_cases hj2 : j < i
              · rw [if_pos hj2, if_pos (by omega)]
              · rw [if_neg hj2, if_neg (by omega)]
          · intro j hj
            show ((U.heap.push _).setIfInBounds H.size _)[H.size + 1 + j]? = _
            rw [Array.getElem?_setIfInBounds, if_neg (by omega), Array.getElem?_push]
            by_cases hji : j = i
            · subst hji
              rw [if_pos (by omega)]
              exact congrArg some (arrV_new comp 1000 (.int 0))
            · rw [if_neg (by omega)]
              exact hrows j (by omega)
      · intro s' d' acts' hI
        obtain ⟨U, L, rfl, hlen, -, XU, hL, hlt, hold, hO, hR, -⟩ := hI
        simp only [wp_bind', W.mark, W.pushRef, State.topJava?_setTop' _ XU.here.top, Option.some.injEq, exists_eq_left', State.setTop_setTop]
        refine ⟨U, L, ?_, XU, hL, hlt, hold, hO, hR⟩
        rw [show ((T.setVm vm₁).setTop (F0 m pc ls rest)).heap.size = H.size from hH])
  refine ⟨U, L, cc', comp, XU, hL, hsz, hold, hnameA, hcomp, hO, hR, fun tg h => hst tg fun acts => ?_⟩
  rw [he, afterInstr_ok]
  exact h

/-- the nine cells of a boolean[8][1000] at q -/
def mn9 (c4 c2 : ClassId) (q : Nat) : va_W := (q, .inl (c4, 8, .inr (.inr (.inr (.inr (fun r => some (q + 1 + r))))))) :: (List.range 8).map (fun j => (q + 1 + j, .inl (c2, 1000, .inl (fun _ => 0))))
theorem mn9_at {c4 c2 : ClassId} {q j : Nat} (h : j < 8) : (mn9 c4 c2 q)[1 + j]? = some (q + 1 + j, .inl (c2, 1000, .inl (fun _ => 0))) := by
  unfold mn9
  rw [Nat.add_comm 1 j, List.getElem?_cons_succ, List.getElem?_map, List.getElem?_range h]
  rfl
theorem mn9_of {c4 c2 : ClassId} {q k : Nat} {x : Nat × va_E} (h : (mn9 c4 c2 q)[k]? = some x) : x.1 = q + k ∧ k < 9 := by
  cases k with
  | zero => cases h; exact ⟨rfl, by decide⟩
  | succ k =>
    unfold mn9 at h
    rw [List.getElem?_cons_succ, List.getElem?_map] at h
    by_cases hk : k < 8
    · rw [List.getElem?_range hk] at h
      cases h
      exact ⟨by show q + 1 + k = q + (k + 1); omega, by omega⟩
    · rw [List.getElem?_eq_none (by simp; omega)] at h
      cases h
theorem tx_mnew2 {cc : ByteArray} {D : va_G} {cl : List vw_C} {ws : va_W} {c4 c2 : ClassId} (hexec : p.tables.exec = Jvm.exec) (hb : c.code = cc) {own : String} {index : Nat} (hown : s.vm.findClass own = some m.cls) (hcl : (Cond.classLink own index "[[Z").before args s = true)
    (hover : (Cond.arrayOver (.array .boolean)).before args s = true) (harr : (Cond.arrayClass .boolean).before args s = true) (h4 : s.vm.findClass "[[Z" = some c4) (h2 : s.vm.findClass "[Z" = some c2) (hP : va_P D cl ws H) (hD : va_D A ws) (hS : va_S A s.heap H locs) (hA : ∀ q, s.heap.size ≤ q → A q) (hcells : cells + 9 ≤ R.cells) (hslots : slots + 8008 ≤ R.slots) (hdg : decode cc pc = .ok (.multianewarray index 2, 4))
    (kk : ∀ (q : Nat) (H1 : Heap) (locs1 : List Loc), va_P D cl (ws ++ mn9 c4 c2 q) H1 → va_D A (ws ++ mn9 c4 c2 q) → va_S A s.heap H1 locs1 → W p l e R s m args below meth c H1 locs1 (cells + 9) (slots + 8008) Q (F0 m (pc + 4) ls (.ref q :: rest))) : W p l e R s m args below meth c H locs cells slots Q (F0 m pc ls (.int 1000 :: .int 8 :: rest)) := by
  intro T hT X
  obtain ⟨U, L, cA, cB, XU, hL, hsz, hold, hn4, hn2, hO, hR, st⟩ := mn_core2 hexec hb hown hcl hover harr hdg hcells hslots hT X
  cases hn4.symm.trans h4
  cases hn2.symm.trans h2
  have hP1 : va_P D cl (mn9 c4 c2 H.size) U.heap := by
    intro k x hx
    obtain ⟨e1, e2⟩ := mn9_of hx
    cases k with
    | zero =>
      cases hx
      show U.heap[H.size]? = some (vp_cell c4 _)
      rw [hO]
      congr 1
    | succ k =>
      rw [Nat.add_comm k 1, mn9_at (by omega)] at hx
      cases hx
      show U.heap[H.size + 1 + k]? = some (vp_cell c2 _)
      rw [hR k (by omega)]
      rfl
  have hD1 : va_D A (ws ++ mn9 c4 c2 H.size) := by
    refine hD.app ⟨fun i j x y hx hy e => ?_, fun k x hx => ?_⟩ (fun i j x y hx hy e => ?_)
    · have := (mn9_of hx).1; have := (mn9_of hy).1; omega
    · rw [(mn9_of hx).1]
      exact hA _ (Nat.le_trans hS.1 (by omega))
    · have h1 := (hP i x hx).lt
      have h2 := (mn9_of hy).1
      omega
  obtain ⟨t, a1, b1⟩ := kk H.size U.heap (locs ++ L) ((hP.kept (fun k x hx => hold _ ((hP k x hx).lt))).app hP1) hD1 ⟨Nat.le_trans hS.1 (by omega), fun q h1 h2 => (hold q (Nat.lt_of_lt_of_le h1 hS.1)).trans (hS.2.1 q h1 h2), fun q hq => (List.mem_append.mp hq).elim (hS.2.2 q) (fun h => hA _ (Nat.le_trans hS.1 (hL q h)))⟩ U rfl XU
  exact ⟨t, st t a1, b1⟩
end MN2
