/-! TEXTS IN THE CODE: nine literals by number (0 to 2 the reference's, 3 to 5 the reader's, 6 to 8 the writer's). Printed by wip/gen/ss.py -/
def sByt : List (List Int32) := [[110, 117, 108, 108], [102, 97, 108, 115, 101], [116, 114, 117, 101], [110, 117, 108, 108], [102, 97, 108, 115, 101], [116, 114, 117, 101], [110, 117, 108, 108], [102, 97, 108, 115, 101], [116, 114, 117, 101]]
def sLn (i : Nat) : Nat := (sByt.getD i []).length
def sCh (i j : Nat) : Int32 := (sByt.getD i []).getD j 0
def sOwn (i : Nat) : String := (["JoinedTreesModel", "JoinedTreesModel", "JoinedTreesModel", "JoinedTrees$JsonReader", "JoinedTrees$JsonReader", "JoinedTrees$JsonReader", "JoinedTrees$JsonWriter", "JoinedTrees$JsonWriter", "JoinedTrees$JsonWriter"] : List String).getD i ""
def sIx (i : Nat) : Nat := ([351, 353, 355, 113, 119, 121, 90, 96, 98] : List Nat).getD i 0
def sTx (i : Nat) : String := (["null", "false", "true", "null", "false", "true", "null", "false", "true"] : List String).getD i ""
def sF (sad sav : Nat → Nat) (A : Nat → Prop) (U : State) (H : Heap) (i : Nat) : Prop :=
  va_O "java/lang/String" (sad i) A U H ∧ va_OF "java/lang/String" "coder" "B" (.int 0) (sad i) A U H ∧ va_OF "java/lang/String" "value" "[B" (.ref (sav i)) (sad i) A U H ∧ va_T .byte (sav i) (sLn i) (fun j => .int (sCh i j)) A U H
def sE (sad sav : Nat → Nat) (A : Nat → Prop) (U : State) : Prop :=
  (∀ i : Nat, i < 9 → vk_R (sOwn i) (sIx i) (sTx i) (sad i) U ∧ sF sad sav A U U.heap i) ∧ va_Z "java/lang/String" "COMPACT_STRINGS" "Z" (.int 1) A U U.heap ∧ va_Zq "jdk/internal/util/Preconditions" "SIOOBE_FORMATTER" "Ljava/util/function/BiFunction;" A U U.heap
theorem sE.go {sad sav : Nat → Nat} {A A' : Nat → Prop} {s U : State} {H : Heap} {locs : List Loc} (h : sE sad sav A s) (hS : va_S A s.heap H locs) (hA : ∀ q, A' q → A q) (hU : U.heap = H) (hW : s.WarmedH U.vm) : sE sad sav A' U := by
  obtain ⟨h1, h2, h3⟩ := h
  refine ⟨fun i hi => ?_, by rw [hU]; exact ((h2.kept hS.2.1).moved hW.alike).narrow hA, by rw [hU]; exact ((h3.kept hS.2.1).moved hW.alike).narrow hA⟩
  obtain ⟨g1, g2, g3, g4, g5⟩ := h1 i hi
  refine ⟨g1.warm hW, ?_⟩
  rw [hU]
  exact ⟨((g2.kept hS.2.1).moved hW.alike).narrow hA, ((g3.kept hS.2.1).moved hW.alike).narrow hA, ((g4.kept hS.2.1).moved hW.alike).narrow hA, ((g5.kept hS.2.1).moved hW.alike).narrow hA⟩
theorem sE.calling {sad sav : Nat → Nat} {A : Nat → Prop} {U : State} (h : sE sad sav A U) (g : JFrame) (mk : MethodId) (a : Array Value) : sE sad sav A (U.calling g mk a) := by
  obtain ⟨h1, h2, h3⟩ := h
  have hW : U.WarmedH (U.calling g mk a).vm := State.WarmedH.refl U
  refine ⟨fun i hi => ?_, h2.moved hW.alike, h3.moved hW.alike⟩
  obtain ⟨g1, g2, g3, g4, g5⟩ := h1 i hi
  exact ⟨g1.warm hW, g2.moved hW.alike, g3.moved hW.alike, g4.moved hW.alike, g5.moved hW.alike⟩
def gPs (sad sav : Nat → Nat) (D : va_G) (ws : va_W) (ty : List (ClassId × FieldType)) (sz : Nat) (av : List Value) : Array Value → State → Prop :=
  va_Pc av (fun U => U.heap.size = sz ∧ va_P D cls ws U.heap ∧ va_K D cls ty U ∧ va_D (fun _ => True) ws ∧ sE sad sav (va_A ws U.heap.size) U)
theorem gs_blind {sad sav : Nat → Nat} {D : va_G} {ws : va_W} {ty : List (ClassId × FieldType)} {sz : Nat} {av : List Value} : FrameBlind (gPs sad sav D ws ty sz av) := fun a U g mk q => by
  obtain ⟨q0, q1, qP, qK, qD, qE⟩ := q
  exact ⟨q0, q1, qP, va_K.moved (u := U) (U := U.calling g mk a) (Vm.Alike.refl U.vm) qK, qD, qE.calling g mk a⟩
theorem gs_pre {sad sav : Nat → Nat} {D : va_G} {ws : va_W} {ty : List (ClassId × FieldType)} {s U : State} {H : Heap} {A : Nat → Prop} {locs : List Loc} {av : List Value} (hU : U.heap = H) (hW : s.WarmedH U.vm) (hP : va_P D cls ws H) (hK : va_K D cls ty s) (hD : va_D A ws) (hE : sE sad sav A s) (hS : va_S A s.heap H locs) (hFc : ∀ q, va_A ws H.size q → A q) : gPs sad sav D ws ty H.size av av.toArray U :=
  ⟨rfl, by rw [hU], by rw [hU]; exact hP, hK.moved hW.alike, hD.weaken (fun _ _ _ _ => trivial), hE.go hS (by rw [hU]; exact hFc) hU hW⟩
theorem p_nil {D : va_G} {H : Heap} : va_P D cls [] H := fun k q h => by simp at h
theorem d_nil {A : Nat → Prop} : va_D A [] := ⟨fun i j p q h => by simp at h, fun k q h => by simp at h⟩
theorem p_keep0 {D : va_G} {ws : va_W} {H H1 : Heap} (hP : va_P D cls ws H) (hk : ∀ q : Nat, q < H.size → ¬ va_A [] H.size q → H1[q]? = H[q]?) : va_P D cls ws H1 :=
  hP.kept fun k x hx => hk x.1 (hP k x hx).lt (fun h => h.elim (fun ⟨i, e, h⟩ => by simp at h) (fun h => absurd (hP k x hx).lt (Nat.not_lt.mpr h)))
theorem f_nil {A0 : Nat → Prop} {H0 H : Heap} {locs : List Loc} (hS : va_S A0 H0 H locs) (hA : ∀ q, H0.size ≤ q → A0 q) : ∀ q, va_A [] H.size q → A0 q := fr_all (d_nil) hS hA
theorem sE_recv {sad sav : Nat → Nat} {A : Nat → Prop} {s : State} {H : Heap} {locs : List Loc} {i : Nat} (hE : sE sad sav A s) (hi : i < 9) (hS : va_S A s.heap H locs) : ∃ cell : Cell, H[sad i]? = some cell ∧ cell.vm.isStatics = false ∧ s.vm.findClass "java/lang/String" = some cell.cls := by
  obtain ⟨cell, h1, h2, h3, -⟩ := (hE.1 i hi).2.1.kept hS.2.1
  exact ⟨cell, h1, h2, h3⟩
theorem sCh_c : ∀ i : Nat, i < 9 → ∀ j : Nat, j < sLn i → ((sCh i j &&& 255).toUInt32 % 65536).toInt32 = sCh i j ∧ narrow .char (.int (sCh i j)) = .int (sCh i j) := by decide +kernel
theorem sLn_s : ∀ i : Nat, i < 9 → (nI (sLn i)) >>> ((0 : Int32) &&& 31) = nI (sLn i) := by decide +kernel
def gS {τ : Type} (k : Nat) (x : Option τ) : Option τ := if k < 9 then x else none
theorem gS_some {τ : Type} {k : Nat} {x : Option τ} {o : τ} (h : gS k x = some o) : k < 9 ∧ x = some o := by
  unfold gS at h
  split at h
  · rename_i h1; exact ⟨h1, h⟩
  · cases h
def MCs (sad sav : Nat → Nat) (own : String) (code : ByteArray) (maxL : Nat) (ret : Option FieldType) (p : Program) (s : State) (m : MethodId) (args : Array Value) (meth : Method) (c : Code) (A : Nat → Prop) (D : va_G) (mc : Nat → ClassId) : Prop :=
  MCx own code maxL ret p s m args meth c A D mc ∧ sE sad sav A s
section LDCW
variable {p : Program} {l : Launch} {e : Env} {R : Room} {s : State} {m : MethodId} {args : Array Value} {below : List Frame} {meth : Method} {c : Code} {H : Heap} {locs : List Loc} {cells slots : Nat} {Q : State → Prop}
variable {cc : ByteArray} {pc : Nat} {ls : Array Slot} {rest : List Value}
theorem tx_ldcwX {T : State} (X : Stand p l e R s m args below meth c T locs cells slots) (hexec : p.tables.exec = Jvm.exec) {own text : String} {index : Nat} {a : Addr} (hown : s.vm.findClass own = some m.cls)
    (hconst : (Cond.stringRef own index text).before args s = true) (hev : (Term.string own index).eval args s none [] s = some (.ref a)) {g : JFrame} (hg : g.method = m) (hdg : decode c.code g.pc = .ok (.ldc_w index, 3)) :
    ∀ target, Steps p.tables e below (T.setTop { g with pc := g.pc + 3, stack := .ref a :: g.stack }) target → Steps p.tables e below (T.setTop g) target := by
  obtain ⟨k, cf, i, a', hk, hcf, hcp, -, hr, hev'⟩ := Cond.stringRef_spec hown hconst
  cases hev.symm.trans hev'
  obtain ⟨k', hk', he⟩ := X.warmed.alike.2.2 _ _ hk
  have hr' : k'.resolved[index]? = some (some (.string a)) := by
    rcases X.warmed.entry hk hk' index with h | ⟨h, -⟩
    · rw [h]; exact hr
    · rw [hr] at h; cases h
  intro target hrest
  subst hg
  jvm_step X.here [hexec, hdg, ldc_w.wp_string (e := e) (s := T) (f := g) X.here.top hk' (by rw [he]; exact hcf) hcp hr']
  exact hrest
theorem tx_ldcwS (hexec : p.tables.exec = Jvm.exec) (hb : c.code = cc) {own tx : String} {index q : Nat} (hown : s.vm.findClass own = some m.cls) (hZ : vk_R own index tx q s) (hdg : decode cc pc = .ok (.ldc_w index, 3))
    (k : W p l e R s m args below meth c H locs cells slots Q (F0 m (pc + 3) ls (.ref q :: rest))) : W p l e R s m args below meth c H locs cells slots Q (F0 m pc ls rest) := by
  intro T hT X
  obtain ⟨t, a1, b1⟩ := k T hT X
  exact ⟨t, tx_ldcwX X hexec hown (text := tx) (a := q) hZ.1 hZ.2 (g := F0 m pc ls rest) rfl (by rw [hb]; exact hdg) t a1, b1⟩
end LDCW
theorem d_pcn_0 : decode prog_29_method_11_code 0 = .ok (.iload_n 0, 1) := by decide +kernel
theorem d_pcn_1 : decode prog_29_method_11_code 1 = .ok (.ifCond .lt 8, 3) := by decide +kernel
theorem d_pcn_4 : decode prog_29_method_11_code 4 = .ok (.iload_n 0, 1) := by decide +kernel
theorem d_pcn_5 : decode prog_29_method_11_code 5 = .ok (.iload_n 1, 1) := by decide +kernel
theorem d_pcn_6 : decode prog_29_method_11_code 6 = .ok (.if_icmp .lt 10, 3) := by decide +kernel
theorem d_pcn_16 : decode prog_29_method_11_code 16 = .ok (.iload_n 0, 1) := by decide +kernel
theorem d_pcn_17 : decode prog_29_method_11_code 17 = .ok (.ireturn, 1) := by decide +kernel
theorem g_pcn (l : Launch) (D : va_G) (sz : Nat) (sad sav : Nat → Nat) {i n : Int32} (h1 : ¬ i < 0) (h2 : i < n) : Met l ⟨"jdk/internal/util/Preconditions", "checkIndex", "(IILjava/util/function/BiFunction;)I"⟩ (Cond.code ⟨"jdk/internal/util/Preconditions", "checkIndex", "(IILjava/util/function/BiFunction;)I"⟩ prog_29_method_11_code 3 (some .int) :: gb) ({ frames := 0, cells := 0, slots := 0, locals := 0 }) (gPs sad sav D [] [] sz [.int i, .int n, .null]) (va_Qi (fun (r : Int32) (_ : Unit) => r = i) (fun _ t => True) (va_A [] sz)) 0 0 (va_A [] sz) := by
  refine Met.ofW (cc := prog_29_method_11_code) (maxL := 3) (ret := (some .int)) (by decide) rfl ?_
  intro p e s m args below meth c s₁ B hml hv
  obtain ⟨rfl, hsz, hP, hK, hD0, hE⟩ := hv
  have hx := B.exec
  have hb := B.bytes
  have hr := B.returns
  have hts : ∀ w9 ∈ gb, w9.before [.int i, .int n, .null].toArray s = true := fun w9 h => atoms_spec (ws := Cond.code ⟨"jdk/internal/util/Preconditions", "checkIndex", "(IILjava/util/function/BiFunction;)I"⟩ prog_29_method_11_code 3 (some .int) :: gb) B.pre w9 (List.mem_cons_of_mem _ h)
  have hown : s.vm.findClass "jdk/internal/util/Preconditions" = some m.cls := findClass_of_methodNamed B.named
  have hlocks := B.notSynchronized
  subst hsz
  generalize hAe : va_A [] s.heap.size = A at hE ⊢
  have hA : ∀ q : Nat, s.heap.size ≤ q → A q := fun q h => by rw [← hAe]; exact Or.inr h
  have hS : va_S A s.heap s.heap [] := va_S.rf
  have hl := lv_entry ([.int i, .int n, .null]) (n := 3) (Nat.le_of_ble_eq_true rfl)
  rw [lg_entry_eq]
  generalize (lg_sl ([.int i, .int n, .null]) ++ List.replicate (3 - (lg_sl ([.int i, .int n, .null])).length) Slot.unset).toArray = ls at hl ⊢
  have hl : lv_has ls 3 [(0, .int i), (1, .int n), (2, .null)] := hl
  refine lv_iload_n hx hb d_pcn_0 rfl (lv_at hl 0 rfl) ?_
  refine lv_if_lt (tgt := 9) hx hb d_pcn_1 (by decide) (fun h => absurd h h1) (fun _ => ?_)
  refine lv_iload_n hx hb d_pcn_4 rfl (lv_at hl 0 rfl) ?_
  refine lv_iload_n hx hb d_pcn_5 rfl (lv_at hl 1 rfl) ?_
  refine lv_icmp_lt (tgt := 16) hx hb d_pcn_6 (by decide) (fun _ => ?_) (fun h => absurd h2 h)
  refine lv_iload_n hx hb d_pcn_16 rfl (lv_at hl 0 rfl) ?_
  exact W.iret (v := i) hx hb hr (fun t ht hW => ⟨⟨_, (), rfl, rfl, trivial⟩, hS.F ht⟩) hS.2.2 d_pcn_17
theorem d_pcr_0 : decode prog_29_method_11_code 0 = .ok (.iload_n 0, 1) := by decide +kernel
theorem d_pcr_1 : decode prog_29_method_11_code 1 = .ok (.ifCond .lt 8, 3) := by decide +kernel
theorem d_pcr_4 : decode prog_29_method_11_code 4 = .ok (.iload_n 0, 1) := by decide +kernel
theorem d_pcr_5 : decode prog_29_method_11_code 5 = .ok (.iload_n 1, 1) := by decide +kernel
theorem d_pcr_6 : decode prog_29_method_11_code 6 = .ok (.if_icmp .lt 10, 3) := by decide +kernel
theorem d_pcr_16 : decode prog_29_method_11_code 16 = .ok (.iload_n 0, 1) := by decide +kernel
theorem d_pcr_17 : decode prog_29_method_11_code 17 = .ok (.ireturn, 1) := by decide +kernel
theorem g_pcr (l : Launch) (D : va_G) (sz : Nat) (sad sav : Nat → Nat) {t0 : Nat} {i n : Int32} (h1 : ¬ i < 0) (h2 : i < n) : Met l ⟨"jdk/internal/util/Preconditions", "checkIndex", "(IILjava/util/function/BiFunction;)I"⟩ (Cond.code ⟨"jdk/internal/util/Preconditions", "checkIndex", "(IILjava/util/function/BiFunction;)I"⟩ prog_29_method_11_code 3 (some .int) :: gb) ({ frames := 0, cells := 0, slots := 0, locals := 0 }) (gPs sad sav D [] [] sz [.int i, .int n, .ref t0]) (va_Qi (fun (r : Int32) (_ : Unit) => r = i) (fun _ t => True) (va_A [] sz)) 0 0 (va_A [] sz) := by
  refine Met.ofW (cc := prog_29_method_11_code) (maxL := 3) (ret := (some .int)) (by decide) rfl ?_
  intro p e s m args below meth c s₁ B hml hv
  obtain ⟨rfl, hsz, hP, hK, hD0, hE⟩ := hv
  have hx := B.exec
  have hb := B.bytes
  have hr := B.returns
  have hts : ∀ w9 ∈ gb, w9.before [.int i, .int n, .ref t0].toArray s = true := fun w9 h => atoms_spec (ws := Cond.code ⟨"jdk/internal/util/Preconditions", "checkIndex", "(IILjava/util/function/BiFunction;)I"⟩ prog_29_method_11_code 3 (some .int) :: gb) B.pre w9 (List.mem_cons_of_mem _ h)
  have hown : s.vm.findClass "jdk/internal/util/Preconditions" = some m.cls := findClass_of_methodNamed B.named
  have hlocks := B.notSynchronized
  subst hsz
  generalize hAe : va_A [] s.heap.size = A at hE ⊢
  have hA : ∀ q : Nat, s.heap.size ≤ q → A q := fun q h => by rw [← hAe]; exact Or.inr h
  have hS : va_S A s.heap s.heap [] := va_S.rf
  have hl := lv_entry ([.int i, .int n, .ref t0]) (n := 3) (Nat.le_of_ble_eq_true rfl)
  rw [lg_entry_eq]
  generalize (lg_sl ([.int i, .int n, .ref t0]) ++ List.replicate (3 - (lg_sl ([.int i, .int n, .ref t0])).length) Slot.unset).toArray = ls at hl ⊢
  have hl : lv_has ls 3 [(0, .int i), (1, .int n), (2, .ref t0)] := hl
  refine lv_iload_n hx hb d_pcr_0 rfl (lv_at hl 0 rfl) ?_
  refine lv_if_lt (tgt := 9) hx hb d_pcr_1 (by decide) (fun h => absurd h h1) (fun _ => ?_)
  refine lv_iload_n hx hb d_pcr_4 rfl (lv_at hl 0 rfl) ?_
  refine lv_iload_n hx hb d_pcr_5 rfl (lv_at hl 1 rfl) ?_
  refine lv_icmp_lt (tgt := 16) hx hb d_pcr_6 (by decide) (fun _ => ?_) (fun h => absurd h2 h)
  refine lv_iload_n hx hb d_pcr_16 rfl (lv_at hl 0 rfl) ?_
  exact W.iret (v := i) hx hb hr (fun t ht hW => ⟨⟨_, (), rfl, rfl, trivial⟩, hS.F ht⟩) hS.2.2 d_pcr_17
theorem d_sci_0 : decode prog_23_method_155_code 0 = .ok (.iload_n 0, 1) := by decide +kernel
theorem d_sci_1 : decode prog_23_method_155_code 1 = .ok (.iload_n 1, 1) := by decide +kernel
theorem d_sci_2 : decode prog_23_method_155_code 2 = .ok (.getstatic 1053, 3) := by decide +kernel
theorem d_sci_5 : decode prog_23_method_155_code 5 = .ok (.invokestatic 1059, 3) := by decide +kernel
theorem d_sci_8 : decode prog_23_method_155_code 8 = .ok (.pop, 1) := by decide +kernel
theorem d_sci_9 : decode prog_23_method_155_code 9 = .ok (.return_, 1) := by decide +kernel
theorem g_sci (l : Launch) (D : va_G) (sz : Nat) (sad sav : Nat → Nat) {i n : Int32} (h1 : ¬ i < 0) (h2 : i < n) : Met l ⟨"java/lang/String", "checkIndex", "(II)V"⟩ (Cond.code ⟨"java/lang/String", "checkIndex", "(II)V"⟩ prog_23_method_155_code 2 none :: gb) ({ frames := 1, cells := 0, slots := 0, locals := 22 }) (gPs sad sav D [] [] sz [.int i, .int n]) (va_Qv (fun _ : Unit => True) (fun _ t => True) (va_A [] sz)) 0 0 (va_A [] sz) := by
  refine Met.ofW (cc := prog_23_method_155_code) (maxL := 2) (ret := none) (by decide) rfl ?_
  intro p e s m args below meth c s₁ B hml hv
  obtain ⟨rfl, hsz, hP, hK, hD0, hE⟩ := hv
  have hx := B.exec
  have hb := B.bytes
  have hr := B.returns
  have hts : ∀ w9 ∈ gb, w9.before [.int i, .int n].toArray s = true := fun w9 h => atoms_spec (ws := Cond.code ⟨"java/lang/String", "checkIndex", "(II)V"⟩ prog_23_method_155_code 2 none :: gb) B.pre w9 (List.mem_cons_of_mem _ h)
  have hown : s.vm.findClass "java/lang/String" = some m.cls := findClass_of_methodNamed B.named
  have hlocks := B.notSynchronized
  subst hsz
  generalize hAe : va_A [] s.heap.size = A at hE ⊢
  have hA : ∀ q : Nat, s.heap.size ≤ q → A q := fun q h => by rw [← hAe]; exact Or.inr h
  have hS : va_S A s.heap s.heap [] := va_S.rf
  have hl := lv_entry ([.int i, .int n]) (n := 2) (Nat.le_of_ble_eq_true rfl)
  rw [lg_entry_eq]
  generalize (lg_sl ([.int i, .int n]) ++ List.replicate (2 - (lg_sl ([.int i, .int n])).length) Slot.unset).toArray = ls at hl ⊢
  have hl : lv_has ls 2 [(0, .int i), (1, .int n)] := hl
  refine lv_iload_n hx hb d_sci_0 rfl (lv_at hl 0 rfl) ?_
  refine lv_iload_n hx hb d_sci_1 rfl (lv_at hl 1 rfl) ?_
  rcases hE.2.2 with hZ | ⟨t0, hZ⟩
  · refine va_gets hx hb hZ hS hown (hts _ kw_932) (fun _ h9 => h9) d_sci_2 ?_
    have hFc := f_nil hS hA
    refine va_calli (va_runS (As := [.int i, .int n, .null]) (rest := []) ⟨hx, hb, hml, hown, hts⟩ (g_pcn l D s.heap.size sad sav h1 h2) (cw_s 3 hts kw_936 kw_934 kw_935 kw_24 rfl rfl (by decide +kernel) ⟨Nat.le_of_ble_eq_true rfl, Nat.le_of_ble_eq_true rfl⟩) ⟨gs_blind, fun U hU hW => gs_pre hU hW p_nil (hK.sub (tys' := []) [] rfl) d_nil hE hS hFc⟩ rfl rfl hl.1 rfl (lv_room (Nat.le_of_ble_eq_true rfl)) d_sci_5 ⟨Nat.le_of_ble_eq_true rfl, Nat.le_of_ble_eq_true rfl⟩) hS (fun q _ h => hFc q h) hFc (fun rz u t H1 locs ht hvm hw hB hz1 hk1 hS => ?_)
    refine W.cs (cells' := 0) (slots' := 0) rfl rfl ?_
    refine lv_pop hx hb d_sci_8 rfl ?_
    exact W.vret hx hb hr (fun t ht hW => ⟨⟨(), rfl, trivial, trivial⟩, hS.F ht⟩) hS.2.2 d_sci_9
  · refine va_gets hx hb hZ hS hown (hts _ kw_932) (fun _ h9 => h9) d_sci_2 ?_
    have hFc := f_nil hS hA
    refine va_calli (va_runS (As := [.int i, .int n, .ref t0]) (rest := []) ⟨hx, hb, hml, hown, hts⟩ (g_pcr l D s.heap.size sad sav h1 h2) (cw_s 3 hts kw_936 kw_934 kw_935 kw_24 rfl rfl (by decide +kernel) ⟨Nat.le_of_ble_eq_true rfl, Nat.le_of_ble_eq_true rfl⟩) ⟨gs_blind, fun U hU hW => gs_pre hU hW p_nil (hK.sub (tys' := []) [] rfl) d_nil hE hS hFc⟩ rfl rfl hl.1 rfl (lv_room (Nat.le_of_ble_eq_true rfl)) d_sci_5 ⟨Nat.le_of_ble_eq_true rfl, Nat.le_of_ble_eq_true rfl⟩) hS (fun q _ h => hFc q h) hFc (fun rz u t H1 locs ht hvm hw hB hz1 hk1 hS => ?_)
    refine W.cs (cells' := 0) (slots' := 0) rfl rfl ?_
    refine lv_pop hx hb d_sci_8 rfl ?_
    exact W.vret hx hb hr (fun t ht hW => ⟨⟨(), rfl, trivial, trivial⟩, hS.F ht⟩) hS.2.2 d_sci_9
theorem sLn_b : ∀ i : Nat, i < 9 → sLn i < 2 ^ 31 := by decide +kernel
theorem d_lca_0 : decode prog_24_method_2_code 0 = .ok (.iload_n 1, 1) := by decide +kernel
theorem d_lca_1 : decode prog_24_method_2_code 1 = .ok (.aload_n 0, 1) := by decide +kernel
theorem d_lca_2 : decode prog_24_method_2_code 2 = .ok (.arraylength, 1) := by decide +kernel
theorem d_lca_3 : decode prog_24_method_2_code 3 = .ok (.invokestatic 9, 3) := by decide +kernel
theorem d_lca_6 : decode prog_24_method_2_code 6 = .ok (.aload_n 0, 1) := by decide +kernel
theorem d_lca_7 : decode prog_24_method_2_code 7 = .ok (.iload_n 1, 1) := by decide +kernel
theorem d_lca_8 : decode prog_24_method_2_code 8 = .ok (.baload, 1) := by decide +kernel
theorem d_lca_9 : decode prog_24_method_2_code 9 = .ok (.sipush 255, 3) := by decide +kernel
theorem d_lca_12 : decode prog_24_method_2_code 12 = .ok (.iand, 1) := by decide +kernel
theorem d_lca_13 : decode prog_24_method_2_code 13 = .ok (.i2c, 1) := by decide +kernel
theorem d_lca_14 : decode prog_24_method_2_code 14 = .ok (.ireturn, 1) := by decide +kernel
theorem g_lca (l : Launch) (D : va_G) (sz : Nat) (sad sav : Nat → Nat) {i j : Nat} (hi : i < 9) (hj : j < sLn i) : Met l ⟨"java/lang/StringLatin1", "charAt", "([BI)C"⟩ (Cond.code ⟨"java/lang/StringLatin1", "charAt", "([BI)C"⟩ prog_24_method_2_code 2 (some .char) :: gb) ({ frames := 2, cells := 0, slots := 0, locals := 60 }) (gPs sad sav D [] [] sz [.ref (sav i), .int (nI j)]) (va_Qi (fun (r : Int32) (_ : Unit) => r = sCh i j) (fun _ t => True) (va_A [] sz)) 0 0 (va_A [] sz) := by
  refine Met.ofW (cc := prog_24_method_2_code) (maxL := 2) (ret := (some .char)) (by decide) rfl ?_
  intro p e s m args below meth c s₁ B hml hv
  obtain ⟨rfl, hsz, hP, hK, hD0, hE⟩ := hv
  have hx := B.exec
  have hb := B.bytes
  have hr := B.returns
  have hts : ∀ w9 ∈ gb, w9.before [.ref (sav i), .int (nI j)].toArray s = true := fun w9 h => atoms_spec (ws := Cond.code ⟨"java/lang/StringLatin1", "charAt", "([BI)C"⟩ prog_24_method_2_code 2 (some .char) :: gb) B.pre w9 (List.mem_cons_of_mem _ h)
  have hown : s.vm.findClass "java/lang/StringLatin1" = some m.cls := findClass_of_methodNamed B.named
  have hlocks := B.notSynchronized
  subst hsz
  generalize hAe : va_A [] s.heap.size = A at hE ⊢
  have hA : ∀ q : Nat, s.heap.size ≤ q → A q := fun q h => by rw [← hAe]; exact Or.inr h
  have hS : va_S A s.heap s.heap [] := va_S.rf
  have hl := lv_entry ([.ref (sav i), .int (nI j)]) (n := 2) (Nat.le_of_ble_eq_true rfl)
  rw [lg_entry_eq]
  generalize (lg_sl ([.ref (sav i), .int (nI j)]) ++ List.replicate (2 - (lg_sl ([.ref (sav i), .int (nI j)])).length) Slot.unset).toArray = ls at hl ⊢
  have hl : lv_has ls 2 [(0, .ref (sav i)), (1, .int (nI j))] := hl
  obtain ⟨g1, g2, g3, g4, g5⟩ := hE.1 i hi
  have hj2 := hj
  refine lv_iload_n hx hb d_lca_0 rfl (lv_at hl 1 rfl) ?_
  refine lv_aload_n hx hb d_lca_1 rfl (lv_at hl 0 rfl) ?_
  refine va_tlen hx hb g5 hS (v := nI (sLn i)) rfl d_lca_2 ?_
  have hn : sLn i < 2 ^ 31 := sLn_b i hi
  have h1 : ¬ nI j < 0 := nI_pos (by omega)
  have h2 : nI j < nI (sLn i) := nI_lt hj hn
  have hFc := f_nil hS hA
  refine va_callv (va_runS (As := [.int (nI j), .int (nI (sLn i))]) (rest := []) ⟨hx, hb, hml, hown, hts⟩ (g_sci l D s.heap.size sad sav h1 h2) (cw_s 2 hts kw_931 kw_929 kw_930 kw_22 rfl rfl (by decide +kernel) ⟨Nat.le_of_ble_eq_true rfl, Nat.le_of_ble_eq_true rfl⟩) ⟨gs_blind, fun U hU hW => gs_pre hU hW p_nil (hK.sub (tys' := []) [] rfl) d_nil hE hS hFc⟩ rfl rfl hl.1 rfl (lv_room (Nat.le_of_ble_eq_true rfl)) d_lca_3 ⟨Nat.le_of_ble_eq_true rfl, Nat.le_of_ble_eq_true rfl⟩) hS (fun q _ h => hFc q h) hFc (fun u t H1 locs ht hvm hw hB hz1 hk1 hS => ?_)
  refine W.cs (cells' := 0) (slots' := 0) rfl rfl ?_
  refine lv_aload_n hx hb d_lca_6 rfl (lv_at hl 0 rfl) ?_
  refine lv_iload_n hx hb d_lca_7 rfl (lv_at hl 1 rfl) ?_
  refine va_tb hx hb g5 hS (i := nI j) (vp_in_nI hj hn) (v := .int (sCh i j)) (by rw [nI_clamp (by omega)]) d_lca_8 ?_
  refine lv_sipush (v := 255) hx hb d_lca_9 (by decide) ?_
  refine lv_iand hx hb d_lca_12 ?_
  refine lv_i2c hx hb d_lca_13 (v := sCh i j) (sCh_c i hi j hj).1 ?_
  exact W.zret (ty := .char) (v := sCh i j) hx hb hr (sCh_c i hi j hj).2 (fun t ht hW => ⟨⟨_, (), rfl, rfl, trivial⟩, hS.F ht⟩) hS.2.2 d_lca_14
theorem d_isl_0 : decode prog_23_method_154_code 0 = .ok (.getstatic 38, 3) := by decide +kernel
theorem d_isl_3 : decode prog_23_method_154_code 3 = .ok (.ifCond .eq 14, 3) := by decide +kernel
theorem d_isl_6 : decode prog_23_method_154_code 6 = .ok (.aload_n 0, 1) := by decide +kernel
theorem d_isl_7 : decode prog_23_method_154_code 7 = .ok (.getfield 15, 3) := by decide +kernel
theorem d_isl_10 : decode prog_23_method_154_code 10 = .ok (.ifCond .ne 7, 3) := by decide +kernel
theorem d_isl_13 : decode prog_23_method_154_code 13 = .ok (.iconst 1, 1) := by decide +kernel
theorem d_isl_14 : decode prog_23_method_154_code 14 = .ok (.goto 4, 3) := by decide +kernel
theorem d_isl_18 : decode prog_23_method_154_code 18 = .ok (.ireturn, 1) := by decide +kernel
theorem g_isl (l : Launch) (D : va_G) (sz : Nat) (sad sav : Nat → Nat) {i : Nat} (hi : i < 9) : Met l ⟨"java/lang/String", "isLatin1", "()Z"⟩ (Cond.code ⟨"java/lang/String", "isLatin1", "()Z"⟩ prog_23_method_154_code 1 (some .boolean) :: gb) ({ frames := 0, cells := 0, slots := 0, locals := 0 }) (gPs sad sav D [] [] sz [.ref (sad i)]) (va_Qi (fun (r : Int32) (_ : Unit) => r = 1) (fun _ t => True) (va_A [] sz)) 0 0 (va_A [] sz) := by
  refine Met.ofW (cc := prog_23_method_154_code) (maxL := 1) (ret := (some .boolean)) (by decide) rfl ?_
  intro p e s m args below meth c s₁ B hml hv
  obtain ⟨rfl, hsz, hP, hK, hD0, hE⟩ := hv
  have hx := B.exec
  have hb := B.bytes
  have hr := B.returns
  have hts : ∀ w9 ∈ gb, w9.before [.ref (sad i)].toArray s = true := fun w9 h => atoms_spec (ws := Cond.code ⟨"java/lang/String", "isLatin1", "()Z"⟩ prog_23_method_154_code 1 (some .boolean) :: gb) B.pre w9 (List.mem_cons_of_mem _ h)
  have hown : s.vm.findClass "java/lang/String" = some m.cls := findClass_of_methodNamed B.named
  have hlocks := B.notSynchronized
  subst hsz
  generalize hAe : va_A [] s.heap.size = A at hE ⊢
  have hA : ∀ q : Nat, s.heap.size ≤ q → A q := fun q h => by rw [← hAe]; exact Or.inr h
  have hS : va_S A s.heap s.heap [] := va_S.rf
  have hl := lv_entry ([.ref (sad i)]) (n := 1) (Nat.le_of_ble_eq_true rfl)
  rw [lg_entry_eq]
  generalize (lg_sl ([.ref (sad i)]) ++ List.replicate (1 - (lg_sl ([.ref (sad i)])).length) Slot.unset).toArray = ls at hl ⊢
  have hl : lv_has ls 1 [(0, .ref (sad i))] := hl
  obtain ⟨g1, g2, g3, g4, g5⟩ := hE.1 i hi
  refine va_gets hx hb hE.2.1 hS hown (hts _ kw_916) (fun _ h9 => h9) d_isl_0 ?_
  refine lv_if_eq (tgt := 17) hx hb d_isl_3 (by decide) (fun h => absurd h (by decide)) (fun _ => ?_)
  refine lv_aload_n hx hb d_isl_6 rfl (lv_at hl 0 rfl) ?_
  refine vk_getf hx hb g3 hS hown (hts _ kw_2010) (fun _ h9 => h9) d_isl_7 ?_
  refine lv_if_ne (tgt := 17) hx hb d_isl_10 (by decide) (fun h => absurd rfl h) (fun _ => ?_)
  refine lv_iconst (v := 1) hx hb d_isl_13 (by decide) ?_
  refine lv_goto (tgt := 18) hx hb d_isl_14 (by decide) ?_
  exact W.zret (ty := .boolean) (v := 1) hx hb hr rfl (fun t ht hW => ⟨⟨_, (), rfl, rfl, trivial⟩, hS.F ht⟩) hS.2.2 d_isl_18
theorem d_cod_0 : decode prog_23_method_152_code 0 = .ok (.getstatic 38, 3) := by decide +kernel
theorem d_cod_3 : decode prog_23_method_152_code 3 = .ok (.ifCond .eq 10, 3) := by decide +kernel
theorem d_cod_6 : decode prog_23_method_152_code 6 = .ok (.aload_n 0, 1) := by decide +kernel
theorem d_cod_7 : decode prog_23_method_152_code 7 = .ok (.getfield 15, 3) := by decide +kernel
theorem d_cod_10 : decode prog_23_method_152_code 10 = .ok (.goto 4, 3) := by decide +kernel
theorem d_cod_14 : decode prog_23_method_152_code 14 = .ok (.ireturn, 1) := by decide +kernel
theorem g_cod (l : Launch) (D : va_G) (sz : Nat) (sad sav : Nat → Nat) {i : Nat} (hi : i < 9) : Met l ⟨"java/lang/String", "coder", "()B"⟩ (Cond.code ⟨"java/lang/String", "coder", "()B"⟩ prog_23_method_152_code 1 (some .byte) :: gb) ({ frames := 0, cells := 0, slots := 0, locals := 0 }) (gPs sad sav D [] [] sz [.ref (sad i)]) (va_Qi (fun (r : Int32) (_ : Unit) => r = 0) (fun _ t => True) (va_A [] sz)) 0 0 (va_A [] sz) := by
  refine Met.ofW (cc := prog_23_method_152_code) (maxL := 1) (ret := (some .byte)) (by decide) rfl ?_
  intro p e s m args below meth c s₁ B hml hv
  obtain ⟨rfl, hsz, hP, hK, hD0, hE⟩ := hv
  have hx := B.exec
  have hb := B.bytes
  have hr := B.returns
  have hts : ∀ w9 ∈ gb, w9.before [.ref (sad i)].toArray s = true := fun w9 h => atoms_spec (ws := Cond.code ⟨"java/lang/String", "coder", "()B"⟩ prog_23_method_152_code 1 (some .byte) :: gb) B.pre w9 (List.mem_cons_of_mem _ h)
  have hown : s.vm.findClass "java/lang/String" = some m.cls := findClass_of_methodNamed B.named
  have hlocks := B.notSynchronized
  subst hsz
  generalize hAe : va_A [] s.heap.size = A at hE ⊢
  have hA : ∀ q : Nat, s.heap.size ≤ q → A q := fun q h => by rw [← hAe]; exact Or.inr h
  have hS : va_S A s.heap s.heap [] := va_S.rf
  have hl := lv_entry ([.ref (sad i)]) (n := 1) (Nat.le_of_ble_eq_true rfl)
  rw [lg_entry_eq]
  generalize (lg_sl ([.ref (sad i)]) ++ List.replicate (1 - (lg_sl ([.ref (sad i)])).length) Slot.unset).toArray = ls at hl ⊢
  have hl : lv_has ls 1 [(0, .ref (sad i))] := hl
  obtain ⟨g1, g2, g3, g4, g5⟩ := hE.1 i hi
  refine va_gets hx hb hE.2.1 hS hown (hts _ kw_916) (fun _ h9 => h9) d_cod_0 ?_
  refine lv_if_eq (tgt := 13) hx hb d_cod_3 (by decide) (fun h => absurd h (by decide)) (fun _ => ?_)
  refine lv_aload_n hx hb d_cod_6 rfl (lv_at hl 0 rfl) ?_
  refine vk_getf hx hb g3 hS hown (hts _ kw_2010) (fun _ h9 => h9) d_cod_7 ?_
  refine lv_goto (tgt := 14) hx hb d_cod_10 (by decide) ?_
  exact W.zret (ty := .byte) (v := 0) hx hb hr rfl (fun t ht hW => ⟨⟨_, (), rfl, rfl, trivial⟩, hS.F ht⟩) hS.2.2 d_cod_14
theorem d_sln_0 : decode prog_23_method_54_code 0 = .ok (.aload_n 0, 1) := by decide +kernel
theorem d_sln_1 : decode prog_23_method_54_code 1 = .ok (.getfield 9, 3) := by decide +kernel
theorem d_sln_4 : decode prog_23_method_54_code 4 = .ok (.arraylength, 1) := by decide +kernel
theorem d_sln_5 : decode prog_23_method_54_code 5 = .ok (.aload_n 0, 1) := by decide +kernel
theorem d_sln_6 : decode prog_23_method_54_code 6 = .ok (.invokevirtual 335, 3) := by decide +kernel
theorem d_sln_9 : decode prog_23_method_54_code 9 = .ok (.ishr, 1) := by decide +kernel
theorem d_sln_10 : decode prog_23_method_54_code 10 = .ok (.ireturn, 1) := by decide +kernel
theorem g_sln (l : Launch) (D : va_G) (sz : Nat) (sad sav : Nat → Nat) {i : Nat} (hi : i < 9) : Met l ⟨"java/lang/String", "length", "()I"⟩ (Cond.code ⟨"java/lang/String", "length", "()I"⟩ prog_23_method_54_code 1 (some .int) :: gb) ({ frames := 1, cells := 0, slots := 0, locals := 20 }) (gPs sad sav D [] [] sz [.ref (sad i)]) (va_Qi (fun (r : Int32) (_ : Unit) => r = nI (sLn i)) (fun _ t => True) (va_A [] sz)) 0 0 (va_A [] sz) := by
  refine Met.ofW (cc := prog_23_method_54_code) (maxL := 1) (ret := (some .int)) (by decide) rfl ?_
  intro p e s m args below meth c s₁ B hml hv
  obtain ⟨rfl, hsz, hP, hK, hD0, hE⟩ := hv
  have hx := B.exec
  have hb := B.bytes
  have hr := B.returns
  have hts : ∀ w9 ∈ gb, w9.before [.ref (sad i)].toArray s = true := fun w9 h => atoms_spec (ws := Cond.code ⟨"java/lang/String", "length", "()I"⟩ prog_23_method_54_code 1 (some .int) :: gb) B.pre w9 (List.mem_cons_of_mem _ h)
  have hown : s.vm.findClass "java/lang/String" = some m.cls := findClass_of_methodNamed B.named
  have hlocks := B.notSynchronized
  subst hsz
  generalize hAe : va_A [] s.heap.size = A at hE ⊢
  have hA : ∀ q : Nat, s.heap.size ≤ q → A q := fun q h => by rw [← hAe]; exact Or.inr h
  have hS : va_S A s.heap s.heap [] := va_S.rf
  have hl := lv_entry ([.ref (sad i)]) (n := 1) (Nat.le_of_ble_eq_true rfl)
  rw [lg_entry_eq]
  generalize (lg_sl ([.ref (sad i)]) ++ List.replicate (1 - (lg_sl ([.ref (sad i)])).length) Slot.unset).toArray = ls at hl ⊢
  have hl : lv_has ls 1 [(0, .ref (sad i))] := hl
  obtain ⟨g1, g2, g3, g4, g5⟩ := hE.1 i hi
  refine lv_aload_n hx hb d_sln_0 rfl (lv_at hl 0 rfl) ?_
  refine vk_getf hx hb g4 hS hown (hts _ kw_2009) (fun _ h9 => h9) d_sln_1 ?_
  refine va_tlen hx hb g5 hS (v := nI (sLn i)) rfl d_sln_4 ?_
  refine lv_aload_n hx hb d_sln_5 rfl (lv_at hl 0 rfl) ?_
  have hFc := f_nil hS hA
  refine va_calli (va_runV (As := []) (rest := [.int (nI (sLn i))]) ⟨hx, hb, hml, hown, hts⟩ (g_cod l D s.heap.size sad sav hi) (cw_v 0 hts kw_915 kw_912 kw_913 kw_914 kw_22 rfl rfl (by decide +kernel) ⟨Nat.le_of_ble_eq_true rfl, Nat.le_of_ble_eq_true rfl⟩) ⟨gs_blind, sE_recv hE hi hS, fun U hU hW => gs_pre hU hW p_nil (hK.sub (tys' := []) [] rfl) d_nil hE hS hFc⟩ rfl rfl hl.1 rfl (lv_room (Nat.le_of_ble_eq_true rfl)) d_sln_6 ⟨Nat.le_of_ble_eq_true rfl, Nat.le_of_ble_eq_true rfl⟩) hS (fun q _ h => hFc q h) hFc (fun rz u t H1 locs ht hvm hw hB hz1 hk1 hS => ?_)
  refine W.cs (cells' := 0) (slots' := 0) rfl rfl ?_
  subst hw
  refine lv_ishr hx hb d_sln_9 ?_
  refine w_i (y := nI (sLn i)) (sLn_s i hi) ?_
  exact W.iret (v := nI (sLn i)) hx hb hr (fun t ht hW => ⟨⟨_, (), rfl, rfl, trivial⟩, hS.F ht⟩) hS.2.2 d_sln_10
theorem d_sca_0 : decode prog_23_method_56_code 0 = .ok (.aload_n 0, 1) := by decide +kernel
theorem d_sca_1 : decode prog_23_method_56_code 1 = .ok (.invokevirtual 492, 3) := by decide +kernel
theorem d_sca_4 : decode prog_23_method_56_code 4 = .ok (.ifCond .eq 12, 3) := by decide +kernel
theorem d_sca_7 : decode prog_23_method_56_code 7 = .ok (.aload_n 0, 1) := by decide +kernel
theorem d_sca_8 : decode prog_23_method_56_code 8 = .ok (.getfield 9, 3) := by decide +kernel
theorem d_sca_11 : decode prog_23_method_56_code 11 = .ok (.iload_n 1, 1) := by decide +kernel
theorem d_sca_12 : decode prog_23_method_56_code 12 = .ok (.invokestatic 495, 3) := by decide +kernel
theorem d_sca_15 : decode prog_23_method_56_code 15 = .ok (.ireturn, 1) := by decide +kernel
theorem g_sca (l : Launch) (D : va_G) (sz : Nat) (sad sav : Nat → Nat) {i j : Nat} (hi : i < 9) (hj : j < sLn i) : Met l ⟨"java/lang/String", "charAt", "(I)C"⟩ (Cond.code ⟨"java/lang/String", "charAt", "(I)C"⟩ prog_23_method_56_code 2 (some .char) :: gb) ({ frames := 3, cells := 0, slots := 0, locals := 90 }) (gPs sad sav D [] [] sz [.ref (sad i), .int (nI j)]) (va_Qi (fun (r : Int32) (_ : Unit) => r = sCh i j) (fun _ t => True) (va_A [] sz)) 0 0 (va_A [] sz) := by
  refine Met.ofW (cc := prog_23_method_56_code) (maxL := 2) (ret := (some .char)) (by decide) rfl ?_
  intro p e s m args below meth c s₁ B hml hv
  obtain ⟨rfl, hsz, hP, hK, hD0, hE⟩ := hv
  have hx := B.exec
  have hb := B.bytes
  have hr := B.returns
  have hts : ∀ w9 ∈ gb, w9.before [.ref (sad i), .int (nI j)].toArray s = true := fun w9 h => atoms_spec (ws := Cond.code ⟨"java/lang/String", "charAt", "(I)C"⟩ prog_23_method_56_code 2 (some .char) :: gb) B.pre w9 (List.mem_cons_of_mem _ h)
  have hown : s.vm.findClass "java/lang/String" = some m.cls := findClass_of_methodNamed B.named
  have hlocks := B.notSynchronized
  subst hsz
  generalize hAe : va_A [] s.heap.size = A at hE ⊢
  have hA : ∀ q : Nat, s.heap.size ≤ q → A q := fun q h => by rw [← hAe]; exact Or.inr h
  have hS : va_S A s.heap s.heap [] := va_S.rf
  have hl := lv_entry ([.ref (sad i), .int (nI j)]) (n := 2) (Nat.le_of_ble_eq_true rfl)
  rw [lg_entry_eq]
  generalize (lg_sl ([.ref (sad i), .int (nI j)]) ++ List.replicate (2 - (lg_sl ([.ref (sad i), .int (nI j)])).length) Slot.unset).toArray = ls at hl ⊢
  have hl : lv_has ls 2 [(0, .ref (sad i)), (1, .int (nI j))] := hl
  obtain ⟨g1, g2, g3, g4, g5⟩ := hE.1 i hi
  refine lv_aload_n hx hb d_sca_0 rfl (lv_at hl 0 rfl) ?_
  have hFc := f_nil hS hA
  refine va_calli (va_runV (As := []) (rest := []) ⟨hx, hb, hml, hown, hts⟩ (g_isl l D s.heap.size sad sav hi) (cw_v 0 hts kw_925 kw_922 kw_923 kw_924 kw_22 rfl rfl (by decide +kernel) ⟨Nat.le_of_ble_eq_true rfl, Nat.le_of_ble_eq_true rfl⟩) ⟨gs_blind, sE_recv hE hi hS, fun U hU hW => gs_pre hU hW p_nil (hK.sub (tys' := []) [] rfl) d_nil hE hS hFc⟩ rfl rfl hl.1 rfl (lv_room (Nat.le_of_ble_eq_true rfl)) d_sca_1 ⟨Nat.le_of_ble_eq_true rfl, Nat.le_of_ble_eq_true rfl⟩) hS (fun q _ h => hFc q h) hFc (fun rz u t H1 locs ht hvm hw hB hz1 hk1 hS => ?_)
  refine W.cs (cells' := 0) (slots' := 0) rfl rfl ?_
  subst hw
  refine lv_if_eq (tgt := 16) hx hb d_sca_4 (by decide) (fun h => absurd h (by decide)) (fun _ => ?_)
  refine lv_aload_n hx hb d_sca_7 rfl (lv_at hl 0 rfl) ?_
  refine vk_getf hx hb g4 hS hown (hts _ kw_2009) (fun _ h9 => h9) d_sca_8 ?_
  refine lv_iload_n hx hb d_sca_11 rfl (lv_at hl 1 rfl) ?_
  have hFc := f_nil hS hA
  refine va_calli (va_runS (As := [.ref (sav i), .int (nI j)]) (rest := []) ⟨hx, hb, hml, hown, hts⟩ (g_lca l D H1.size sad sav hi hj) (cw_s 2 hts kw_928 kw_926 kw_927 kw_23 rfl rfl (by decide +kernel) ⟨Nat.le_of_ble_eq_true rfl, Nat.le_of_ble_eq_true rfl⟩) ⟨gs_blind, fun U hU hW => gs_pre hU hW p_nil (hK.sub (tys' := []) [] rfl) d_nil hE hS hFc⟩ rfl rfl hl.1 rfl (lv_room (Nat.le_of_ble_eq_true rfl)) d_sca_12 ⟨Nat.le_of_ble_eq_true rfl, Nat.le_of_ble_eq_true rfl⟩) hS (fun q _ h => hFc q h) hFc (fun rz u t H1 locs ht hvm hw hB hz1 hk1 hS => ?_)
  refine W.cs (cells' := 0) (slots' := 0) rfl rfl ?_
  subst hw
  exact W.zret (ty := .char) (v := sCh i j) hx hb hr (sCh_c i hi j hj).2 (fun t ht hW => ⟨⟨_, (), rfl, rfl, trivial⟩, hS.F ht⟩) hS.2.2 d_sca_15
