/-! THE CLASS: what a contract takes, rows for references that may be null. Printed by wip/gen/cdec.py -/
section CWO
variable {ad : Nat → Nat → Nat} {cc : Nat → ClassId} {N : Nat → Nat} {S : CS}
theorem cw_obj {k j : Nat} (hk : k < 12) (hj : j < N k) : (cw ad cc N S)[cPos N k j]? = some (ad k j, .inr (k, cObj ad S k j)) := by
  rw [cw_at (by omega) hj]
  unfold cCell
  rw [if_pos hk]
theorem cw_arr {k j : Nat} (hk : 12 ≤ k ∧ k < 15) (hj : j < N k) : (cw ad cc N S)[cPos N k j]? = some (ad k j, .inl (cc k, S.z k j, .inl (S.a k j))) := by
  rw [cw_at (by omega) hj]
  unfold cCell
  rw [if_neg (by omega), if_pos hk.2]
theorem cw_refs {k j : Nat} (hk : 15 ≤ k ∧ k < 19) (hj : j < N k) : (cw ad cc N S)[cPos N k j]? = some (ad k j, .inl (cc k, S.z k j, .inr (.inr (.inr (.inr (fun p => (S.q k j p).map (ad (cET k)))))))) := by
  rw [cw_at (by omega) hj]
  unfold cCell
  rw [if_neg (by omega), if_neg (by omega)]
end CWO
theorem rv_cat {ad : Nat → Nat → Nat} {k : Nat} {x : Option Nat} : (rv ad k x).category = 1 := by cases x <;> rfl
theorem rf_cat {x : Option Nat} : (va_rf x).category = 1 := by cases x <;> rfl
theorem rv_nar {ad : Nat → Nat → Nat} {k : Nat} {x : Option Nat} {ty : FieldType} (h : (∃ n, ty = .object n) ∨ ∃ t, ty = .array t) : narrow ty (rv ad k x) = rv ad k x := by
  rcases h with ⟨n, rfl⟩ | ⟨t, rfl⟩ <;> cases x <;> rfl
theorem rv_fit {ad : Nat → Nat → Nat} {k : Nat} {x : Option Nat} {ty : FieldType} (h : (∃ n, ty = .object n) ∨ ∃ t, ty = .array t) : fits ty (rv ad k x) = true := by
  rcases h with ⟨n, rfl⟩ | ⟨t, rfl⟩ <;> cases x <;> rfl
def eN (U : State) : Prop := va_Nw (.methodLinkNest "JoinedTrees$JsonReader" 148 ⟨"JoinedTrees", "isDigit", "(I)Z"⟩ "JoinedTrees") U ∧ va_Nw (.castable "java/lang/ArithmeticException" "java/lang/ArithmeticException") U ∧ va_Nw (.castable "[I" "java/lang/Cloneable") U
theorem eN.warm {s U : State} (hW : s.WarmedH U.vm) (h : eN s) : eN U := ⟨va_Nw.warmM hW h.1, va_Nw.warmC hW h.2.1, va_Nw.warmC hW h.2.2⟩
def cPc (sad sav : Nat → Nat) (D : va_G) (ws : va_W) (ty : List (ClassId × FieldType)) (sz : Nat) (av : List Value) : Array Value → State → Prop :=
  va_Pc av (fun U => U.heap.size = sz ∧ va_P D cls ws U.heap ∧ va_K D cls ty U ∧ va_D (fun _ => True) ws ∧ ev (va_A ws U.heap.size) U ∧ sE sad sav (va_A ws U.heap.size) U ∧ eN U)
theorem c_blind {sad sav : Nat → Nat} {D : va_G} {ws : va_W} {ty : List (ClassId × FieldType)} {sz : Nat} {av : List Value} : FrameBlind (cPc sad sav D ws ty sz av) := fun a U g mk q => by
  obtain ⟨q0, q1, qP, qK, qD, qV, qE, qN⟩ := q
  exact ⟨q0, q1, qP, va_K.moved (u := U) (U := U.calling g mk a) (Vm.Alike.refl U.vm) qK, qD, qV.calling g mk a, qE.calling g mk a, eN.warm (State.WarmedH.refl U) qN⟩
theorem c_pre {sad sav : Nat → Nat} {D : va_G} {ws : va_W} {ty : List (ClassId × FieldType)} {s U : State} {H : Heap} {A : Nat → Prop} {locs : List Loc} {av : List Value} (hU : U.heap = H) (hW : s.WarmedH U.vm) (hP : va_P D cls ws H) (hK : va_K D cls ty s) (hD : va_D A ws) (hev : ev A s) (hE : sE sad sav A s) (hN : eN s) (hNS : tx_NS A s) (hS : va_S A s.heap H locs) (hFc : ∀ q, va_A ws H.size q → A q) : cPc sad sav D ws ty H.size av av.toArray U :=
  ⟨rfl, by rw [hU], by rw [hU]; exact hP, hK.moved hW.alike, hD.weaken (fun _ _ _ _ => trivial), hev.go hNS hS (by rw [hU]; exact hFc) hU hW, hE.go hS (by rw [hU]; exact hFc) hU hW, hN.warm hW⟩
def MCc (sad sav : Nat → Nat) (own : String) (code : ByteArray) (maxL : Nat) (ret : Option FieldType) (p : Program) (s : State) (m : MethodId) (args : Array Value) (meth : Method) (c : Code) (A : Nat → Prop) (D : va_G) (cc : Nat → ClassId) : Prop :=
  p.tables.exec = Jvm.exec ∧ c.code = code ∧ meth.sig.returnType = ret ∧ c.maxLocals = maxL ∧ s.vm.findClass own = some m.cls ∧ (∀ w ∈ gb, w.before args s = true) ∧ va_K D cls (cty cc) s ∧ (∀ q : Nat, s.heap.size ≤ q → A q) ∧ ev A s ∧ sE sad sav A s ∧ eN s ∧ tx_NS A s
theorem lk_out {d k : Int} : ∀ {l : List (Int × Int)}, (∀ p ∈ l, p.1 ≠ k) → Op.lookupswitch.offset l d k = d := by
  intro l
  induction l with
  | nil => intro _; rfl
  | cons p l ih =>
    intro h
    rw [Op.lookupswitch.offset_cons, if_neg (h p List.mem_cons_self)]
    exact ih (fun q hq => h q (List.mem_cons_of_mem _ hq))
section RVR
variable {p : Program} {l : Launch} {e : Env} {R : Room} {s : State} {m : MethodId} {args : Array Value} {below : List Frame} {meth : Method} {c : Code} {H : Heap} {locs : List Loc} {cells slots : Nat} {Q : State → Prop}
variable {cc : ByteArray} {pc : Nat} {ls : Array Slot} {rest : List Value}
theorem w_s {st st' : List Value} (h : st = st') (k : W p l e R s m args below meth c H locs cells slots Q (F0 m pc ls st')) : W p l e R s m args below meth c H locs cells slots Q (F0 m pc ls st) := by rw [h]; exact k
theorem tx_aload_n (hexec : p.tables.exec = Jvm.exec) (hb : c.code = cc) {k : Fin 4} {i : Nat} {x : Option Nat} (hdg : decode cc pc = .ok (.aload_n k, 1)) (hi : (k : Nat) = i) (hl : ls[i]? = some (.val (va_rf x))) (kk : W p l e R s m args below meth c H locs cells slots Q (F0 m (pc + 1) ls (va_rf x :: rest))) : W p l e R s m args below meth c H locs cells slots Q (F0 m pc ls rest) := by
  cases x with
  | none => exact lv_aload_nN hexec hb hdg hi hl kk
  | some a => exact lv_aload_n hexec hb hdg hi hl kk
theorem tx_aload (hexec : p.tables.exec = Jvm.exec) (hb : c.code = cc) {i : Nat} {x : Option Nat} (hdg : decode cc pc = .ok (.aload i, 2)) (hl : ls[i]? = some (.val (va_rf x))) (kk : W p l e R s m args below meth c H locs cells slots Q (F0 m (pc + 2) ls (va_rf x :: rest))) : W p l e R s m args below meth c H locs cells slots Q (F0 m pc ls rest) := by
  cases x with
  | none => exact lv_aloadN hexec hb hdg hl kk
  | some a => exact lv_aload hexec hb hdg hl kk
theorem tx_astore_n (hexec : p.tables.exec = Jvm.exec) (hb : c.code = cc) {k : Fin 4} {i nL : Nat} {x : Option Nat} {lv lv' : List (Nat × Value)} (hdg : decode cc pc = .ok (.astore_n k, 1)) (hi : (k : Nat) = i) (h : lv_has ls nL lv) (hn : i < nL) (hl : (i, va_rf x) :: lv.filter (fun q => !(q.1 == i) && !(q.1 + 1 == i && q.2.category == 2)) = lv') (kk : ∀ ls' : Array Slot, lv_has ls' nL lv' → W p l e R s m args below meth c H locs cells slots Q (F0 m (pc + 1) ls' rest)) : W p l e R s m args below meth c H locs cells slots Q (F0 m pc ls (va_rf x :: rest)) := by
  cases x with
  | none => exact lv_astore_nN hexec hb hdg hi h hn hl kk
  | some a => exact lv_astore_n hexec hb hdg hi h hn hl kk
theorem tx_astore (hexec : p.tables.exec = Jvm.exec) (hb : c.code = cc) {i nL : Nat} {x : Option Nat} {lv lv' : List (Nat × Value)} (hdg : decode cc pc = .ok (.astore i, 2)) (h : lv_has ls nL lv) (hn : i < nL) (hl : (i, va_rf x) :: lv.filter (fun q => !(q.1 == i) && !(q.1 + 1 == i && q.2.category == 2)) = lv') (kk : ∀ ls' : Array Slot, lv_has ls' nL lv' → W p l e R s m args below meth c H locs cells slots Q (F0 m (pc + 2) ls' rest)) : W p l e R s m args below meth c H locs cells slots Q (F0 m pc ls (va_rf x :: rest)) := by
  cases x with
  | none => exact lv_astoreN hexec hb hdg h hn hl kk
  | some a => exact lv_astore hexec hb hdg h hn hl kk
end RVR
