def m_rfull_J29 (S : MS) (t0 : Int32) : Option (MS × Int32) := (if t0 = 0 ∨ t0 = 1 then some (S, t0) else none)
theorem d_rfull_0 : decode prog_14_method_26_code 0 = .ok (.aload_n 0, 1) := by decide +kernel
theorem d_rfull_1 : decode prog_14_method_26_code 1 = .ok (.getfield 195, 3) := by decide +kernel
theorem d_rfull_4 : decode prog_14_method_26_code 4 = .ok (.iload_n 1, 1) := by decide +kernel
theorem d_rfull_5 : decode prog_14_method_26_code 5 = .ok (.iadd, 1) := by decide +kernel
theorem d_rfull_6 : decode prog_14_method_26_code 6 = .ok (.sipush 4000, 3) := by decide +kernel
theorem d_rfull_9 : decode prog_14_method_26_code 9 = .ok (.if_icmp .gt 15, 3) := by decide +kernel
theorem d_rfull_24 : decode prog_14_method_26_code 24 = .ok (.iconst 1, 1) := by decide +kernel
theorem d_rfull_25 : decode prog_14_method_26_code 25 = .ok (.goto 4, 3) := by decide +kernel
theorem d_rfull_29 : decode prog_14_method_26_code 29 = .ok (.ireturn, 1) := by decide +kernel
set_option maxHeartbeats 4000000 in
set_option maxRecDepth 100000 in
theorem w_rfull_J29 {p : Program} {l : Launch} {e : Env} {s : State} {m : MethodId} {args : Array Value} {below : List Frame} {meth : Method} {c : Code} {A : Nat → Prop} {D : va_G} {md : Nat → Nat} {mc : Nat → ClassId} {Q : State → Prop} (hC : MCx "JoinedTreesModel" prog_14_method_26_code 3 (some .boolean) p s m args meth c A D mc) {S : MS} {t0 : Int32} {o : MS × Int32} (Heq : m_rfull_J29 S t0 = some o) (Kr : ∀ r : MS × Int32, o = r → ∀ (pc : Nat) (H : Heap) (locs : List Loc) (ls : Array Slot), decode prog_14_method_26_code pc = .ok (.ireturn, 1) → (r.2 = 0 ∨ r.2 = 1) → va_P D cls (mw md mc r.1) H → va_D A (mw md mc r.1) → va_S A s.heap H locs → W p l e ({ frames := 0, cells := 0, slots := 0, locals := 0 }) s m args below meth c H locs 0 0 Q (F0 m pc ls [.int r.2])) : ∀ (H : Heap) (locs : List Loc) (ls : Array Slot), va_P D cls (mw md mc S) H → va_D A (mw md mc S) → va_S A s.heap H locs → lv_has ls 3 [(0, .ref (md 100))] → W p l e ({ frames := 0, cells := 0, slots := 0, locals := 0 }) s m args below meth c H locs 0 0 Q (F0 m 29 ls [.int t0]) := by
  intro H locs ls hP hD hS hl
  obtain ⟨hx, hb, hr, hml, hown, hts, hK, hA⟩ := id hC
  unfold m_rfull_J29 at Heq
  by_cases hz_1 : t0 = 0 ∨ t0 = 1
  case neg => rw [if_neg hz_1] at Heq; cases Heq
  replace Heq := (if_pos hz_1).symm.trans Heq
  exact Kr _ (Option.some.inj Heq).symm 29 _ _ _ d_rfull_29 hz_1 hP hD hS
def m_rfull_J24 (S : MS) : Option (MS × Int32) := m_rfull_J29 S 1
set_option maxHeartbeats 4000000 in
set_option maxRecDepth 100000 in
theorem w_rfull_J24 {p : Program} {l : Launch} {e : Env} {s : State} {m : MethodId} {args : Array Value} {below : List Frame} {meth : Method} {c : Code} {A : Nat → Prop} {D : va_G} {md : Nat → Nat} {mc : Nat → ClassId} {Q : State → Prop} (hC : MCx "JoinedTreesModel" prog_14_method_26_code 3 (some .boolean) p s m args meth c A D mc) {S : MS} {o : MS × Int32} (Heq : m_rfull_J24 S = some o) (Kr : ∀ r : MS × Int32, o = r → ∀ (pc : Nat) (H : Heap) (locs : List Loc) (ls : Array Slot), decode prog_14_method_26_code pc = .ok (.ireturn, 1) → (r.2 = 0 ∨ r.2 = 1) → va_P D cls (mw md mc r.1) H → va_D A (mw md mc r.1) → va_S A s.heap H locs → W p l e ({ frames := 0, cells := 0, slots := 0, locals := 0 }) s m args below meth c H locs 0 0 Q (F0 m pc ls [.int r.2])) : ∀ (H : Heap) (locs : List Loc) (ls : Array Slot), va_P D cls (mw md mc S) H → va_D A (mw md mc S) → va_S A s.heap H locs → lv_has ls 3 [(0, .ref (md 100))] → W p l e ({ frames := 0, cells := 0, slots := 0, locals := 0 }) s m args below meth c H locs 0 0 Q (F0 m 24 ls []) := by
  intro H locs ls hP hD hS hl
  obtain ⟨hx, hb, hr, hml, hown, hts, hK, hA⟩ := id hC
  unfold m_rfull_J24 at Heq
  refine lv_iconst (v := 1) hx hb d_rfull_24 (by decide) ?_
  refine lv_goto (tgt := 29) hx hb d_rfull_25 (by decide) ?_
  exact w_rfull_J29 hC Heq Kr _ _ _ hP hD hS (lv_sub hl [0] rfl)
def m_rfull_J0 (S : MS) (x1 : Int32) (x2 : Int32) : Option (MS × Int32) := (if 4000 < (S.i 23) + x1 then m_rfull_J24 S else (if (S.i 27) + x2 ≤ 24576 then m_rfull_J29 S 0 else m_rfull_J24 S))
theorem d_rfull_12 : decode prog_14_method_26_code 12 = .ok (.aload_n 0, 1) := by decide +kernel
theorem d_rfull_13 : decode prog_14_method_26_code 13 = .ok (.getfield 238, 3) := by decide +kernel
theorem d_rfull_16 : decode prog_14_method_26_code 16 = .ok (.iload_n 2, 1) := by decide +kernel
theorem d_rfull_17 : decode prog_14_method_26_code 17 = .ok (.iadd, 1) := by decide +kernel
theorem d_rfull_18 : decode prog_14_method_26_code 18 = .ok (.sipush 24576, 3) := by decide +kernel
theorem d_rfull_21 : decode prog_14_method_26_code 21 = .ok (.if_icmp .le 7, 3) := by decide +kernel
theorem d_rfull_28 : decode prog_14_method_26_code 28 = .ok (.iconst 0, 1) := by decide +kernel
set_option maxHeartbeats 4000000 in
set_option maxRecDepth 100000 in
theorem w_rfull_J0 {p : Program} {l : Launch} {e : Env} {s : State} {m : MethodId} {args : Array Value} {below : List Frame} {meth : Method} {c : Code} {A : Nat → Prop} {D : va_G} {md : Nat → Nat} {mc : Nat → ClassId} {Q : State → Prop} (hC : MCx "JoinedTreesModel" prog_14_method_26_code 3 (some .boolean) p s m args meth c A D mc) {S : MS} {x1 : Int32} {x2 : Int32} {o : MS × Int32} (Heq : m_rfull_J0 S x1 x2 = some o) (Kr : ∀ r : MS × Int32, o = r → ∀ (pc : Nat) (H : Heap) (locs : List Loc) (ls : Array Slot), decode prog_14_method_26_code pc = .ok (.ireturn, 1) → (r.2 = 0 ∨ r.2 = 1) → va_P D cls (mw md mc r.1) H → va_D A (mw md mc r.1) → va_S A s.heap H locs → W p l e ({ frames := 0, cells := 0, slots := 0, locals := 0 }) s m args below meth c H locs 0 0 Q (F0 m pc ls [.int r.2])) : ∀ (H : Heap) (locs : List Loc) (ls : Array Slot), va_P D cls (mw md mc S) H → va_D A (mw md mc S) → va_S A s.heap H locs → lv_has ls 3 [(0, .ref (md 100)), (1, .int x1), (2, .int x2)] → W p l e ({ frames := 0, cells := 0, slots := 0, locals := 0 }) s m args below meth c H locs 0 0 Q (F0 m 0 ls []) := by
  intro H locs ls hP hD hS hl
  obtain ⟨hx, hb, hr, hml, hown, hts, hK, hA⟩ := id hC
  unfold m_rfull_J0 at Heq
  refine lv_aload_n hx hb d_rfull_0 rfl (lv_at hl 0 rfl) ?_
  refine va_get (D := D) (ci := 12) (v := .int (S.i 23)) (C := R_MM) (T := F_MM) (N := 77) hx hb hts i_MM hown hK hP 0 rfl rfl 23 (by decide) (hts _ kw_1405) (fun _ h9 => h9) rfl d_rfull_1 ?_
  refine lv_iload_n hx hb d_rfull_4 rfl (lv_at hl 1 rfl) ?_
  refine lv_iadd hx hb d_rfull_5 ?_
  refine w_i (y := (S.i 23) + x1) rfl ?_
  refine lv_sipush (v := 4000) hx hb d_rfull_6 (by decide) ?_
  refine lv_icmp_gt (tgt := 24) hx hb d_rfull_9 (by decide) (fun c_1 => ?_) (fun c_1 => ?_)
  · replace Heq := (if_pos c_1).symm.trans Heq
    exact w_rfull_J24 hC Heq Kr _ _ _ hP hD hS (lv_sub hl [0] rfl)
  · replace Heq := (if_neg c_1).symm.trans Heq
    refine lv_aload_n hx hb d_rfull_12 rfl (lv_at hl 0 rfl) ?_
    refine va_get (D := D) (ci := 12) (v := .int (S.i 27)) (C := R_MM) (T := F_MM) (N := 77) hx hb hts i_MM hown hK hP 0 rfl rfl 27 (by decide) (hts _ kw_1409) (fun _ h9 => h9) rfl d_rfull_13 ?_
    refine lv_iload_n hx hb d_rfull_16 rfl (lv_at hl 2 rfl) ?_
    refine lv_iadd hx hb d_rfull_17 ?_
    refine w_i (y := (S.i 27) + x2) rfl ?_
    refine lv_sipush (v := 24576) hx hb d_rfull_18 (by decide) ?_
    refine lv_icmp_le (tgt := 28) hx hb d_rfull_21 (by decide) (fun c_2 => ?_) (fun c_2 => ?_)
    · replace Heq := (if_pos c_2).symm.trans Heq
      refine lv_iconst (v := 0) hx hb d_rfull_28 (by decide) ?_
      exact w_rfull_J29 hC Heq Kr _ _ _ hP hD hS (lv_sub hl [0] rfl)
    · replace Heq := (if_neg c_2).symm.trans Heq
      exact w_rfull_J24 hC Heq Kr _ _ _ hP hD hS (lv_sub hl [0] rfl)
def m_rfull (S : MS) (x1 : Int32) (x2 : Int32) : Option (MS × Int32) := m_rfull_J0 S x1 x2
theorem g_rfull (l : Launch) (D : va_G) (sz : Nat) {md : Nat → Nat} {mc : Nat → ClassId} {S : MS} {x1 : Int32} {x2 : Int32} {o : MS × Int32} (Heq : m_rfull S x1 x2 = some o) : Met l ⟨"JoinedTreesModel", "full", "(II)Z"⟩ (Cond.code ⟨"JoinedTreesModel", "full", "(II)Z"⟩ prog_14_method_26_code 3 (some .boolean) :: gb) ({ frames := 0, cells := 0, slots := 0, locals := 0 }) (gPc D (mw md mc S) (mty mc) sz [.ref (md 100), .int x1, .int x2]) (va_Qi (fun (r : Int32) (_ : Unit) => r = o.2) (fun _ t => gO D (mw md mc o.1) (mty mc) (va_A (mw md mc S) sz) t) (va_A (mw md mc S) sz)) 0 0 (va_A (mw md mc S) sz) := by
  refine Met.ofW (cc := prog_14_method_26_code) (maxL := 3) (ret := (some .boolean)) (by decide) rfl ?_
  intro p e s m args below meth c s₁ B hml hv
  obtain ⟨rfl, hsz, hP, hK, hD0⟩ := hv
  have hx := B.exec
  have hb := B.bytes
  have hr := B.returns
  have hts : ∀ w9 ∈ gb, w9.before [.ref (md 100), .int x1, .int x2].toArray s = true := fun w9 h => atoms_spec (ws := Cond.code ⟨"JoinedTreesModel", "full", "(II)Z"⟩ prog_14_method_26_code 3 (some .boolean) :: gb) B.pre w9 (List.mem_cons_of_mem _ h)
  have hown : s.vm.findClass "JoinedTreesModel" = some m.cls := findClass_of_methodNamed B.named
  have hlocks := B.notSynchronized
  subst hsz
  have hD := hD0.self (sz := s.heap.size)
  generalize hAe : va_A (mw md mc S) s.heap.size = A at hD ⊢
  have hA : ∀ q : Nat, s.heap.size ≤ q → A q := fun q h => by rw [← hAe]; exact Or.inr h
  have hS : va_S A s.heap s.heap [] := va_S.rf
  have hl := lv_entry ([.ref (md 100), .int x1, .int x2]) (n := 3) (Nat.le_of_ble_eq_true rfl)
  rw [lg_entry_eq]
  generalize (lg_sl ([.ref (md 100), .int x1, .int x2]) ++ List.replicate (3 - (lg_sl ([.ref (md 100), .int x1, .int x2])).length) Slot.unset).toArray = ls at hl ⊢
  have hl : lv_has ls 3 [(0, .ref (md 100)), (1, .int x1), (2, .int x2)] := hl
  refine w_rfull_J0 ⟨hx, hb, hr, hml, hown, hts, hK, hA⟩ Heq (fun r h pc H locs ls hd hz hP hD hS => ?_) _ _ _ hP hD hS (lv_sub hl [0, 1, 2] rfl)
  subst h
  exact W.zret (ty := .boolean) hx hb hr (by rcases hz with hz | hz <;> rw [hz] <;> rfl) (fun t ht hW => ⟨⟨_, (), rfl, rfl, by rw [ht]; exact hP, va_K.moved hW.alike hK, hD⟩, hS.F ht⟩) hS.2.2 hd
def m_rtaken_J0 (S : MS) : Option (MS × Int32) := some ((S.setI 7 0), S.i 7)
theorem d_rtaken_0 : decode prog_14_method_27_code 0 = .ok (.aload_n 0, 1) := by decide +kernel
theorem d_rtaken_1 : decode prog_14_method_27_code 1 = .ok (.getfield 182, 3) := by decide +kernel
theorem d_rtaken_4 : decode prog_14_method_27_code 4 = .ok (.istore_n 1, 1) := by decide +kernel
theorem d_rtaken_5 : decode prog_14_method_27_code 5 = .ok (.aload_n 0, 1) := by decide +kernel
theorem d_rtaken_6 : decode prog_14_method_27_code 6 = .ok (.iconst 0, 1) := by decide +kernel
theorem d_rtaken_7 : decode prog_14_method_27_code 7 = .ok (.putfield 182, 3) := by decide +kernel
theorem d_rtaken_10 : decode prog_14_method_27_code 10 = .ok (.iload_n 1, 1) := by decide +kernel
theorem d_rtaken_11 : decode prog_14_method_27_code 11 = .ok (.ireturn, 1) := by decide +kernel
set_option maxHeartbeats 4000000 in
set_option maxRecDepth 100000 in
theorem w_rtaken_J0 {p : Program} {l : Launch} {e : Env} {s : State} {m : MethodId} {args : Array Value} {below : List Frame} {meth : Method} {c : Code} {A : Nat → Prop} {D : va_G} {md : Nat → Nat} {mc : Nat → ClassId} {Q : State → Prop} (hC : MCx "JoinedTreesModel" prog_14_method_27_code 2 (some .int) p s m args meth c A D mc) {S : MS} {o : MS × Int32} (Heq : m_rtaken_J0 S = some o) (Kr : ∀ r : MS × Int32, o = r → ∀ (pc : Nat) (H : Heap) (locs : List Loc) (ls : Array Slot), decode prog_14_method_27_code pc = .ok (.ireturn, 1) → va_P D cls (mw md mc r.1) H → va_D A (mw md mc r.1) → va_S A s.heap H locs → W p l e ({ frames := 0, cells := 0, slots := 0, locals := 0 }) s m args below meth c H locs 0 0 Q (F0 m pc ls [.int r.2])) : ∀ (H : Heap) (locs : List Loc) (ls : Array Slot), va_P D cls (mw md mc S) H → va_D A (mw md mc S) → va_S A s.heap H locs → lv_has ls 2 [(0, .ref (md 100))] → W p l e ({ frames := 0, cells := 0, slots := 0, locals := 0 }) s m args below meth c H locs 0 0 Q (F0 m 0 ls []) := by
  intro H locs ls hP hD hS hl
  obtain ⟨hx, hb, hr, hml, hown, hts, hK, hA⟩ := id hC
  unfold m_rtaken_J0 at Heq
  refine lv_aload_n hx hb d_rtaken_0 rfl (lv_at hl 0 rfl) ?_
  refine va_get (D := D) (ci := 12) (v := .int (S.i 7)) (C := R_MM) (T := F_MM) (N := 77) hx hb hts i_MM hown hK hP 0 rfl rfl 7 (by decide) (hts _ kw_1389) (fun _ h9 => h9) rfl d_rtaken_1 ?_
  refine lv_istore_n (lv' := [(1, .int (S.i 7)), (0, .ref (md 100))]) hx hb d_rtaken_4 rfl hl (by decide) rfl (fun ls hl => ?_)
  refine lv_aload_n hx hb d_rtaken_5 rfl (lv_at hl 1 rfl) ?_
  refine lv_iconst (v := 0) hx hb d_rtaken_6 (by decide) ?_
  refine va_put (D := D) (ci := 12) (v := .int 0) (ty := .int) (C := R_MM) (T := F_MM) (N := 77) hx hb hts i_MM t_MM t_MM_ok n_MM hown hK hP hD hS 0 rfl rfl 7 (by decide) (hts _ kw_1389) (fun _ h9 => h9) rfl (by decide +kernel) rfl rfl (Nat.le_of_ble_eq_true rfl) d_rtaken_7 (fun H locs hP hD hS => ?_)
  rw [mw_I7] at hP hD
  refine lv_iload_n hx hb d_rtaken_10 rfl (lv_at hl 0 rfl) ?_
  exact Kr _ (Option.some.inj Heq).symm 11 _ _ _ d_rtaken_11 hP hD hS
def m_rtaken (S : MS) : Option (MS × Int32) := m_rtaken_J0 S
theorem g_rtaken (l : Launch) (D : va_G) (sz : Nat) {md : Nat → Nat} {mc : Nat → ClassId} {S : MS} {o : MS × Int32} (Heq : m_rtaken S = some o) : Met l ⟨"JoinedTreesModel", "taken", "()I"⟩ (Cond.code ⟨"JoinedTreesModel", "taken", "()I"⟩ prog_14_method_27_code 2 (some .int) :: gb) ({ frames := 0, cells := 0, slots := 0, locals := 0 }) (gPc D (mw md mc S) (mty mc) sz [.ref (md 100)]) (va_Qi (fun (r : Int32) (_ : Unit) => r = o.2) (fun _ t => gO D (mw md mc o.1) (mty mc) (va_A (mw md mc S) sz) t) (va_A (mw md mc S) sz)) 0 0 (va_A (mw md mc S) sz) := by
  refine Met.ofW (cc := prog_14_method_27_code) (maxL := 2) (ret := (some .int)) (by decide) rfl ?_
  intro p e s m args below meth c s₁ B hml hv
  obtain ⟨rfl, hsz, hP, hK, hD0⟩ := hv
  have hx := B.exec
  have hb := B.bytes
  have hr := B.returns
  have hts : ∀ w9 ∈ gb, w9.before [.ref (md 100)].toArray s = true := fun w9 h => atoms_spec (ws := Cond.code ⟨"JoinedTreesModel", "taken", "()I"⟩ prog_14_method_27_code 2 (some .int) :: gb) B.pre w9 (List.mem_cons_of_mem _ h)
  have hown : s.vm.findClass "JoinedTreesModel" = some m.cls := findClass_of_methodNamed B.named
  have hlocks := B.notSynchronized
  subst hsz
  have hD := hD0.self (sz := s.heap.size)
  generalize hAe : va_A (mw md mc S) s.heap.size = A at hD ⊢
  have hA : ∀ q : Nat, s.heap.size ≤ q → A q := fun q h => by rw [← hAe]; exact Or.inr h
  have hS : va_S A s.heap s.heap [] := va_S.rf
  have hl := lv_entry ([.ref (md 100)]) (n := 2) (Nat.le_of_ble_eq_true rfl)
  rw [lg_entry_eq]
  generalize (lg_sl ([.ref (md 100)]) ++ List.replicate (2 - (lg_sl ([.ref (md 100)])).length) Slot.unset).toArray = ls at hl ⊢
  have hl : lv_has ls 2 [(0, .ref (md 100))] := hl
  refine w_rtaken_J0 ⟨hx, hb, hr, hml, hown, hts, hK, hA⟩ Heq (fun r h pc H locs ls hd hP hD hS => ?_) _ _ _ hP hD hS (lv_sub hl [0] rfl)
  subst h
  exact W.iret hx hb hr (fun t ht hW => ⟨⟨_, (), rfl, rfl, by rw [ht]; exact hP, va_K.moved hW.alike hK, hD⟩, hS.F ht⟩) hS.2.2 hd
def m_rvalue_J0 (S : MS) (x1 : Int32) (x2 : Int32) (x3 : Nat) (x4 : Int32) (x5 : Int32) : Option MS := (if x2 = 4 then ob (m_rkeep S x3 x4 x5) (fun o_2 => gd x1 4000 (gd x1 4000 (some ((o_2.1.setA 16 (upd (o_2.1.a 16) x1.toNatClampNeg o_2.2)).setA 17 (upd (o_2.1.a 17) x1.toNatClampNeg x5))))) else some S)
theorem d_rvalue_0 : decode prog_14_method_30_code 0 = .ok (.iload_n 2, 1) := by decide +kernel
theorem d_rvalue_1 : decode prog_14_method_30_code 1 = .ok (.iconst 4, 1) := by decide +kernel
theorem d_rvalue_2 : decode prog_14_method_30_code 2 = .ok (.if_icmp .eq 4, 3) := by decide +kernel
theorem d_rvalue_6 : decode prog_14_method_30_code 6 = .ok (.aload_n 0, 1) := by decide +kernel
theorem d_rvalue_7 : decode prog_14_method_30_code 7 = .ok (.getfield 44, 3) := by decide +kernel
theorem d_rvalue_10 : decode prog_14_method_30_code 10 = .ok (.iload_n 1, 1) := by decide +kernel
theorem d_rvalue_11 : decode prog_14_method_30_code 11 = .ok (.aload_n 0, 1) := by decide +kernel
theorem d_rvalue_12 : decode prog_14_method_30_code 12 = .ok (.aload_n 3, 1) := by decide +kernel
theorem d_rvalue_13 : decode prog_14_method_30_code 13 = .ok (.iload 4, 2) := by decide +kernel
theorem d_rvalue_15 : decode prog_14_method_30_code 15 = .ok (.iload 5, 2) := by decide +kernel
theorem d_rvalue_17 : decode prog_14_method_30_code 17 = .ok (.invokevirtual 280, 3) := by decide +kernel
theorem d_rvalue_20 : decode prog_14_method_30_code 20 = .ok (.iastore, 1) := by decide +kernel
theorem d_rvalue_21 : decode prog_14_method_30_code 21 = .ok (.aload_n 0, 1) := by decide +kernel
theorem d_rvalue_22 : decode prog_14_method_30_code 22 = .ok (.getfield 47, 3) := by decide +kernel
theorem d_rvalue_25 : decode prog_14_method_30_code 25 = .ok (.iload_n 1, 1) := by decide +kernel
theorem d_rvalue_26 : decode prog_14_method_30_code 26 = .ok (.iload 5, 2) := by decide +kernel
theorem d_rvalue_28 : decode prog_14_method_30_code 28 = .ok (.iastore, 1) := by decide +kernel
theorem d_rvalue_29 : decode prog_14_method_30_code 29 = .ok (.return_, 1) := by decide +kernel
theorem d_rvalue_5 : decode prog_14_method_30_code 5 = .ok (.return_, 1) := by decide +kernel
set_option maxHeartbeats 4000000 in
set_option maxRecDepth 100000 in
theorem w_rvalue_J0 {p : Program} {l : Launch} {e : Env} {s : State} {m : MethodId} {args : Array Value} {below : List Frame} {meth : Method} {c : Code} {A : Nat → Prop} {D : va_G} {md : Nat → Nat} {mc : Nat → ClassId} {Q : State → Prop} (hC : MCx "JoinedTreesModel" prog_14_method_30_code 6 none p s m args meth c A D mc) {S : MS} {x1 : Int32} {x2 : Int32} {x3 : Nat} {x4 : Int32} {x5 : Int32} {o : MS} (Heq : m_rvalue_J0 S x1 x2 x3 x4 x5 = some o) (Kr : ∀ r : MS, o = r → ∀ (pc : Nat) (H : Heap) (locs : List Loc) (ls : Array Slot), decode prog_14_method_30_code pc = .ok (.return_, 1) → va_P D cls (mw md mc r) H → va_D A (mw md mc r) → va_S A s.heap H locs → W p l e ({ frames := 1, cells := 0, slots := 0, locals := 24 }) s m args below meth c H locs 0 0 Q (F0 m pc ls [])) : ∀ (H : Heap) (locs : List Loc) (ls : Array Slot), va_P D cls (mw md mc S) H → va_D A (mw md mc S) → va_S A s.heap H locs → lv_has ls 6 [(0, .ref (md 100)), (1, .int x1), (2, .int x2), (3, .ref (md x3)), (4, .int x4), (5, .int x5)] → W p l e ({ frames := 1, cells := 0, slots := 0, locals := 24 }) s m args below meth c H locs 0 0 Q (F0 m 0 ls []) := by
  intro H locs ls hP hD hS hl
  obtain ⟨hx, hb, hr, hml, hown, hts, hK, hA⟩ := id hC
  unfold m_rvalue_J0 at Heq
  refine lv_iload_n hx hb d_rvalue_0 rfl (lv_at hl 2 rfl) ?_
  refine lv_iconst (v := 4) hx hb d_rvalue_1 (by decide) ?_
  refine lv_icmp_eq (tgt := 6) hx hb d_rvalue_2 (by decide) (fun c_1 => ?_) (fun c_1 => ?_)
  · replace Heq := (if_pos c_1).symm.trans Heq
    refine lv_aload_n hx hb d_rvalue_6 rfl (lv_at hl 0 rfl) ?_
    refine va_get (D := D) (ci := 12) (v := .ref (md 16)) (C := R_MM) (T := F_MM) (N := 77) hx hb hts i_MM hown hK hP 0 rfl rfl 16 (by decide) (hts _ kw_1398) (fun _ h9 => h9) rfl d_rvalue_7 ?_
    refine lv_iload_n hx hb d_rvalue_10 rfl (lv_at hl 1 rfl) ?_
    refine lv_aload_n hx hb d_rvalue_11 rfl (lv_at hl 0 rfl) ?_
    refine lv_aload_n hx hb d_rvalue_12 rfl (lv_at hl 3 rfl) ?_
    refine lv_iload hx hb d_rvalue_13 (lv_at hl 4 rfl) ?_
    refine lv_iload hx hb d_rvalue_15 (lv_at hl 5 rfl) ?_
    obtain ⟨o_2, h_3, Heq⟩ := ob_some Heq
    have hFc := fr_all hD hS hA
    refine va_calli (va_runV (As := [.ref (md x3), .int x4, .int x5]) (rest := [.int x1, .ref (md 16)]) ⟨hx, hb, hml, hown, hts⟩ (g_rkeep l D H.size h_3) (cw_v 3 hts kw_1701 kw_1698 kw_1700 kp_44 kw_11 rfl rfl (by decide +kernel) ⟨Nat.le_of_ble_eq_true rfl, Nat.le_of_ble_eq_true rfl⟩) ⟨g_blind, va_recv hK hP (ci := 12) (q0 := 0) rfl rfl, fun U hU hW => g_pre hU hW hP hK hD⟩ rfl rfl hl.1 rfl (lv_room (Nat.le_of_ble_eq_true rfl)) d_rvalue_17 ⟨Nat.le_of_ble_eq_true rfl, Nat.le_of_ble_eq_true rfl⟩) hS (fun q _ h => hFc q h) hFc (fun rz u t H1 locs ht hvm hw hB hz1 hk1 hS => ?_)
    obtain ⟨hP, -, hD1⟩ := hB
    rw [ht] at hP
    have hD := hD1.weaken (fun _ q _ h => hFc q.1 h)
    generalize H1 = H at hP hS ⊢
    refine W.cs (cells' := 0) (slots' := 0) rfl rfl ?_
    subst hw
    obtain ⟨hi_4, Heq⟩ := gd_some Heq
    refine va_iast hx hb hK hP hD hS 12 0 rfl rfl (i := x1) (x := o_2.2) hi_4 d_rvalue_20 (fun H locs hP hD hS => ?_)
    rw [mw_A16] at hP hD
    refine lv_aload_n hx hb d_rvalue_21 rfl (lv_at hl 0 rfl) ?_
    refine va_get (D := D) (ci := 12) (v := .ref (md 17)) (C := R_MM) (T := F_MM) (N := 77) hx hb hts i_MM hown hK hP 0 rfl rfl 17 (by decide) (hts _ kw_1399) (fun _ h9 => h9) rfl d_rvalue_22 ?_
    refine lv_iload_n hx hb d_rvalue_25 rfl (lv_at hl 1 rfl) ?_
    refine lv_iload hx hb d_rvalue_26 (lv_at hl 5 rfl) ?_
    obtain ⟨hi_5, Heq⟩ := gd_some Heq
    refine va_iast hx hb hK hP hD hS 13 0 rfl rfl (i := x1) (x := x5) hi_5 d_rvalue_28 (fun H locs hP hD hS => ?_)
    rw [mw_A17] at hP hD
    exact Kr _ (Option.some.inj Heq).symm 29 _ _ _ d_rvalue_29 hP hD hS
  · replace Heq := (if_neg c_1).symm.trans Heq
    exact Kr _ (Option.some.inj Heq).symm 5 _ _ _ d_rvalue_5 hP hD hS
def m_rvalue (S : MS) (x1 : Int32) (x2 : Int32) (x3 : Nat) (x4 : Int32) (x5 : Int32) : Option MS := m_rvalue_J0 S x1 x2 x3 x4 x5
theorem g_rvalue (l : Launch) (D : va_G) (sz : Nat) {md : Nat → Nat} {mc : Nat → ClassId} {S : MS} {x1 : Int32} {x2 : Int32} {x3 : Nat} {x4 : Int32} {x5 : Int32} {o : MS} (Heq : m_rvalue S x1 x2 x3 x4 x5 = some o) : Met l ⟨"JoinedTreesModel", "value", "(II[BII)V"⟩ (Cond.code ⟨"JoinedTreesModel", "value", "(II[BII)V"⟩ prog_14_method_30_code 6 none :: gb) ({ frames := 1, cells := 0, slots := 0, locals := 24 }) (gPc D (mw md mc S) (mty mc) sz [.ref (md 100), .int x1, .int x2, .ref (md x3), .int x4, .int x5]) (va_Qv (fun _ : Unit => True) (fun _ t => gO D (mw md mc o) (mty mc) (va_A (mw md mc S) sz) t) (va_A (mw md mc S) sz)) 0 0 (va_A (mw md mc S) sz) := by
  refine Met.ofW (cc := prog_14_method_30_code) (maxL := 6) (ret := none) (by decide) rfl ?_
  intro p e s m args below meth c s₁ B hml hv
  obtain ⟨rfl, hsz, hP, hK, hD0⟩ := hv
  have hx := B.exec
  have hb := B.bytes
  have hr := B.returns
  have hts : ∀ w9 ∈ gb, w9.before [.ref (md 100), .int x1, .int x2, .ref (md x3), .int x4, .int x5].toArray s = true := fun w9 h => atoms_spec (ws := Cond.code ⟨"JoinedTreesModel", "value", "(II[BII)V"⟩ prog_14_method_30_code 6 none :: gb) B.pre w9 (List.mem_cons_of_mem _ h)
  have hown : s.vm.findClass "JoinedTreesModel" = some m.cls := findClass_of_methodNamed B.named
  have hlocks := B.notSynchronized
  subst hsz
  have hD := hD0.self (sz := s.heap.size)
  generalize hAe : va_A (mw md mc S) s.heap.size = A at hD ⊢
  have hA : ∀ q : Nat, s.heap.size ≤ q → A q := fun q h => by rw [← hAe]; exact Or.inr h
  have hS : va_S A s.heap s.heap [] := va_S.rf
  have hl := lv_entry ([.ref (md 100), .int x1, .int x2, .ref (md x3), .int x4, .int x5]) (n := 6) (Nat.le_of_ble_eq_true rfl)
  rw [lg_entry_eq]
  generalize (lg_sl ([.ref (md 100), .int x1, .int x2, .ref (md x3), .int x4, .int x5]) ++ List.replicate (6 - (lg_sl ([.ref (md 100), .int x1, .int x2, .ref (md x3), .int x4, .int x5])).length) Slot.unset).toArray = ls at hl ⊢
  have hl : lv_has ls 6 [(0, .ref (md 100)), (1, .int x1), (2, .int x2), (3, .ref (md x3)), (4, .int x4), (5, .int x5)] := hl
  refine w_rvalue_J0 ⟨hx, hb, hr, hml, hown, hts, hK, hA⟩ Heq (fun r h pc H locs ls hd hP hD hS => ?_) _ _ _ hP hD hS (lv_sub hl [0, 1, 2, 3, 4, 5] rfl)
  subst h
  exact W.vret hx hb hr (fun t ht hW => ⟨⟨(), rfl, trivial, by rw [ht]; exact hP, va_K.moved hW.alike hK, hD⟩, hS.F ht⟩) hS.2.2 hd
def m_rsetKey_J0 (S : MS) (x1 : Int32) (x2 : Int32) (x3 : Nat) (x4 : Int32) (x5 : Int32) (x6 : Int32) (x7 : Int64) (x9 : Nat) (x10 : Int32) (x11 : Int32) : Option (MS × Int32) := ob (m_rkeyCandidates S x1 x2 x3 x4 x5) (fun o_1 => ob (m_rmake o_1 x1 x2 x6 x7) (fun o_3 => ob (m_rfollows o_3.1 o_3.2 0) (fun o_5 => ob (m_rkeep o_5 x3 x4 x5) (fun o_7 => gd o_3.2 4000 (gd o_3.2 4000 (ob (m_rvalue ((o_7.1.setA 14 (upd (o_7.1.a 14) o_3.2.toNatClampNeg o_7.2)).setA 15 (upd (o_7.1.a 15) o_3.2.toNatClampNeg x5)) o_3.2 x6 x9 x10 x11) (fun o_11 => some (o_11, o_3.2))))))))
theorem d_rsetKey_0 : decode prog_14_method_29_code 0 = .ok (.aload_n 0, 1) := by decide +kernel
theorem d_rsetKey_1 : decode prog_14_method_29_code 1 = .ok (.iload_n 1, 1) := by decide +kernel
theorem d_rsetKey_2 : decode prog_14_method_29_code 2 = .ok (.iload_n 2, 1) := by decide +kernel
theorem d_rsetKey_3 : decode prog_14_method_29_code 3 = .ok (.aload_n 3, 1) := by decide +kernel
theorem d_rsetKey_4 : decode prog_14_method_29_code 4 = .ok (.iload 4, 2) := by decide +kernel
theorem d_rsetKey_6 : decode prog_14_method_29_code 6 = .ok (.iload 5, 2) := by decide +kernel
theorem d_rsetKey_8 : decode prog_14_method_29_code 8 = .ok (.invokevirtual 268, 3) := by decide +kernel
theorem d_rsetKey_11 : decode prog_14_method_29_code 11 = .ok (.aload_n 0, 1) := by decide +kernel
theorem d_rsetKey_12 : decode prog_14_method_29_code 12 = .ok (.iload_n 1, 1) := by decide +kernel
theorem d_rsetKey_13 : decode prog_14_method_29_code 13 = .ok (.iload_n 2, 1) := by decide +kernel
theorem d_rsetKey_14 : decode prog_14_method_29_code 14 = .ok (.iload 6, 2) := by decide +kernel
theorem d_rsetKey_16 : decode prog_14_method_29_code 16 = .ok (.lload 7, 2) := by decide +kernel
theorem d_rsetKey_18 : decode prog_14_method_29_code 18 = .ok (.invokevirtual 272, 3) := by decide +kernel
theorem d_rsetKey_21 : decode prog_14_method_29_code 21 = .ok (.istore 12, 2) := by decide +kernel
theorem d_rsetKey_23 : decode prog_14_method_29_code 23 = .ok (.aload_n 0, 1) := by decide +kernel
theorem d_rsetKey_24 : decode prog_14_method_29_code 24 = .ok (.iload 12, 2) := by decide +kernel
theorem d_rsetKey_26 : decode prog_14_method_29_code 26 = .ok (.iconst 0, 1) := by decide +kernel
theorem d_rsetKey_27 : decode prog_14_method_29_code 27 = .ok (.invokevirtual 276, 3) := by decide +kernel
theorem d_rsetKey_30 : decode prog_14_method_29_code 30 = .ok (.aload_n 0, 1) := by decide +kernel
theorem d_rsetKey_31 : decode prog_14_method_29_code 31 = .ok (.getfield 38, 3) := by decide +kernel
theorem d_rsetKey_34 : decode prog_14_method_29_code 34 = .ok (.iload 12, 2) := by decide +kernel
theorem d_rsetKey_36 : decode prog_14_method_29_code 36 = .ok (.aload_n 0, 1) := by decide +kernel
theorem d_rsetKey_37 : decode prog_14_method_29_code 37 = .ok (.aload_n 3, 1) := by decide +kernel
theorem d_rsetKey_38 : decode prog_14_method_29_code 38 = .ok (.iload 4, 2) := by decide +kernel
theorem d_rsetKey_40 : decode prog_14_method_29_code 40 = .ok (.iload 5, 2) := by decide +kernel
theorem d_rsetKey_42 : decode prog_14_method_29_code 42 = .ok (.invokevirtual 280, 3) := by decide +kernel
theorem d_rsetKey_45 : decode prog_14_method_29_code 45 = .ok (.iastore, 1) := by decide +kernel
theorem d_rsetKey_46 : decode prog_14_method_29_code 46 = .ok (.aload_n 0, 1) := by decide +kernel
theorem d_rsetKey_47 : decode prog_14_method_29_code 47 = .ok (.getfield 41, 3) := by decide +kernel
theorem d_rsetKey_50 : decode prog_14_method_29_code 50 = .ok (.iload 12, 2) := by decide +kernel
theorem d_rsetKey_52 : decode prog_14_method_29_code 52 = .ok (.iload 5, 2) := by decide +kernel
theorem d_rsetKey_54 : decode prog_14_method_29_code 54 = .ok (.iastore, 1) := by decide +kernel
theorem d_rsetKey_55 : decode prog_14_method_29_code 55 = .ok (.aload_n 0, 1) := by decide +kernel
theorem d_rsetKey_56 : decode prog_14_method_29_code 56 = .ok (.iload 12, 2) := by decide +kernel
theorem d_rsetKey_58 : decode prog_14_method_29_code 58 = .ok (.iload 6, 2) := by decide +kernel
theorem d_rsetKey_60 : decode prog_14_method_29_code 60 = .ok (.aload 9, 2) := by decide +kernel
theorem d_rsetKey_62 : decode prog_14_method_29_code 62 = .ok (.iload 10, 2) := by decide +kernel
theorem d_rsetKey_64 : decode prog_14_method_29_code 64 = .ok (.iload 11, 2) := by decide +kernel
theorem d_rsetKey_66 : decode prog_14_method_29_code 66 = .ok (.invokevirtual 284, 3) := by decide +kernel
theorem d_rsetKey_69 : decode prog_14_method_29_code 69 = .ok (.iload 12, 2) := by decide +kernel
theorem d_rsetKey_71 : decode prog_14_method_29_code 71 = .ok (.ireturn, 1) := by decide +kernel
set_option maxHeartbeats 4000000 in
set_option maxRecDepth 100000 in
theorem w_rsetKey_J0 {p : Program} {l : Launch} {e : Env} {s : State} {m : MethodId} {args : Array Value} {below : List Frame} {meth : Method} {c : Code} {A : Nat → Prop} {D : va_G} {md : Nat → Nat} {mc : Nat → ClassId} {Q : State → Prop} (hC : MCx "JoinedTreesModel" prog_14_method_29_code 13 (some .int) p s m args meth c A D mc) {S : MS} {x1 : Int32} {x2 : Int32} {x3 : Nat} {x4 : Int32} {x5 : Int32} {x6 : Int32} {x7 : Int64} {x9 : Nat} {x10 : Int32} {x11 : Int32} {o : MS × Int32} (Heq : m_rsetKey_J0 S x1 x2 x3 x4 x5 x6 x7 x9 x10 x11 = some o) (Kr : ∀ r : MS × Int32, o = r → ∀ (pc : Nat) (H : Heap) (locs : List Loc) (ls : Array Slot), decode prog_14_method_29_code pc = .ok (.ireturn, 1) → va_P D cls (mw md mc r.1) H → va_D A (mw md mc r.1) → va_S A s.heap H locs → W p l e ({ frames := 3, cells := 0, slots := 0, locals := 74 }) s m args below meth c H locs 0 0 Q (F0 m pc ls [.int r.2])) : ∀ (H : Heap) (locs : List Loc) (ls : Array Slot), va_P D cls (mw md mc S) H → va_D A (mw md mc S) → va_S A s.heap H locs → lv_has ls 13 [(0, .ref (md 100)), (1, .int x1), (2, .int x2), (3, .ref (md x3)), (4, .int x4), (5, .int x5), (6, .int x6), (7, .long x7), (9, .ref (md x9)), (10, .int x10), (11, .int x11)] → W p l e ({ frames := 3, cells := 0, slots := 0, locals := 74 }) s m args below meth c H locs 0 0 Q (F0 m 0 ls []) := by
  intro H locs ls hP hD hS hl
  obtain ⟨hx, hb, hr, hml, hown, hts, hK, hA⟩ := id hC
  unfold m_rsetKey_J0 at Heq
  refine lv_aload_n hx hb d_rsetKey_0 rfl (lv_at hl 0 rfl) ?_
  refine lv_iload_n hx hb d_rsetKey_1 rfl (lv_at hl 1 rfl) ?_
  refine lv_iload_n hx hb d_rsetKey_2 rfl (lv_at hl 2 rfl) ?_
  refine lv_aload_n hx hb d_rsetKey_3 rfl (lv_at hl 3 rfl) ?_
  refine lv_iload hx hb d_rsetKey_4 (lv_at hl 4 rfl) ?_
  refine lv_iload hx hb d_rsetKey_6 (lv_at hl 5 rfl) ?_
  obtain ⟨o_1, h_2, Heq⟩ := ob_some Heq
  have hFc := fr_all hD hS hA
  refine va_callv (va_runV (As := [.int x1, .int x2, .ref (md x3), .int x4, .int x5]) (rest := []) ⟨hx, hb, hml, hown, hts⟩ (g_rkeyCandidates l D H.size h_2) (cw_v 5 hts kw_1668 kw_1665 kw_1667 kp_36 kw_11 rfl rfl (by decide +kernel) ⟨Nat.le_of_ble_eq_true rfl, Nat.le_of_ble_eq_true rfl⟩) ⟨g_blind, va_recv hK hP (ci := 12) (q0 := 0) rfl rfl, fun U hU hW => g_pre hU hW hP hK hD⟩ rfl rfl hl.1 rfl (lv_room (Nat.le_of_ble_eq_true rfl)) d_rsetKey_8 ⟨Nat.le_of_ble_eq_true rfl, Nat.le_of_ble_eq_true rfl⟩) hS (fun q _ h => hFc q h) hFc (fun u t H1 locs ht hvm hw hB hz1 hk1 hS => ?_)
  obtain ⟨hP, -, hD1⟩ := hB
  rw [ht] at hP
  have hD := hD1.weaken (fun _ q _ h => hFc q.1 h)
  generalize H1 = H at hP hS ⊢
  refine W.cs (cells' := 0) (slots' := 0) rfl rfl ?_
  refine lv_aload_n hx hb d_rsetKey_11 rfl (lv_at hl 0 rfl) ?_
  refine lv_iload_n hx hb d_rsetKey_12 rfl (lv_at hl 1 rfl) ?_
  refine lv_iload_n hx hb d_rsetKey_13 rfl (lv_at hl 2 rfl) ?_
  refine lv_iload hx hb d_rsetKey_14 (lv_at hl 6 rfl) ?_
  refine lv_lload hx hb d_rsetKey_16 (lv_at hl 7 rfl) ?_
  obtain ⟨o_3, h_4, Heq⟩ := ob_some Heq
  have hFc := fr_all hD hS hA
  refine va_calli (va_runV (As := [.int x1, .int x2, .int x6, .long x7]) (rest := []) ⟨hx, hb, hml, hown, hts⟩ (g_rmake l D H.size h_4) (cw_v 4 hts kw_1684 kw_1681 kw_1683 kp_40 kw_11 rfl rfl (by decide +kernel) ⟨Nat.le_of_ble_eq_true rfl, Nat.le_of_ble_eq_true rfl⟩) ⟨g_blind, va_recv hK hP (ci := 12) (q0 := 0) rfl rfl, fun U hU hW => g_pre hU hW hP hK hD⟩ rfl rfl hl.1 rfl (lv_room (Nat.le_of_ble_eq_true rfl)) d_rsetKey_18 ⟨Nat.le_of_ble_eq_true rfl, Nat.le_of_ble_eq_true rfl⟩) hS (fun q _ h => hFc q h) hFc (fun rz u t H1 locs ht hvm hw hB hz1 hk1 hS => ?_)
  obtain ⟨hP, -, hD1⟩ := hB
  rw [ht] at hP
  have hD := hD1.weaken (fun _ q _ h => hFc q.1 h)
  generalize H1 = H at hP hS ⊢
  refine W.cs (cells' := 0) (slots' := 0) rfl rfl ?_
  subst hw
  refine lv_istore (lv' := [(12, .int o_3.2), (0, .ref (md 100)), (1, .int x1), (2, .int x2), (3, .ref (md x3)), (4, .int x4), (5, .int x5), (6, .int x6), (7, .long x7), (9, .ref (md x9)), (10, .int x10), (11, .int x11)]) hx hb d_rsetKey_21 hl (by decide) rfl (fun ls hl => ?_)
  refine lv_aload_n hx hb d_rsetKey_23 rfl (lv_at hl 1 rfl) ?_
  refine lv_iload hx hb d_rsetKey_24 (lv_at hl 0 rfl) ?_
  refine lv_iconst (v := 0) hx hb d_rsetKey_26 (by decide) ?_
  obtain ⟨o_5, h_6, Heq⟩ := ob_some Heq
  have hFc := fr_all hD hS hA
  refine va_callv (va_runV (As := [.int o_3.2, .int 0]) (rest := []) ⟨hx, hb, hml, hown, hts⟩ (g_rfollows l D H.size h_6) (cw_v 2 hts kw_1697 kw_1694 kw_1696 kp_43 kw_11 rfl rfl (by decide +kernel) ⟨Nat.le_of_ble_eq_true rfl, Nat.le_of_ble_eq_true rfl⟩) ⟨g_blind, va_recv hK hP (ci := 12) (q0 := 0) rfl rfl, fun U hU hW => g_pre hU hW hP hK hD⟩ rfl rfl hl.1 rfl (lv_room (Nat.le_of_ble_eq_true rfl)) d_rsetKey_27 ⟨Nat.le_of_ble_eq_true rfl, Nat.le_of_ble_eq_true rfl⟩) hS (fun q _ h => hFc q h) hFc (fun u t H1 locs ht hvm hw hB hz1 hk1 hS => ?_)
  obtain ⟨hP, -, hD1⟩ := hB
  rw [ht] at hP
  have hD := hD1.weaken (fun _ q _ h => hFc q.1 h)
  generalize H1 = H at hP hS ⊢
  refine W.cs (cells' := 0) (slots' := 0) rfl rfl ?_
  refine lv_aload_n hx hb d_rsetKey_30 rfl (lv_at hl 1 rfl) ?_
  refine va_get (D := D) (ci := 12) (v := .ref (md 14)) (C := R_MM) (T := F_MM) (N := 77) hx hb hts i_MM hown hK hP 0 rfl rfl 14 (by decide) (hts _ kw_1396) (fun _ h9 => h9) rfl d_rsetKey_31 ?_
  refine lv_iload hx hb d_rsetKey_34 (lv_at hl 0 rfl) ?_
  refine lv_aload_n hx hb d_rsetKey_36 rfl (lv_at hl 1 rfl) ?_
  refine lv_aload_n hx hb d_rsetKey_37 rfl (lv_at hl 4 rfl) ?_
  refine lv_iload hx hb d_rsetKey_38 (lv_at hl 5 rfl) ?_
  refine lv_iload hx hb d_rsetKey_40 (lv_at hl 6 rfl) ?_
  obtain ⟨o_7, h_8, Heq⟩ := ob_some Heq
  have hFc := fr_all hD hS hA
  refine va_calli (va_runV (As := [.ref (md x3), .int x4, .int x5]) (rest := [.int o_3.2, .ref (md 14)]) ⟨hx, hb, hml, hown, hts⟩ (g_rkeep l D H.size h_8) (cw_v 3 hts kw_1701 kw_1698 kw_1700 kp_44 kw_11 rfl rfl (by decide +kernel) ⟨Nat.le_of_ble_eq_true rfl, Nat.le_of_ble_eq_true rfl⟩) ⟨g_blind, va_recv hK hP (ci := 12) (q0 := 0) rfl rfl, fun U hU hW => g_pre hU hW hP hK hD⟩ rfl rfl hl.1 rfl (lv_room (Nat.le_of_ble_eq_true rfl)) d_rsetKey_42 ⟨Nat.le_of_ble_eq_true rfl, Nat.le_of_ble_eq_true rfl⟩) hS (fun q _ h => hFc q h) hFc (fun rz u t H1 locs ht hvm hw hB hz1 hk1 hS => ?_)
  obtain ⟨hP, -, hD1⟩ := hB
  rw [ht] at hP
  have hD := hD1.weaken (fun _ q _ h => hFc q.1 h)
  generalize H1 = H at hP hS ⊢
  refine W.cs (cells' := 0) (slots' := 0) rfl rfl ?_
  subst hw
  obtain ⟨hi_9, Heq⟩ := gd_some Heq
  refine va_iast hx hb hK hP hD hS 10 0 rfl rfl (i := o_3.2) (x := o_7.2) hi_9 d_rsetKey_45 (fun H locs hP hD hS => ?_)
  rw [mw_A14] at hP hD
  refine lv_aload_n hx hb d_rsetKey_46 rfl (lv_at hl 1 rfl) ?_
  refine va_get (D := D) (ci := 12) (v := .ref (md 15)) (C := R_MM) (T := F_MM) (N := 77) hx hb hts i_MM hown hK hP 0 rfl rfl 15 (by decide) (hts _ kw_1397) (fun _ h9 => h9) rfl d_rsetKey_47 ?_
  refine lv_iload hx hb d_rsetKey_50 (lv_at hl 0 rfl) ?_
  refine lv_iload hx hb d_rsetKey_52 (lv_at hl 6 rfl) ?_
  obtain ⟨hi_10, Heq⟩ := gd_some Heq
  refine va_iast hx hb hK hP hD hS 11 0 rfl rfl (i := o_3.2) (x := x5) hi_10 d_rsetKey_54 (fun H locs hP hD hS => ?_)
  rw [mw_A15] at hP hD
  refine lv_aload_n hx hb d_rsetKey_55 rfl (lv_at hl 1 rfl) ?_
  refine lv_iload hx hb d_rsetKey_56 (lv_at hl 0 rfl) ?_
  refine lv_iload hx hb d_rsetKey_58 (lv_at hl 7 rfl) ?_
  refine lv_aload hx hb d_rsetKey_60 (lv_at hl 9 rfl) ?_
  refine lv_iload hx hb d_rsetKey_62 (lv_at hl 10 rfl) ?_
  refine lv_iload hx hb d_rsetKey_64 (lv_at hl 11 rfl) ?_
  obtain ⟨o_11, h_12, Heq⟩ := ob_some Heq
  have hFc := fr_all hD hS hA
  refine va_callv (va_runV (As := [.int o_3.2, .int x6, .ref (md x9), .int x10, .int x11]) (rest := []) ⟨hx, hb, hml, hown, hts⟩ (g_rvalue l D H.size h_12) (cw_v 5 hts kw_1705 kw_1702 kw_1704 kp_45 kw_11 rfl rfl (by decide +kernel) ⟨Nat.le_of_ble_eq_true rfl, Nat.le_of_ble_eq_true rfl⟩) ⟨g_blind, va_recv hK hP (ci := 12) (q0 := 0) rfl rfl, fun U hU hW => g_pre hU hW hP hK hD⟩ rfl rfl hl.1 rfl (lv_room (Nat.le_of_ble_eq_true rfl)) d_rsetKey_66 ⟨Nat.le_of_ble_eq_true rfl, Nat.le_of_ble_eq_true rfl⟩) hS (fun q _ h => hFc q h) hFc (fun u t H1 locs ht hvm hw hB hz1 hk1 hS => ?_)
  obtain ⟨hP, -, hD1⟩ := hB
  rw [ht] at hP
  have hD := hD1.weaken (fun _ q _ h => hFc q.1 h)
  generalize H1 = H at hP hS ⊢
  refine W.cs (cells' := 0) (slots' := 0) rfl rfl ?_
  refine lv_iload hx hb d_rsetKey_69 (lv_at hl 0 rfl) ?_
  exact Kr _ (Option.some.inj Heq).symm 71 _ _ _ d_rsetKey_71 hP hD hS
def m_rsetKey (S : MS) (x1 : Int32) (x2 : Int32) (x3 : Nat) (x4 : Int32) (x5 : Int32) (x6 : Int32) (x7 : Int64) (x9 : Nat) (x10 : Int32) (x11 : Int32) : Option (MS × Int32) := m_rsetKey_J0 S x1 x2 x3 x4 x5 x6 x7 x9 x10 x11
theorem g_rsetKey (l : Launch) (D : va_G) (sz : Nat) {md : Nat → Nat} {mc : Nat → ClassId} {S : MS} {x1 : Int32} {x2 : Int32} {x3 : Nat} {x4 : Int32} {x5 : Int32} {x6 : Int32} {x7 : Int64} {x9 : Nat} {x10 : Int32} {x11 : Int32} {o : MS × Int32} (Heq : m_rsetKey S x1 x2 x3 x4 x5 x6 x7 x9 x10 x11 = some o) : Met l ⟨"JoinedTreesModel", "setKey", "(II[BIIIJ[BII)I"⟩ (Cond.code ⟨"JoinedTreesModel", "setKey", "(II[BIIIJ[BII)I"⟩ prog_14_method_29_code 13 (some .int) :: gb) ({ frames := 3, cells := 0, slots := 0, locals := 74 }) (gPc D (mw md mc S) (mty mc) sz [.ref (md 100), .int x1, .int x2, .ref (md x3), .int x4, .int x5, .int x6, .long x7, .ref (md x9), .int x10, .int x11]) (va_Qi (fun (r : Int32) (_ : Unit) => r = o.2) (fun _ t => gO D (mw md mc o.1) (mty mc) (va_A (mw md mc S) sz) t) (va_A (mw md mc S) sz)) 0 0 (va_A (mw md mc S) sz) := by
  refine Met.ofW (cc := prog_14_method_29_code) (maxL := 13) (ret := (some .int)) (by decide) rfl ?_
  intro p e s m args below meth c s₁ B hml hv
  obtain ⟨rfl, hsz, hP, hK, hD0⟩ := hv
  have hx := B.exec
  have hb := B.bytes
  have hr := B.returns
  have hts : ∀ w9 ∈ gb, w9.before [.ref (md 100), .int x1, .int x2, .ref (md x3), .int x4, .int x5, .int x6, .long x7, .ref (md x9), .int x10, .int x11].toArray s = true := fun w9 h => atoms_spec (ws := Cond.code ⟨"JoinedTreesModel", "setKey", "(II[BIIIJ[BII)I"⟩ prog_14_method_29_code 13 (some .int) :: gb) B.pre w9 (List.mem_cons_of_mem _ h)
  have hown : s.vm.findClass "JoinedTreesModel" = some m.cls := findClass_of_methodNamed B.named
  have hlocks := B.notSynchronized
  subst hsz
  have hD := hD0.self (sz := s.heap.size)
  generalize hAe : va_A (mw md mc S) s.heap.size = A at hD ⊢
  have hA : ∀ q : Nat, s.heap.size ≤ q → A q := fun q h => by rw [← hAe]; exact Or.inr h
  have hS : va_S A s.heap s.heap [] := va_S.rf
  have hl := lv_entry ([.ref (md 100), .int x1, .int x2, .ref (md x3), .int x4, .int x5, .int x6, .long x7, .ref (md x9), .int x10, .int x11]) (n := 13) (Nat.le_of_ble_eq_true rfl)
  rw [lg_entry_eq]
  generalize (lg_sl ([.ref (md 100), .int x1, .int x2, .ref (md x3), .int x4, .int x5, .int x6, .long x7, .ref (md x9), .int x10, .int x11]) ++ List.replicate (13 - (lg_sl ([.ref (md 100), .int x1, .int x2, .ref (md x3), .int x4, .int x5, .int x6, .long x7, .ref (md x9), .int x10, .int x11])).length) Slot.unset).toArray = ls at hl ⊢
  have hl : lv_has ls 13 [(0, .ref (md 100)), (1, .int x1), (2, .int x2), (3, .ref (md x3)), (4, .int x4), (5, .int x5), (6, .int x6), (7, .long x7), (9, .ref (md x9)), (10, .int x10), (11, .int x11)] := hl
  refine w_rsetKey_J0 ⟨hx, hb, hr, hml, hown, hts, hK, hA⟩ Heq (fun r h pc H locs ls hd hP hD hS => ?_) _ _ _ hP hD hS (lv_sub hl [0, 1, 2, 3, 4, 5, 6, 7, 8, 9, 10] rfl)
  subst h
  exact W.iret hx hb hr (fun t ht hW => ⟨⟨_, (), rfl, rfl, by rw [ht]; exact hP, va_K.moved hW.alike hK, hD⟩, hS.F ht⟩) hS.2.2 hd
def m_rset_J63 (S : MS) : Option (MS × Int32) := ob (m_rno S 1) (fun o_1 => some (o_1.1, o_1.2))
theorem d_rset_0 : decode prog_14_method_28_code 0 = .ok (.aload_n 0, 1) := by decide +kernel
theorem d_rset_1 : decode prog_14_method_28_code 1 = .ok (.invokevirtual 247, 3) := by decide +kernel
theorem d_rset_4 : decode prog_14_method_28_code 4 = .ok (.istore 6, 2) := by decide +kernel
theorem d_rset_6 : decode prog_14_method_28_code 6 = .ok (.iload_n 1, 1) := by decide +kernel
theorem d_rset_7 : decode prog_14_method_28_code 7 = .ok (.invokestatic 251, 3) := by decide +kernel
theorem d_rset_10 : decode prog_14_method_28_code 10 = .ok (.ifCond .eq 53, 3) := by decide +kernel
theorem d_rset_63 : decode prog_14_method_28_code 63 = .ok (.aload_n 0, 1) := by decide +kernel
theorem d_rset_64 : decode prog_14_method_28_code 64 = .ok (.iconst 1, 1) := by decide +kernel
theorem d_rset_65 : decode prog_14_method_28_code 65 = .ok (.invokevirtual 191, 3) := by decide +kernel
theorem d_rset_68 : decode prog_14_method_28_code 68 = .ok (.ireturn, 1) := by decide +kernel
set_option maxHeartbeats 4000000 in
set_option maxRecDepth 100000 in
theorem w_rset_J63 {p : Program} {l : Launch} {e : Env} {s : State} {m : MethodId} {args : Array Value} {below : List Frame} {meth : Method} {c : Code} {A : Nat → Prop} {D : va_G} {md : Nat → Nat} {mc : Nat → ClassId} {Q : State → Prop} (hC : MCx "JoinedTreesModel" prog_14_method_28_code 8 (some .int) p s m args meth c A D mc) {S : MS} {o : MS × Int32} (Heq : m_rset_J63 S = some o) (Kr : ∀ r : MS × Int32, o = r → ∀ (pc : Nat) (H : Heap) (locs : List Loc) (ls : Array Slot), decode prog_14_method_28_code pc = .ok (.ireturn, 1) → va_P D cls (mw md mc r.1) H → va_D A (mw md mc r.1) → va_S A s.heap H locs → W p l e ({ frames := 4, cells := 0, slots := 0, locals := 106 }) s m args below meth c H locs 0 0 Q (F0 m pc ls [.int r.2])) : ∀ (H : Heap) (locs : List Loc) (ls : Array Slot), va_P D cls (mw md mc S) H → va_D A (mw md mc S) → va_S A s.heap H locs → lv_has ls 8 [(0, .ref (md 100))] → W p l e ({ frames := 4, cells := 0, slots := 0, locals := 106 }) s m args below meth c H locs 0 0 Q (F0 m 63 ls []) := by
  intro H locs ls hP hD hS hl
  obtain ⟨hx, hb, hr, hml, hown, hts, hK, hA⟩ := id hC
  unfold m_rset_J63 at Heq
  refine lv_aload_n hx hb d_rset_63 rfl (lv_at hl 0 rfl) ?_
  refine lv_iconst (v := 1) hx hb d_rset_64 (by decide) ?_
  obtain ⟨o_1, h_2, Heq⟩ := ob_some Heq
  have hFc := fr_all hD hS hA
  refine va_calli (va_runV (As := [.int 1]) (rest := []) ⟨hx, hb, hml, hown, hts⟩ (g_rno l D H.size h_2) (cw_v 1 hts kw_1626 kw_1623 kw_1625 kp_29 kw_11 rfl rfl (by decide +kernel) ⟨Nat.le_of_ble_eq_true rfl, Nat.le_of_ble_eq_true rfl⟩) ⟨g_blind, va_recv hK hP (ci := 12) (q0 := 0) rfl rfl, fun U hU hW => g_pre hU hW hP hK hD⟩ rfl rfl hl.1 rfl (lv_room (Nat.le_of_ble_eq_true rfl)) d_rset_65 ⟨Nat.le_of_ble_eq_true rfl, Nat.le_of_ble_eq_true rfl⟩) hS (fun q _ h => hFc q h) hFc (fun rz u t H1 locs ht hvm hw hB hz1 hk1 hS => ?_)
  obtain ⟨hP, -, hD1⟩ := hB
  rw [ht] at hP
  have hD := hD1.weaken (fun _ q _ h => hFc q.1 h)
  generalize H1 = H at hP hS ⊢
  refine W.cs (cells' := 0) (slots' := 0) rfl rfl ?_
  subst hw
  exact Kr _ (Option.some.inj Heq).symm 68 _ _ _ d_rset_68 hP hD hS
def m_rset_J91 (S : MS) : Option (MS × Int32) := ob (m_rno S 1) (fun o_1 => some (o_1.1, o_1.2))
theorem d_rset_13 : decode prog_14_method_28_code 13 = .ok (.iload_n 3, 1) := by decide +kernel
theorem d_rset_14 : decode prog_14_method_28_code 14 = .ok (.ifCond .lt 49, 3) := by decide +kernel
theorem d_rset_17 : decode prog_14_method_28_code 17 = .ok (.iload_n 3, 1) := by decide +kernel
theorem d_rset_18 : decode prog_14_method_28_code 18 = .ok (.bipush 8, 2) := by decide +kernel
theorem d_rset_20 : decode prog_14_method_28_code 20 = .ok (.if_icmp .gt 43, 3) := by decide +kernel
theorem d_rset_23 : decode prog_14_method_28_code 23 = .ok (.iload 6, 2) := by decide +kernel
theorem d_rset_25 : decode prog_14_method_28_code 25 = .ok (.iload_n 3, 1) := by decide +kernel
theorem d_rset_26 : decode prog_14_method_28_code 26 = .ok (.iconst 4, 1) := by decide +kernel
theorem d_rset_27 : decode prog_14_method_28_code 27 = .ok (.if_icmp .ne 7, 3) := by decide +kernel
theorem d_rset_34 : decode prog_14_method_28_code 34 = .ok (.iconst 1, 1) := by decide +kernel
theorem d_rset_35 : decode prog_14_method_28_code 35 = .ok (.if_icmp .ne 28, 3) := by decide +kernel
theorem d_rset_38 : decode prog_14_method_28_code 38 = .ok (.aload_n 0, 1) := by decide +kernel
theorem d_rset_39 : decode prog_14_method_28_code 39 = .ok (.getfield 185, 3) := by decide +kernel
theorem d_rset_42 : decode prog_14_method_28_code 42 = .ok (.invokestatic 255, 3) := by decide +kernel
theorem d_rset_45 : decode prog_14_method_28_code 45 = .ok (.ifCond .eq 18, 3) := by decide +kernel
theorem d_rset_48 : decode prog_14_method_28_code 48 = .ok (.iload_n 3, 1) := by decide +kernel
theorem d_rset_49 : decode prog_14_method_28_code 49 = .ok (.iconst 4, 1) := by decide +kernel
theorem d_rset_50 : decode prog_14_method_28_code 50 = .ok (.if_icmp .ne 19, 3) := by decide +kernel
theorem d_rset_69 : decode prog_14_method_28_code 69 = .ok (.aload_n 0, 1) := by decide +kernel
theorem d_rset_70 : decode prog_14_method_28_code 70 = .ok (.iload_n 1, 1) := by decide +kernel
theorem d_rset_71 : decode prog_14_method_28_code 71 = .ok (.iload_n 2, 1) := by decide +kernel
theorem d_rset_72 : decode prog_14_method_28_code 72 = .ok (.invokevirtual 258, 3) := by decide +kernel
theorem d_rset_75 : decode prog_14_method_28_code 75 = .ok (.istore 7, 2) := by decide +kernel
theorem d_rset_77 : decode prog_14_method_28_code 77 = .ok (.iload 7, 2) := by decide +kernel
theorem d_rset_79 : decode prog_14_method_28_code 79 = .ok (.bipush 7, 2) := by decide +kernel
theorem d_rset_81 : decode prog_14_method_28_code 81 = .ok (.if_icmp .eq 10, 3) := by decide +kernel
theorem d_rset_91 : decode prog_14_method_28_code 91 = .ok (.aload_n 0, 1) := by decide +kernel
theorem d_rset_92 : decode prog_14_method_28_code 92 = .ok (.iconst 1, 1) := by decide +kernel
theorem d_rset_93 : decode prog_14_method_28_code 93 = .ok (.invokevirtual 191, 3) := by decide +kernel
theorem d_rset_96 : decode prog_14_method_28_code 96 = .ok (.ireturn, 1) := by decide +kernel
set_option maxHeartbeats 4000000 in
set_option maxRecDepth 100000 in
theorem w_rset_J91 {p : Program} {l : Launch} {e : Env} {s : State} {m : MethodId} {args : Array Value} {below : List Frame} {meth : Method} {c : Code} {A : Nat → Prop} {D : va_G} {md : Nat → Nat} {mc : Nat → ClassId} {Q : State → Prop} (hC : MCx "JoinedTreesModel" prog_14_method_28_code 8 (some .int) p s m args meth c A D mc) {S : MS} {o : MS × Int32} (Heq : m_rset_J91 S = some o) (Kr : ∀ r : MS × Int32, o = r → ∀ (pc : Nat) (H : Heap) (locs : List Loc) (ls : Array Slot), decode prog_14_method_28_code pc = .ok (.ireturn, 1) → va_P D cls (mw md mc r.1) H → va_D A (mw md mc r.1) → va_S A s.heap H locs → W p l e ({ frames := 4, cells := 0, slots := 0, locals := 106 }) s m args below meth c H locs 0 0 Q (F0 m pc ls [.int r.2])) : ∀ (H : Heap) (locs : List Loc) (ls : Array Slot), va_P D cls (mw md mc S) H → va_D A (mw md mc S) → va_S A s.heap H locs → lv_has ls 8 [(0, .ref (md 100))] → W p l e ({ frames := 4, cells := 0, slots := 0, locals := 106 }) s m args below meth c H locs 0 0 Q (F0 m 91 ls []) := by
  intro H locs ls hP hD hS hl
  obtain ⟨hx, hb, hr, hml, hown, hts, hK, hA⟩ := id hC
  unfold m_rset_J91 at Heq
  refine lv_aload_n hx hb d_rset_91 rfl (lv_at hl 0 rfl) ?_
  refine lv_iconst (v := 1) hx hb d_rset_92 (by decide) ?_
  obtain ⟨o_1, h_2, Heq⟩ := ob_some Heq
  have hFc := fr_all hD hS hA
  refine va_calli (va_runV (As := [.int 1]) (rest := []) ⟨hx, hb, hml, hown, hts⟩ (g_rno l D H.size h_2) (cw_v 1 hts kw_1626 kw_1623 kw_1625 kp_29 kw_11 rfl rfl (by decide +kernel) ⟨Nat.le_of_ble_eq_true rfl, Nat.le_of_ble_eq_true rfl⟩) ⟨g_blind, va_recv hK hP (ci := 12) (q0 := 0) rfl rfl, fun U hU hW => g_pre hU hW hP hK hD⟩ rfl rfl hl.1 rfl (lv_room (Nat.le_of_ble_eq_true rfl)) d_rset_93 ⟨Nat.le_of_ble_eq_true rfl, Nat.le_of_ble_eq_true rfl⟩) hS (fun q _ h => hFc q h) hFc (fun rz u t H1 locs ht hvm hw hB hz1 hk1 hS => ?_)
  obtain ⟨hP, -, hD1⟩ := hB
  rw [ht] at hP
  have hD := hD1.weaken (fun _ q _ h => hFc q.1 h)
  generalize H1 = H at hP hS ⊢
  refine W.cs (cells' := 0) (slots' := 0) rfl rfl ?_
  subst hw
  exact Kr _ (Option.some.inj Heq).symm 96 _ _ _ d_rset_96 hP hD hS
def m_rset_J142 (S : MS) (x1 : Int32) (x2 : Int32) (x3 : Int32) (x4 : Int64) (t0 : Int32) (t1 : Int32) (t2 : Int32) : Option (MS × Int32) := ob (m_rfull S t2 (t1 + t0)) (fun o_1 => (if o_1.2 = 0 then ob (m_rsetKey (o_1.1.setI 0 0) x1 x2 2 0 (o_1.1.i 5) x3 x4 3 0 (o_1.1.i 6)) (fun o_4 => gd o_4.2 4000 (some (o_4.1, o_4.1.a 8 o_4.2.toNatClampNeg))) else ob (m_rno o_1.1 4) (fun o_7 => some (o_7.1, o_7.2))))
theorem d_rset_84 : decode prog_14_method_28_code 84 = .ok (.iload 7, 2) := by decide +kernel
theorem d_rset_86 : decode prog_14_method_28_code 86 = .ok (.bipush 8, 2) := by decide +kernel
theorem d_rset_88 : decode prog_14_method_28_code 88 = .ok (.if_icmp .ne 9, 3) := by decide +kernel
theorem d_rset_97 : decode prog_14_method_28_code 97 = .ok (.iload 7, 2) := by decide +kernel
theorem d_rset_99 : decode prog_14_method_28_code 99 = .ok (.ifCond .ge 9, 3) := by decide +kernel
theorem d_rset_108 : decode prog_14_method_28_code 108 = .ok (.aload_n 0, 1) := by decide +kernel
theorem d_rset_109 : decode prog_14_method_28_code 109 = .ok (.getfield 104, 3) := by decide +kernel
theorem d_rset_112 : decode prog_14_method_28_code 112 = .ok (.iload_n 1, 1) := by decide +kernel
theorem d_rset_113 : decode prog_14_method_28_code 113 = .ok (.iaload, 1) := by decide +kernel
theorem d_rset_114 : decode prog_14_method_28_code 114 = .ok (.ifCond .lt 9, 3) := by decide +kernel
theorem d_rset_123 : decode prog_14_method_28_code 123 = .ok (.aload_n 0, 1) := by decide +kernel
theorem d_rset_124 : decode prog_14_method_28_code 124 = .ok (.iconst 1, 1) := by decide +kernel
theorem d_rset_125 : decode prog_14_method_28_code 125 = .ok (.aload_n 0, 1) := by decide +kernel
theorem d_rset_126 : decode prog_14_method_28_code 126 = .ok (.getfield 185, 3) := by decide +kernel
theorem d_rset_129 : decode prog_14_method_28_code 129 = .ok (.iload_n 3, 1) := by decide +kernel
theorem d_rset_130 : decode prog_14_method_28_code 130 = .ok (.iconst 4, 1) := by decide +kernel
theorem d_rset_131 : decode prog_14_method_28_code 131 = .ok (.if_icmp .ne 10, 3) := by decide +kernel
theorem d_rset_141 : decode prog_14_method_28_code 141 = .ok (.iconst 0, 1) := by decide +kernel
theorem d_rset_142 : decode prog_14_method_28_code 142 = .ok (.iadd, 1) := by decide +kernel
theorem d_rset_143 : decode prog_14_method_28_code 143 = .ok (.invokevirtual 261, 3) := by decide +kernel
theorem d_rset_146 : decode prog_14_method_28_code 146 = .ok (.ifCond .eq 9, 3) := by decide +kernel
theorem d_rset_155 : decode prog_14_method_28_code 155 = .ok (.aload_n 0, 1) := by decide +kernel
theorem d_rset_156 : decode prog_14_method_28_code 156 = .ok (.iconst 0, 1) := by decide +kernel
theorem d_rset_157 : decode prog_14_method_28_code 157 = .ok (.putfield 176, 3) := by decide +kernel
theorem d_rset_160 : decode prog_14_method_28_code 160 = .ok (.aload_n 0, 1) := by decide +kernel
theorem d_rset_161 : decode prog_14_method_28_code 161 = .ok (.getfield 19, 3) := by decide +kernel
theorem d_rset_164 : decode prog_14_method_28_code 164 = .ok (.aload_n 0, 1) := by decide +kernel
theorem d_rset_165 : decode prog_14_method_28_code 165 = .ok (.iload_n 1, 1) := by decide +kernel
theorem d_rset_166 : decode prog_14_method_28_code 166 = .ok (.iload_n 2, 1) := by decide +kernel
theorem d_rset_167 : decode prog_14_method_28_code 167 = .ok (.aload_n 0, 1) := by decide +kernel
theorem d_rset_168 : decode prog_14_method_28_code 168 = .ok (.getfield 13, 3) := by decide +kernel
theorem d_rset_171 : decode prog_14_method_28_code 171 = .ok (.iconst 0, 1) := by decide +kernel
theorem d_rset_172 : decode prog_14_method_28_code 172 = .ok (.aload_n 0, 1) := by decide +kernel
theorem d_rset_173 : decode prog_14_method_28_code 173 = .ok (.getfield 185, 3) := by decide +kernel
theorem d_rset_176 : decode prog_14_method_28_code 176 = .ok (.iload_n 3, 1) := by decide +kernel
theorem d_rset_177 : decode prog_14_method_28_code 177 = .ok (.lload 4, 2) := by decide +kernel
theorem d_rset_179 : decode prog_14_method_28_code 179 = .ok (.aload_n 0, 1) := by decide +kernel
theorem d_rset_180 : decode prog_14_method_28_code 180 = .ok (.getfield 16, 3) := by decide +kernel
theorem d_rset_183 : decode prog_14_method_28_code 183 = .ok (.iconst 0, 1) := by decide +kernel
theorem d_rset_184 : decode prog_14_method_28_code 184 = .ok (.aload_n 0, 1) := by decide +kernel
theorem d_rset_185 : decode prog_14_method_28_code 185 = .ok (.getfield 188, 3) := by decide +kernel
theorem d_rset_188 : decode prog_14_method_28_code 188 = .ok (.invokevirtual 264, 3) := by decide +kernel
theorem d_rset_191 : decode prog_14_method_28_code 191 = .ok (.iaload, 1) := by decide +kernel
theorem d_rset_192 : decode prog_14_method_28_code 192 = .ok (.ireturn, 1) := by decide +kernel
theorem d_rset_149 : decode prog_14_method_28_code 149 = .ok (.aload_n 0, 1) := by decide +kernel
theorem d_rset_150 : decode prog_14_method_28_code 150 = .ok (.iconst 4, 1) := by decide +kernel
theorem d_rset_151 : decode prog_14_method_28_code 151 = .ok (.invokevirtual 191, 3) := by decide +kernel
theorem d_rset_154 : decode prog_14_method_28_code 154 = .ok (.ireturn, 1) := by decide +kernel
set_option maxHeartbeats 4000000 in
set_option maxRecDepth 100000 in
theorem w_rset_J142 {p : Program} {l : Launch} {e : Env} {s : State} {m : MethodId} {args : Array Value} {below : List Frame} {meth : Method} {c : Code} {A : Nat → Prop} {D : va_G} {md : Nat → Nat} {mc : Nat → ClassId} {Q : State → Prop} (hC : MCx "JoinedTreesModel" prog_14_method_28_code 8 (some .int) p s m args meth c A D mc) {S : MS} {x1 : Int32} {x2 : Int32} {x3 : Int32} {x4 : Int64} {t0 : Int32} {t1 : Int32} {t2 : Int32} {o : MS × Int32} (Heq : m_rset_J142 S x1 x2 x3 x4 t0 t1 t2 = some o) (Kr : ∀ r : MS × Int32, o = r → ∀ (pc : Nat) (H : Heap) (locs : List Loc) (ls : Array Slot), decode prog_14_method_28_code pc = .ok (.ireturn, 1) → va_P D cls (mw md mc r.1) H → va_D A (mw md mc r.1) → va_S A s.heap H locs → W p l e ({ frames := 4, cells := 0, slots := 0, locals := 106 }) s m args below meth c H locs 0 0 Q (F0 m pc ls [.int r.2])) : ∀ (H : Heap) (locs : List Loc) (ls : Array Slot), va_P D cls (mw md mc S) H → va_D A (mw md mc S) → va_S A s.heap H locs → lv_has ls 8 [(0, .ref (md 100)), (1, .int x1), (2, .int x2), (3, .int x3), (4, .long x4)] → W p l e ({ frames := 4, cells := 0, slots := 0, locals := 106 }) s m args below meth c H locs 0 0 Q (F0 m 142 ls [.int t0, .int t1, .int t2, .ref (md 100)]) := by
  intro H locs ls hP hD hS hl
  obtain ⟨hx, hb, hr, hml, hown, hts, hK, hA⟩ := id hC
  unfold m_rset_J142 at Heq
  refine lv_iadd hx hb d_rset_142 ?_
  refine w_i (y := t1 + t0) rfl ?_
  obtain ⟨o_1, h_2, Heq⟩ := ob_some Heq
  have hFc := fr_all hD hS hA
  refine va_calli (va_runV (As := [.int t2, .int (t1 + t0)]) (rest := []) ⟨hx, hb, hml, hown, hts⟩ (g_rfull l D H.size h_2) (cw_v 2 hts kw_1660 kw_1657 kw_1659 kp_34 kw_11 rfl rfl (by decide +kernel) ⟨Nat.le_of_ble_eq_true rfl, Nat.le_of_ble_eq_true rfl⟩) ⟨g_blind, va_recv hK hP (ci := 12) (q0 := 0) rfl rfl, fun U hU hW => g_pre hU hW hP hK hD⟩ rfl rfl hl.1 rfl (lv_room (Nat.le_of_ble_eq_true rfl)) d_rset_143 ⟨Nat.le_of_ble_eq_true rfl, Nat.le_of_ble_eq_true rfl⟩) hS (fun q _ h => hFc q h) hFc (fun rz u t H1 locs ht hvm hw hB hz1 hk1 hS => ?_)
  obtain ⟨hP, -, hD1⟩ := hB
  rw [ht] at hP
  have hD := hD1.weaken (fun _ q _ h => hFc q.1 h)
  generalize H1 = H at hP hS ⊢
  refine W.cs (cells' := 0) (slots' := 0) rfl rfl ?_
  subst hw
  refine lv_if_eq (tgt := 155) hx hb d_rset_146 (by decide) (fun c_3 => ?_) (fun c_3 => ?_)
  · replace Heq := (if_pos c_3).symm.trans Heq
    refine lv_aload_n hx hb d_rset_155 rfl (lv_at hl 0 rfl) ?_
    refine lv_iconst (v := 0) hx hb d_rset_156 (by decide) ?_
    refine va_put (D := D) (ci := 12) (v := .int 0) (ty := .int) (C := R_MM) (T := F_MM) (N := 77) hx hb hts i_MM t_MM t_MM_ok n_MM hown hK hP hD hS 0 rfl rfl 0 (by decide) (hts _ kw_1382) (fun _ h9 => h9) rfl (by decide +kernel) rfl rfl (Nat.le_of_ble_eq_true rfl) d_rset_157 (fun H locs hP hD hS => ?_)
    rw [mw_I0] at hP hD
    refine lv_aload_n hx hb d_rset_160 rfl (lv_at hl 0 rfl) ?_
    refine va_get (D := D) (ci := 12) (v := .ref (md 8)) (C := R_MM) (T := F_MM) (N := 77) hx hb hts i_MM hown hK hP 0 rfl rfl 8 (by decide) (hts _ kw_1390) (fun _ h9 => h9) rfl d_rset_161 ?_
    refine lv_aload_n hx hb d_rset_164 rfl (lv_at hl 0 rfl) ?_
    refine lv_iload_n hx hb d_rset_165 rfl (lv_at hl 1 rfl) ?_
    refine lv_iload_n hx hb d_rset_166 rfl (lv_at hl 2 rfl) ?_
    refine lv_aload_n hx hb d_rset_167 rfl (lv_at hl 0 rfl) ?_
    refine va_get (D := D) (ci := 12) (v := .ref (md 2)) (C := R_MM) (T := F_MM) (N := 77) hx hb hts i_MM hown hK hP 0 rfl rfl 2 (by decide) (hts _ kw_1384) (fun _ h9 => h9) rfl d_rset_168 ?_
    refine lv_iconst (v := 0) hx hb d_rset_171 (by decide) ?_
    refine lv_aload_n hx hb d_rset_172 rfl (lv_at hl 0 rfl) ?_
    refine va_get (D := D) (ci := 12) (v := .int (o_1.1.i 5)) (C := R_MM) (T := F_MM) (N := 77) hx hb hts i_MM hown hK hP 0 rfl rfl 5 (by decide) (hts _ kw_1387) (fun _ h9 => h9) rfl d_rset_173 ?_
    refine lv_iload_n hx hb d_rset_176 rfl (lv_at hl 3 rfl) ?_
    refine lv_lload hx hb d_rset_177 (lv_at hl 4 rfl) ?_
    refine lv_aload_n hx hb d_rset_179 rfl (lv_at hl 0 rfl) ?_
    refine va_get (D := D) (ci := 12) (v := .ref (md 3)) (C := R_MM) (T := F_MM) (N := 77) hx hb hts i_MM hown hK hP 0 rfl rfl 3 (by decide) (hts _ kw_1385) (fun _ h9 => h9) rfl d_rset_180 ?_
    refine lv_iconst (v := 0) hx hb d_rset_183 (by decide) ?_
    refine lv_aload_n hx hb d_rset_184 rfl (lv_at hl 0 rfl) ?_
    refine va_get (D := D) (ci := 12) (v := .int (o_1.1.i 6)) (C := R_MM) (T := F_MM) (N := 77) hx hb hts i_MM hown hK hP 0 rfl rfl 6 (by decide) (hts _ kw_1388) (fun _ h9 => h9) rfl d_rset_185 ?_
    obtain ⟨o_4, h_5, Heq⟩ := ob_some Heq
    have hFc := fr_all hD hS hA
    refine va_calli (va_runV (As := [.int x1, .int x2, .ref (md 2), .int 0, .int (o_1.1.i 5), .int x3, .long x4, .ref (md 3), .int 0, .int (o_1.1.i 6)]) (rest := [.ref (md 8)]) ⟨hx, hb, hml, hown, hts⟩ (g_rsetKey l D H.size h_5) (cw_v 10 hts kw_1664 kw_1661 kw_1663 kp_35 kw_11 rfl rfl (by decide +kernel) ⟨Nat.le_of_ble_eq_true rfl, Nat.le_of_ble_eq_true rfl⟩) ⟨g_blind, va_recv hK hP (ci := 12) (q0 := 0) rfl rfl, fun U hU hW => g_pre hU hW hP hK hD⟩ rfl rfl hl.1 rfl (lv_room (Nat.le_of_ble_eq_true rfl)) d_rset_188 ⟨Nat.le_of_ble_eq_true rfl, Nat.le_of_ble_eq_true rfl⟩) hS (fun q _ h => hFc q h) hFc (fun rz u t H1 locs ht hvm hw hB hz1 hk1 hS => ?_)
    obtain ⟨hP, -, hD1⟩ := hB
    rw [ht] at hP
    have hD := hD1.weaken (fun _ q _ h => hFc q.1 h)
    generalize H1 = H at hP hS ⊢
    refine W.cs (cells' := 0) (slots' := 0) rfl rfl ?_
    subst hw
    obtain ⟨hi_6, Heq⟩ := gd_some Heq
    refine va_iald hx hb hK hP 4 0 rfl rfl (i := o_4.2) hi_6 d_rset_191 ?_
    refine w_i (y := o_4.1.a 8 o_4.2.toNatClampNeg) rfl ?_
    exact Kr _ (Option.some.inj Heq).symm 192 _ _ _ d_rset_192 hP hD hS
  · replace Heq := (if_neg c_3).symm.trans Heq
    refine lv_aload_n hx hb d_rset_149 rfl (lv_at hl 0 rfl) ?_
    refine lv_iconst (v := 4) hx hb d_rset_150 (by decide) ?_
    obtain ⟨o_7, h_8, Heq⟩ := ob_some Heq
    have hFc := fr_all hD hS hA
    refine va_calli (va_runV (As := [.int 4]) (rest := []) ⟨hx, hb, hml, hown, hts⟩ (g_rno l D H.size h_8) (cw_v 1 hts kw_1626 kw_1623 kw_1625 kp_29 kw_11 rfl rfl (by decide +kernel) ⟨Nat.le_of_ble_eq_true rfl, Nat.le_of_ble_eq_true rfl⟩) ⟨g_blind, va_recv hK hP (ci := 12) (q0 := 0) rfl rfl, fun U hU hW => g_pre hU hW hP hK hD⟩ rfl rfl hl.1 rfl (lv_room (Nat.le_of_ble_eq_true rfl)) d_rset_151 ⟨Nat.le_of_ble_eq_true rfl, Nat.le_of_ble_eq_true rfl⟩) hS (fun q _ h => hFc q h) hFc (fun rz u t H1 locs ht hvm hw hB hz1 hk1 hS => ?_)
    obtain ⟨hP, -, hD1⟩ := hB
    rw [ht] at hP
    have hD := hD1.weaken (fun _ q _ h => hFc q.1 h)
    generalize H1 = H at hP hS ⊢
    refine W.cs (cells' := 0) (slots' := 0) rfl rfl ?_
    subst hw
    exact Kr _ (Option.some.inj Heq).symm 154 _ _ _ d_rset_154 hP hD hS
def m_rset_J69 (S : MS) (x1 : Int32) (x2 : Int32) (x3 : Int32) (x4 : Int64) : Option (MS × Int32) := ob (m_rkindOf S x1 x2) (fun o_1 => (if o_1.2 = 7 then m_rset_J91 o_1.1 else (if o_1.2 = 8 then m_rset_J91 o_1.1 else (if 0 ≤ o_1.2 then gd x1 8 ((if o_1.1.a 39 x1.toNatClampNeg < 0 then (if x3 = 4 then m_rset_J142 o_1.1 x1 x2 x3 x4 (o_1.1.i 6) (o_1.1.i 5) 1 else m_rset_J142 o_1.1 x1 x2 x3 x4 0 (o_1.1.i 5) 1) else ob (m_rno o_1.1 2) (fun o_9 => some (o_9.1, o_9.2)))) else ob (m_rno o_1.1 3) (fun o_11 => some (o_11.1, o_11.2))))))
theorem d_rset_134 : decode prog_14_method_28_code 134 = .ok (.aload_n 0, 1) := by decide +kernel
theorem d_rset_135 : decode prog_14_method_28_code 135 = .ok (.getfield 188, 3) := by decide +kernel
theorem d_rset_138 : decode prog_14_method_28_code 138 = .ok (.goto 4, 3) := by decide +kernel
theorem d_rset_117 : decode prog_14_method_28_code 117 = .ok (.aload_n 0, 1) := by decide +kernel
theorem d_rset_118 : decode prog_14_method_28_code 118 = .ok (.iconst 2, 1) := by decide +kernel
theorem d_rset_119 : decode prog_14_method_28_code 119 = .ok (.invokevirtual 191, 3) := by decide +kernel
theorem d_rset_122 : decode prog_14_method_28_code 122 = .ok (.ireturn, 1) := by decide +kernel
theorem d_rset_102 : decode prog_14_method_28_code 102 = .ok (.aload_n 0, 1) := by decide +kernel
theorem d_rset_103 : decode prog_14_method_28_code 103 = .ok (.iconst 3, 1) := by decide +kernel
theorem d_rset_104 : decode prog_14_method_28_code 104 = .ok (.invokevirtual 191, 3) := by decide +kernel
theorem d_rset_107 : decode prog_14_method_28_code 107 = .ok (.ireturn, 1) := by decide +kernel
set_option maxHeartbeats 4000000 in
set_option maxRecDepth 100000 in
theorem w_rset_J69 {p : Program} {l : Launch} {e : Env} {s : State} {m : MethodId} {args : Array Value} {below : List Frame} {meth : Method} {c : Code} {A : Nat → Prop} {D : va_G} {md : Nat → Nat} {mc : Nat → ClassId} {Q : State → Prop} (hC : MCx "JoinedTreesModel" prog_14_method_28_code 8 (some .int) p s m args meth c A D mc) {S : MS} {x1 : Int32} {x2 : Int32} {x3 : Int32} {x4 : Int64} {o : MS × Int32} (Heq : m_rset_J69 S x1 x2 x3 x4 = some o) (Kr : ∀ r : MS × Int32, o = r → ∀ (pc : Nat) (H : Heap) (locs : List Loc) (ls : Array Slot), decode prog_14_method_28_code pc = .ok (.ireturn, 1) → va_P D cls (mw md mc r.1) H → va_D A (mw md mc r.1) → va_S A s.heap H locs → W p l e ({ frames := 4, cells := 0, slots := 0, locals := 106 }) s m args below meth c H locs 0 0 Q (F0 m pc ls [.int r.2])) : ∀ (H : Heap) (locs : List Loc) (ls : Array Slot), va_P D cls (mw md mc S) H → va_D A (mw md mc S) → va_S A s.heap H locs → lv_has ls 8 [(0, .ref (md 100)), (1, .int x1), (2, .int x2), (3, .int x3), (4, .long x4)] → W p l e ({ frames := 4, cells := 0, slots := 0, locals := 106 }) s m args below meth c H locs 0 0 Q (F0 m 69 ls []) := by
  intro H locs ls hP hD hS hl
  obtain ⟨hx, hb, hr, hml, hown, hts, hK, hA⟩ := id hC
  unfold m_rset_J69 at Heq
  refine lv_aload_n hx hb d_rset_69 rfl (lv_at hl 0 rfl) ?_
  refine lv_iload_n hx hb d_rset_70 rfl (lv_at hl 1 rfl) ?_
  refine lv_iload_n hx hb d_rset_71 rfl (lv_at hl 2 rfl) ?_
  obtain ⟨o_1, h_2, Heq⟩ := ob_some Heq
  have hFc := fr_all hD hS hA
  refine va_calli (va_runV (As := [.int x1, .int x2]) (rest := []) ⟨hx, hb, hml, hown, hts⟩ (g_rkindOf l D H.size h_2) (cw_v 2 hts kw_1648 kw_1645 kw_1647 kp_31 kw_11 rfl rfl (by decide +kernel) ⟨Nat.le_of_ble_eq_true rfl, Nat.le_of_ble_eq_true rfl⟩) ⟨g_blind, va_recv hK hP (ci := 12) (q0 := 0) rfl rfl, fun U hU hW => g_pre hU hW hP hK hD⟩ rfl rfl hl.1 rfl (lv_room (Nat.le_of_ble_eq_true rfl)) d_rset_72 ⟨Nat.le_of_ble_eq_true rfl, Nat.le_of_ble_eq_true rfl⟩) hS (fun q _ h => hFc q h) hFc (fun rz u t H1 locs ht hvm hw hB hz1 hk1 hS => ?_)
  obtain ⟨hP, -, hD1⟩ := hB
  rw [ht] at hP
  have hD := hD1.weaken (fun _ q _ h => hFc q.1 h)
  generalize H1 = H at hP hS ⊢
  refine W.cs (cells' := 0) (slots' := 0) rfl rfl ?_
  subst hw
  refine lv_istore (lv' := [(7, .int o_1.2), (0, .ref (md 100)), (1, .int x1), (2, .int x2), (3, .int x3), (4, .long x4)]) hx hb d_rset_75 hl (by decide) rfl (fun ls hl => ?_)
  refine lv_iload hx hb d_rset_77 (lv_at hl 0 rfl) ?_
  refine lv_bipush (v := 7) hx hb d_rset_79 (by decide) ?_
  refine lv_icmp_eq (tgt := 91) hx hb d_rset_81 (by decide) (fun c_3 => ?_) (fun c_3 => ?_)
  · replace Heq := (if_pos c_3).symm.trans Heq
    exact w_rset_J91 hC Heq Kr _ _ _ hP hD hS (lv_sub hl [1] rfl)
  · replace Heq := (if_neg c_3).symm.trans Heq
    refine lv_iload hx hb d_rset_84 (lv_at hl 0 rfl) ?_
    refine lv_bipush (v := 8) hx hb d_rset_86 (by decide) ?_
    refine lv_icmp_ne (tgt := 97) hx hb d_rset_88 (by decide) (fun c_4 => ?_) (fun c_4 => ?_)
    · replace Heq := (if_neg c_4).symm.trans Heq
      refine lv_iload hx hb d_rset_97 (lv_at hl 0 rfl) ?_
      refine lv_if_ge (tgt := 108) hx hb d_rset_99 (by decide) (fun c_5 => ?_) (fun c_5 => ?_)
      · replace Heq := (if_pos c_5).symm.trans Heq
        refine lv_aload_n hx hb d_rset_108 rfl (lv_at hl 1 rfl) ?_
        refine va_get (D := D) (ci := 12) (v := .ref (md 39)) (C := R_MM) (T := F_MM) (N := 77) hx hb hts i_MM hown hK hP 0 rfl rfl 39 (by decide) (hts _ kw_1421) (fun _ h9 => h9) rfl d_rset_109 ?_
        refine lv_iload_n hx hb d_rset_112 rfl (lv_at hl 2 rfl) ?_
        obtain ⟨hi_6, Heq⟩ := gd_some Heq
        refine va_iald hx hb hK hP 27 0 rfl rfl (i := x1) hi_6 d_rset_113 ?_
        refine w_i (y := o_1.1.a 39 x1.toNatClampNeg) rfl ?_
        refine lv_if_lt (tgt := 123) hx hb d_rset_114 (by decide) (fun c_7 => ?_) (fun c_7 => ?_)
        · replace Heq := (if_pos c_7).symm.trans Heq
          refine lv_aload_n hx hb d_rset_123 rfl (lv_at hl 1 rfl) ?_
          refine lv_iconst (v := 1) hx hb d_rset_124 (by decide) ?_
          refine lv_aload_n hx hb d_rset_125 rfl (lv_at hl 1 rfl) ?_
          refine va_get (D := D) (ci := 12) (v := .int (o_1.1.i 5)) (C := R_MM) (T := F_MM) (N := 77) hx hb hts i_MM hown hK hP 0 rfl rfl 5 (by decide) (hts _ kw_1387) (fun _ h9 => h9) rfl d_rset_126 ?_
          refine lv_iload_n hx hb d_rset_129 rfl (lv_at hl 4 rfl) ?_
          refine lv_iconst (v := 4) hx hb d_rset_130 (by decide) ?_
          refine lv_icmp_ne (tgt := 141) hx hb d_rset_131 (by decide) (fun c_8 => ?_) (fun c_8 => ?_)
          · replace Heq := (if_neg c_8).symm.trans Heq
            refine lv_iconst (v := 0) hx hb d_rset_141 (by decide) ?_
            exact w_rset_J142 hC Heq Kr _ _ _ hP hD hS (lv_sub hl [1, 2, 3, 4, 5] rfl)
          · replace Heq := (if_pos c_8).symm.trans Heq
            refine lv_aload_n hx hb d_rset_134 rfl (lv_at hl 1 rfl) ?_
            refine va_get (D := D) (ci := 12) (v := .int (o_1.1.i 6)) (C := R_MM) (T := F_MM) (N := 77) hx hb hts i_MM hown hK hP 0 rfl rfl 6 (by decide) (hts _ kw_1388) (fun _ h9 => h9) rfl d_rset_135 ?_
            refine lv_goto (tgt := 142) hx hb d_rset_138 (by decide) ?_
            exact w_rset_J142 hC Heq Kr _ _ _ hP hD hS (lv_sub hl [1, 2, 3, 4, 5] rfl)
        · replace Heq := (if_neg c_7).symm.trans Heq
          refine lv_aload_n hx hb d_rset_117 rfl (lv_at hl 1 rfl) ?_
          refine lv_iconst (v := 2) hx hb d_rset_118 (by decide) ?_
          obtain ⟨o_9, h_10, Heq⟩ := ob_some Heq
          have hFc := fr_all hD hS hA
          refine va_calli (va_runV (As := [.int 2]) (rest := []) ⟨hx, hb, hml, hown, hts⟩ (g_rno l D H.size h_10) (cw_v 1 hts kw_1626 kw_1623 kw_1625 kp_29 kw_11 rfl rfl (by decide +kernel) ⟨Nat.le_of_ble_eq_true rfl, Nat.le_of_ble_eq_true rfl⟩) ⟨g_blind, va_recv hK hP (ci := 12) (q0 := 0) rfl rfl, fun U hU hW => g_pre hU hW hP hK hD⟩ rfl rfl hl.1 rfl (lv_room (Nat.le_of_ble_eq_true rfl)) d_rset_119 ⟨Nat.le_of_ble_eq_true rfl, Nat.le_of_ble_eq_true rfl⟩) hS (fun q _ h => hFc q h) hFc (fun rz u t H1 locs ht hvm hw hB hz1 hk1 hS => ?_)
          obtain ⟨hP, -, hD1⟩ := hB
          rw [ht] at hP
          have hD := hD1.weaken (fun _ q _ h => hFc q.1 h)
          generalize H1 = H at hP hS ⊢
          refine W.cs (cells' := 0) (slots' := 0) rfl rfl ?_
          subst hw
          exact Kr _ (Option.some.inj Heq).symm 122 _ _ _ d_rset_122 hP hD hS
      · replace Heq := (if_neg c_5).symm.trans Heq
        refine lv_aload_n hx hb d_rset_102 rfl (lv_at hl 1 rfl) ?_
        refine lv_iconst (v := 3) hx hb d_rset_103 (by decide) ?_
        obtain ⟨o_11, h_12, Heq⟩ := ob_some Heq
        have hFc := fr_all hD hS hA
        refine va_calli (va_runV (As := [.int 3]) (rest := []) ⟨hx, hb, hml, hown, hts⟩ (g_rno l D H.size h_12) (cw_v 1 hts kw_1626 kw_1623 kw_1625 kp_29 kw_11 rfl rfl (by decide +kernel) ⟨Nat.le_of_ble_eq_true rfl, Nat.le_of_ble_eq_true rfl⟩) ⟨g_blind, va_recv hK hP (ci := 12) (q0 := 0) rfl rfl, fun U hU hW => g_pre hU hW hP hK hD⟩ rfl rfl hl.1 rfl (lv_room (Nat.le_of_ble_eq_true rfl)) d_rset_104 ⟨Nat.le_of_ble_eq_true rfl, Nat.le_of_ble_eq_true rfl⟩) hS (fun q _ h => hFc q h) hFc (fun rz u t H1 locs ht hvm hw hB hz1 hk1 hS => ?_)
        obtain ⟨hP, -, hD1⟩ := hB
        rw [ht] at hP
        have hD := hD1.weaken (fun _ q _ h => hFc q.1 h)
        generalize H1 = H at hP hS ⊢
        refine W.cs (cells' := 0) (slots' := 0) rfl rfl ?_
        subst hw
        exact Kr _ (Option.some.inj Heq).symm 107 _ _ _ d_rset_107 hP hD hS
    · replace Heq := (if_pos c_4).symm.trans Heq
      exact w_rset_J91 hC Heq Kr _ _ _ hP hD hS (lv_sub hl [1] rfl)
def m_rset_J35 (S : MS) (x1 : Int32) (x2 : Int32) (x3 : Int32) (x4 : Int64) (t0 : Int32) (t1 : Int32) : Option (MS × Int32) := (if t1 = t0 then ob (m_risKey S (S.i 5)) (fun o_2 => (if o_2.2 = 0 then m_rset_J63 o_2.1 else (if x3 = 4 then (if o_2.1.i 6 ≤ 1024 then m_rset_J69 o_2.1 x1 x2 x3 x4 else m_rset_J63 o_2.1) else m_rset_J69 o_2.1 x1 x2 x3 x4))) else m_rset_J63 S)
theorem d_rset_53 : decode prog_14_method_28_code 53 = .ok (.aload_n 0, 1) := by decide +kernel
theorem d_rset_54 : decode prog_14_method_28_code 54 = .ok (.getfield 188, 3) := by decide +kernel
theorem d_rset_57 : decode prog_14_method_28_code 57 = .ok (.sipush 1024, 3) := by decide +kernel
theorem d_rset_60 : decode prog_14_method_28_code 60 = .ok (.if_icmp .le 9, 3) := by decide +kernel
set_option maxHeartbeats 4000000 in
set_option maxRecDepth 100000 in
theorem w_rset_J35 {p : Program} {l : Launch} {e : Env} {s : State} {m : MethodId} {args : Array Value} {below : List Frame} {meth : Method} {c : Code} {A : Nat → Prop} {D : va_G} {md : Nat → Nat} {mc : Nat → ClassId} {Q : State → Prop} (hC : MCx "JoinedTreesModel" prog_14_method_28_code 8 (some .int) p s m args meth c A D mc) {S : MS} {x1 : Int32} {x2 : Int32} {x3 : Int32} {x4 : Int64} {t0 : Int32} {t1 : Int32} {o : MS × Int32} (Heq : m_rset_J35 S x1 x2 x3 x4 t0 t1 = some o) (Kr : ∀ r : MS × Int32, o = r → ∀ (pc : Nat) (H : Heap) (locs : List Loc) (ls : Array Slot), decode prog_14_method_28_code pc = .ok (.ireturn, 1) → va_P D cls (mw md mc r.1) H → va_D A (mw md mc r.1) → va_S A s.heap H locs → W p l e ({ frames := 4, cells := 0, slots := 0, locals := 106 }) s m args below meth c H locs 0 0 Q (F0 m pc ls [.int r.2])) : ∀ (H : Heap) (locs : List Loc) (ls : Array Slot), va_P D cls (mw md mc S) H → va_D A (mw md mc S) → va_S A s.heap H locs → lv_has ls 8 [(0, .ref (md 100)), (1, .int x1), (2, .int x2), (3, .int x3), (4, .long x4)] → W p l e ({ frames := 4, cells := 0, slots := 0, locals := 106 }) s m args below meth c H locs 0 0 Q (F0 m 35 ls [.int t0, .int t1]) := by
  intro H locs ls hP hD hS hl
  obtain ⟨hx, hb, hr, hml, hown, hts, hK, hA⟩ := id hC
  unfold m_rset_J35 at Heq
  refine lv_icmp_ne (tgt := 63) hx hb d_rset_35 (by decide) (fun c_1 => ?_) (fun c_1 => ?_)
  · replace Heq := (if_neg c_1).symm.trans Heq
    exact w_rset_J63 hC Heq Kr _ _ _ hP hD hS (lv_sub hl [0] rfl)
  · replace Heq := (if_pos c_1).symm.trans Heq
    refine lv_aload_n hx hb d_rset_38 rfl (lv_at hl 0 rfl) ?_
    refine va_get (D := D) (ci := 12) (v := .int (S.i 5)) (C := R_MM) (T := F_MM) (N := 77) hx hb hts i_MM hown hK hP 0 rfl rfl 5 (by decide) (hts _ kw_1387) (fun _ h9 => h9) rfl d_rset_39 ?_
    obtain ⟨o_2, h_3, Heq⟩ := ob_some Heq
    have hFc := fr_all hD hS hA
    refine va_calli (va_runS (As := [.int (S.i 5)]) (rest := []) ⟨hx, hb, hml, hown, hts⟩ (g_risKey l D H.size h_3) (cw_s 1 hts kw_1644 kw_1642 kw_1643 kw_11 rfl rfl (by decide +kernel) ⟨Nat.le_of_ble_eq_true rfl, Nat.le_of_ble_eq_true rfl⟩) ⟨g_blind, fun U hU hW => g_pre hU hW hP hK hD⟩ rfl rfl hl.1 rfl (lv_room (Nat.le_of_ble_eq_true rfl)) d_rset_42 ⟨Nat.le_of_ble_eq_true rfl, Nat.le_of_ble_eq_true rfl⟩) hS (fun q _ h => hFc q h) hFc (fun rz u t H1 locs ht hvm hw hB hz1 hk1 hS => ?_)
    obtain ⟨hP, -, hD1⟩ := hB
    rw [ht] at hP
    have hD := hD1.weaken (fun _ q _ h => hFc q.1 h)
    generalize H1 = H at hP hS ⊢
    refine W.cs (cells' := 0) (slots' := 0) rfl rfl ?_
    subst hw
    refine lv_if_eq (tgt := 63) hx hb d_rset_45 (by decide) (fun c_4 => ?_) (fun c_4 => ?_)
    · replace Heq := (if_pos c_4).symm.trans Heq
      exact w_rset_J63 hC Heq Kr _ _ _ hP hD hS (lv_sub hl [0] rfl)
    · replace Heq := (if_neg c_4).symm.trans Heq
      refine lv_iload_n hx hb d_rset_48 rfl (lv_at hl 3 rfl) ?_
      refine lv_iconst (v := 4) hx hb d_rset_49 (by decide) ?_
      refine lv_icmp_ne (tgt := 69) hx hb d_rset_50 (by decide) (fun c_5 => ?_) (fun c_5 => ?_)
      · replace Heq := (if_neg c_5).symm.trans Heq
        exact w_rset_J69 hC Heq Kr _ _ _ hP hD hS (lv_sub hl [0, 1, 2, 3, 4] rfl)
      · replace Heq := (if_pos c_5).symm.trans Heq
        refine lv_aload_n hx hb d_rset_53 rfl (lv_at hl 0 rfl) ?_
        refine va_get (D := D) (ci := 12) (v := .int (o_2.1.i 6)) (C := R_MM) (T := F_MM) (N := 77) hx hb hts i_MM hown hK hP 0 rfl rfl 6 (by decide) (hts _ kw_1388) (fun _ h9 => h9) rfl d_rset_54 ?_
        refine lv_sipush (v := 1024) hx hb d_rset_57 (by decide) ?_
        refine lv_icmp_le (tgt := 69) hx hb d_rset_60 (by decide) (fun c_6 => ?_) (fun c_6 => ?_)
        · replace Heq := (if_pos c_6).symm.trans Heq
          exact w_rset_J69 hC Heq Kr _ _ _ hP hD hS (lv_sub hl [0, 1, 2, 3, 4] rfl)
        · replace Heq := (if_neg c_6).symm.trans Heq
          exact w_rset_J63 hC Heq Kr _ _ _ hP hD hS (lv_sub hl [0] rfl)
def m_rset_J0 (S : MS) (x1 : Int32) (x2 : Int32) (x3 : Int32) (x4 : Int64) : Option (MS × Int32) := ob (m_rtaken S) (fun o_1 => ob (m_risReplica o_1.1 x1) (fun o_3 => (if o_3.2 = 0 then m_rset_J63 o_3.1 else (if x3 < 0 then m_rset_J63 o_3.1 else (if 8 < x3 then m_rset_J63 o_3.1 else (if x3 = 4 then m_rset_J35 o_3.1 x1 x2 x3 x4 2 o_1.2 else m_rset_J35 o_3.1 x1 x2 x3 x4 1 o_1.2))))))
theorem d_rset_30 : decode prog_14_method_28_code 30 = .ok (.iconst 2, 1) := by decide +kernel
theorem d_rset_31 : decode prog_14_method_28_code 31 = .ok (.goto 4, 3) := by decide +kernel
set_option maxHeartbeats 4000000 in
set_option maxRecDepth 100000 in
theorem w_rset_J0 {p : Program} {l : Launch} {e : Env} {s : State} {m : MethodId} {args : Array Value} {below : List Frame} {meth : Method} {c : Code} {A : Nat → Prop} {D : va_G} {md : Nat → Nat} {mc : Nat → ClassId} {Q : State → Prop} (hC : MCx "JoinedTreesModel" prog_14_method_28_code 8 (some .int) p s m args meth c A D mc) {S : MS} {x1 : Int32} {x2 : Int32} {x3 : Int32} {x4 : Int64} {o : MS × Int32} (Heq : m_rset_J0 S x1 x2 x3 x4 = some o) (Kr : ∀ r : MS × Int32, o = r → ∀ (pc : Nat) (H : Heap) (locs : List Loc) (ls : Array Slot), decode prog_14_method_28_code pc = .ok (.ireturn, 1) → va_P D cls (mw md mc r.1) H → va_D A (mw md mc r.1) → va_S A s.heap H locs → W p l e ({ frames := 4, cells := 0, slots := 0, locals := 106 }) s m args below meth c H locs 0 0 Q (F0 m pc ls [.int r.2])) : ∀ (H : Heap) (locs : List Loc) (ls : Array Slot), va_P D cls (mw md mc S) H → va_D A (mw md mc S) → va_S A s.heap H locs → lv_has ls 8 [(0, .ref (md 100)), (1, .int x1), (2, .int x2), (3, .int x3), (4, .long x4)] → W p l e ({ frames := 4, cells := 0, slots := 0, locals := 106 }) s m args below meth c H locs 0 0 Q (F0 m 0 ls []) := by
  intro H locs ls hP hD hS hl
  obtain ⟨hx, hb, hr, hml, hown, hts, hK, hA⟩ := id hC
  unfold m_rset_J0 at Heq
  refine lv_aload_n hx hb d_rset_0 rfl (lv_at hl 0 rfl) ?_
  obtain ⟨o_1, h_2, Heq⟩ := ob_some Heq
  have hFc := fr_all hD hS hA
  refine va_calli (va_runV (As := []) (rest := []) ⟨hx, hb, hml, hown, hts⟩ (g_rtaken l D H.size h_2) (cw_v 0 hts kw_1638 kw_1635 kw_1637 kp_30 kw_11 rfl rfl (by decide +kernel) ⟨Nat.le_of_ble_eq_true rfl, Nat.le_of_ble_eq_true rfl⟩) ⟨g_blind, va_recv hK hP (ci := 12) (q0 := 0) rfl rfl, fun U hU hW => g_pre hU hW hP hK hD⟩ rfl rfl hl.1 rfl (lv_room (Nat.le_of_ble_eq_true rfl)) d_rset_1 ⟨Nat.le_of_ble_eq_true rfl, Nat.le_of_ble_eq_true rfl⟩) hS (fun q _ h => hFc q h) hFc (fun rz u t H1 locs ht hvm hw hB hz1 hk1 hS => ?_)
  obtain ⟨hP, -, hD1⟩ := hB
  rw [ht] at hP
  have hD := hD1.weaken (fun _ q _ h => hFc q.1 h)
  generalize H1 = H at hP hS ⊢
  refine W.cs (cells' := 0) (slots' := 0) rfl rfl ?_
  subst hw
  refine lv_istore (lv' := [(6, .int o_1.2), (0, .ref (md 100)), (1, .int x1), (2, .int x2), (3, .int x3), (4, .long x4)]) hx hb d_rset_4 hl (by decide) rfl (fun ls hl => ?_)
  refine lv_iload_n hx hb d_rset_6 rfl (lv_at hl 2 rfl) ?_
  obtain ⟨o_3, h_4, Heq⟩ := ob_some Heq
  have hFc := fr_all hD hS hA
  refine va_calli (va_runS (As := [.int x1]) (rest := []) ⟨hx, hb, hml, hown, hts⟩ (g_risReplica l D H.size h_4) (cw_s 1 hts kw_1641 kw_1639 kw_1640 kw_11 rfl rfl (by decide +kernel) ⟨Nat.le_of_ble_eq_true rfl, Nat.le_of_ble_eq_true rfl⟩) ⟨g_blind, fun U hU hW => g_pre hU hW hP hK hD⟩ rfl rfl hl.1 rfl (lv_room (Nat.le_of_ble_eq_true rfl)) d_rset_7 ⟨Nat.le_of_ble_eq_true rfl, Nat.le_of_ble_eq_true rfl⟩) hS (fun q _ h => hFc q h) hFc (fun rz u t H1 locs ht hvm hw hB hz1 hk1 hS => ?_)
  obtain ⟨hP, -, hD1⟩ := hB
  rw [ht] at hP
  have hD := hD1.weaken (fun _ q _ h => hFc q.1 h)
  generalize H1 = H at hP hS ⊢
  refine W.cs (cells' := 0) (slots' := 0) rfl rfl ?_
  subst hw
  refine lv_if_eq (tgt := 63) hx hb d_rset_10 (by decide) (fun c_5 => ?_) (fun c_5 => ?_)
  · replace Heq := (if_pos c_5).symm.trans Heq
    exact w_rset_J63 hC Heq Kr _ _ _ hP hD hS (lv_sub hl [1] rfl)
  · replace Heq := (if_neg c_5).symm.trans Heq
    refine lv_iload_n hx hb d_rset_13 rfl (lv_at hl 4 rfl) ?_
    refine lv_if_lt (tgt := 63) hx hb d_rset_14 (by decide) (fun c_6 => ?_) (fun c_6 => ?_)
    · replace Heq := (if_pos c_6).symm.trans Heq
      exact w_rset_J63 hC Heq Kr _ _ _ hP hD hS (lv_sub hl [1] rfl)
    · replace Heq := (if_neg c_6).symm.trans Heq
      refine lv_iload_n hx hb d_rset_17 rfl (lv_at hl 4 rfl) ?_
      refine lv_bipush (v := 8) hx hb d_rset_18 (by decide) ?_
      refine lv_icmp_gt (tgt := 63) hx hb d_rset_20 (by decide) (fun c_7 => ?_) (fun c_7 => ?_)
      · replace Heq := (if_pos c_7).symm.trans Heq
        exact w_rset_J63 hC Heq Kr _ _ _ hP hD hS (lv_sub hl [1] rfl)
      · replace Heq := (if_neg c_7).symm.trans Heq
        refine lv_iload hx hb d_rset_23 (lv_at hl 0 rfl) ?_
        refine lv_iload_n hx hb d_rset_25 rfl (lv_at hl 4 rfl) ?_
        refine lv_iconst (v := 4) hx hb d_rset_26 (by decide) ?_
        refine lv_icmp_ne (tgt := 34) hx hb d_rset_27 (by decide) (fun c_8 => ?_) (fun c_8 => ?_)
        · replace Heq := (if_neg c_8).symm.trans Heq
          refine lv_iconst (v := 1) hx hb d_rset_34 (by decide) ?_
          exact w_rset_J35 hC Heq Kr _ _ _ hP hD hS (lv_sub hl [1, 2, 3, 4, 5] rfl)
        · replace Heq := (if_pos c_8).symm.trans Heq
          refine lv_iconst (v := 2) hx hb d_rset_30 (by decide) ?_
          refine lv_goto (tgt := 35) hx hb d_rset_31 (by decide) ?_
          exact w_rset_J35 hC Heq Kr _ _ _ hP hD hS (lv_sub hl [1, 2, 3, 4, 5] rfl)
def m_rset (S : MS) (x1 : Int32) (x2 : Int32) (x3 : Int32) (x4 : Int64) : Option (MS × Int32) := m_rset_J0 S x1 x2 x3 x4
theorem g_rset (l : Launch) (D : va_G) (sz : Nat) {md : Nat → Nat} {mc : Nat → ClassId} {S : MS} {x1 : Int32} {x2 : Int32} {x3 : Int32} {x4 : Int64} {o : MS × Int32} (Heq : m_rset S x1 x2 x3 x4 = some o) : Met l ⟨"JoinedTreesModel", "set", "(IIIJ)I"⟩ (Cond.code ⟨"JoinedTreesModel", "set", "(IIIJ)I"⟩ prog_14_method_28_code 8 (some .int) :: gb) ({ frames := 4, cells := 0, slots := 0, locals := 106 }) (gPc D (mw md mc S) (mty mc) sz [.ref (md 100), .int x1, .int x2, .int x3, .long x4]) (va_Qi (fun (r : Int32) (_ : Unit) => r = o.2) (fun _ t => gO D (mw md mc o.1) (mty mc) (va_A (mw md mc S) sz) t) (va_A (mw md mc S) sz)) 0 0 (va_A (mw md mc S) sz) := by
  refine Met.ofW (cc := prog_14_method_28_code) (maxL := 8) (ret := (some .int)) (by decide) rfl ?_
  intro p e s m args below meth c s₁ B hml hv
  obtain ⟨rfl, hsz, hP, hK, hD0⟩ := hv
  have hx := B.exec
  have hb := B.bytes
  have hr := B.returns
  have hts : ∀ w9 ∈ gb, w9.before [.ref (md 100), .int x1, .int x2, .int x3, .long x4].toArray s = true := fun w9 h => atoms_spec (ws := Cond.code ⟨"JoinedTreesModel", "set", "(IIIJ)I"⟩ prog_14_method_28_code 8 (some .int) :: gb) B.pre w9 (List.mem_cons_of_mem _ h)
  have hown : s.vm.findClass "JoinedTreesModel" = some m.cls := findClass_of_methodNamed B.named
  have hlocks := B.notSynchronized
  subst hsz
  have hD := hD0.self (sz := s.heap.size)
  generalize hAe : va_A (mw md mc S) s.heap.size = A at hD ⊢
  have hA : ∀ q : Nat, s.heap.size ≤ q → A q := fun q h => by rw [← hAe]; exact Or.inr h
  have hS : va_S A s.heap s.heap [] := va_S.rf
  have hl := lv_entry ([.ref (md 100), .int x1, .int x2, .int x3, .long x4]) (n := 8) (Nat.le_of_ble_eq_true rfl)
  rw [lg_entry_eq]
  generalize (lg_sl ([.ref (md 100), .int x1, .int x2, .int x3, .long x4]) ++ List.replicate (8 - (lg_sl ([.ref (md 100), .int x1, .int x2, .int x3, .long x4])).length) Slot.unset).toArray = ls at hl ⊢
  have hl : lv_has ls 8 [(0, .ref (md 100)), (1, .int x1), (2, .int x2), (3, .int x3), (4, .long x4)] := hl
  refine w_rset_J0 ⟨hx, hb, hr, hml, hown, hts, hK, hA⟩ Heq (fun r h pc H locs ls hd hP hD hS => ?_) _ _ _ hP hD hS (lv_sub hl [0, 1, 2, 3, 4] rfl)
  subst h
  exact W.iret hx hb hr (fun t ht hW => ⟨⟨_, (), rfl, rfl, by rw [ht]; exact hP, va_K.moved hW.alike hK, hD⟩, hS.F ht⟩) hS.2.2 hd
def m_rput_J57 (S : MS) : Option (MS × Int32) := ob (m_rno S 1) (fun o_1 => some (o_1.1, o_1.2))
theorem d_rput_0 : decode prog_14_method_31_code 0 = .ok (.aload_n 0, 1) := by decide +kernel
theorem d_rput_1 : decode prog_14_method_31_code 1 = .ok (.invokevirtual 247, 3) := by decide +kernel
theorem d_rput_4 : decode prog_14_method_31_code 4 = .ok (.istore 7, 2) := by decide +kernel
theorem d_rput_6 : decode prog_14_method_31_code 6 = .ok (.iload_n 1, 1) := by decide +kernel
theorem d_rput_7 : decode prog_14_method_31_code 7 = .ok (.invokestatic 251, 3) := by decide +kernel
theorem d_rput_10 : decode prog_14_method_31_code 10 = .ok (.ifCond .eq 47, 3) := by decide +kernel
theorem d_rput_57 : decode prog_14_method_31_code 57 = .ok (.aload_n 0, 1) := by decide +kernel
theorem d_rput_58 : decode prog_14_method_31_code 58 = .ok (.iconst 1, 1) := by decide +kernel
theorem d_rput_59 : decode prog_14_method_31_code 59 = .ok (.invokevirtual 191, 3) := by decide +kernel
theorem d_rput_62 : decode prog_14_method_31_code 62 = .ok (.ireturn, 1) := by decide +kernel
set_option maxHeartbeats 4000000 in
set_option maxRecDepth 100000 in
theorem w_rput_J57 {p : Program} {l : Launch} {e : Env} {s : State} {m : MethodId} {args : Array Value} {below : List Frame} {meth : Method} {c : Code} {A : Nat → Prop} {D : va_G} {md : Nat → Nat} {mc : Nat → ClassId} {Q : State → Prop} (hC : MCx "JoinedTreesModel" prog_14_method_31_code 12 (some .int) p s m args meth c A D mc) {S : MS} {o : MS × Int32} (Heq : m_rput_J57 S = some o) (Kr : ∀ r : MS × Int32, o = r → ∀ (pc : Nat) (H : Heap) (locs : List Loc) (ls : Array Slot), decode prog_14_method_31_code pc = .ok (.ireturn, 1) → va_P D cls (mw md mc r.1) H → va_D A (mw md mc r.1) → va_S A s.heap H locs → W p l e ({ frames := 4, cells := 0, slots := 0, locals := 96 }) s m args below meth c H locs 0 0 Q (F0 m pc ls [.int r.2])) : ∀ (H : Heap) (locs : List Loc) (ls : Array Slot), va_P D cls (mw md mc S) H → va_D A (mw md mc S) → va_S A s.heap H locs → lv_has ls 12 [(0, .ref (md 100))] → W p l e ({ frames := 4, cells := 0, slots := 0, locals := 96 }) s m args below meth c H locs 0 0 Q (F0 m 57 ls []) := by
  intro H locs ls hP hD hS hl
  obtain ⟨hx, hb, hr, hml, hown, hts, hK, hA⟩ := id hC
  unfold m_rput_J57 at Heq
  refine lv_aload_n hx hb d_rput_57 rfl (lv_at hl 0 rfl) ?_
  refine lv_iconst (v := 1) hx hb d_rput_58 (by decide) ?_
  obtain ⟨o_1, h_2, Heq⟩ := ob_some Heq
  have hFc := fr_all hD hS hA
  refine va_calli (va_runV (As := [.int 1]) (rest := []) ⟨hx, hb, hml, hown, hts⟩ (g_rno l D H.size h_2) (cw_v 1 hts kw_1626 kw_1623 kw_1625 kp_29 kw_11 rfl rfl (by decide +kernel) ⟨Nat.le_of_ble_eq_true rfl, Nat.le_of_ble_eq_true rfl⟩) ⟨g_blind, va_recv hK hP (ci := 12) (q0 := 0) rfl rfl, fun U hU hW => g_pre hU hW hP hK hD⟩ rfl rfl hl.1 rfl (lv_room (Nat.le_of_ble_eq_true rfl)) d_rput_59 ⟨Nat.le_of_ble_eq_true rfl, Nat.le_of_ble_eq_true rfl⟩) hS (fun q _ h => hFc q h) hFc (fun rz u t H1 locs ht hvm hw hB hz1 hk1 hS => ?_)
  obtain ⟨hP, -, hD1⟩ := hB
  rw [ht] at hP
  have hD := hD1.weaken (fun _ q _ h => hFc q.1 h)
  generalize H1 = H at hP hS ⊢
  refine W.cs (cells' := 0) (slots' := 0) rfl rfl ?_
  subst hw
  exact Kr _ (Option.some.inj Heq).symm 62 _ _ _ d_rput_62 hP hD hS
def m_rput_J144 (S : MS) (x1 : Int32) (x2 : Int32) (x4 : Int32) (x5 : Int64) (x9 : Int32) (t0 : Int32) (t1 : Int32) : Option (MS × Int32) := ob (m_rfull S t1 t0) (fun o_1 => (if o_1.2 = 0 then gd x9 4000 (gd (o_1.1.a 48 x9.toNatClampNeg) 4000 (ob (m_relementCandidates (o_1.1.setI 0 0) x1 x2 (o_1.1.a 8 ((o_1.1.a 48 x9.toNatClampNeg).toNatClampNeg))) (fun o_6 => ob (m_rmake o_6 x1 x2 x4 x5) (fun o_8 => gd o_8.2 4000 (ob (m_rfollows (o_8.1.setA 10 (upd (o_8.1.a 10) o_8.2.toNatClampNeg (o_1.1.a 8 ((o_1.1.a 48 x9.toNatClampNeg).toNatClampNeg)))) o_8.2 0) (fun o_11 => ob (m_rvalue o_11 o_8.2 x4 2 0 (o_11.i 5)) (fun o_13 => gd o_8.2 4000 (some (o_13, o_13.a 8 o_8.2.toNatClampNeg))))))))) else ob (m_rno o_1.1 4) (fun o_16 => some (o_16.1, o_16.2))))
theorem d_rput_13 : decode prog_14_method_31_code 13 = .ok (.iload 4, 2) := by decide +kernel
theorem d_rput_15 : decode prog_14_method_31_code 15 = .ok (.ifCond .lt 42, 3) := by decide +kernel
theorem d_rput_18 : decode prog_14_method_31_code 18 = .ok (.iload 4, 2) := by decide +kernel
theorem d_rput_20 : decode prog_14_method_31_code 20 = .ok (.bipush 8, 2) := by decide +kernel
theorem d_rput_22 : decode prog_14_method_31_code 22 = .ok (.if_icmp .gt 35, 3) := by decide +kernel
theorem d_rput_25 : decode prog_14_method_31_code 25 = .ok (.iload 7, 2) := by decide +kernel
theorem d_rput_27 : decode prog_14_method_31_code 27 = .ok (.iload 4, 2) := by decide +kernel
theorem d_rput_29 : decode prog_14_method_31_code 29 = .ok (.iconst 4, 1) := by decide +kernel
theorem d_rput_30 : decode prog_14_method_31_code 30 = .ok (.if_icmp .ne 7, 3) := by decide +kernel
theorem d_rput_37 : decode prog_14_method_31_code 37 = .ok (.iconst 0, 1) := by decide +kernel
theorem d_rput_38 : decode prog_14_method_31_code 38 = .ok (.if_icmp .ne 19, 3) := by decide +kernel
theorem d_rput_41 : decode prog_14_method_31_code 41 = .ok (.iload 4, 2) := by decide +kernel
theorem d_rput_43 : decode prog_14_method_31_code 43 = .ok (.iconst 4, 1) := by decide +kernel
theorem d_rput_44 : decode prog_14_method_31_code 44 = .ok (.if_icmp .ne 19, 3) := by decide +kernel
theorem d_rput_63 : decode prog_14_method_31_code 63 = .ok (.aload_n 0, 1) := by decide +kernel
theorem d_rput_64 : decode prog_14_method_31_code 64 = .ok (.iload_n 1, 1) := by decide +kernel
theorem d_rput_65 : decode prog_14_method_31_code 65 = .ok (.iload_n 2, 1) := by decide +kernel
theorem d_rput_66 : decode prog_14_method_31_code 66 = .ok (.invokevirtual 258, 3) := by decide +kernel
theorem d_rput_69 : decode prog_14_method_31_code 69 = .ok (.istore 8, 2) := by decide +kernel
theorem d_rput_71 : decode prog_14_method_31_code 71 = .ok (.iload 8, 2) := by decide +kernel
theorem d_rput_73 : decode prog_14_method_31_code 73 = .ok (.bipush 6, 2) := by decide +kernel
theorem d_rput_75 : decode prog_14_method_31_code 75 = .ok (.if_icmp .ne 9, 3) := by decide +kernel
theorem d_rput_84 : decode prog_14_method_31_code 84 = .ok (.iload 8, 2) := by decide +kernel
theorem d_rput_86 : decode prog_14_method_31_code 86 = .ok (.ifCond .ge 7, 3) := by decide +kernel
theorem d_rput_93 : decode prog_14_method_31_code 93 = .ok (.aload_n 0, 1) := by decide +kernel
theorem d_rput_94 : decode prog_14_method_31_code 94 = .ok (.iload_n 1, 1) := by decide +kernel
theorem d_rput_95 : decode prog_14_method_31_code 95 = .ok (.iload_n 2, 1) := by decide +kernel
theorem d_rput_96 : decode prog_14_method_31_code 96 = .ok (.iload_n 3, 1) := by decide +kernel
theorem d_rput_97 : decode prog_14_method_31_code 97 = .ok (.invokevirtual 287, 3) := by decide +kernel
theorem d_rput_100 : decode prog_14_method_31_code 100 = .ok (.istore 9, 2) := by decide +kernel
theorem d_rput_102 : decode prog_14_method_31_code 102 = .ok (.iload 9, 2) := by decide +kernel
theorem d_rput_104 : decode prog_14_method_31_code 104 = .ok (.ifCond .ge 9, 3) := by decide +kernel
theorem d_rput_113 : decode prog_14_method_31_code 113 = .ok (.aload_n 0, 1) := by decide +kernel
theorem d_rput_114 : decode prog_14_method_31_code 114 = .ok (.getfield 104, 3) := by decide +kernel
theorem d_rput_117 : decode prog_14_method_31_code 117 = .ok (.iload_n 1, 1) := by decide +kernel
theorem d_rput_118 : decode prog_14_method_31_code 118 = .ok (.iaload, 1) := by decide +kernel
theorem d_rput_119 : decode prog_14_method_31_code 119 = .ok (.ifCond .lt 9, 3) := by decide +kernel
theorem d_rput_128 : decode prog_14_method_31_code 128 = .ok (.aload_n 0, 1) := by decide +kernel
theorem d_rput_129 : decode prog_14_method_31_code 129 = .ok (.iconst 1, 1) := by decide +kernel
theorem d_rput_130 : decode prog_14_method_31_code 130 = .ok (.iload 4, 2) := by decide +kernel
theorem d_rput_132 : decode prog_14_method_31_code 132 = .ok (.iconst 4, 1) := by decide +kernel
theorem d_rput_133 : decode prog_14_method_31_code 133 = .ok (.if_icmp .ne 10, 3) := by decide +kernel
theorem d_rput_143 : decode prog_14_method_31_code 143 = .ok (.iconst 0, 1) := by decide +kernel
theorem d_rput_144 : decode prog_14_method_31_code 144 = .ok (.invokevirtual 261, 3) := by decide +kernel
theorem d_rput_147 : decode prog_14_method_31_code 147 = .ok (.ifCond .eq 9, 3) := by decide +kernel
theorem d_rput_156 : decode prog_14_method_31_code 156 = .ok (.aload_n 0, 1) := by decide +kernel
theorem d_rput_157 : decode prog_14_method_31_code 157 = .ok (.iconst 0, 1) := by decide +kernel
theorem d_rput_158 : decode prog_14_method_31_code 158 = .ok (.putfield 176, 3) := by decide +kernel
theorem d_rput_161 : decode prog_14_method_31_code 161 = .ok (.aload_n 0, 1) := by decide +kernel
theorem d_rput_162 : decode prog_14_method_31_code 162 = .ok (.getfield 19, 3) := by decide +kernel
theorem d_rput_165 : decode prog_14_method_31_code 165 = .ok (.aload_n 0, 1) := by decide +kernel
theorem d_rput_166 : decode prog_14_method_31_code 166 = .ok (.getfield 124, 3) := by decide +kernel
theorem d_rput_169 : decode prog_14_method_31_code 169 = .ok (.iload 9, 2) := by decide +kernel
theorem d_rput_171 : decode prog_14_method_31_code 171 = .ok (.iaload, 1) := by decide +kernel
theorem d_rput_172 : decode prog_14_method_31_code 172 = .ok (.iaload, 1) := by decide +kernel
theorem d_rput_173 : decode prog_14_method_31_code 173 = .ok (.istore 10, 2) := by decide +kernel
theorem d_rput_175 : decode prog_14_method_31_code 175 = .ok (.aload_n 0, 1) := by decide +kernel
theorem d_rput_176 : decode prog_14_method_31_code 176 = .ok (.iload_n 1, 1) := by decide +kernel
theorem d_rput_177 : decode prog_14_method_31_code 177 = .ok (.iload_n 2, 1) := by decide +kernel
theorem d_rput_178 : decode prog_14_method_31_code 178 = .ok (.iload 10, 2) := by decide +kernel
theorem d_rput_180 : decode prog_14_method_31_code 180 = .ok (.invokevirtual 291, 3) := by decide +kernel
theorem d_rput_183 : decode prog_14_method_31_code 183 = .ok (.aload_n 0, 1) := by decide +kernel
theorem d_rput_184 : decode prog_14_method_31_code 184 = .ok (.iload_n 1, 1) := by decide +kernel
theorem d_rput_185 : decode prog_14_method_31_code 185 = .ok (.iload_n 2, 1) := by decide +kernel
theorem d_rput_186 : decode prog_14_method_31_code 186 = .ok (.iload 4, 2) := by decide +kernel
theorem d_rput_188 : decode prog_14_method_31_code 188 = .ok (.lload 5, 2) := by decide +kernel
theorem d_rput_190 : decode prog_14_method_31_code 190 = .ok (.invokevirtual 272, 3) := by decide +kernel
theorem d_rput_193 : decode prog_14_method_31_code 193 = .ok (.istore 11, 2) := by decide +kernel
theorem d_rput_195 : decode prog_14_method_31_code 195 = .ok (.aload_n 0, 1) := by decide +kernel
theorem d_rput_196 : decode prog_14_method_31_code 196 = .ok (.getfield 26, 3) := by decide +kernel
theorem d_rput_199 : decode prog_14_method_31_code 199 = .ok (.iload 11, 2) := by decide +kernel
theorem d_rput_201 : decode prog_14_method_31_code 201 = .ok (.iload 10, 2) := by decide +kernel
theorem d_rput_203 : decode prog_14_method_31_code 203 = .ok (.iastore, 1) := by decide +kernel
theorem d_rput_204 : decode prog_14_method_31_code 204 = .ok (.aload_n 0, 1) := by decide +kernel
theorem d_rput_205 : decode prog_14_method_31_code 205 = .ok (.iload 11, 2) := by decide +kernel
theorem d_rput_207 : decode prog_14_method_31_code 207 = .ok (.iconst 0, 1) := by decide +kernel
theorem d_rput_208 : decode prog_14_method_31_code 208 = .ok (.invokevirtual 276, 3) := by decide +kernel
theorem d_rput_211 : decode prog_14_method_31_code 211 = .ok (.aload_n 0, 1) := by decide +kernel
theorem d_rput_212 : decode prog_14_method_31_code 212 = .ok (.iload 11, 2) := by decide +kernel
theorem d_rput_214 : decode prog_14_method_31_code 214 = .ok (.iload 4, 2) := by decide +kernel
theorem d_rput_216 : decode prog_14_method_31_code 216 = .ok (.aload_n 0, 1) := by decide +kernel
theorem d_rput_217 : decode prog_14_method_31_code 217 = .ok (.getfield 13, 3) := by decide +kernel
theorem d_rput_220 : decode prog_14_method_31_code 220 = .ok (.iconst 0, 1) := by decide +kernel
theorem d_rput_221 : decode prog_14_method_31_code 221 = .ok (.aload_n 0, 1) := by decide +kernel
theorem d_rput_222 : decode prog_14_method_31_code 222 = .ok (.getfield 185, 3) := by decide +kernel
theorem d_rput_225 : decode prog_14_method_31_code 225 = .ok (.invokevirtual 284, 3) := by decide +kernel
theorem d_rput_228 : decode prog_14_method_31_code 228 = .ok (.aload_n 0, 1) := by decide +kernel
theorem d_rput_229 : decode prog_14_method_31_code 229 = .ok (.getfield 19, 3) := by decide +kernel
theorem d_rput_232 : decode prog_14_method_31_code 232 = .ok (.iload 11, 2) := by decide +kernel
theorem d_rput_234 : decode prog_14_method_31_code 234 = .ok (.iaload, 1) := by decide +kernel
theorem d_rput_235 : decode prog_14_method_31_code 235 = .ok (.ireturn, 1) := by decide +kernel
theorem d_rput_150 : decode prog_14_method_31_code 150 = .ok (.aload_n 0, 1) := by decide +kernel
theorem d_rput_151 : decode prog_14_method_31_code 151 = .ok (.iconst 4, 1) := by decide +kernel
theorem d_rput_152 : decode prog_14_method_31_code 152 = .ok (.invokevirtual 191, 3) := by decide +kernel
theorem d_rput_155 : decode prog_14_method_31_code 155 = .ok (.ireturn, 1) := by decide +kernel
set_option maxHeartbeats 4000000 in
set_option maxRecDepth 100000 in
theorem w_rput_J144 {p : Program} {l : Launch} {e : Env} {s : State} {m : MethodId} {args : Array Value} {below : List Frame} {meth : Method} {c : Code} {A : Nat → Prop} {D : va_G} {md : Nat → Nat} {mc : Nat → ClassId} {Q : State → Prop} (hC : MCx "JoinedTreesModel" prog_14_method_31_code 12 (some .int) p s m args meth c A D mc) {S : MS} {x1 : Int32} {x2 : Int32} {x4 : Int32} {x5 : Int64} {x9 : Int32} {t0 : Int32} {t1 : Int32} {o : MS × Int32} (Heq : m_rput_J144 S x1 x2 x4 x5 x9 t0 t1 = some o) (Kr : ∀ r : MS × Int32, o = r → ∀ (pc : Nat) (H : Heap) (locs : List Loc) (ls : Array Slot), decode prog_14_method_31_code pc = .ok (.ireturn, 1) → va_P D cls (mw md mc r.1) H → va_D A (mw md mc r.1) → va_S A s.heap H locs → W p l e ({ frames := 4, cells := 0, slots := 0, locals := 96 }) s m args below meth c H locs 0 0 Q (F0 m pc ls [.int r.2])) : ∀ (H : Heap) (locs : List Loc) (ls : Array Slot), va_P D cls (mw md mc S) H → va_D A (mw md mc S) → va_S A s.heap H locs → lv_has ls 12 [(0, .ref (md 100)), (1, .int x1), (2, .int x2), (4, .int x4), (5, .long x5), (9, .int x9)] → W p l e ({ frames := 4, cells := 0, slots := 0, locals := 96 }) s m args below meth c H locs 0 0 Q (F0 m 144 ls [.int t0, .int t1, .ref (md 100)]) := by
  intro H locs ls hP hD hS hl
  obtain ⟨hx, hb, hr, hml, hown, hts, hK, hA⟩ := id hC
  unfold m_rput_J144 at Heq
  obtain ⟨o_1, h_2, Heq⟩ := ob_some Heq
  have hFc := fr_all hD hS hA
  refine va_calli (va_runV (As := [.int t1, .int t0]) (rest := []) ⟨hx, hb, hml, hown, hts⟩ (g_rfull l D H.size h_2) (cw_v 2 hts kw_1660 kw_1657 kw_1659 kp_34 kw_11 rfl rfl (by decide +kernel) ⟨Nat.le_of_ble_eq_true rfl, Nat.le_of_ble_eq_true rfl⟩) ⟨g_blind, va_recv hK hP (ci := 12) (q0 := 0) rfl rfl, fun U hU hW => g_pre hU hW hP hK hD⟩ rfl rfl hl.1 rfl (lv_room (Nat.le_of_ble_eq_true rfl)) d_rput_144 ⟨Nat.le_of_ble_eq_true rfl, Nat.le_of_ble_eq_true rfl⟩) hS (fun q _ h => hFc q h) hFc (fun rz u t H1 locs ht hvm hw hB hz1 hk1 hS => ?_)
  obtain ⟨hP, -, hD1⟩ := hB
  rw [ht] at hP
  have hD := hD1.weaken (fun _ q _ h => hFc q.1 h)
  generalize H1 = H at hP hS ⊢
  refine W.cs (cells' := 0) (slots' := 0) rfl rfl ?_
  subst hw
  refine lv_if_eq (tgt := 156) hx hb d_rput_147 (by decide) (fun c_3 => ?_) (fun c_3 => ?_)
  · replace Heq := (if_pos c_3).symm.trans Heq
    refine lv_aload_n hx hb d_rput_156 rfl (lv_at hl 0 rfl) ?_
    refine lv_iconst (v := 0) hx hb d_rput_157 (by decide) ?_
    refine va_put (D := D) (ci := 12) (v := .int 0) (ty := .int) (C := R_MM) (T := F_MM) (N := 77) hx hb hts i_MM t_MM t_MM_ok n_MM hown hK hP hD hS 0 rfl rfl 0 (by decide) (hts _ kw_1382) (fun _ h9 => h9) rfl (by decide +kernel) rfl rfl (Nat.le_of_ble_eq_true rfl) d_rput_158 (fun H locs hP hD hS => ?_)
    rw [mw_I0] at hP hD
    refine lv_aload_n hx hb d_rput_161 rfl (lv_at hl 0 rfl) ?_
    refine va_get (D := D) (ci := 12) (v := .ref (md 8)) (C := R_MM) (T := F_MM) (N := 77) hx hb hts i_MM hown hK hP 0 rfl rfl 8 (by decide) (hts _ kw_1390) (fun _ h9 => h9) rfl d_rput_162 ?_
    refine lv_aload_n hx hb d_rput_165 rfl (lv_at hl 0 rfl) ?_
    refine va_get (D := D) (ci := 12) (v := .ref (md 48)) (C := R_MM) (T := F_MM) (N := 77) hx hb hts i_MM hown hK hP 0 rfl rfl 48 (by decide) (hts _ kw_1430) (fun _ h9 => h9) rfl d_rput_166 ?_
    refine lv_iload hx hb d_rput_169 (lv_at hl 5 rfl) ?_
    obtain ⟨hi_4, Heq⟩ := gd_some Heq
    refine va_iald hx hb hK hP 32 0 rfl rfl (i := x9) hi_4 d_rput_171 ?_
    refine w_i (y := o_1.1.a 48 x9.toNatClampNeg) rfl ?_
    obtain ⟨hi_5, Heq⟩ := gd_some Heq
    refine va_iald hx hb hK hP 4 0 rfl rfl (i := o_1.1.a 48 x9.toNatClampNeg) hi_5 d_rput_172 ?_
    refine w_i (y := o_1.1.a 8 ((o_1.1.a 48 x9.toNatClampNeg).toNatClampNeg)) rfl ?_
    refine lv_istore (lv' := [(10, .int (o_1.1.a 8 ((o_1.1.a 48 x9.toNatClampNeg).toNatClampNeg))), (0, .ref (md 100)), (1, .int x1), (2, .int x2), (4, .int x4), (5, .long x5), (9, .int x9)]) hx hb d_rput_173 hl (by decide) rfl (fun ls hl => ?_)
    refine lv_aload_n hx hb d_rput_175 rfl (lv_at hl 1 rfl) ?_
    refine lv_iload_n hx hb d_rput_176 rfl (lv_at hl 2 rfl) ?_
    refine lv_iload_n hx hb d_rput_177 rfl (lv_at hl 3 rfl) ?_
    refine lv_iload hx hb d_rput_178 (lv_at hl 0 rfl) ?_
    obtain ⟨o_6, h_7, Heq⟩ := ob_some Heq
    have hFc := fr_all hD hS hA
    refine va_callv (va_runV (As := [.int x1, .int x2, .int (o_1.1.a 8 ((o_1.1.a 48 x9.toNatClampNeg).toNatClampNeg))]) (rest := []) ⟨hx, hb, hml, hown, hts⟩ (g_relementCandidates l D H.size h_7) (cw_v 3 hts kw_1725 kw_1722 kw_1724 kp_49 kw_11 rfl rfl (by decide +kernel) ⟨Nat.le_of_ble_eq_true rfl, Nat.le_of_ble_eq_true rfl⟩) ⟨g_blind, va_recv hK hP (ci := 12) (q0 := 0) rfl rfl, fun U hU hW => g_pre hU hW hP hK hD⟩ rfl rfl hl.1 rfl (lv_room (Nat.le_of_ble_eq_true rfl)) d_rput_180 ⟨Nat.le_of_ble_eq_true rfl, Nat.le_of_ble_eq_true rfl⟩) hS (fun q _ h => hFc q h) hFc (fun u t H1 locs ht hvm hw hB hz1 hk1 hS => ?_)
    obtain ⟨hP, -, hD1⟩ := hB
    rw [ht] at hP
    have hD := hD1.weaken (fun _ q _ h => hFc q.1 h)
    generalize H1 = H at hP hS ⊢
    refine W.cs (cells' := 0) (slots' := 0) rfl rfl ?_
    refine lv_aload_n hx hb d_rput_183 rfl (lv_at hl 1 rfl) ?_
    refine lv_iload_n hx hb d_rput_184 rfl (lv_at hl 2 rfl) ?_
    refine lv_iload_n hx hb d_rput_185 rfl (lv_at hl 3 rfl) ?_
    refine lv_iload hx hb d_rput_186 (lv_at hl 4 rfl) ?_
    refine lv_lload hx hb d_rput_188 (lv_at hl 5 rfl) ?_
    obtain ⟨o_8, h_9, Heq⟩ := ob_some Heq
    have hFc := fr_all hD hS hA
    refine va_calli (va_runV (As := [.int x1, .int x2, .int x4, .long x5]) (rest := []) ⟨hx, hb, hml, hown, hts⟩ (g_rmake l D H.size h_9) (cw_v 4 hts kw_1684 kw_1681 kw_1683 kp_40 kw_11 rfl rfl (by decide +kernel) ⟨Nat.le_of_ble_eq_true rfl, Nat.le_of_ble_eq_true rfl⟩) ⟨g_blind, va_recv hK hP (ci := 12) (q0 := 0) rfl rfl, fun U hU hW => g_pre hU hW hP hK hD⟩ rfl rfl hl.1 rfl (lv_room (Nat.le_of_ble_eq_true rfl)) d_rput_190 ⟨Nat.le_of_ble_eq_true rfl, Nat.le_of_ble_eq_true rfl⟩) hS (fun q _ h => hFc q h) hFc (fun rz u t H1 locs ht hvm hw hB hz1 hk1 hS => ?_)
    obtain ⟨hP, -, hD1⟩ := hB
    rw [ht] at hP
    have hD := hD1.weaken (fun _ q _ h => hFc q.1 h)
    generalize H1 = H at hP hS ⊢
    refine W.cs (cells' := 0) (slots' := 0) rfl rfl ?_
    subst hw
    refine lv_istore (lv' := [(11, .int o_8.2), (10, .int (o_1.1.a 8 ((o_1.1.a 48 x9.toNatClampNeg).toNatClampNeg))), (0, .ref (md 100)), (1, .int x1), (2, .int x2), (4, .int x4), (5, .long x5), (9, .int x9)]) hx hb d_rput_193 hl (by decide) rfl (fun ls hl => ?_)
    refine lv_aload_n hx hb d_rput_195 rfl (lv_at hl 2 rfl) ?_
    refine va_get (D := D) (ci := 12) (v := .ref (md 10)) (C := R_MM) (T := F_MM) (N := 77) hx hb hts i_MM hown hK hP 0 rfl rfl 10 (by decide) (hts _ kw_1392) (fun _ h9 => h9) rfl d_rput_196 ?_
    refine lv_iload hx hb d_rput_199 (lv_at hl 0 rfl) ?_
    refine lv_iload hx hb d_rput_201 (lv_at hl 1 rfl) ?_
    obtain ⟨hi_10, Heq⟩ := gd_some Heq
    refine va_iast hx hb hK hP hD hS 6 0 rfl rfl (i := o_8.2) (x := o_1.1.a 8 ((o_1.1.a 48 x9.toNatClampNeg).toNatClampNeg)) hi_10 d_rput_203 (fun H locs hP hD hS => ?_)
    rw [mw_A10] at hP hD
    refine lv_aload_n hx hb d_rput_204 rfl (lv_at hl 2 rfl) ?_
    refine lv_iload hx hb d_rput_205 (lv_at hl 0 rfl) ?_
    refine lv_iconst (v := 0) hx hb d_rput_207 (by decide) ?_
    obtain ⟨o_11, h_12, Heq⟩ := ob_some Heq
    have hFc := fr_all hD hS hA
    refine va_callv (va_runV (As := [.int o_8.2, .int 0]) (rest := []) ⟨hx, hb, hml, hown, hts⟩ (g_rfollows l D H.size h_12) (cw_v 2 hts kw_1697 kw_1694 kw_1696 kp_43 kw_11 rfl rfl (by decide +kernel) ⟨Nat.le_of_ble_eq_true rfl, Nat.le_of_ble_eq_true rfl⟩) ⟨g_blind, va_recv hK hP (ci := 12) (q0 := 0) rfl rfl, fun U hU hW => g_pre hU hW hP hK hD⟩ rfl rfl hl.1 rfl (lv_room (Nat.le_of_ble_eq_true rfl)) d_rput_208 ⟨Nat.le_of_ble_eq_true rfl, Nat.le_of_ble_eq_true rfl⟩) hS (fun q _ h => hFc q h) hFc (fun u t H1 locs ht hvm hw hB hz1 hk1 hS => ?_)
    obtain ⟨hP, -, hD1⟩ := hB
    rw [ht] at hP
    have hD := hD1.weaken (fun _ q _ h => hFc q.1 h)
    generalize H1 = H at hP hS ⊢
    refine W.cs (cells' := 0) (slots' := 0) rfl rfl ?_
    refine lv_aload_n hx hb d_rput_211 rfl (lv_at hl 2 rfl) ?_
    refine lv_iload hx hb d_rput_212 (lv_at hl 0 rfl) ?_
    refine lv_iload hx hb d_rput_214 (lv_at hl 5 rfl) ?_
    refine lv_aload_n hx hb d_rput_216 rfl (lv_at hl 2 rfl) ?_
    refine va_get (D := D) (ci := 12) (v := .ref (md 2)) (C := R_MM) (T := F_MM) (N := 77) hx hb hts i_MM hown hK hP 0 rfl rfl 2 (by decide) (hts _ kw_1384) (fun _ h9 => h9) rfl d_rput_217 ?_
    refine lv_iconst (v := 0) hx hb d_rput_220 (by decide) ?_
    refine lv_aload_n hx hb d_rput_221 rfl (lv_at hl 2 rfl) ?_
    refine va_get (D := D) (ci := 12) (v := .int (o_11.i 5)) (C := R_MM) (T := F_MM) (N := 77) hx hb hts i_MM hown hK hP 0 rfl rfl 5 (by decide) (hts _ kw_1387) (fun _ h9 => h9) rfl d_rput_222 ?_
    obtain ⟨o_13, h_14, Heq⟩ := ob_some Heq
    have hFc := fr_all hD hS hA
    refine va_callv (va_runV (As := [.int o_8.2, .int x4, .ref (md 2), .int 0, .int (o_11.i 5)]) (rest := []) ⟨hx, hb, hml, hown, hts⟩ (g_rvalue l D H.size h_14) (cw_v 5 hts kw_1705 kw_1702 kw_1704 kp_45 kw_11 rfl rfl (by decide +kernel) ⟨Nat.le_of_ble_eq_true rfl, Nat.le_of_ble_eq_true rfl⟩) ⟨g_blind, va_recv hK hP (ci := 12) (q0 := 0) rfl rfl, fun U hU hW => g_pre hU hW hP hK hD⟩ rfl rfl hl.1 rfl (lv_room (Nat.le_of_ble_eq_true rfl)) d_rput_225 ⟨Nat.le_of_ble_eq_true rfl, Nat.le_of_ble_eq_true rfl⟩) hS (fun q _ h => hFc q h) hFc (fun u t H1 locs ht hvm hw hB hz1 hk1 hS => ?_)
    obtain ⟨hP, -, hD1⟩ := hB
    rw [ht] at hP
    have hD := hD1.weaken (fun _ q _ h => hFc q.1 h)
    generalize H1 = H at hP hS ⊢
    refine W.cs (cells' := 0) (slots' := 0) rfl rfl ?_
    refine lv_aload_n hx hb d_rput_228 rfl (lv_at hl 2 rfl) ?_
    refine va_get (D := D) (ci := 12) (v := .ref (md 8)) (C := R_MM) (T := F_MM) (N := 77) hx hb hts i_MM hown hK hP 0 rfl rfl 8 (by decide) (hts _ kw_1390) (fun _ h9 => h9) rfl d_rput_229 ?_
    refine lv_iload hx hb d_rput_232 (lv_at hl 0 rfl) ?_
    obtain ⟨hi_15, Heq⟩ := gd_some Heq
    refine va_iald hx hb hK hP 4 0 rfl rfl (i := o_8.2) hi_15 d_rput_234 ?_
    refine w_i (y := o_13.a 8 o_8.2.toNatClampNeg) rfl ?_
    exact Kr _ (Option.some.inj Heq).symm 235 _ _ _ d_rput_235 hP hD hS
  · replace Heq := (if_neg c_3).symm.trans Heq
    refine lv_aload_n hx hb d_rput_150 rfl (lv_at hl 0 rfl) ?_
    refine lv_iconst (v := 4) hx hb d_rput_151 (by decide) ?_
    obtain ⟨o_16, h_17, Heq⟩ := ob_some Heq
    have hFc := fr_all hD hS hA
    refine va_calli (va_runV (As := [.int 4]) (rest := []) ⟨hx, hb, hml, hown, hts⟩ (g_rno l D H.size h_17) (cw_v 1 hts kw_1626 kw_1623 kw_1625 kp_29 kw_11 rfl rfl (by decide +kernel) ⟨Nat.le_of_ble_eq_true rfl, Nat.le_of_ble_eq_true rfl⟩) ⟨g_blind, va_recv hK hP (ci := 12) (q0 := 0) rfl rfl, fun U hU hW => g_pre hU hW hP hK hD⟩ rfl rfl hl.1 rfl (lv_room (Nat.le_of_ble_eq_true rfl)) d_rput_152 ⟨Nat.le_of_ble_eq_true rfl, Nat.le_of_ble_eq_true rfl⟩) hS (fun q _ h => hFc q h) hFc (fun rz u t H1 locs ht hvm hw hB hz1 hk1 hS => ?_)
    obtain ⟨hP, -, hD1⟩ := hB
    rw [ht] at hP
    have hD := hD1.weaken (fun _ q _ h => hFc q.1 h)
    generalize H1 = H at hP hS ⊢
    refine W.cs (cells' := 0) (slots' := 0) rfl rfl ?_
    subst hw
    exact Kr _ (Option.some.inj Heq).symm 155 _ _ _ d_rput_155 hP hD hS
def m_rput_J100 (S : MS) (x1 : Int32) (x2 : Int32) (x4 : Int32) (x5 : Int64) (t0 : Int32) : Option (MS × Int32) := (if 0 ≤ t0 then gd x1 8 ((if S.a 39 x1.toNatClampNeg < 0 then (if x4 = 4 then m_rput_J144 S x1 x2 x4 x5 t0 (S.i 5) 1 else m_rput_J144 S x1 x2 x4 x5 t0 0 1) else ob (m_rno S 2) (fun o_5 => some (o_5.1, o_5.2)))) else ob (m_rno S 3) (fun o_7 => some (o_7.1, o_7.2)))
theorem d_rput_136 : decode prog_14_method_31_code 136 = .ok (.aload_n 0, 1) := by decide +kernel
theorem d_rput_137 : decode prog_14_method_31_code 137 = .ok (.getfield 185, 3) := by decide +kernel
theorem d_rput_140 : decode prog_14_method_31_code 140 = .ok (.goto 4, 3) := by decide +kernel
theorem d_rput_122 : decode prog_14_method_31_code 122 = .ok (.aload_n 0, 1) := by decide +kernel
theorem d_rput_123 : decode prog_14_method_31_code 123 = .ok (.iconst 2, 1) := by decide +kernel
theorem d_rput_124 : decode prog_14_method_31_code 124 = .ok (.invokevirtual 191, 3) := by decide +kernel
theorem d_rput_127 : decode prog_14_method_31_code 127 = .ok (.ireturn, 1) := by decide +kernel
theorem d_rput_107 : decode prog_14_method_31_code 107 = .ok (.aload_n 0, 1) := by decide +kernel
theorem d_rput_108 : decode prog_14_method_31_code 108 = .ok (.iconst 3, 1) := by decide +kernel
theorem d_rput_109 : decode prog_14_method_31_code 109 = .ok (.invokevirtual 191, 3) := by decide +kernel
theorem d_rput_112 : decode prog_14_method_31_code 112 = .ok (.ireturn, 1) := by decide +kernel
set_option maxHeartbeats 4000000 in
set_option maxRecDepth 100000 in
theorem w_rput_J100 {p : Program} {l : Launch} {e : Env} {s : State} {m : MethodId} {args : Array Value} {below : List Frame} {meth : Method} {c : Code} {A : Nat → Prop} {D : va_G} {md : Nat → Nat} {mc : Nat → ClassId} {Q : State → Prop} (hC : MCx "JoinedTreesModel" prog_14_method_31_code 12 (some .int) p s m args meth c A D mc) {S : MS} {x1 : Int32} {x2 : Int32} {x4 : Int32} {x5 : Int64} {t0 : Int32} {o : MS × Int32} (Heq : m_rput_J100 S x1 x2 x4 x5 t0 = some o) (Kr : ∀ r : MS × Int32, o = r → ∀ (pc : Nat) (H : Heap) (locs : List Loc) (ls : Array Slot), decode prog_14_method_31_code pc = .ok (.ireturn, 1) → va_P D cls (mw md mc r.1) H → va_D A (mw md mc r.1) → va_S A s.heap H locs → W p l e ({ frames := 4, cells := 0, slots := 0, locals := 96 }) s m args below meth c H locs 0 0 Q (F0 m pc ls [.int r.2])) : ∀ (H : Heap) (locs : List Loc) (ls : Array Slot), va_P D cls (mw md mc S) H → va_D A (mw md mc S) → va_S A s.heap H locs → lv_has ls 12 [(0, .ref (md 100)), (1, .int x1), (2, .int x2), (4, .int x4), (5, .long x5)] → W p l e ({ frames := 4, cells := 0, slots := 0, locals := 96 }) s m args below meth c H locs 0 0 Q (F0 m 100 ls [.int t0]) := by
  intro H locs ls hP hD hS hl
  obtain ⟨hx, hb, hr, hml, hown, hts, hK, hA⟩ := id hC
  unfold m_rput_J100 at Heq
  refine lv_istore (lv' := [(9, .int t0), (0, .ref (md 100)), (1, .int x1), (2, .int x2), (4, .int x4), (5, .long x5)]) hx hb d_rput_100 hl (by decide) rfl (fun ls hl => ?_)
  refine lv_iload hx hb d_rput_102 (lv_at hl 0 rfl) ?_
  refine lv_if_ge (tgt := 113) hx hb d_rput_104 (by decide) (fun c_1 => ?_) (fun c_1 => ?_)
  · replace Heq := (if_pos c_1).symm.trans Heq
    refine lv_aload_n hx hb d_rput_113 rfl (lv_at hl 1 rfl) ?_
    refine va_get (D := D) (ci := 12) (v := .ref (md 39)) (C := R_MM) (T := F_MM) (N := 77) hx hb hts i_MM hown hK hP 0 rfl rfl 39 (by decide) (hts _ kw_1421) (fun _ h9 => h9) rfl d_rput_114 ?_
    refine lv_iload_n hx hb d_rput_117 rfl (lv_at hl 2 rfl) ?_
    obtain ⟨hi_2, Heq⟩ := gd_some Heq
    refine va_iald hx hb hK hP 27 0 rfl rfl (i := x1) hi_2 d_rput_118 ?_
    refine w_i (y := S.a 39 x1.toNatClampNeg) rfl ?_
    refine lv_if_lt (tgt := 128) hx hb d_rput_119 (by decide) (fun c_3 => ?_) (fun c_3 => ?_)
    · replace Heq := (if_pos c_3).symm.trans Heq
      refine lv_aload_n hx hb d_rput_128 rfl (lv_at hl 1 rfl) ?_
      refine lv_iconst (v := 1) hx hb d_rput_129 (by decide) ?_
      refine lv_iload hx hb d_rput_130 (lv_at hl 4 rfl) ?_
      refine lv_iconst (v := 4) hx hb d_rput_132 (by decide) ?_
      refine lv_icmp_ne (tgt := 143) hx hb d_rput_133 (by decide) (fun c_4 => ?_) (fun c_4 => ?_)
      · replace Heq := (if_neg c_4).symm.trans Heq
        refine lv_iconst (v := 0) hx hb d_rput_143 (by decide) ?_
        exact w_rput_J144 hC Heq Kr _ _ _ hP hD hS (lv_sub hl [1, 2, 3, 4, 5, 0] rfl)
      · replace Heq := (if_pos c_4).symm.trans Heq
        refine lv_aload_n hx hb d_rput_136 rfl (lv_at hl 1 rfl) ?_
        refine va_get (D := D) (ci := 12) (v := .int (S.i 5)) (C := R_MM) (T := F_MM) (N := 77) hx hb hts i_MM hown hK hP 0 rfl rfl 5 (by decide) (hts _ kw_1387) (fun _ h9 => h9) rfl d_rput_137 ?_
        refine lv_goto (tgt := 144) hx hb d_rput_140 (by decide) ?_
        exact w_rput_J144 hC Heq Kr _ _ _ hP hD hS (lv_sub hl [1, 2, 3, 4, 5, 0] rfl)
    · replace Heq := (if_neg c_3).symm.trans Heq
      refine lv_aload_n hx hb d_rput_122 rfl (lv_at hl 1 rfl) ?_
      refine lv_iconst (v := 2) hx hb d_rput_123 (by decide) ?_
      obtain ⟨o_5, h_6, Heq⟩ := ob_some Heq
      have hFc := fr_all hD hS hA
      refine va_calli (va_runV (As := [.int 2]) (rest := []) ⟨hx, hb, hml, hown, hts⟩ (g_rno l D H.size h_6) (cw_v 1 hts kw_1626 kw_1623 kw_1625 kp_29 kw_11 rfl rfl (by decide +kernel) ⟨Nat.le_of_ble_eq_true rfl, Nat.le_of_ble_eq_true rfl⟩) ⟨g_blind, va_recv hK hP (ci := 12) (q0 := 0) rfl rfl, fun U hU hW => g_pre hU hW hP hK hD⟩ rfl rfl hl.1 rfl (lv_room (Nat.le_of_ble_eq_true rfl)) d_rput_124 ⟨Nat.le_of_ble_eq_true rfl, Nat.le_of_ble_eq_true rfl⟩) hS (fun q _ h => hFc q h) hFc (fun rz u t H1 locs ht hvm hw hB hz1 hk1 hS => ?_)
      obtain ⟨hP, -, hD1⟩ := hB
      rw [ht] at hP
      have hD := hD1.weaken (fun _ q _ h => hFc q.1 h)
      generalize H1 = H at hP hS ⊢
      refine W.cs (cells' := 0) (slots' := 0) rfl rfl ?_
      subst hw
      exact Kr _ (Option.some.inj Heq).symm 127 _ _ _ d_rput_127 hP hD hS
  · replace Heq := (if_neg c_1).symm.trans Heq
    refine lv_aload_n hx hb d_rput_107 rfl (lv_at hl 1 rfl) ?_
    refine lv_iconst (v := 3) hx hb d_rput_108 (by decide) ?_
    obtain ⟨o_7, h_8, Heq⟩ := ob_some Heq
    have hFc := fr_all hD hS hA
    refine va_calli (va_runV (As := [.int 3]) (rest := []) ⟨hx, hb, hml, hown, hts⟩ (g_rno l D H.size h_8) (cw_v 1 hts kw_1626 kw_1623 kw_1625 kp_29 kw_11 rfl rfl (by decide +kernel) ⟨Nat.le_of_ble_eq_true rfl, Nat.le_of_ble_eq_true rfl⟩) ⟨g_blind, va_recv hK hP (ci := 12) (q0 := 0) rfl rfl, fun U hU hW => g_pre hU hW hP hK hD⟩ rfl rfl hl.1 rfl (lv_room (Nat.le_of_ble_eq_true rfl)) d_rput_109 ⟨Nat.le_of_ble_eq_true rfl, Nat.le_of_ble_eq_true rfl⟩) hS (fun q _ h => hFc q h) hFc (fun rz u t H1 locs ht hvm hw hB hz1 hk1 hS => ?_)
    obtain ⟨hP, -, hD1⟩ := hB
    rw [ht] at hP
    have hD := hD1.weaken (fun _ q _ h => hFc q.1 h)
    generalize H1 = H at hP hS ⊢
    refine W.cs (cells' := 0) (slots' := 0) rfl rfl ?_
    subst hw
    exact Kr _ (Option.some.inj Heq).symm 112 _ _ _ d_rput_112 hP hD hS
def m_rput_J63 (S : MS) (x1 : Int32) (x2 : Int32) (x3 : Int32) (x4 : Int32) (x5 : Int64) : Option (MS × Int32) := ob (m_rkindOf S x1 x2) (fun o_1 => (if o_1.2 = 6 then ob (m_rno o_1.1 1) (fun o_7 => some (o_7.1, o_7.2)) else (if 0 ≤ o_1.2 then ob (m_rat o_1.1 x1 x2 x3) (fun o_5 => m_rput_J100 o_5.1 x1 x2 x4 x5 o_5.2) else m_rput_J100 o_1.1 x1 x2 x4 x5 (-1))))
theorem d_rput_89 : decode prog_14_method_31_code 89 = .ok (.iconst (-1), 1) := by decide +kernel
theorem d_rput_90 : decode prog_14_method_31_code 90 = .ok (.goto 10, 3) := by decide +kernel
theorem d_rput_78 : decode prog_14_method_31_code 78 = .ok (.aload_n 0, 1) := by decide +kernel
theorem d_rput_79 : decode prog_14_method_31_code 79 = .ok (.iconst 1, 1) := by decide +kernel
theorem d_rput_80 : decode prog_14_method_31_code 80 = .ok (.invokevirtual 191, 3) := by decide +kernel
theorem d_rput_83 : decode prog_14_method_31_code 83 = .ok (.ireturn, 1) := by decide +kernel
set_option maxHeartbeats 4000000 in
set_option maxRecDepth 100000 in
theorem w_rput_J63 {p : Program} {l : Launch} {e : Env} {s : State} {m : MethodId} {args : Array Value} {below : List Frame} {meth : Method} {c : Code} {A : Nat → Prop} {D : va_G} {md : Nat → Nat} {mc : Nat → ClassId} {Q : State → Prop} (hC : MCx "JoinedTreesModel" prog_14_method_31_code 12 (some .int) p s m args meth c A D mc) {S : MS} {x1 : Int32} {x2 : Int32} {x3 : Int32} {x4 : Int32} {x5 : Int64} {o : MS × Int32} (Heq : m_rput_J63 S x1 x2 x3 x4 x5 = some o) (Kr : ∀ r : MS × Int32, o = r → ∀ (pc : Nat) (H : Heap) (locs : List Loc) (ls : Array Slot), decode prog_14_method_31_code pc = .ok (.ireturn, 1) → va_P D cls (mw md mc r.1) H → va_D A (mw md mc r.1) → va_S A s.heap H locs → W p l e ({ frames := 4, cells := 0, slots := 0, locals := 96 }) s m args below meth c H locs 0 0 Q (F0 m pc ls [.int r.2])) : ∀ (H : Heap) (locs : List Loc) (ls : Array Slot), va_P D cls (mw md mc S) H → va_D A (mw md mc S) → va_S A s.heap H locs → lv_has ls 12 [(0, .ref (md 100)), (1, .int x1), (2, .int x2), (3, .int x3), (4, .int x4), (5, .long x5)] → W p l e ({ frames := 4, cells := 0, slots := 0, locals := 96 }) s m args below meth c H locs 0 0 Q (F0 m 63 ls []) := by
  intro H locs ls hP hD hS hl
  obtain ⟨hx, hb, hr, hml, hown, hts, hK, hA⟩ := id hC
  unfold m_rput_J63 at Heq
  refine lv_aload_n hx hb d_rput_63 rfl (lv_at hl 0 rfl) ?_
  refine lv_iload_n hx hb d_rput_64 rfl (lv_at hl 1 rfl) ?_
  refine lv_iload_n hx hb d_rput_65 rfl (lv_at hl 2 rfl) ?_
  obtain ⟨o_1, h_2, Heq⟩ := ob_some Heq
  have hFc := fr_all hD hS hA
  refine va_calli (va_runV (As := [.int x1, .int x2]) (rest := []) ⟨hx, hb, hml, hown, hts⟩ (g_rkindOf l D H.size h_2) (cw_v 2 hts kw_1648 kw_1645 kw_1647 kp_31 kw_11 rfl rfl (by decide +kernel) ⟨Nat.le_of_ble_eq_true rfl, Nat.le_of_ble_eq_true rfl⟩) ⟨g_blind, va_recv hK hP (ci := 12) (q0 := 0) rfl rfl, fun U hU hW => g_pre hU hW hP hK hD⟩ rfl rfl hl.1 rfl (lv_room (Nat.le_of_ble_eq_true rfl)) d_rput_66 ⟨Nat.le_of_ble_eq_true rfl, Nat.le_of_ble_eq_true rfl⟩) hS (fun q _ h => hFc q h) hFc (fun rz u t H1 locs ht hvm hw hB hz1 hk1 hS => ?_)
  obtain ⟨hP, -, hD1⟩ := hB
  rw [ht] at hP
  have hD := hD1.weaken (fun _ q _ h => hFc q.1 h)
  generalize H1 = H at hP hS ⊢
  refine W.cs (cells' := 0) (slots' := 0) rfl rfl ?_
  subst hw
  refine lv_istore (lv' := [(8, .int o_1.2), (0, .ref (md 100)), (1, .int x1), (2, .int x2), (3, .int x3), (4, .int x4), (5, .long x5)]) hx hb d_rput_69 hl (by decide) rfl (fun ls hl => ?_)
  refine lv_iload hx hb d_rput_71 (lv_at hl 0 rfl) ?_
  refine lv_bipush (v := 6) hx hb d_rput_73 (by decide) ?_
  refine lv_icmp_ne (tgt := 84) hx hb d_rput_75 (by decide) (fun c_3 => ?_) (fun c_3 => ?_)
  · replace Heq := (if_neg c_3).symm.trans Heq
    refine lv_iload hx hb d_rput_84 (lv_at hl 0 rfl) ?_
    refine lv_if_ge (tgt := 93) hx hb d_rput_86 (by decide) (fun c_4 => ?_) (fun c_4 => ?_)
    · replace Heq := (if_pos c_4).symm.trans Heq
      refine lv_aload_n hx hb d_rput_93 rfl (lv_at hl 1 rfl) ?_
      refine lv_iload_n hx hb d_rput_94 rfl (lv_at hl 2 rfl) ?_
      refine lv_iload_n hx hb d_rput_95 rfl (lv_at hl 3 rfl) ?_
      refine lv_iload_n hx hb d_rput_96 rfl (lv_at hl 4 rfl) ?_
      obtain ⟨o_5, h_6, Heq⟩ := ob_some Heq
      have hFc := fr_all hD hS hA
      refine va_calli (va_runV (As := [.int x1, .int x2, .int x3]) (rest := []) ⟨hx, hb, hml, hown, hts⟩ (g_rat l D H.size h_6) (cw_v 3 hts kw_1713 kw_1710 kw_1712 kp_46 kw_11 rfl rfl (by decide +kernel) ⟨Nat.le_of_ble_eq_true rfl, Nat.le_of_ble_eq_true rfl⟩) ⟨g_blind, va_recv hK hP (ci := 12) (q0 := 0) rfl rfl, fun U hU hW => g_pre hU hW hP hK hD⟩ rfl rfl hl.1 rfl (lv_room (Nat.le_of_ble_eq_true rfl)) d_rput_97 ⟨Nat.le_of_ble_eq_true rfl, Nat.le_of_ble_eq_true rfl⟩) hS (fun q _ h => hFc q h) hFc (fun rz u t H1 locs ht hvm hw hB hz1 hk1 hS => ?_)
      obtain ⟨hP, -, hD1⟩ := hB
      rw [ht] at hP
      have hD := hD1.weaken (fun _ q _ h => hFc q.1 h)
      generalize H1 = H at hP hS ⊢
      refine W.cs (cells' := 0) (slots' := 0) rfl rfl ?_
      subst hw
      exact w_rput_J100 hC Heq Kr _ _ _ hP hD hS (lv_sub hl [1, 2, 3, 5, 6] rfl)
    · replace Heq := (if_neg c_4).symm.trans Heq
      refine lv_iconst (v := (-1)) hx hb d_rput_89 (by decide) ?_
      refine lv_goto (tgt := 100) hx hb d_rput_90 (by decide) ?_
      exact w_rput_J100 hC Heq Kr _ _ _ hP hD hS (lv_sub hl [1, 2, 3, 5, 6] rfl)
  · replace Heq := (if_pos c_3).symm.trans Heq
    refine lv_aload_n hx hb d_rput_78 rfl (lv_at hl 1 rfl) ?_
    refine lv_iconst (v := 1) hx hb d_rput_79 (by decide) ?_
    obtain ⟨o_7, h_8, Heq⟩ := ob_some Heq
    have hFc := fr_all hD hS hA
    refine va_calli (va_runV (As := [.int 1]) (rest := []) ⟨hx, hb, hml, hown, hts⟩ (g_rno l D H.size h_8) (cw_v 1 hts kw_1626 kw_1623 kw_1625 kp_29 kw_11 rfl rfl (by decide +kernel) ⟨Nat.le_of_ble_eq_true rfl, Nat.le_of_ble_eq_true rfl⟩) ⟨g_blind, va_recv hK hP (ci := 12) (q0 := 0) rfl rfl, fun U hU hW => g_pre hU hW hP hK hD⟩ rfl rfl hl.1 rfl (lv_room (Nat.le_of_ble_eq_true rfl)) d_rput_80 ⟨Nat.le_of_ble_eq_true rfl, Nat.le_of_ble_eq_true rfl⟩) hS (fun q _ h => hFc q h) hFc (fun rz u t H1 locs ht hvm hw hB hz1 hk1 hS => ?_)
    obtain ⟨hP, -, hD1⟩ := hB
    rw [ht] at hP
    have hD := hD1.weaken (fun _ q _ h => hFc q.1 h)
    generalize H1 = H at hP hS ⊢
    refine W.cs (cells' := 0) (slots' := 0) rfl rfl ?_
    subst hw
    exact Kr _ (Option.some.inj Heq).symm 83 _ _ _ d_rput_83 hP hD hS
def m_rput_J38 (S : MS) (x1 : Int32) (x2 : Int32) (x3 : Int32) (x4 : Int32) (x5 : Int64) (t0 : Int32) (t1 : Int32) : Option (MS × Int32) := (if t1 = t0 then (if x4 = 4 then (if S.i 5 ≤ 1024 then m_rput_J63 S x1 x2 x3 x4 x5 else m_rput_J57 S) else m_rput_J63 S x1 x2 x3 x4 x5) else m_rput_J57 S)
theorem d_rput_47 : decode prog_14_method_31_code 47 = .ok (.aload_n 0, 1) := by decide +kernel
theorem d_rput_48 : decode prog_14_method_31_code 48 = .ok (.getfield 185, 3) := by decide +kernel
theorem d_rput_51 : decode prog_14_method_31_code 51 = .ok (.sipush 1024, 3) := by decide +kernel
theorem d_rput_54 : decode prog_14_method_31_code 54 = .ok (.if_icmp .le 9, 3) := by decide +kernel
set_option maxHeartbeats 4000000 in
set_option maxRecDepth 100000 in
theorem w_rput_J38 {p : Program} {l : Launch} {e : Env} {s : State} {m : MethodId} {args : Array Value} {below : List Frame} {meth : Method} {c : Code} {A : Nat → Prop} {D : va_G} {md : Nat → Nat} {mc : Nat → ClassId} {Q : State → Prop} (hC : MCx "JoinedTreesModel" prog_14_method_31_code 12 (some .int) p s m args meth c A D mc) {S : MS} {x1 : Int32} {x2 : Int32} {x3 : Int32} {x4 : Int32} {x5 : Int64} {t0 : Int32} {t1 : Int32} {o : MS × Int32} (Heq : m_rput_J38 S x1 x2 x3 x4 x5 t0 t1 = some o) (Kr : ∀ r : MS × Int32, o = r → ∀ (pc : Nat) (H : Heap) (locs : List Loc) (ls : Array Slot), decode prog_14_method_31_code pc = .ok (.ireturn, 1) → va_P D cls (mw md mc r.1) H → va_D A (mw md mc r.1) → va_S A s.heap H locs → W p l e ({ frames := 4, cells := 0, slots := 0, locals := 96 }) s m args below meth c H locs 0 0 Q (F0 m pc ls [.int r.2])) : ∀ (H : Heap) (locs : List Loc) (ls : Array Slot), va_P D cls (mw md mc S) H → va_D A (mw md mc S) → va_S A s.heap H locs → lv_has ls 12 [(0, .ref (md 100)), (1, .int x1), (2, .int x2), (3, .int x3), (4, .int x4), (5, .long x5)] → W p l e ({ frames := 4, cells := 0, slots := 0, locals := 96 }) s m args below meth c H locs 0 0 Q (F0 m 38 ls [.int t0, .int t1]) := by
  intro H locs ls hP hD hS hl
  obtain ⟨hx, hb, hr, hml, hown, hts, hK, hA⟩ := id hC
  unfold m_rput_J38 at Heq
  refine lv_icmp_ne (tgt := 57) hx hb d_rput_38 (by decide) (fun c_1 => ?_) (fun c_1 => ?_)
  · replace Heq := (if_neg c_1).symm.trans Heq
    exact w_rput_J57 hC Heq Kr _ _ _ hP hD hS (lv_sub hl [0] rfl)
  · replace Heq := (if_pos c_1).symm.trans Heq
    refine lv_iload hx hb d_rput_41 (lv_at hl 4 rfl) ?_
    refine lv_iconst (v := 4) hx hb d_rput_43 (by decide) ?_
    refine lv_icmp_ne (tgt := 63) hx hb d_rput_44 (by decide) (fun c_2 => ?_) (fun c_2 => ?_)
    · replace Heq := (if_neg c_2).symm.trans Heq
      exact w_rput_J63 hC Heq Kr _ _ _ hP hD hS (lv_sub hl [0, 1, 2, 3, 4, 5] rfl)
    · replace Heq := (if_pos c_2).symm.trans Heq
      refine lv_aload_n hx hb d_rput_47 rfl (lv_at hl 0 rfl) ?_
      refine va_get (D := D) (ci := 12) (v := .int (S.i 5)) (C := R_MM) (T := F_MM) (N := 77) hx hb hts i_MM hown hK hP 0 rfl rfl 5 (by decide) (hts _ kw_1387) (fun _ h9 => h9) rfl d_rput_48 ?_
      refine lv_sipush (v := 1024) hx hb d_rput_51 (by decide) ?_
      refine lv_icmp_le (tgt := 63) hx hb d_rput_54 (by decide) (fun c_3 => ?_) (fun c_3 => ?_)
      · replace Heq := (if_pos c_3).symm.trans Heq
        exact w_rput_J63 hC Heq Kr _ _ _ hP hD hS (lv_sub hl [0, 1, 2, 3, 4, 5] rfl)
      · replace Heq := (if_neg c_3).symm.trans Heq
        exact w_rput_J57 hC Heq Kr _ _ _ hP hD hS (lv_sub hl [0] rfl)
def m_rput_J0 (S : MS) (x1 : Int32) (x2 : Int32) (x3 : Int32) (x4 : Int32) (x5 : Int64) : Option (MS × Int32) := ob (m_rtaken S) (fun o_1 => ob (m_risReplica o_1.1 x1) (fun o_3 => (if o_3.2 = 0 then m_rput_J57 o_3.1 else (if x4 < 0 then m_rput_J57 o_3.1 else (if 8 < x4 then m_rput_J57 o_3.1 else (if x4 = 4 then m_rput_J38 o_3.1 x1 x2 x3 x4 x5 1 o_1.2 else m_rput_J38 o_3.1 x1 x2 x3 x4 x5 0 o_1.2))))))
theorem d_rput_33 : decode prog_14_method_31_code 33 = .ok (.iconst 1, 1) := by decide +kernel
theorem d_rput_34 : decode prog_14_method_31_code 34 = .ok (.goto 4, 3) := by decide +kernel
set_option maxHeartbeats 4000000 in
set_option maxRecDepth 100000 in
theorem w_rput_J0 {p : Program} {l : Launch} {e : Env} {s : State} {m : MethodId} {args : Array Value} {below : List Frame} {meth : Method} {c : Code} {A : Nat → Prop} {D : va_G} {md : Nat → Nat} {mc : Nat → ClassId} {Q : State → Prop} (hC : MCx "JoinedTreesModel" prog_14_method_31_code 12 (some .int) p s m args meth c A D mc) {S : MS} {x1 : Int32} {x2 : Int32} {x3 : Int32} {x4 : Int32} {x5 : Int64} {o : MS × Int32} (Heq : m_rput_J0 S x1 x2 x3 x4 x5 = some o) (Kr : ∀ r : MS × Int32, o = r → ∀ (pc : Nat) (H : Heap) (locs : List Loc) (ls : Array Slot), decode prog_14_method_31_code pc = .ok (.ireturn, 1) → va_P D cls (mw md mc r.1) H → va_D A (mw md mc r.1) → va_S A s.heap H locs → W p l e ({ frames := 4, cells := 0, slots := 0, locals := 96 }) s m args below meth c H locs 0 0 Q (F0 m pc ls [.int r.2])) : ∀ (H : Heap) (locs : List Loc) (ls : Array Slot), va_P D cls (mw md mc S) H → va_D A (mw md mc S) → va_S A s.heap H locs → lv_has ls 12 [(0, .ref (md 100)), (1, .int x1), (2, .int x2), (3, .int x3), (4, .int x4), (5, .long x5)] → W p l e ({ frames := 4, cells := 0, slots := 0, locals := 96 }) s m args below meth c H locs 0 0 Q (F0 m 0 ls []) := by
  intro H locs ls hP hD hS hl
  obtain ⟨hx, hb, hr, hml, hown, hts, hK, hA⟩ := id hC
  unfold m_rput_J0 at Heq
  refine lv_aload_n hx hb d_rput_0 rfl (lv_at hl 0 rfl) ?_
  obtain ⟨o_1, h_2, Heq⟩ := ob_some Heq
  have hFc := fr_all hD hS hA
  refine va_calli (va_runV (As := []) (rest := []) ⟨hx, hb, hml, hown, hts⟩ (g_rtaken l D H.size h_2) (cw_v 0 hts kw_1638 kw_1635 kw_1637 kp_30 kw_11 rfl rfl (by decide +kernel) ⟨Nat.le_of_ble_eq_true rfl, Nat.le_of_ble_eq_true rfl⟩) ⟨g_blind, va_recv hK hP (ci := 12) (q0 := 0) rfl rfl, fun U hU hW => g_pre hU hW hP hK hD⟩ rfl rfl hl.1 rfl (lv_room (Nat.le_of_ble_eq_true rfl)) d_rput_1 ⟨Nat.le_of_ble_eq_true rfl, Nat.le_of_ble_eq_true rfl⟩) hS (fun q _ h => hFc q h) hFc (fun rz u t H1 locs ht hvm hw hB hz1 hk1 hS => ?_)
  obtain ⟨hP, -, hD1⟩ := hB
  rw [ht] at hP
  have hD := hD1.weaken (fun _ q _ h => hFc q.1 h)
  generalize H1 = H at hP hS ⊢
  refine W.cs (cells' := 0) (slots' := 0) rfl rfl ?_
  subst hw
  refine lv_istore (lv' := [(7, .int o_1.2), (0, .ref (md 100)), (1, .int x1), (2, .int x2), (3, .int x3), (4, .int x4), (5, .long x5)]) hx hb d_rput_4 hl (by decide) rfl (fun ls hl => ?_)
  refine lv_iload_n hx hb d_rput_6 rfl (lv_at hl 2 rfl) ?_
  obtain ⟨o_3, h_4, Heq⟩ := ob_some Heq
  have hFc := fr_all hD hS hA
  refine va_calli (va_runS (As := [.int x1]) (rest := []) ⟨hx, hb, hml, hown, hts⟩ (g_risReplica l D H.size h_4) (cw_s 1 hts kw_1641 kw_1639 kw_1640 kw_11 rfl rfl (by decide +kernel) ⟨Nat.le_of_ble_eq_true rfl, Nat.le_of_ble_eq_true rfl⟩) ⟨g_blind, fun U hU hW => g_pre hU hW hP hK hD⟩ rfl rfl hl.1 rfl (lv_room (Nat.le_of_ble_eq_true rfl)) d_rput_7 ⟨Nat.le_of_ble_eq_true rfl, Nat.le_of_ble_eq_true rfl⟩) hS (fun q _ h => hFc q h) hFc (fun rz u t H1 locs ht hvm hw hB hz1 hk1 hS => ?_)
  obtain ⟨hP, -, hD1⟩ := hB
  rw [ht] at hP
  have hD := hD1.weaken (fun _ q _ h => hFc q.1 h)
  generalize H1 = H at hP hS ⊢
  refine W.cs (cells' := 0) (slots' := 0) rfl rfl ?_
  subst hw
  refine lv_if_eq (tgt := 57) hx hb d_rput_10 (by decide) (fun c_5 => ?_) (fun c_5 => ?_)
  · replace Heq := (if_pos c_5).symm.trans Heq
    exact w_rput_J57 hC Heq Kr _ _ _ hP hD hS (lv_sub hl [1] rfl)
  · replace Heq := (if_neg c_5).symm.trans Heq
    refine lv_iload hx hb d_rput_13 (lv_at hl 5 rfl) ?_
    refine lv_if_lt (tgt := 57) hx hb d_rput_15 (by decide) (fun c_6 => ?_) (fun c_6 => ?_)
    · replace Heq := (if_pos c_6).symm.trans Heq
      exact w_rput_J57 hC Heq Kr _ _ _ hP hD hS (lv_sub hl [1] rfl)
    · replace Heq := (if_neg c_6).symm.trans Heq
      refine lv_iload hx hb d_rput_18 (lv_at hl 5 rfl) ?_
      refine lv_bipush (v := 8) hx hb d_rput_20 (by decide) ?_
      refine lv_icmp_gt (tgt := 57) hx hb d_rput_22 (by decide) (fun c_7 => ?_) (fun c_7 => ?_)
      · replace Heq := (if_pos c_7).symm.trans Heq
        exact w_rput_J57 hC Heq Kr _ _ _ hP hD hS (lv_sub hl [1] rfl)
      · replace Heq := (if_neg c_7).symm.trans Heq
        refine lv_iload hx hb d_rput_25 (lv_at hl 0 rfl) ?_
        refine lv_iload hx hb d_rput_27 (lv_at hl 5 rfl) ?_
        refine lv_iconst (v := 4) hx hb d_rput_29 (by decide) ?_
        refine lv_icmp_ne (tgt := 37) hx hb d_rput_30 (by decide) (fun c_8 => ?_) (fun c_8 => ?_)
        · replace Heq := (if_neg c_8).symm.trans Heq
          refine lv_iconst (v := 0) hx hb d_rput_37 (by decide) ?_
          exact w_rput_J38 hC Heq Kr _ _ _ hP hD hS (lv_sub hl [1, 2, 3, 4, 5, 6] rfl)
        · replace Heq := (if_pos c_8).symm.trans Heq
          refine lv_iconst (v := 1) hx hb d_rput_33 (by decide) ?_
          refine lv_goto (tgt := 38) hx hb d_rput_34 (by decide) ?_
          exact w_rput_J38 hC Heq Kr _ _ _ hP hD hS (lv_sub hl [1, 2, 3, 4, 5, 6] rfl)
def m_rput (S : MS) (x1 : Int32) (x2 : Int32) (x3 : Int32) (x4 : Int32) (x5 : Int64) : Option (MS × Int32) := m_rput_J0 S x1 x2 x3 x4 x5
theorem g_rput (l : Launch) (D : va_G) (sz : Nat) {md : Nat → Nat} {mc : Nat → ClassId} {S : MS} {x1 : Int32} {x2 : Int32} {x3 : Int32} {x4 : Int32} {x5 : Int64} {o : MS × Int32} (Heq : m_rput S x1 x2 x3 x4 x5 = some o) : Met l ⟨"JoinedTreesModel", "put", "(IIIIJ)I"⟩ (Cond.code ⟨"JoinedTreesModel", "put", "(IIIIJ)I"⟩ prog_14_method_31_code 12 (some .int) :: gb) ({ frames := 4, cells := 0, slots := 0, locals := 96 }) (gPc D (mw md mc S) (mty mc) sz [.ref (md 100), .int x1, .int x2, .int x3, .int x4, .long x5]) (va_Qi (fun (r : Int32) (_ : Unit) => r = o.2) (fun _ t => gO D (mw md mc o.1) (mty mc) (va_A (mw md mc S) sz) t) (va_A (mw md mc S) sz)) 0 0 (va_A (mw md mc S) sz) := by
  refine Met.ofW (cc := prog_14_method_31_code) (maxL := 12) (ret := (some .int)) (by decide) rfl ?_
  intro p e s m args below meth c s₁ B hml hv
  obtain ⟨rfl, hsz, hP, hK, hD0⟩ := hv
  have hx := B.exec
  have hb := B.bytes
  have hr := B.returns
  have hts : ∀ w9 ∈ gb, w9.before [.ref (md 100), .int x1, .int x2, .int x3, .int x4, .long x5].toArray s = true := fun w9 h => atoms_spec (ws := Cond.code ⟨"JoinedTreesModel", "put", "(IIIIJ)I"⟩ prog_14_method_31_code 12 (some .int) :: gb) B.pre w9 (List.mem_cons_of_mem _ h)
  have hown : s.vm.findClass "JoinedTreesModel" = some m.cls := findClass_of_methodNamed B.named
  have hlocks := B.notSynchronized
  subst hsz
  have hD := hD0.self (sz := s.heap.size)
  generalize hAe : va_A (mw md mc S) s.heap.size = A at hD ⊢
  have hA : ∀ q : Nat, s.heap.size ≤ q → A q := fun q h => by rw [← hAe]; exact Or.inr h
  have hS : va_S A s.heap s.heap [] := va_S.rf
  have hl := lv_entry ([.ref (md 100), .int x1, .int x2, .int x3, .int x4, .long x5]) (n := 12) (Nat.le_of_ble_eq_true rfl)
  rw [lg_entry_eq]
  generalize (lg_sl ([.ref (md 100), .int x1, .int x2, .int x3, .int x4, .long x5]) ++ List.replicate (12 - (lg_sl ([.ref (md 100), .int x1, .int x2, .int x3, .int x4, .long x5])).length) Slot.unset).toArray = ls at hl ⊢
  have hl : lv_has ls 12 [(0, .ref (md 100)), (1, .int x1), (2, .int x2), (3, .int x3), (4, .int x4), (5, .long x5)] := hl
  refine w_rput_J0 ⟨hx, hb, hr, hml, hown, hts, hK, hA⟩ Heq (fun r h pc H locs ls hd hP hD hS => ?_) _ _ _ hP hD hS (lv_sub hl [0, 1, 2, 3, 4, 5] rfl)
  subst h
  exact W.iret hx hb hr (fun t ht hW => ⟨⟨_, (), rfl, rfl, by rw [ht]; exact hP, va_K.moved hW.alike hK, hD⟩, hS.F ht⟩) hS.2.2 hd
