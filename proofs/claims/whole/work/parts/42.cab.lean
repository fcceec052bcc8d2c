def m_cJT_stringLength_J13 (N : Nat → Nat) (S : CS) (t0 : Int32) : Option (CS × Int32) := some (S, t0)
theorem d_cJT_stringLength_0 : decode prog_1_method_40_code 0 = .ok (.iload_n 0, 1) := by decide +kernel
theorem d_cJT_stringLength_1 : decode prog_1_method_40_code 1 = .ok (.iconst 4, 1) := by decide +kernel
theorem d_cJT_stringLength_2 : decode prog_1_method_40_code 2 = .ok (.if_icmp .ne 10, 3) := by decide +kernel
theorem d_cJT_stringLength_12 : decode prog_1_method_40_code 12 = .ok (.iconst 0, 1) := by decide +kernel
theorem d_cJT_stringLength_13 : decode prog_1_method_40_code 13 = .ok (.ireturn, 1) := by decide +kernel
set_option maxHeartbeats 4000000 in
set_option maxRecDepth 100000 in
theorem w_cJT_stringLength_J13 {p : Program} {l : Launch} {e : Env} {s : State} {m : MethodId} {args : Array Value} {below : List Frame} {meth : Method} {c : Code} {A : Nat → Prop} {D : va_G} {ad : Nat → Nat → Nat} {cc : Nat → ClassId} {sad sav : Nat → Nat} {Q : State → Prop} (hC : MCc sad sav "JoinedTrees" prog_1_method_40_code 2 (some .int) p s m args meth c A D cc) {N : Nat → Nat} {S : CS} {t0 : Int32} {o : CS × Int32} (Heq : m_cJT_stringLength_J13 N S t0 = some o) (Kr : ∀ r : CS × Int32, o = r → ∀ (pc : Nat) (H : Heap) (locs : List Loc) (ls : Array Slot), decode prog_1_method_40_code pc = .ok (.ireturn, 1) → va_P D cls (cw ad cc N r.1) H → va_D A (cw ad cc N r.1) → va_S A s.heap H locs → W p l e ({ frames := 0, cells := 0, slots := 0, locals := 0 }) s m args below meth c H locs 0 0 Q (F0 m pc ls [.int r.2])) : ∀ (H : Heap) (locs : List Loc) (ls : Array Slot), va_P D cls (cw ad cc N S) H → va_D A (cw ad cc N S) → va_S A s.heap H locs → lv_has ls 2 [] → W p l e ({ frames := 0, cells := 0, slots := 0, locals := 0 }) s m args below meth c H locs 0 0 Q (F0 m 13 ls [.int t0]) := by
  intro H locs ls hP hD hS hl
  obtain ⟨hx, hb, hr, hml, hown, hts, hK, hA, hev, hE, hN, hNS⟩ := id hC
  unfold m_cJT_stringLength_J13 at Heq
  exact Kr _ (Option.some.inj Heq).symm 13 _ _ _ d_cJT_stringLength_13 hP hD hS
def m_cJT_stringLength_J0 (N : Nat → Nat) (S : CS) (x0 : Int32) (x1 : Nat) : Option (CS × Int32) := (if x0 = 4 then gl x1 (N 5) (m_cJT_stringLength_J13 N S (S.i 5 1 x1)) else m_cJT_stringLength_J13 N S 0)
theorem d_cJT_stringLength_5 : decode prog_1_method_40_code 5 = .ok (.aload_n 1, 1) := by decide +kernel
theorem d_cJT_stringLength_6 : decode prog_1_method_40_code 6 = .ok (.getfield 80, 3) := by decide +kernel
theorem d_cJT_stringLength_9 : decode prog_1_method_40_code 9 = .ok (.goto 4, 3) := by decide +kernel
set_option maxHeartbeats 4000000 in
set_option maxRecDepth 100000 in
theorem w_cJT_stringLength_J0 {p : Program} {l : Launch} {e : Env} {s : State} {m : MethodId} {args : Array Value} {below : List Frame} {meth : Method} {c : Code} {A : Nat → Prop} {D : va_G} {ad : Nat → Nat → Nat} {cc : Nat → ClassId} {sad sav : Nat → Nat} {Q : State → Prop} (hC : MCc sad sav "JoinedTrees" prog_1_method_40_code 2 (some .int) p s m args meth c A D cc) {N : Nat → Nat} {S : CS} {x0 : Int32} {x1 : Nat} {o : CS × Int32} (Heq : m_cJT_stringLength_J0 N S x0 x1 = some o) (Kr : ∀ r : CS × Int32, o = r → ∀ (pc : Nat) (H : Heap) (locs : List Loc) (ls : Array Slot), decode prog_1_method_40_code pc = .ok (.ireturn, 1) → va_P D cls (cw ad cc N r.1) H → va_D A (cw ad cc N r.1) → va_S A s.heap H locs → W p l e ({ frames := 0, cells := 0, slots := 0, locals := 0 }) s m args below meth c H locs 0 0 Q (F0 m pc ls [.int r.2])) : ∀ (H : Heap) (locs : List Loc) (ls : Array Slot), va_P D cls (cw ad cc N S) H → va_D A (cw ad cc N S) → va_S A s.heap H locs → lv_has ls 2 [(0, .int x0), (1, .ref (ad 5 x1))] → W p l e ({ frames := 0, cells := 0, slots := 0, locals := 0 }) s m args below meth c H locs 0 0 Q (F0 m 0 ls []) := by
  intro H locs ls hP hD hS hl
  obtain ⟨hx, hb, hr, hml, hown, hts, hK, hA, hev, hE, hN, hNS⟩ := id hC
  unfold m_cJT_stringLength_J0 at Heq
  refine lv_iload_n hx hb d_cJT_stringLength_0 rfl (lv_at hl 0 rfl) ?_
  refine lv_iconst (v := 4) hx hb d_cJT_stringLength_1 (by decide) ?_
  refine lv_icmp_ne (tgt := 12) hx hb d_cJT_stringLength_2 (by decide) (fun c_1 => ?_) (fun c_1 => ?_)
  · replace Heq := (if_neg c_1).symm.trans Heq
    refine lv_iconst (v := 0) hx hb d_cJT_stringLength_12 (by decide) ?_
    exact w_cJT_stringLength_J13 hC Heq Kr _ _ _ hP hD hS (lv_sub hl [] rfl)
  · replace Heq := (if_pos c_1).symm.trans Heq
    refine lv_aload_n hx hb d_cJT_stringLength_5 rfl (lv_at hl 1 rfl) ?_
    obtain ⟨hl_x1_5, Heq⟩ := gl_some Heq
    refine va_get (D := D) (ci := 5) (v := .int (S.i 5 1 x1)) (C := R_Rw) (T := F_Rw) (N := 3) hx hb hts i_Rw hown hK hP (cPos N 5 x1) (cw_obj (k := 5) (by decide) hl_x1_5) rfl 1 (by decide) (hts _ kw_143) (fun _ h9 => h9) rfl d_cJT_stringLength_6 ?_
    refine lv_goto (tgt := 13) hx hb d_cJT_stringLength_9 (by decide) ?_
    exact w_cJT_stringLength_J13 hC Heq Kr _ _ _ hP hD hS (lv_sub hl [] rfl)
def m_cJT_stringLength (N : Nat → Nat) (S : CS) (x0 : Int32) (x1 : Nat) : Option (CS × Int32) := m_cJT_stringLength_J0 N S x0 x1
set_option maxHeartbeats 4000000 in
theorem g_cJT_stringLength (l : Launch) (D : va_G) (sz : Nat) {ad : Nat → Nat → Nat} {cc : Nat → ClassId} {sad sav : Nat → Nat} {N : Nat → Nat} {S : CS} {x0 : Int32} {x1 : Nat} {o : CS × Int32} (Heq : m_cJT_stringLength N S x0 x1 = some o) : Met l ⟨"JoinedTrees", "stringLength", "(ILJoinedTrees$Row;)I"⟩ (Cond.code ⟨"JoinedTrees", "stringLength", "(ILJoinedTrees$Row;)I"⟩ prog_1_method_40_code 2 (some .int) :: gb) ({ frames := 0, cells := 0, slots := 0, locals := 0 }) (cPc sad sav D (cw ad cc N S) (cty cc) sz [.int x0, .ref (ad 5 x1)]) (va_Qi (fun (r : Int32) (_ : Unit) => r = o.2) (fun _ t => gO D (cw ad cc N o.1) (cty cc) (va_A (cw ad cc N S) sz) t) (va_A (cw ad cc N S) sz)) 0 0 (va_A (cw ad cc N S) sz) := by
  refine Met.ofW (cc := prog_1_method_40_code) (maxL := 2) (ret := (some .int)) (by decide) rfl ?_
  intro p e s m args below meth c s₁ B hml hv
  obtain ⟨rfl, hsz, hP, hK, hD0, hev, hE, hN⟩ := hv
  have hx := B.exec
  have hb := B.bytes
  have hr := B.returns
  have hts : ∀ w9 ∈ gb, w9.before [.int x0, .ref (ad 5 x1)].toArray s = true := fun w9 h => atoms_spec (ws := Cond.code ⟨"JoinedTrees", "stringLength", "(ILJoinedTrees$Row;)I"⟩ prog_1_method_40_code 2 (some .int) :: gb) B.pre w9 (List.mem_cons_of_mem _ h)
  have hown : s.vm.findClass "JoinedTrees" = some m.cls := findClass_of_methodNamed B.named
  have hlocks := B.notSynchronized
  have hNS := ns_of hP
  subst hsz
  have hD := hD0.self (sz := s.heap.size)
  generalize hAe : va_A (cw ad cc N S) s.heap.size = A at hD hev hE hNS ⊢
  have hA : ∀ q : Nat, s.heap.size ≤ q → A q := fun q h => by rw [← hAe]; exact Or.inr h
  have hS : va_S A s.heap s.heap [] := va_S.rf
  obtain ⟨ls, hl, hle⟩ : ∃ ls : Array Slot, lv_has ls 2 [(0, .int x0), (1, .ref (ad 5 x1))] ∧ entryFrame m ([.int x0, .ref (ad 5 x1)] : List Value).toArray 2 = F0 m 0 ls [] := by
    exact ⟨_, lv_entry (n := 2) _ (Nat.le_of_ble_eq_true rfl), lg_entry_eq ..⟩
  rw [hle]
  refine w_cJT_stringLength_J0 ⟨hx, hb, hr, hml, hown, hts, hK, hA, hev, hE, hN, hNS⟩ Heq (fun r h pc H locs ls hd hP hD hS => ?_) _ _ _ hP hD hS (lv_sub hl [0, 1] rfl)
  subst h
  exact W.iret hx hb hr (fun t ht hW => ⟨⟨_, (), rfl, rfl, by rw [ht]; exact hP, va_K.moved hW.alike hK, hD⟩, hS.F ht⟩) hS.2.2 hd
def m_cRw_at_J26 (N : Nat → Nat) (x0 : Nat) (S : CS) (t0 : Int32) : Option (CS × Int32) := some (S, t0)
theorem d_cRw_at_0 : decode prog_7_method_6_code 0 = .ok (.iload_n 1, 1) := by decide +kernel
theorem d_cRw_at_1 : decode prog_7_method_6_code 1 = .ok (.ifCond .lt 11, 3) := by decide +kernel
theorem d_cRw_at_12 : decode prog_7_method_6_code 12 = .ok (.iconst (-1), 1) := by decide +kernel
theorem d_cRw_at_13 : decode prog_7_method_6_code 13 = .ok (.goto 13, 3) := by decide +kernel
theorem d_cRw_at_26 : decode prog_7_method_6_code 26 = .ok (.ireturn, 1) := by decide +kernel
set_option maxHeartbeats 4000000 in
set_option maxRecDepth 100000 in
theorem w_cRw_at_J26 {p : Program} {l : Launch} {e : Env} {s : State} {m : MethodId} {args : Array Value} {below : List Frame} {meth : Method} {c : Code} {A : Nat → Prop} {D : va_G} {ad : Nat → Nat → Nat} {cc : Nat → ClassId} {sad sav : Nat → Nat} {Q : State → Prop} (hC : MCc sad sav "JoinedTrees$Row" prog_7_method_6_code 2 (some .int) p s m args meth c A D cc) {N : Nat → Nat} {x0 : Nat} {S : CS} {t0 : Int32} {o : CS × Int32} (Heq : m_cRw_at_J26 N x0 S t0 = some o) (Kr : ∀ r : CS × Int32, o = r → ∀ (pc : Nat) (H : Heap) (locs : List Loc) (ls : Array Slot), decode prog_7_method_6_code pc = .ok (.ireturn, 1) → va_P D cls (cw ad cc N r.1) H → va_D A (cw ad cc N r.1) → va_S A s.heap H locs → W p l e ({ frames := 0, cells := 0, slots := 0, locals := 0 }) s m args below meth c H locs 0 0 Q (F0 m pc ls [.int r.2])) : ∀ (H : Heap) (locs : List Loc) (ls : Array Slot), va_P D cls (cw ad cc N S) H → va_D A (cw ad cc N S) → va_S A s.heap H locs → lv_has ls 2 [(0, .ref (ad 5 x0))] → W p l e ({ frames := 0, cells := 0, slots := 0, locals := 0 }) s m args below meth c H locs 0 0 Q (F0 m 26 ls [.int t0]) := by
  intro H locs ls hP hD hS hl
  obtain ⟨hx, hb, hr, hml, hown, hts, hK, hA, hev, hE, hN, hNS⟩ := id hC
  unfold m_cRw_at_J26 at Heq
  exact Kr _ (Option.some.inj Heq).symm 26 _ _ _ d_cRw_at_26 hP hD hS
def m_cRw_at_J12 (N : Nat → Nat) (x0 : Nat) (S : CS) : Option (CS × Int32) := m_cRw_at_J26 N x0 S (-1)
set_option maxHeartbeats 4000000 in
set_option maxRecDepth 100000 in
theorem w_cRw_at_J12 {p : Program} {l : Launch} {e : Env} {s : State} {m : MethodId} {args : Array Value} {below : List Frame} {meth : Method} {c : Code} {A : Nat → Prop} {D : va_G} {ad : Nat → Nat → Nat} {cc : Nat → ClassId} {sad sav : Nat → Nat} {Q : State → Prop} (hC : MCc sad sav "JoinedTrees$Row" prog_7_method_6_code 2 (some .int) p s m args meth c A D cc) {N : Nat → Nat} {x0 : Nat} {S : CS} {o : CS × Int32} (Heq : m_cRw_at_J12 N x0 S = some o) (Kr : ∀ r : CS × Int32, o = r → ∀ (pc : Nat) (H : Heap) (locs : List Loc) (ls : Array Slot), decode prog_7_method_6_code pc = .ok (.ireturn, 1) → va_P D cls (cw ad cc N r.1) H → va_D A (cw ad cc N r.1) → va_S A s.heap H locs → W p l e ({ frames := 0, cells := 0, slots := 0, locals := 0 }) s m args below meth c H locs 0 0 Q (F0 m pc ls [.int r.2])) : ∀ (H : Heap) (locs : List Loc) (ls : Array Slot), va_P D cls (cw ad cc N S) H → va_D A (cw ad cc N S) → va_S A s.heap H locs → lv_has ls 2 [(0, .ref (ad 5 x0))] → W p l e ({ frames := 0, cells := 0, slots := 0, locals := 0 }) s m args below meth c H locs 0 0 Q (F0 m 12 ls []) := by
  intro H locs ls hP hD hS hl
  obtain ⟨hx, hb, hr, hml, hown, hts, hK, hA, hev, hE, hN, hNS⟩ := id hC
  unfold m_cRw_at_J12 at Heq
  refine lv_iconst (v := (-1)) hx hb d_cRw_at_12 (by decide) ?_
  refine lv_goto (tgt := 26) hx hb d_cRw_at_13 (by decide) ?_
  exact w_cRw_at_J26 hC Heq Kr _ _ _ hP hD hS (lv_sub hl [0] rfl)
def m_cRw_at_J0 (N : Nat → Nat) (x0 : Nat) (S : CS) (x1 : Int32) : Option (CS × Int32) := (if x1 < 0 then m_cRw_at_J12 N x0 S else gl x0 (N 5) ((if x1 < S.i 5 1 x0 then gn (S.r 5 0 x0) (N 13) (fun j_3 => gd x1 (S.z 13 j_3) (m_cRw_at_J26 N x0 S ((S.a 13 j_3 x1.toNatClampNeg) &&& 255))) else m_cRw_at_J12 N x0 S)))
theorem d_cRw_at_4 : decode prog_7_method_6_code 4 = .ok (.iload_n 1, 1) := by decide +kernel
theorem d_cRw_at_5 : decode prog_7_method_6_code 5 = .ok (.aload_n 0, 1) := by decide +kernel
theorem d_cRw_at_6 : decode prog_7_method_6_code 6 = .ok (.getfield 13, 3) := by decide +kernel
theorem d_cRw_at_9 : decode prog_7_method_6_code 9 = .ok (.if_icmp .lt 7, 3) := by decide +kernel
theorem d_cRw_at_16 : decode prog_7_method_6_code 16 = .ok (.aload_n 0, 1) := by decide +kernel
theorem d_cRw_at_17 : decode prog_7_method_6_code 17 = .ok (.getfield 7, 3) := by decide +kernel
theorem d_cRw_at_20 : decode prog_7_method_6_code 20 = .ok (.iload_n 1, 1) := by decide +kernel
theorem d_cRw_at_21 : decode prog_7_method_6_code 21 = .ok (.baload, 1) := by decide +kernel
theorem d_cRw_at_22 : decode prog_7_method_6_code 22 = .ok (.sipush 255, 3) := by decide +kernel
theorem d_cRw_at_25 : decode prog_7_method_6_code 25 = .ok (.iand, 1) := by decide +kernel
set_option maxHeartbeats 4000000 in
set_option maxRecDepth 100000 in
theorem w_cRw_at_J0 {p : Program} {l : Launch} {e : Env} {s : State} {m : MethodId} {args : Array Value} {below : List Frame} {meth : Method} {c : Code} {A : Nat → Prop} {D : va_G} {ad : Nat → Nat → Nat} {cc : Nat → ClassId} {sad sav : Nat → Nat} {Q : State → Prop} (hC : MCc sad sav "JoinedTrees$Row" prog_7_method_6_code 2 (some .int) p s m args meth c A D cc) {N : Nat → Nat} {x0 : Nat} {S : CS} {x1 : Int32} {o : CS × Int32} (Heq : m_cRw_at_J0 N x0 S x1 = some o) (Kr : ∀ r : CS × Int32, o = r → ∀ (pc : Nat) (H : Heap) (locs : List Loc) (ls : Array Slot), decode prog_7_method_6_code pc = .ok (.ireturn, 1) → va_P D cls (cw ad cc N r.1) H → va_D A (cw ad cc N r.1) → va_S A s.heap H locs → W p l e ({ frames := 0, cells := 0, slots := 0, locals := 0 }) s m args below meth c H locs 0 0 Q (F0 m pc ls [.int r.2])) : ∀ (H : Heap) (locs : List Loc) (ls : Array Slot), va_P D cls (cw ad cc N S) H → va_D A (cw ad cc N S) → va_S A s.heap H locs → lv_has ls 2 [(0, .ref (ad 5 x0)), (1, .int x1)] → W p l e ({ frames := 0, cells := 0, slots := 0, locals := 0 }) s m args below meth c H locs 0 0 Q (F0 m 0 ls []) := by
  intro H locs ls hP hD hS hl
  obtain ⟨hx, hb, hr, hml, hown, hts, hK, hA, hev, hE, hN, hNS⟩ := id hC
  unfold m_cRw_at_J0 at Heq
  refine lv_iload_n hx hb d_cRw_at_0 rfl (lv_at hl 1 rfl) ?_
  refine lv_if_lt (tgt := 12) hx hb d_cRw_at_1 (by decide) (fun c_1 => ?_) (fun c_1 => ?_)
  · replace Heq := (if_pos c_1).symm.trans Heq
    exact w_cRw_at_J12 hC Heq Kr _ _ _ hP hD hS (lv_sub hl [0] rfl)
  · replace Heq := (if_neg c_1).symm.trans Heq
    refine lv_iload_n hx hb d_cRw_at_4 rfl (lv_at hl 1 rfl) ?_
    refine lv_aload_n hx hb d_cRw_at_5 rfl (lv_at hl 0 rfl) ?_
    obtain ⟨hl_x0_5, Heq⟩ := gl_some Heq
    refine va_get (D := D) (ci := 5) (v := .int (S.i 5 1 x0)) (C := R_Rw) (T := F_Rw) (N := 3) hx hb hts i_Rw hown hK hP (cPos N 5 x0) (cw_obj (k := 5) (by decide) hl_x0_5) rfl 1 (by decide) (hts _ kw_142) (fun _ h9 => h9) rfl d_cRw_at_6 ?_
    refine lv_icmp_lt (tgt := 16) hx hb d_cRw_at_9 (by decide) (fun c_2 => ?_) (fun c_2 => ?_)
    · replace Heq := (if_pos c_2).symm.trans Heq
      refine lv_aload_n hx hb d_cRw_at_16 rfl (lv_at hl 0 rfl) ?_
      refine va_get (D := D) (ci := 5) (v := rv ad 13 (S.r 5 0 x0)) (C := R_Rw) (T := F_Rw) (N := 3) hx hb hts i_Rw hown hK hP (cPos N 5 x0) (cw_obj (k := 5) (by decide) hl_x0_5) rfl 0 (by decide) (hts _ kw_140) (fun _ h9 => h9) rfl d_cRw_at_17 ?_
      refine lv_iload_n hx hb d_cRw_at_20 rfl (lv_at hl 1 rfl) ?_
      obtain ⟨j_3, hj_4, hl_5, Heq⟩ := gn_some Heq
      refine w_s (st' := [.int x1, .ref (ad 13 j_3)]) (congrArg (fun z9 : Option Nat => [.int x1, rv ad 13 z9]) hj_4) ?_
      obtain ⟨hi_6, Heq⟩ := gd_some Heq
      refine va_bald hx hb hK hP (cPos N 13 j_3) 1 (cw_arr (k := 13) (by decide) hl_5) rfl (i := x1) hi_6 d_cRw_at_21 ?_
      refine w_i (y := S.a 13 j_3 x1.toNatClampNeg) rfl ?_
      refine lv_sipush (v := 255) hx hb d_cRw_at_22 (by decide) ?_
      refine lv_iand hx hb d_cRw_at_25 ?_
      refine w_i (y := (S.a 13 j_3 x1.toNatClampNeg) &&& 255) rfl ?_
      exact w_cRw_at_J26 hC Heq Kr _ _ _ hP hD hS (lv_sub hl [0] rfl)
    · replace Heq := (if_neg c_2).symm.trans Heq
      exact w_cRw_at_J12 hC Heq Kr _ _ _ hP hD hS (lv_sub hl [0] rfl)
def m_cRw_at (N : Nat → Nat) (x0 : Nat) (S : CS) (x1 : Int32) : Option (CS × Int32) := m_cRw_at_J0 N x0 S x1
set_option maxHeartbeats 4000000 in
theorem g_cRw_at (l : Launch) (D : va_G) (sz : Nat) {ad : Nat → Nat → Nat} {cc : Nat → ClassId} {sad sav : Nat → Nat} {N : Nat → Nat} {x0 : Nat} {S : CS} {x1 : Int32} {o : CS × Int32} (Heq : m_cRw_at N x0 S x1 = some o) : Met l ⟨"JoinedTrees$Row", "at", "(I)I"⟩ (Cond.code ⟨"JoinedTrees$Row", "at", "(I)I"⟩ prog_7_method_6_code 2 (some .int) :: gb) ({ frames := 0, cells := 0, slots := 0, locals := 0 }) (cPc sad sav D (cw ad cc N S) (cty cc) sz [.ref (ad 5 x0), .int x1]) (va_Qi (fun (r : Int32) (_ : Unit) => r = o.2) (fun _ t => gO D (cw ad cc N o.1) (cty cc) (va_A (cw ad cc N S) sz) t) (va_A (cw ad cc N S) sz)) 0 0 (va_A (cw ad cc N S) sz) := by
  refine Met.ofW (cc := prog_7_method_6_code) (maxL := 2) (ret := (some .int)) (by decide) rfl ?_
  intro p e s m args below meth c s₁ B hml hv
  obtain ⟨rfl, hsz, hP, hK, hD0, hev, hE, hN⟩ := hv
  have hx := B.exec
  have hb := B.bytes
  have hr := B.returns
  have hts : ∀ w9 ∈ gb, w9.before [.ref (ad 5 x0), .int x1].toArray s = true := fun w9 h => atoms_spec (ws := Cond.code ⟨"JoinedTrees$Row", "at", "(I)I"⟩ prog_7_method_6_code 2 (some .int) :: gb) B.pre w9 (List.mem_cons_of_mem _ h)
  have hown : s.vm.findClass "JoinedTrees$Row" = some m.cls := findClass_of_methodNamed B.named
  have hlocks := B.notSynchronized
  have hNS := ns_of hP
  subst hsz
  have hD := hD0.self (sz := s.heap.size)
  generalize hAe : va_A (cw ad cc N S) s.heap.size = A at hD hev hE hNS ⊢
  have hA : ∀ q : Nat, s.heap.size ≤ q → A q := fun q h => by rw [← hAe]; exact Or.inr h
  have hS : va_S A s.heap s.heap [] := va_S.rf
  obtain ⟨ls, hl, hle⟩ : ∃ ls : Array Slot, lv_has ls 2 [(0, .ref (ad 5 x0)), (1, .int x1)] ∧ entryFrame m ([.ref (ad 5 x0), .int x1] : List Value).toArray 2 = F0 m 0 ls [] := by
    exact ⟨_, lv_entry (n := 2) _ (Nat.le_of_ble_eq_true rfl), lg_entry_eq ..⟩
  rw [hle]
  refine w_cRw_at_J0 ⟨hx, hb, hr, hml, hown, hts, hK, hA, hev, hE, hN, hNS⟩ Heq (fun r h pc H locs ls hd hP hD hS => ?_) _ _ _ hP hD hS (lv_sub hl [0, 1] rfl)
  subst h
  exact W.iret hx hb hr (fun t ht hW => ⟨⟨_, (), rfl, rfl, by rw [ht]; exact hP, va_K.moved hW.alike hK, hD⟩, hS.F ht⟩) hS.2.2 hd
def m_cRw_compareWith_B3 (N : Nat → Nat) (x0 : Nat) (S : CS) (x1 : Int32) (x2 : Int32) (x3 : Option Nat) (x4 : Int32) (x5 : Int32) (x6 : Int32) : Option ((CS × Int32 × Int32 × Option Nat × Int32 × Int32 × Int32) ⊕ ((CS × Int32 × Int32) ⊕ (CS × Int32))) := (if x2 ≤ x6 then some (.inr (.inl (S, x2, x5))) else (if x5 ≤ x6 then some (.inr (.inl (S, x2, x5))) else gl x0 (N 5) (ob (m_cRw_at N x0 S (x1 + x6)) (fun o_3 => gn x3 (N 5) (fun j_5 => ob (m_cRw_at N j_5 o_3.1 (x4 + x6)) (fun o_8 => (if o_3.2 - o_8.2 = 0 then some (.inl (o_8.1, x1, x2, x3, x4, x5, (x6 + 1))) else some (.inr (.inr (o_8.1, o_3.2 - o_8.2))))))))))
theorem d_cRw_compareWith_0 : decode prog_7_method_7_code 0 = .ok (.iconst 0, 1) := by decide +kernel
theorem d_cRw_compareWith_1 : decode prog_7_method_7_code 1 = .ok (.istore 6, 2) := by decide +kernel
theorem d_cRw_compareWith_3 : decode prog_7_method_7_code 3 = .ok (.iload 6, 2) := by decide +kernel
theorem d_cRw_compareWith_5 : decode prog_7_method_7_code 5 = .ok (.iload_n 2, 1) := by decide +kernel
theorem d_cRw_compareWith_6 : decode prog_7_method_7_code 6 = .ok (.if_icmp .ge 44, 3) := by decide +kernel
theorem d_cRw_compareWith_9 : decode prog_7_method_7_code 9 = .ok (.iload 6, 2) := by decide +kernel
theorem d_cRw_compareWith_11 : decode prog_7_method_7_code 11 = .ok (.iload 5, 2) := by decide +kernel
theorem d_cRw_compareWith_13 : decode prog_7_method_7_code 13 = .ok (.if_icmp .ge 37, 3) := by decide +kernel
theorem d_cRw_compareWith_16 : decode prog_7_method_7_code 16 = .ok (.aload_n 0, 1) := by decide +kernel
theorem d_cRw_compareWith_17 : decode prog_7_method_7_code 17 = .ok (.iload_n 1, 1) := by decide +kernel
theorem d_cRw_compareWith_18 : decode prog_7_method_7_code 18 = .ok (.iload 6, 2) := by decide +kernel
theorem d_cRw_compareWith_20 : decode prog_7_method_7_code 20 = .ok (.iadd, 1) := by decide +kernel
theorem d_cRw_compareWith_21 : decode prog_7_method_7_code 21 = .ok (.invokevirtual 25, 3) := by decide +kernel
theorem d_cRw_compareWith_24 : decode prog_7_method_7_code 24 = .ok (.aload_n 3, 1) := by decide +kernel
theorem d_cRw_compareWith_25 : decode prog_7_method_7_code 25 = .ok (.iload 4, 2) := by decide +kernel
theorem d_cRw_compareWith_27 : decode prog_7_method_7_code 27 = .ok (.iload 6, 2) := by decide +kernel
theorem d_cRw_compareWith_29 : decode prog_7_method_7_code 29 = .ok (.iadd, 1) := by decide +kernel
theorem d_cRw_compareWith_30 : decode prog_7_method_7_code 30 = .ok (.invokevirtual 25, 3) := by decide +kernel
theorem d_cRw_compareWith_33 : decode prog_7_method_7_code 33 = .ok (.isub, 1) := by decide +kernel
theorem d_cRw_compareWith_34 : decode prog_7_method_7_code 34 = .ok (.istore 7, 2) := by decide +kernel
theorem d_cRw_compareWith_36 : decode prog_7_method_7_code 36 = .ok (.iload 7, 2) := by decide +kernel
theorem d_cRw_compareWith_38 : decode prog_7_method_7_code 38 = .ok (.ifCond .eq 6, 3) := by decide +kernel
theorem d_cRw_compareWith_44 : decode prog_7_method_7_code 44 = .ok (.iinc 6 1, 3) := by decide +kernel
theorem d_cRw_compareWith_47 : decode prog_7_method_7_code 47 = .ok (.goto (-44), 3) := by decide +kernel
theorem d_cRw_compareWith_41 : decode prog_7_method_7_code 41 = .ok (.iload 7, 2) := by decide +kernel
theorem d_cRw_compareWith_43 : decode prog_7_method_7_code 43 = .ok (.ireturn, 1) := by decide +kernel
set_option maxHeartbeats 4000000 in
set_option maxRecDepth 100000 in
theorem w_cRw_compareWith_B3 {p : Program} {l : Launch} {e : Env} {s : State} {m : MethodId} {args : Array Value} {below : List Frame} {meth : Method} {c : Code} {A : Nat → Prop} {D : va_G} {ad : Nat → Nat → Nat} {cc : Nat → ClassId} {sad sav : Nat → Nat} {Q : State → Prop} (hC : MCc sad sav "JoinedTrees$Row" prog_7_method_7_code 8 (some .int) p s m args meth c A D cc) {N : Nat → Nat} {x0 : Nat} {S : CS} {x1 : Int32} {x2 : Int32} {x3 : Option Nat} {x4 : Int32} {x5 : Int32} {x6 : Int32} {o : ((CS × Int32 × Int32 × Option Nat × Int32 × Int32 × Int32) ⊕ ((CS × Int32 × Int32) ⊕ (CS × Int32)))} (Heq : m_cRw_compareWith_B3 N x0 S x1 x2 x3 x4 x5 x6 = some o) (Ka : ∀ b : CS × Int32 × Int32 × Option Nat × Int32 × Int32 × Int32, o = .inl b → ∀ (H : Heap) (locs : List Loc) (ls : Array Slot), va_P D cls (cw ad cc N b.1) H → va_D A (cw ad cc N b.1) → va_S A s.heap H locs → lv_has ls 8 [(0, .ref (ad 5 x0)), (1, .int b.2.1), (2, .int b.2.2.1), (3, rv ad 5 b.2.2.2.1), (4, .int b.2.2.2.2.1), (5, .int b.2.2.2.2.2.1), (6, .int b.2.2.2.2.2.2)] → W p l e ({ frames := 1, cells := 0, slots := 0, locals := 21 }) s m args below meth c H locs 0 0 Q (F0 m 3 ls [])) (K0 : ∀ b : CS × Int32 × Int32, o = .inr (.inl b) → ∀ (H : Heap) (locs : List Loc) (ls : Array Slot), va_P D cls (cw ad cc N b.1) H → va_D A (cw ad cc N b.1) → va_S A s.heap H locs → lv_has ls 8 [(0, .ref (ad 5 x0)), (2, .int b.2.1), (5, .int b.2.2)] → W p l e ({ frames := 1, cells := 0, slots := 0, locals := 21 }) s m args below meth c H locs 0 0 Q (F0 m 50 ls [])) (Kr : ∀ r : CS × Int32, o = .inr (.inr r) → ∀ (pc : Nat) (H : Heap) (locs : List Loc) (ls : Array Slot), decode prog_7_method_7_code pc = .ok (.ireturn, 1) → va_P D cls (cw ad cc N r.1) H → va_D A (cw ad cc N r.1) → va_S A s.heap H locs → W p l e ({ frames := 1, cells := 0, slots := 0, locals := 21 }) s m args below meth c H locs 0 0 Q (F0 m pc ls [.int r.2])) : ∀ (H : Heap) (locs : List Loc) (ls : Array Slot), va_P D cls (cw ad cc N S) H → va_D A (cw ad cc N S) → va_S A s.heap H locs → lv_has ls 8 [(0, .ref (ad 5 x0)), (1, .int x1), (2, .int x2), (3, rv ad 5 x3), (4, .int x4), (5, .int x5), (6, .int x6)] → W p l e ({ frames := 1, cells := 0, slots := 0, locals := 21 }) s m args below meth c H locs 0 0 Q (F0 m 3 ls []) := by
  intro H locs ls hP hD hS hl
  obtain ⟨hx, hb, hr, hml, hown, hts, hK, hA, hev, hE, hN, hNS⟩ := id hC
  unfold m_cRw_compareWith_B3 at Heq
  refine lv_iload hx hb d_cRw_compareWith_3 (lv_at hl 6 rfl) ?_
  refine lv_iload_n hx hb d_cRw_compareWith_5 rfl (lv_at hl 2 rfl) ?_
  refine lv_icmp_ge (tgt := 50) hx hb d_cRw_compareWith_6 (by decide) (fun c_1 => ?_) (fun c_1 => ?_)
  · replace Heq := (if_pos c_1).symm.trans Heq
    exact K0 _ (Option.some.inj Heq).symm _ _ _ hP hD hS (lv_sub hl [0, 2, 5] rfl)
  · replace Heq := (if_neg c_1).symm.trans Heq
    refine lv_iload hx hb d_cRw_compareWith_9 (lv_at hl 6 rfl) ?_
    refine lv_iload hx hb d_cRw_compareWith_11 (lv_at hl 5 rfl) ?_
    refine lv_icmp_ge (tgt := 50) hx hb d_cRw_compareWith_13 (by decide) (fun c_2 => ?_) (fun c_2 => ?_)
    · replace Heq := (if_pos c_2).symm.trans Heq
      exact K0 _ (Option.some.inj Heq).symm _ _ _ hP hD hS (lv_sub hl [0, 2, 5] rfl)
    · replace Heq := (if_neg c_2).symm.trans Heq
      refine lv_aload_n hx hb d_cRw_compareWith_16 rfl (lv_at hl 0 rfl) ?_
      refine lv_iload_n hx hb d_cRw_compareWith_17 rfl (lv_at hl 1 rfl) ?_
      refine lv_iload hx hb d_cRw_compareWith_18 (lv_at hl 6 rfl) ?_
      refine lv_iadd hx hb d_cRw_compareWith_20 ?_
      refine w_i (y := x1 + x6) rfl ?_
      obtain ⟨hl_x0_5, Heq⟩ := gl_some Heq
      obtain ⟨o_3, h_4, Heq⟩ := ob_some Heq
      have hFc := fr_all hD hS hA
      refine va_calli (va_runV (As := [.int (x1 + x6)]) (rest := []) ⟨hx, hb, hml, hown, hts⟩ (g_cRw_at l D H.size (ad := ad) (cc := cc) (sad := sad) (sav := sav) h_4) (cw_v 1 hts kw_689 kw_686 kw_687 kw_688 kw_4 rfl rfl (by decide +kernel) ⟨Nat.le_of_ble_eq_true rfl, Nat.le_of_ble_eq_true rfl⟩) ⟨c_blind, va_recv hK hP (ci := 5) (q0 := cPos N 5 x0) rfl (cw_obj (k := 5) (by decide) hl_x0_5), fun U hU hW => c_pre hU hW hP hK hD hev hE hN hNS hS hFc⟩ rfl rfl hl.1 rfl (lv_room (Nat.le_of_ble_eq_true rfl)) d_cRw_compareWith_21 ⟨Nat.le_of_ble_eq_true rfl, Nat.le_of_ble_eq_true rfl⟩) hS (fun q _ h => hFc q h) hFc (fun rz u t H1 locs ht hvm hw hB hz1 hk1 hS => ?_)
      obtain ⟨hP, -, hD1⟩ := hB
      rw [ht] at hP
      have hD := hD1.weaken (fun _ q _ h => hFc q.1 h)
      generalize H1 = H at hP hS ⊢
      refine W.cs (cells' := 0) (slots' := 0) rfl rfl ?_
      subst hw
      refine tx_aload_n (x := x3.map (ad 5)) hx hb d_cRw_compareWith_24 rfl (lv_at hl 3 rfl) ?_
      refine w_v (y := rv ad 5 x3) rfl ?_
      refine lv_iload hx hb d_cRw_compareWith_25 (lv_at hl 4 rfl) ?_
      refine lv_iload hx hb d_cRw_compareWith_27 (lv_at hl 6 rfl) ?_
      refine lv_iadd hx hb d_cRw_compareWith_29 ?_
      refine w_i (y := x4 + x6) rfl ?_
      obtain ⟨j_5, hj_6, hl_7, Heq⟩ := gn_some Heq
      refine w_s (st' := [.int (x4 + x6), .ref (ad 5 j_5), .int o_3.2]) (congrArg (fun z9 : Option Nat => [.int (x4 + x6), rv ad 5 z9, .int o_3.2]) hj_6) ?_
      obtain ⟨o_8, h_9, Heq⟩ := ob_some Heq
      have hFc := fr_all hD hS hA
      refine va_calli (va_runV (As := [.int (x4 + x6)]) (rest := [.int o_3.2]) ⟨hx, hb, hml, hown, hts⟩ (g_cRw_at l D H.size (ad := ad) (cc := cc) (sad := sad) (sav := sav) h_9) (cw_v 1 hts kw_689 kw_686 kw_687 kw_688 kw_4 rfl rfl (by decide +kernel) ⟨Nat.le_of_ble_eq_true rfl, Nat.le_of_ble_eq_true rfl⟩) ⟨c_blind, va_recv hK hP (ci := 5) (q0 := cPos N 5 j_5) rfl (cw_obj (k := 5) (by decide) hl_7), fun U hU hW => c_pre hU hW hP hK hD hev hE hN hNS hS hFc⟩ rfl rfl hl.1 rfl (lv_room (Nat.le_of_ble_eq_true rfl)) d_cRw_compareWith_30 ⟨Nat.le_of_ble_eq_true rfl, Nat.le_of_ble_eq_true rfl⟩) hS (fun q _ h => hFc q h) hFc (fun rz u t H1 locs ht hvm hw hB hz1 hk1 hS => ?_)
      obtain ⟨hP, -, hD1⟩ := hB
      rw [ht] at hP
      have hD := hD1.weaken (fun _ q _ h => hFc q.1 h)
      generalize H1 = H at hP hS ⊢
      refine W.cs (cells' := 0) (slots' := 0) rfl rfl ?_
      subst hw
      refine lv_isub hx hb d_cRw_compareWith_33 ?_
      refine w_i (y := o_3.2 - o_8.2) rfl ?_
      refine lv_istore (lv' := [(7, .int (o_3.2 - o_8.2)), (0, .ref (ad 5 x0)), (1, .int x1), (2, .int x2), (3, rv ad 5 x3), (4, .int x4), (5, .int x5), (6, .int x6)]) hx hb d_cRw_compareWith_34 hl (by decide) rfl (fun ls hl => ?_)
      refine lv_iload hx hb d_cRw_compareWith_36 (lv_at hl 0 rfl) ?_
      refine lv_if_eq (tgt := 44) hx hb d_cRw_compareWith_38 (by decide) (fun c_10 => ?_) (fun c_10 => ?_)
      · replace Heq := (if_pos c_10).symm.trans Heq
        refine lv_iinc (v := x6 + 1) (lv' := [(6, .int (x6 + 1)), (7, .int (o_3.2 - o_8.2)), (0, .ref (ad 5 x0)), (1, .int x1), (2, .int x2), (3, rv ad 5 x3), (4, .int x4), (5, .int x5)]) hx hb d_cRw_compareWith_44 hl (k := 7) rfl rfl (by decide) rfl (fun ls hl => ?_)
        refine lv_goto (tgt := 3) hx hb d_cRw_compareWith_47 (by decide) ?_
        exact Ka _ (Option.some.inj Heq).symm _ _ _ hP hD hS (lv_sub hl [2, 3, 4, 5, 6, 7, 0] rfl)
      · replace Heq := (if_neg c_10).symm.trans Heq
        refine lv_iload hx hb d_cRw_compareWith_41 (lv_at hl 0 rfl) ?_
        exact Kr _ (Option.some.inj Heq).symm 43 _ _ _ d_cRw_compareWith_43 hP hD hS
def m_cRw_compareWith_L3 (N : Nat → Nat) (x0 : Nat) (S : CS) (x1 : Int32) (x2 : Int32) (x3 : Option Nat) (x4 : Int32) (x5 : Int32) (x6 : Int32) : Option ((CS × Int32 × Int32) ⊕ (CS × Int32)) := lp (fun a : CS × Int32 × Int32 × Option Nat × Int32 × Int32 × Int32 => m_cRw_compareWith_B3 N x0 a.1 a.2.1 a.2.2.1 a.2.2.2.1 a.2.2.2.2.1 a.2.2.2.2.2.1 a.2.2.2.2.2.2) FU (S, x1, x2, x3, x4, x5, x6)
theorem w_cRw_compareWith_L3 {p : Program} {l : Launch} {e : Env} {s : State} {m : MethodId} {args : Array Value} {below : List Frame} {meth : Method} {c : Code} {A : Nat → Prop} {D : va_G} {ad : Nat → Nat → Nat} {cc : Nat → ClassId} {sad sav : Nat → Nat} {Q : State → Prop} (hC : MCc sad sav "JoinedTrees$Row" prog_7_method_7_code 8 (some .int) p s m args meth c A D cc) {N : Nat → Nat} {x0 : Nat} {S : CS} {x1 : Int32} {x2 : Int32} {x3 : Option Nat} {x4 : Int32} {x5 : Int32} {x6 : Int32} {o : ((CS × Int32 × Int32) ⊕ (CS × Int32))} (Heq : m_cRw_compareWith_L3 N x0 S x1 x2 x3 x4 x5 x6 = some o) (K0 : ∀ b : CS × Int32 × Int32, o = (.inl b) → ∀ (H : Heap) (locs : List Loc) (ls : Array Slot), va_P D cls (cw ad cc N b.1) H → va_D A (cw ad cc N b.1) → va_S A s.heap H locs → lv_has ls 8 [(0, .ref (ad 5 x0)), (2, .int b.2.1), (5, .int b.2.2)] → W p l e ({ frames := 1, cells := 0, slots := 0, locals := 21 }) s m args below meth c H locs 0 0 Q (F0 m 50 ls [])) (Kr : ∀ r : CS × Int32, o = (.inr r) → ∀ (pc : Nat) (H : Heap) (locs : List Loc) (ls : Array Slot), decode prog_7_method_7_code pc = .ok (.ireturn, 1) → va_P D cls (cw ad cc N r.1) H → va_D A (cw ad cc N r.1) → va_S A s.heap H locs → W p l e ({ frames := 1, cells := 0, slots := 0, locals := 21 }) s m args below meth c H locs 0 0 Q (F0 m pc ls [.int r.2])) : ∀ (H : Heap) (locs : List Loc) (ls : Array Slot), va_P D cls (cw ad cc N S) H → va_D A (cw ad cc N S) → va_S A s.heap H locs → lv_has ls 8 [(0, .ref (ad 5 x0)), (1, .int x1), (2, .int x2), (3, rv ad 5 x3), (4, .int x4), (5, .int x5), (6, .int x6)] → W p l e ({ frames := 1, cells := 0, slots := 0, locals := 21 }) s m args below meth c H locs 0 0 Q (F0 m 3 ls []) := by
  refine lp_w (G := fun a : CS × Int32 × Int32 × Option Nat × Int32 × Int32 × Int32 => ∀ (H : Heap) (locs : List Loc) (ls : Array Slot), va_P D cls (cw ad cc N a.1) H → va_D A (cw ad cc N a.1) → va_S A s.heap H locs → lv_has ls 8 [(0, .ref (ad 5 x0)), (1, .int a.2.1), (2, .int a.2.2.1), (3, rv ad 5 a.2.2.2.1), (4, .int a.2.2.2.2.1), (5, .int a.2.2.2.2.2.1), (6, .int a.2.2.2.2.2.2)] → W p l e ({ frames := 1, cells := 0, slots := 0, locals := 21 }) s m args below meth c H locs 0 0 Q (F0 m 3 ls [])) ?_ FU (S, x1, x2, x3, x4, x5, x6) Heq
  intro a o1 ho Ka Ke
  exact w_cRw_compareWith_B3 hC ho (fun b h => Ka b h) (fun b h => K0 b (Ke _ h).symm) (fun r h => Kr r (Ke _ h).symm)
def m_cRw_compareWith_J50 (N : Nat → Nat) (x0 : Nat) (S : CS) (x2 : Int32) (x5 : Int32) : Option (CS × Int32) := some (S, x2 - x5)
theorem d_cRw_compareWith_50 : decode prog_7_method_7_code 50 = .ok (.iload_n 2, 1) := by decide +kernel
theorem d_cRw_compareWith_51 : decode prog_7_method_7_code 51 = .ok (.iload 5, 2) := by decide +kernel
theorem d_cRw_compareWith_53 : decode prog_7_method_7_code 53 = .ok (.isub, 1) := by decide +kernel
theorem d_cRw_compareWith_54 : decode prog_7_method_7_code 54 = .ok (.ireturn, 1) := by decide +kernel
set_option maxHeartbeats 4000000 in
set_option maxRecDepth 100000 in
theorem w_cRw_compareWith_J50 {p : Program} {l : Launch} {e : Env} {s : State} {m : MethodId} {args : Array Value} {below : List Frame} {meth : Method} {c : Code} {A : Nat → Prop} {D : va_G} {ad : Nat → Nat → Nat} {cc : Nat → ClassId} {sad sav : Nat → Nat} {Q : State → Prop} (hC : MCc sad sav "JoinedTrees$Row" prog_7_method_7_code 8 (some .int) p s m args meth c A D cc) {N : Nat → Nat} {x0 : Nat} {S : CS} {x2 : Int32} {x5 : Int32} {o : CS × Int32} (Heq : m_cRw_compareWith_J50 N x0 S x2 x5 = some o) (Kr : ∀ r : CS × Int32, o = r → ∀ (pc : Nat) (H : Heap) (locs : List Loc) (ls : Array Slot), decode prog_7_method_7_code pc = .ok (.ireturn, 1) → va_P D cls (cw ad cc N r.1) H → va_D A (cw ad cc N r.1) → va_S A s.heap H locs → W p l e ({ frames := 1, cells := 0, slots := 0, locals := 21 }) s m args below meth c H locs 0 0 Q (F0 m pc ls [.int r.2])) : ∀ (H : Heap) (locs : List Loc) (ls : Array Slot), va_P D cls (cw ad cc N S) H → va_D A (cw ad cc N S) → va_S A s.heap H locs → lv_has ls 8 [(0, .ref (ad 5 x0)), (2, .int x2), (5, .int x5)] → W p l e ({ frames := 1, cells := 0, slots := 0, locals := 21 }) s m args below meth c H locs 0 0 Q (F0 m 50 ls []) := by
  intro H locs ls hP hD hS hl
  obtain ⟨hx, hb, hr, hml, hown, hts, hK, hA, hev, hE, hN, hNS⟩ := id hC
  unfold m_cRw_compareWith_J50 at Heq
  refine lv_iload_n hx hb d_cRw_compareWith_50 rfl (lv_at hl 1 rfl) ?_
  refine lv_iload hx hb d_cRw_compareWith_51 (lv_at hl 2 rfl) ?_
  refine lv_isub hx hb d_cRw_compareWith_53 ?_
  refine w_i (y := x2 - x5) rfl ?_
  exact Kr _ (Option.some.inj Heq).symm 54 _ _ _ d_cRw_compareWith_54 hP hD hS
def m_cRw_compareWith_J0 (N : Nat → Nat) (x0 : Nat) (S : CS) (x1 : Int32) (x2 : Int32) (x3 : Nat) (x4 : Int32) (x5 : Int32) : Option (CS × Int32) := oe (m_cRw_compareWith_L3 N x0 S x1 x2 (some x3) x4 x5 0) (fun b_1 => m_cRw_compareWith_J50 N x0 b_1.1 b_1.2.1 b_1.2.2) (fun r_3 => some r_3)
set_option maxHeartbeats 4000000 in
set_option maxRecDepth 100000 in
theorem w_cRw_compareWith_J0 {p : Program} {l : Launch} {e : Env} {s : State} {m : MethodId} {args : Array Value} {below : List Frame} {meth : Method} {c : Code} {A : Nat → Prop} {D : va_G} {ad : Nat → Nat → Nat} {cc : Nat → ClassId} {sad sav : Nat → Nat} {Q : State → Prop} (hC : MCc sad sav "JoinedTrees$Row" prog_7_method_7_code 8 (some .int) p s m args meth c A D cc) {N : Nat → Nat} {x0 : Nat} {S : CS} {x1 : Int32} {x2 : Int32} {x3 : Nat} {x4 : Int32} {x5 : Int32} {o : CS × Int32} (Heq : m_cRw_compareWith_J0 N x0 S x1 x2 x3 x4 x5 = some o) (Kr : ∀ r : CS × Int32, o = r → ∀ (pc : Nat) (H : Heap) (locs : List Loc) (ls : Array Slot), decode prog_7_method_7_code pc = .ok (.ireturn, 1) → va_P D cls (cw ad cc N r.1) H → va_D A (cw ad cc N r.1) → va_S A s.heap H locs → W p l e ({ frames := 1, cells := 0, slots := 0, locals := 21 }) s m args below meth c H locs 0 0 Q (F0 m pc ls [.int r.2])) : ∀ (H : Heap) (locs : List Loc) (ls : Array Slot), va_P D cls (cw ad cc N S) H → va_D A (cw ad cc N S) → va_S A s.heap H locs → lv_has ls 8 [(0, .ref (ad 5 x0)), (1, .int x1), (2, .int x2), (3, .ref (ad 5 x3)), (4, .int x4), (5, .int x5)] → W p l e ({ frames := 1, cells := 0, slots := 0, locals := 21 }) s m args below meth c H locs 0 0 Q (F0 m 0 ls []) := by
  intro H locs ls hP hD hS hl
  obtain ⟨hx, hb, hr, hml, hown, hts, hK, hA, hev, hE, hN, hNS⟩ := id hC
  unfold m_cRw_compareWith_J0 at Heq
  refine lv_iconst (v := 0) hx hb d_cRw_compareWith_0 (by decide) ?_
  refine lv_istore (lv' := [(6, .int 0), (0, .ref (ad 5 x0)), (1, .int x1), (2, .int x2), (3, .ref (ad 5 x3)), (4, .int x4), (5, .int x5)]) hx hb d_cRw_compareWith_1 hl (by decide) rfl (fun ls hl => ?_)
  rcases oe_some Heq with ⟨b_1, h_2, Heq⟩ | ⟨r_3, h_2, Heq⟩
  · refine w_cRw_compareWith_L3 hC h_2 (fun b h => ?_) (fun r h => by cases h) _ _ _ hP hD hS (lv_sub hl [1, 2, 3, 4, 5, 6, 0] rfl)
    cases h
    intro H locs ls hP hD hS hl
    exact w_cRw_compareWith_J50 hC Heq Kr _ _ _ hP hD hS (lv_sub hl [0, 1, 2] rfl)
  · refine w_cRw_compareWith_L3 hC h_2 (fun b h => by cases h) (fun r h => ?_) _ _ _ hP hD hS (lv_sub hl [1, 2, 3, 4, 5, 6, 0] rfl)
    cases h
    exact Kr _ (Option.some.inj Heq).symm
def m_cRw_compareWith (N : Nat → Nat) (x0 : Nat) (S : CS) (x1 : Int32) (x2 : Int32) (x3 : Nat) (x4 : Int32) (x5 : Int32) : Option (CS × Int32) := m_cRw_compareWith_J0 N x0 S x1 x2 x3 x4 x5
set_option maxHeartbeats 4000000 in
theorem g_cRw_compareWith (l : Launch) (D : va_G) (sz : Nat) {ad : Nat → Nat → Nat} {cc : Nat → ClassId} {sad sav : Nat → Nat} {N : Nat → Nat} {x0 : Nat} {S : CS} {x1 : Int32} {x2 : Int32} {x3 : Nat} {x4 : Int32} {x5 : Int32} {o : CS × Int32} (Heq : m_cRw_compareWith N x0 S x1 x2 x3 x4 x5 = some o) : Met l ⟨"JoinedTrees$Row", "compareWith", "(IILJoinedTrees$Row;II)I"⟩ (Cond.code ⟨"JoinedTrees$Row", "compareWith", "(IILJoinedTrees$Row;II)I"⟩ prog_7_method_7_code 8 (some .int) :: gb) ({ frames := 1, cells := 0, slots := 0, locals := 21 }) (cPc sad sav D (cw ad cc N S) (cty cc) sz [.ref (ad 5 x0), .int x1, .int x2, .ref (ad 5 x3), .int x4, .int x5]) (va_Qi (fun (r : Int32) (_ : Unit) => r = o.2) (fun _ t => gO D (cw ad cc N o.1) (cty cc) (va_A (cw ad cc N S) sz) t) (va_A (cw ad cc N S) sz)) 0 0 (va_A (cw ad cc N S) sz) := by
  refine Met.ofW (cc := prog_7_method_7_code) (maxL := 8) (ret := (some .int)) (by decide) rfl ?_
  intro p e s m args below meth c s₁ B hml hv
  obtain ⟨rfl, hsz, hP, hK, hD0, hev, hE, hN⟩ := hv
  have hx := B.exec
  have hb := B.bytes
  have hr := B.returns
  have hts : ∀ w9 ∈ gb, w9.before [.ref (ad 5 x0), .int x1, .int x2, .ref (ad 5 x3), .int x4, .int x5].toArray s = true := fun w9 h => atoms_spec (ws := Cond.code ⟨"JoinedTrees$Row", "compareWith", "(IILJoinedTrees$Row;II)I"⟩ prog_7_method_7_code 8 (some .int) :: gb) B.pre w9 (List.mem_cons_of_mem _ h)
  have hown : s.vm.findClass "JoinedTrees$Row" = some m.cls := findClass_of_methodNamed B.named
  have hlocks := B.notSynchronized
  have hNS := ns_of hP
  subst hsz
  have hD := hD0.self (sz := s.heap.size)
  generalize hAe : va_A (cw ad cc N S) s.heap.size = A at hD hev hE hNS ⊢
  have hA : ∀ q : Nat, s.heap.size ≤ q → A q := fun q h => by rw [← hAe]; exact Or.inr h
  have hS : va_S A s.heap s.heap [] := va_S.rf
  obtain ⟨ls, hl, hle⟩ : ∃ ls : Array Slot, lv_has ls 8 [(0, .ref (ad 5 x0)), (1, .int x1), (2, .int x2), (3, .ref (ad 5 x3)), (4, .int x4), (5, .int x5)] ∧ entryFrame m ([.ref (ad 5 x0), .int x1, .int x2, .ref (ad 5 x3), .int x4, .int x5] : List Value).toArray 8 = F0 m 0 ls [] := by
    exact ⟨_, lv_entry (n := 8) _ (Nat.le_of_ble_eq_true rfl), lg_entry_eq ..⟩
  rw [hle]
  refine w_cRw_compareWith_J0 ⟨hx, hb, hr, hml, hown, hts, hK, hA, hev, hE, hN, hNS⟩ Heq (fun r h pc H locs ls hd hP hD hS => ?_) _ _ _ hP hD hS (lv_sub hl [0, 1, 2, 3, 4, 5] rfl)
  subst h
  exact W.iret hx hb hr (fun t ht hW => ⟨⟨_, (), rfl, rfl, by rw [ht]; exact hP, va_K.moved hW.alike hK, hD⟩, hS.F ht⟩) hS.2.2 hd
def m_cSt_compareKey_J0 (N : Nat → Nat) (x0 : Nat) (S : CS) (x1 : Nat) (x2 : Nat) (x3 : Int32) (x4 : Int32) : Option (CS × Int32) := gl x0 (N 8) (gl x1 (N 7) (gn (S.r 7 0 x1) (N 3) (fun j_1 => gl x2 (N 5) (gn (S.r 8 2 x0) (N 5) (fun j_4 => ob (m_cRw_compareWith N j_4 S (S.i 3 8 j_1) (S.i 3 9 j_1) x2 x3 x4) (fun o_7 => some (o_7.1, o_7.2)))))))
theorem d_cSt_compareKey_0 : decode prog_10_method_6_code 0 = .ok (.aload_n 0, 1) := by decide +kernel
theorem d_cSt_compareKey_1 : decode prog_10_method_6_code 1 = .ok (.getfield 29, 3) := by decide +kernel
theorem d_cSt_compareKey_4 : decode prog_10_method_6_code 4 = .ok (.aload_n 1, 1) := by decide +kernel
theorem d_cSt_compareKey_5 : decode prog_10_method_6_code 5 = .ok (.getfield 83, 3) := by decide +kernel
theorem d_cSt_compareKey_8 : decode prog_10_method_6_code 8 = .ok (.getfield 67, 3) := by decide +kernel
theorem d_cSt_compareKey_11 : decode prog_10_method_6_code 11 = .ok (.aload_n 1, 1) := by decide +kernel
theorem d_cSt_compareKey_12 : decode prog_10_method_6_code 12 = .ok (.getfield 83, 3) := by decide +kernel
theorem d_cSt_compareKey_15 : decode prog_10_method_6_code 15 = .ok (.getfield 77, 3) := by decide +kernel
theorem d_cSt_compareKey_18 : decode prog_10_method_6_code 18 = .ok (.aload_n 2, 1) := by decide +kernel
theorem d_cSt_compareKey_19 : decode prog_10_method_6_code 19 = .ok (.iload_n 3, 1) := by decide +kernel
theorem d_cSt_compareKey_20 : decode prog_10_method_6_code 20 = .ok (.iload 4, 2) := by decide +kernel
theorem d_cSt_compareKey_22 : decode prog_10_method_6_code 22 = .ok (.invokevirtual 88, 3) := by decide +kernel
theorem d_cSt_compareKey_25 : decode prog_10_method_6_code 25 = .ok (.ireturn, 1) := by decide +kernel
set_option maxHeartbeats 4000000 in
set_option maxRecDepth 100000 in
theorem w_cSt_compareKey_J0 {p : Program} {l : Launch} {e : Env} {s : State} {m : MethodId} {args : Array Value} {below : List Frame} {meth : Method} {c : Code} {A : Nat → Prop} {D : va_G} {ad : Nat → Nat → Nat} {cc : Nat → ClassId} {sad sav : Nat → Nat} {Q : State → Prop} (hC : MCc sad sav "JoinedTrees$Store" prog_10_method_6_code 5 (some .int) p s m args meth c A D cc) {N : Nat → Nat} {x0 : Nat} {S : CS} {x1 : Nat} {x2 : Nat} {x3 : Int32} {x4 : Int32} {o : CS × Int32} (Heq : m_cSt_compareKey_J0 N x0 S x1 x2 x3 x4 = some o) (Kr : ∀ r : CS × Int32, o = r → ∀ (pc : Nat) (H : Heap) (locs : List Loc) (ls : Array Slot), decode prog_10_method_6_code pc = .ok (.ireturn, 1) → va_P D cls (cw ad cc N r.1) H → va_D A (cw ad cc N r.1) → va_S A s.heap H locs → W p l e ({ frames := 2, cells := 0, slots := 0, locals := 48 }) s m args below meth c H locs 0 0 Q (F0 m pc ls [.int r.2])) : ∀ (H : Heap) (locs : List Loc) (ls : Array Slot), va_P D cls (cw ad cc N S) H → va_D A (cw ad cc N S) → va_S A s.heap H locs → lv_has ls 5 [(0, .ref (ad 8 x0)), (1, .ref (ad 7 x1)), (2, .ref (ad 5 x2)), (3, .int x3), (4, .int x4)] → W p l e ({ frames := 2, cells := 0, slots := 0, locals := 48 }) s m args below meth c H locs 0 0 Q (F0 m 0 ls []) := by
  intro H locs ls hP hD hS hl
  obtain ⟨hx, hb, hr, hml, hown, hts, hK, hA, hev, hE, hN, hNS⟩ := id hC
  unfold m_cSt_compareKey_J0 at Heq
  refine lv_aload_n hx hb d_cSt_compareKey_0 rfl (lv_at hl 0 rfl) ?_
  obtain ⟨hl_x0_8, Heq⟩ := gl_some Heq
  refine va_get (D := D) (ci := 8) (v := rv ad 5 (S.r 8 2 x0)) (C := R_St) (T := F_St) (N := 6) hx hb hts i_St hown hK hP (cPos N 8 x0) (cw_obj (k := 8) (by decide) hl_x0_8) rfl 2 (by decide) (hts _ kw_167) (fun _ h9 => h9) rfl d_cSt_compareKey_1 ?_
  refine lv_aload_n hx hb d_cSt_compareKey_4 rfl (lv_at hl 1 rfl) ?_
  obtain ⟨hl_x1_7, Heq⟩ := gl_some Heq
  refine va_get (D := D) (ci := 7) (v := rv ad 3 (S.r 7 0 x1)) (C := R_Sp) (T := F_Sp) (N := 3) hx hb hts i_Sp hown hK hP (cPos N 7 x1) (cw_obj (k := 7) (by decide) hl_x1_7) rfl 0 (by decide) (hts _ kw_741) (fun _ h9 => h9) rfl d_cSt_compareKey_5 ?_
  obtain ⟨j_1, hj_2, hl_3, Heq⟩ := gn_some Heq
  refine w_s (st' := [.ref (ad 3 j_1), rv ad 5 (S.r 8 2 x0)]) (congrArg (fun z9 : Option Nat => [rv ad 3 z9, rv ad 5 (S.r 8 2 x0)]) hj_2) ?_
  refine va_get (D := D) (ci := 3) (v := .int (S.i 3 8 j_1)) (C := R_Op) (T := F_Op) (N := 15) hx hb hts i_Op hown hK hP (cPos N 3 j_1) (cw_obj (k := 3) (by decide) hl_3) rfl 8 (by decide) (hts _ kw_78) (fun _ h9 => h9) rfl d_cSt_compareKey_8 ?_
  refine lv_aload_n hx hb d_cSt_compareKey_11 rfl (lv_at hl 1 rfl) ?_
  refine va_get (D := D) (ci := 7) (v := rv ad 3 (S.r 7 0 x1)) (C := R_Sp) (T := F_Sp) (N := 3) hx hb hts i_Sp hown hK hP (cPos N 7 x1) (cw_obj (k := 7) (by decide) hl_x1_7) rfl 0 (by decide) (hts _ kw_741) (fun _ h9 => h9) rfl d_cSt_compareKey_12 ?_
  refine w_s (st' := [.ref (ad 3 j_1), .int (S.i 3 8 j_1), rv ad 5 (S.r 8 2 x0)]) (congrArg (fun z9 : Option Nat => [rv ad 3 z9, .int (S.i 3 8 j_1), rv ad 5 (S.r 8 2 x0)]) hj_2) ?_
  refine va_get (D := D) (ci := 3) (v := .int (S.i 3 9 j_1)) (C := R_Op) (T := F_Op) (N := 15) hx hb hts i_Op hown hK hP (cPos N 3 j_1) (cw_obj (k := 3) (by decide) hl_3) rfl 9 (by decide) (hts _ kw_82) (fun _ h9 => h9) rfl d_cSt_compareKey_15 ?_
  refine lv_aload_n hx hb d_cSt_compareKey_18 rfl (lv_at hl 2 rfl) ?_
  refine lv_iload_n hx hb d_cSt_compareKey_19 rfl (lv_at hl 3 rfl) ?_
  refine lv_iload hx hb d_cSt_compareKey_20 (lv_at hl 4 rfl) ?_
  obtain ⟨hl_x2_5, Heq⟩ := gl_some Heq
  obtain ⟨j_4, hj_5, hl_6, Heq⟩ := gn_some Heq
  refine w_s (st' := [.int x4, .int x3, .ref (ad 5 x2), .int (S.i 3 9 j_1), .int (S.i 3 8 j_1), .ref (ad 5 j_4)]) (congrArg (fun z9 : Option Nat => [.int x4, .int x3, .ref (ad 5 x2), .int (S.i 3 9 j_1), .int (S.i 3 8 j_1), rv ad 5 z9]) hj_5) ?_
  obtain ⟨o_7, h_8, Heq⟩ := ob_some Heq
  have hFc := fr_all hD hS hA
  refine va_calli (va_runV (As := [.int (S.i 3 8 j_1), .int (S.i 3 9 j_1), .ref (ad 5 x2), .int x3, .int x4]) (rest := []) ⟨hx, hb, hml, hown, hts⟩ (g_cRw_compareWith l D H.size (ad := ad) (cc := cc) (sad := sad) (sav := sav) h_8) (cw_v 5 hts kw_685 kw_682 kw_683 kw_684 kw_4 rfl rfl (by decide +kernel) ⟨Nat.le_of_ble_eq_true rfl, Nat.le_of_ble_eq_true rfl⟩) ⟨c_blind, va_recv hK hP (ci := 5) (q0 := cPos N 5 j_4) rfl (cw_obj (k := 5) (by decide) hl_6), fun U hU hW => c_pre hU hW hP hK hD hev hE hN hNS hS hFc⟩ rfl rfl hl.1 rfl (lv_room (Nat.le_of_ble_eq_true rfl)) d_cSt_compareKey_22 ⟨Nat.le_of_ble_eq_true rfl, Nat.le_of_ble_eq_true rfl⟩) hS (fun q _ h => hFc q h) hFc (fun rz u t H1 locs ht hvm hw hB hz1 hk1 hS => ?_)
  obtain ⟨hP, -, hD1⟩ := hB
  rw [ht] at hP
  have hD := hD1.weaken (fun _ q _ h => hFc q.1 h)
  generalize H1 = H at hP hS ⊢
  refine W.cs (cells' := 0) (slots' := 0) rfl rfl ?_
  subst hw
  exact Kr _ (Option.some.inj Heq).symm 25 _ _ _ d_cSt_compareKey_25 hP hD hS
def m_cSt_compareKey (N : Nat → Nat) (x0 : Nat) (S : CS) (x1 : Nat) (x2 : Nat) (x3 : Int32) (x4 : Int32) : Option (CS × Int32) := m_cSt_compareKey_J0 N x0 S x1 x2 x3 x4
set_option maxHeartbeats 4000000 in
theorem g_cSt_compareKey (l : Launch) (D : va_G) (sz : Nat) {ad : Nat → Nat → Nat} {cc : Nat → ClassId} {sad sav : Nat → Nat} {N : Nat → Nat} {x0 : Nat} {S : CS} {x1 : Nat} {x2 : Nat} {x3 : Int32} {x4 : Int32} {o : CS × Int32} (Heq : m_cSt_compareKey N x0 S x1 x2 x3 x4 = some o) : Met l ⟨"JoinedTrees$Store", "compareKey", "(LJoinedTrees$Spot;LJoinedTrees$Row;II)I"⟩ (Cond.code ⟨"JoinedTrees$Store", "compareKey", "(LJoinedTrees$Spot;LJoinedTrees$Row;II)I"⟩ prog_10_method_6_code 5 (some .int) :: gb) ({ frames := 2, cells := 0, slots := 0, locals := 48 }) (cPc sad sav D (cw ad cc N S) (cty cc) sz [.ref (ad 8 x0), .ref (ad 7 x1), .ref (ad 5 x2), .int x3, .int x4]) (va_Qi (fun (r : Int32) (_ : Unit) => r = o.2) (fun _ t => gO D (cw ad cc N o.1) (cty cc) (va_A (cw ad cc N S) sz) t) (va_A (cw ad cc N S) sz)) 0 0 (va_A (cw ad cc N S) sz) := by
  refine Met.ofW (cc := prog_10_method_6_code) (maxL := 5) (ret := (some .int)) (by decide) rfl ?_
  intro p e s m args below meth c s₁ B hml hv
  obtain ⟨rfl, hsz, hP, hK, hD0, hev, hE, hN⟩ := hv
  have hx := B.exec
  have hb := B.bytes
  have hr := B.returns
  have hts : ∀ w9 ∈ gb, w9.before [.ref (ad 8 x0), .ref (ad 7 x1), .ref (ad 5 x2), .int x3, .int x4].toArray s = true := fun w9 h => atoms_spec (ws := Cond.code ⟨"JoinedTrees$Store", "compareKey", "(LJoinedTrees$Spot;LJoinedTrees$Row;II)I"⟩ prog_10_method_6_code 5 (some .int) :: gb) B.pre w9 (List.mem_cons_of_mem _ h)
  have hown : s.vm.findClass "JoinedTrees$Store" = some m.cls := findClass_of_methodNamed B.named
  have hlocks := B.notSynchronized
  have hNS := ns_of hP
  subst hsz
  have hD := hD0.self (sz := s.heap.size)
  generalize hAe : va_A (cw ad cc N S) s.heap.size = A at hD hev hE hNS ⊢
  have hA : ∀ q : Nat, s.heap.size ≤ q → A q := fun q h => by rw [← hAe]; exact Or.inr h
  have hS : va_S A s.heap s.heap [] := va_S.rf
  obtain ⟨ls, hl, hle⟩ : ∃ ls : Array Slot, lv_has ls 5 [(0, .ref (ad 8 x0)), (1, .ref (ad 7 x1)), (2, .ref (ad 5 x2)), (3, .int x3), (4, .int x4)] ∧ entryFrame m ([.ref (ad 8 x0), .ref (ad 7 x1), .ref (ad 5 x2), .int x3, .int x4] : List Value).toArray 5 = F0 m 0 ls [] := by
    exact ⟨_, lv_entry (n := 5) _ (Nat.le_of_ble_eq_true rfl), lg_entry_eq ..⟩
  rw [hle]
  refine w_cSt_compareKey_J0 ⟨hx, hb, hr, hml, hown, hts, hK, hA, hev, hE, hN, hNS⟩ Heq (fun r h pc H locs ls hd hP hD hS => ?_) _ _ _ hP hD hS (lv_sub hl [0, 1, 2, 3, 4] rfl)
  subst h
  exact W.iret hx hb hr (fun t ht hW => ⟨⟨_, (), rfl, rfl, by rw [ht]; exact hP, va_K.moved hW.alike hK, hD⟩, hS.F ht⟩) hS.2.2 hd
def m_cSt_spotWith_B6 (N : Nat → Nat) (x0 : Nat) (S : CS) (x2 : Option Nat) (x3 : Int32) (x4 : Int32) (x5 : Option Nat) : Option ((CS × Option Nat × Int32 × Int32 × Option Nat) ⊕ (CS ⊕ (CS × Option Nat))) := on x5 (some (.inr (.inl (S)))) (fun j_1 => gn x2 (N 5) (fun j_3 => gl j_1 (N 7) (gl x0 (N 8) (ob (m_cSt_compareKey N x0 S j_1 j_3 x3 x4) (fun o_6 => (if o_6.2 = 0 then some (.inr (.inr (o_6.1, x5))) else (if o_6.2 ≤ 0 then some (.inl (o_6.1, x2, x3, x4, (o_6.1.r 7 2 j_1))) else some (.inr (.inr (o_6.1, none))))))))))
theorem d_cSt_spotWith_0 : decode prog_10_method_7_code 0 = .ok (.aload_n 1, 1) := by decide +kernel
theorem d_cSt_spotWith_1 : decode prog_10_method_7_code 1 = .ok (.getfield 92, 3) := by decide +kernel
theorem d_cSt_spotWith_4 : decode prog_10_method_7_code 4 = .ok (.astore 5, 2) := by decide +kernel
theorem d_cSt_spotWith_6 : decode prog_10_method_7_code 6 = .ok (.aload 5, 2) := by decide +kernel
theorem d_cSt_spotWith_8 : decode prog_10_method_7_code 8 = .ok (.ifnull 40, 3) := by decide +kernel
theorem d_cSt_spotWith_11 : decode prog_10_method_7_code 11 = .ok (.aload_n 0, 1) := by decide +kernel
theorem d_cSt_spotWith_12 : decode prog_10_method_7_code 12 = .ok (.aload 5, 2) := by decide +kernel
theorem d_cSt_spotWith_14 : decode prog_10_method_7_code 14 = .ok (.aload_n 2, 1) := by decide +kernel
theorem d_cSt_spotWith_15 : decode prog_10_method_7_code 15 = .ok (.iload_n 3, 1) := by decide +kernel
theorem d_cSt_spotWith_16 : decode prog_10_method_7_code 16 = .ok (.iload 4, 2) := by decide +kernel
theorem d_cSt_spotWith_18 : decode prog_10_method_7_code 18 = .ok (.invokevirtual 96, 3) := by decide +kernel
theorem d_cSt_spotWith_21 : decode prog_10_method_7_code 21 = .ok (.istore 6, 2) := by decide +kernel
theorem d_cSt_spotWith_23 : decode prog_10_method_7_code 23 = .ok (.iload 6, 2) := by decide +kernel
theorem d_cSt_spotWith_25 : decode prog_10_method_7_code 25 = .ok (.ifCond .ne 6, 3) := by decide +kernel
theorem d_cSt_spotWith_31 : decode prog_10_method_7_code 31 = .ok (.iload 6, 2) := by decide +kernel
theorem d_cSt_spotWith_33 : decode prog_10_method_7_code 33 = .ok (.ifCond .le 5, 3) := by decide +kernel
theorem d_cSt_spotWith_38 : decode prog_10_method_7_code 38 = .ok (.aload 5, 2) := by decide +kernel
theorem d_cSt_spotWith_40 : decode prog_10_method_7_code 40 = .ok (.getfield 100, 3) := by decide +kernel
theorem d_cSt_spotWith_43 : decode prog_10_method_7_code 43 = .ok (.astore 5, 2) := by decide +kernel
theorem d_cSt_spotWith_45 : decode prog_10_method_7_code 45 = .ok (.goto (-39), 3) := by decide +kernel
theorem d_cSt_spotWith_36 : decode prog_10_method_7_code 36 = .ok (.aconst_null, 1) := by decide +kernel
theorem d_cSt_spotWith_37 : decode prog_10_method_7_code 37 = .ok (.areturn, 1) := by decide +kernel
theorem d_cSt_spotWith_28 : decode prog_10_method_7_code 28 = .ok (.aload 5, 2) := by decide +kernel
theorem d_cSt_spotWith_30 : decode prog_10_method_7_code 30 = .ok (.areturn, 1) := by decide +kernel
set_option maxHeartbeats 4000000 in
set_option maxRecDepth 100000 in
theorem w_cSt_spotWith_B6 {p : Program} {l : Launch} {e : Env} {s : State} {m : MethodId} {args : Array Value} {below : List Frame} {meth : Method} {c : Code} {A : Nat → Prop} {D : va_G} {ad : Nat → Nat → Nat} {cc : Nat → ClassId} {sad sav : Nat → Nat} {Q : State → Prop} (hC : MCc sad sav "JoinedTrees$Store" prog_10_method_7_code 7 (some (.object "JoinedTrees$Spot")) p s m args meth c A D cc) {N : Nat → Nat} {x0 : Nat} {S : CS} {x2 : Option Nat} {x3 : Int32} {x4 : Int32} {x5 : Option Nat} {o : ((CS × Option Nat × Int32 × Int32 × Option Nat) ⊕ (CS ⊕ (CS × Option Nat)))} (Heq : m_cSt_spotWith_B6 N x0 S x2 x3 x4 x5 = some o) (Ka : ∀ b : CS × Option Nat × Int32 × Int32 × Option Nat, o = .inl b → ∀ (H : Heap) (locs : List Loc) (ls : Array Slot), va_P D cls (cw ad cc N b.1) H → va_D A (cw ad cc N b.1) → va_S A s.heap H locs → lv_has ls 7 [(0, .ref (ad 8 x0)), (2, rv ad 5 b.2.1), (3, .int b.2.2.1), (4, .int b.2.2.2.1), (5, rv ad 7 b.2.2.2.2)] → W p l e ({ frames := 3, cells := 0, slots := 0, locals := 72 }) s m args below meth c H locs 0 0 Q (F0 m 6 ls [])) (K0 : ∀ b : CS, o = .inr (.inl b) → ∀ (H : Heap) (locs : List Loc) (ls : Array Slot), va_P D cls (cw ad cc N b) H → va_D A (cw ad cc N b) → va_S A s.heap H locs → lv_has ls 7 [(0, .ref (ad 8 x0))] → W p l e ({ frames := 3, cells := 0, slots := 0, locals := 72 }) s m args below meth c H locs 0 0 Q (F0 m 48 ls [])) (Kr : ∀ r : CS × Option Nat, o = .inr (.inr r) → ∀ (pc : Nat) (H : Heap) (locs : List Loc) (ls : Array Slot), decode prog_10_method_7_code pc = .ok (.areturn, 1) → va_P D cls (cw ad cc N r.1) H → va_D A (cw ad cc N r.1) → va_S A s.heap H locs → W p l e ({ frames := 3, cells := 0, slots := 0, locals := 72 }) s m args below meth c H locs 0 0 Q (F0 m pc ls [rv ad 7 r.2])) : ∀ (H : Heap) (locs : List Loc) (ls : Array Slot), va_P D cls (cw ad cc N S) H → va_D A (cw ad cc N S) → va_S A s.heap H locs → lv_has ls 7 [(0, .ref (ad 8 x0)), (2, rv ad 5 x2), (3, .int x3), (4, .int x4), (5, rv ad 7 x5)] → W p l e ({ frames := 3, cells := 0, slots := 0, locals := 72 }) s m args below meth c H locs 0 0 Q (F0 m 6 ls []) := by
  intro H locs ls hP hD hS hl
  obtain ⟨hx, hb, hr, hml, hown, hts, hK, hA, hev, hE, hN, hNS⟩ := id hC
  unfold m_cSt_spotWith_B6 at Heq
  refine tx_aload (x := x5.map (ad 7)) hx hb d_cSt_spotWith_6 (lv_at hl 4 rfl) ?_
  refine w_v (y := rv ad 7 x5) rfl ?_
  rcases on_some Heq with ⟨hj_2, Heq⟩ | ⟨j_1, hj_2, Heq⟩
  · refine w_s (st' := [.null]) (congrArg (fun z9 : Option Nat => [rv ad 7 z9]) hj_2) ?_
    refine lv_ifnullN (tgt := 48) hx hb d_cSt_spotWith_8 (by decide) ?_
    exact K0 _ (Option.some.inj Heq).symm _ _ _ hP hD hS (lv_sub hl [0] rfl)
  · refine w_s (st' := [.ref (ad 7 j_1)]) (congrArg (fun z9 : Option Nat => [rv ad 7 z9]) hj_2) ?_
    refine lv_ifnull hx hb d_cSt_spotWith_8 ?_
    refine lv_aload_n hx hb d_cSt_spotWith_11 rfl (lv_at hl 0 rfl) ?_
    refine tx_aload (x := x5.map (ad 7)) hx hb d_cSt_spotWith_12 (lv_at hl 4 rfl) ?_
    refine w_v (y := rv ad 7 x5) rfl ?_
    refine tx_aload_n (x := x2.map (ad 5)) hx hb d_cSt_spotWith_14 rfl (lv_at hl 1 rfl) ?_
    refine w_v (y := rv ad 5 x2) rfl ?_
    refine lv_iload_n hx hb d_cSt_spotWith_15 rfl (lv_at hl 2 rfl) ?_
    refine lv_iload hx hb d_cSt_spotWith_16 (lv_at hl 3 rfl) ?_
    obtain ⟨j_3, hj_4, hl_5, Heq⟩ := gn_some Heq
    refine w_s (st' := [.int x4, .int x3, .ref (ad 5 j_3), rv ad 7 x5, .ref (ad 8 x0)]) (congrArg (fun z9 : Option Nat => [.int x4, .int x3, rv ad 5 z9, rv ad 7 x5, .ref (ad 8 x0)]) hj_4) ?_
    refine w_s (st' := [.int x4, .int x3, .ref (ad 5 j_3), .ref (ad 7 j_1), .ref (ad 8 x0)]) (congrArg (fun z9 : Option Nat => [.int x4, .int x3, .ref (ad 5 j_3), rv ad 7 z9, .ref (ad 8 x0)]) hj_2) ?_
    obtain ⟨hl_j_1_7, Heq⟩ := gl_some Heq
    obtain ⟨hl_x0_8, Heq⟩ := gl_some Heq
    obtain ⟨o_6, h_7, Heq⟩ := ob_some Heq
    have hFc := fr_all hD hS hA
    refine va_calli (va_runV (As := [.ref (ad 7 j_1), .ref (ad 5 j_3), .int x3, .int x4]) (rest := []) ⟨hx, hb, hml, hown, hts⟩ (g_cSt_compareKey l D H.size (ad := ad) (cc := cc) (sad := sad) (sav := sav) h_7) (cw_v 4 hts kw_681 kw_678 kw_679 kw_680 kw_2 rfl rfl (by decide +kernel) ⟨Nat.le_of_ble_eq_true rfl, Nat.le_of_ble_eq_true rfl⟩) ⟨c_blind, va_recv hK hP (ci := 8) (q0 := cPos N 8 x0) rfl (cw_obj (k := 8) (by decide) hl_x0_8), fun U hU hW => c_pre hU hW hP hK hD hev hE hN hNS hS hFc⟩ rfl rfl hl.1 rfl (lv_room (Nat.le_of_ble_eq_true rfl)) d_cSt_spotWith_18 ⟨Nat.le_of_ble_eq_true rfl, Nat.le_of_ble_eq_true rfl⟩) hS (fun q _ h => hFc q h) hFc (fun rz u t H1 locs ht hvm hw hB hz1 hk1 hS => ?_)
    obtain ⟨hP, -, hD1⟩ := hB
    rw [ht] at hP
    have hD := hD1.weaken (fun _ q _ h => hFc q.1 h)
    generalize H1 = H at hP hS ⊢
    refine W.cs (cells' := 0) (slots' := 0) rfl rfl ?_
    subst hw
    refine lv_istore (lv' := [(6, .int o_6.2), (0, .ref (ad 8 x0)), (2, rv ad 5 x2), (3, .int x3), (4, .int x4), (5, rv ad 7 x5)]) hx hb d_cSt_spotWith_21 hl (by decide) (by simp [rv, rf_cat]) (fun ls hl => ?_)
    refine lv_iload hx hb d_cSt_spotWith_23 (lv_at hl 0 rfl) ?_
    refine lv_if_ne (tgt := 31) hx hb d_cSt_spotWith_25 (by decide) (fun c_8 => ?_) (fun c_8 => ?_)
    · replace Heq := (if_neg c_8).symm.trans Heq
      refine lv_iload hx hb d_cSt_spotWith_31 (lv_at hl 0 rfl) ?_
      refine lv_if_le (tgt := 38) hx hb d_cSt_spotWith_33 (by decide) (fun c_9 => ?_) (fun c_9 => ?_)
      · replace Heq := (if_pos c_9).symm.trans Heq
        refine tx_aload (x := x5.map (ad 7)) hx hb d_cSt_spotWith_38 (lv_at hl 5 rfl) ?_
        refine w_v (y := rv ad 7 x5) rfl ?_
        refine w_s (st' := [.ref (ad 7 j_1)]) (congrArg (fun z9 : Option Nat => [rv ad 7 z9]) hj_2) ?_
        refine va_get (D := D) (ci := 7) (v := rv ad 7 (o_6.1.r 7 2 j_1)) (C := R_Sp) (T := F_Sp) (N := 3) hx hb hts i_Sp hown hK hP (cPos N 7 j_1) (cw_obj (k := 7) (by decide) hl_j_1_7) rfl 2 (by decide) (hts _ kw_747) (fun _ h9 => h9) rfl d_cSt_spotWith_40 ?_
        refine tx_astore (x := (o_6.1.r 7 2 j_1).map (ad 7)) (lv' := [(5, rv ad 7 (o_6.1.r 7 2 j_1)), (6, .int o_6.2), (0, .ref (ad 8 x0)), (2, rv ad 5 x2), (3, .int x3), (4, .int x4)]) hx hb d_cSt_spotWith_43 hl (by decide) rfl (fun ls hl => ?_)
        refine lv_goto (tgt := 6) hx hb d_cSt_spotWith_45 (by decide) ?_
        exact Ka _ (Option.some.inj Heq).symm _ _ _ hP hD hS (lv_sub hl [2, 3, 4, 5, 0] rfl)
      · replace Heq := (if_neg c_9).symm.trans Heq
        refine lv_null hx hb d_cSt_spotWith_36 ?_
        exact Kr _ (Option.some.inj Heq).symm 37 _ _ _ d_cSt_spotWith_37 hP hD hS
    · replace Heq := (if_pos c_8).symm.trans Heq
      refine tx_aload (x := x5.map (ad 7)) hx hb d_cSt_spotWith_28 (lv_at hl 5 rfl) ?_
      refine w_v (y := rv ad 7 x5) rfl ?_
      exact Kr _ (Option.some.inj Heq).symm 30 _ _ _ d_cSt_spotWith_30 hP hD hS
def m_cSt_spotWith_L6 (N : Nat → Nat) (x0 : Nat) (S : CS) (x2 : Option Nat) (x3 : Int32) (x4 : Int32) (x5 : Option Nat) : Option (CS ⊕ (CS × Option Nat)) := lp (fun a : CS × Option Nat × Int32 × Int32 × Option Nat => m_cSt_spotWith_B6 N x0 a.1 a.2.1 a.2.2.1 a.2.2.2.1 a.2.2.2.2) FU (S, x2, x3, x4, x5)
theorem w_cSt_spotWith_L6 {p : Program} {l : Launch} {e : Env} {s : State} {m : MethodId} {args : Array Value} {below : List Frame} {meth : Method} {c : Code} {A : Nat → Prop} {D : va_G} {ad : Nat → Nat → Nat} {cc : Nat → ClassId} {sad sav : Nat → Nat} {Q : State → Prop} (hC : MCc sad sav "JoinedTrees$Store" prog_10_method_7_code 7 (some (.object "JoinedTrees$Spot")) p s m args meth c A D cc) {N : Nat → Nat} {x0 : Nat} {S : CS} {x2 : Option Nat} {x3 : Int32} {x4 : Int32} {x5 : Option Nat} {o : (CS ⊕ (CS × Option Nat))} (Heq : m_cSt_spotWith_L6 N x0 S x2 x3 x4 x5 = some o) (K0 : ∀ b : CS, o = (.inl b) → ∀ (H : Heap) (locs : List Loc) (ls : Array Slot), va_P D cls (cw ad cc N b) H → va_D A (cw ad cc N b) → va_S A s.heap H locs → lv_has ls 7 [(0, .ref (ad 8 x0))] → W p l e ({ frames := 3, cells := 0, slots := 0, locals := 72 }) s m args below meth c H locs 0 0 Q (F0 m 48 ls [])) (Kr : ∀ r : CS × Option Nat, o = (.inr r) → ∀ (pc : Nat) (H : Heap) (locs : List Loc) (ls : Array Slot), decode prog_10_method_7_code pc = .ok (.areturn, 1) → va_P D cls (cw ad cc N r.1) H → va_D A (cw ad cc N r.1) → va_S A s.heap H locs → W p l e ({ frames := 3, cells := 0, slots := 0, locals := 72 }) s m args below meth c H locs 0 0 Q (F0 m pc ls [rv ad 7 r.2])) : ∀ (H : Heap) (locs : List Loc) (ls : Array Slot), va_P D cls (cw ad cc N S) H → va_D A (cw ad cc N S) → va_S A s.heap H locs → lv_has ls 7 [(0, .ref (ad 8 x0)), (2, rv ad 5 x2), (3, .int x3), (4, .int x4), (5, rv ad 7 x5)] → W p l e ({ frames := 3, cells := 0, slots := 0, locals := 72 }) s m args below meth c H locs 0 0 Q (F0 m 6 ls []) := by
  refine lp_w (G := fun a : CS × Option Nat × Int32 × Int32 × Option Nat => ∀ (H : Heap) (locs : List Loc) (ls : Array Slot), va_P D cls (cw ad cc N a.1) H → va_D A (cw ad cc N a.1) → va_S A s.heap H locs → lv_has ls 7 [(0, .ref (ad 8 x0)), (2, rv ad 5 a.2.1), (3, .int a.2.2.1), (4, .int a.2.2.2.1), (5, rv ad 7 a.2.2.2.2)] → W p l e ({ frames := 3, cells := 0, slots := 0, locals := 72 }) s m args below meth c H locs 0 0 Q (F0 m 6 ls [])) ?_ FU (S, x2, x3, x4, x5) Heq
  intro a o1 ho Ka Ke
  exact w_cSt_spotWith_B6 hC ho (fun b h => Ka b h) (fun b h => K0 b (Ke _ h).symm) (fun r h => Kr r (Ke _ h).symm)
def m_cSt_spotWith_J0 (N : Nat → Nat) (x0 : Nat) (S : CS) (x1 : Nat) (x2 : Nat) (x3 : Int32) (x4 : Int32) : Option (CS × Option Nat) := gl x1 (N 3) (oe (m_cSt_spotWith_L6 N x0 S (some x2) x3 x4 (S.r 3 13 x1)) (fun b_1 => some (b_1, none)) (fun r_3 => some r_3))
theorem d_cSt_spotWith_48 : decode prog_10_method_7_code 48 = .ok (.aconst_null, 1) := by decide +kernel
theorem d_cSt_spotWith_49 : decode prog_10_method_7_code 49 = .ok (.areturn, 1) := by decide +kernel
set_option maxHeartbeats 4000000 in
set_option maxRecDepth 100000 in
theorem w_cSt_spotWith_J0 {p : Program} {l : Launch} {e : Env} {s : State} {m : MethodId} {args : Array Value} {below : List Frame} {meth : Method} {c : Code} {A : Nat → Prop} {D : va_G} {ad : Nat → Nat → Nat} {cc : Nat → ClassId} {sad sav : Nat → Nat} {Q : State → Prop} (hC : MCc sad sav "JoinedTrees$Store" prog_10_method_7_code 7 (some (.object "JoinedTrees$Spot")) p s m args meth c A D cc) {N : Nat → Nat} {x0 : Nat} {S : CS} {x1 : Nat} {x2 : Nat} {x3 : Int32} {x4 : Int32} {o : CS × Option Nat} (Heq : m_cSt_spotWith_J0 N x0 S x1 x2 x3 x4 = some o) (Kr : ∀ r : CS × Option Nat, o = r → ∀ (pc : Nat) (H : Heap) (locs : List Loc) (ls : Array Slot), decode prog_10_method_7_code pc = .ok (.areturn, 1) → va_P D cls (cw ad cc N r.1) H → va_D A (cw ad cc N r.1) → va_S A s.heap H locs → W p l e ({ frames := 3, cells := 0, slots := 0, locals := 72 }) s m args below meth c H locs 0 0 Q (F0 m pc ls [rv ad 7 r.2])) : ∀ (H : Heap) (locs : List Loc) (ls : Array Slot), va_P D cls (cw ad cc N S) H → va_D A (cw ad cc N S) → va_S A s.heap H locs → lv_has ls 7 [(0, .ref (ad 8 x0)), (1, .ref (ad 3 x1)), (2, .ref (ad 5 x2)), (3, .int x3), (4, .int x4)] → W p l e ({ frames := 3, cells := 0, slots := 0, locals := 72 }) s m args below meth c H locs 0 0 Q (F0 m 0 ls []) := by
  intro H locs ls hP hD hS hl
  obtain ⟨hx, hb, hr, hml, hown, hts, hK, hA, hev, hE, hN, hNS⟩ := id hC
  unfold m_cSt_spotWith_J0 at Heq
  refine lv_aload_n hx hb d_cSt_spotWith_0 rfl (lv_at hl 1 rfl) ?_
  obtain ⟨hl_x1_3, Heq⟩ := gl_some Heq
  refine va_get (D := D) (ci := 3) (v := rv ad 7 (S.r 3 13 x1)) (C := R_Op) (T := F_Op) (N := 15) hx hb hts i_Op hown hK hP (cPos N 3 x1) (cw_obj (k := 3) (by decide) hl_x1_3) rfl 13 (by decide) (hts _ kw_99) (fun _ h9 => h9) rfl d_cSt_spotWith_1 ?_
  refine tx_astore (x := (S.r 3 13 x1).map (ad 7)) (lv' := [(5, rv ad 7 (S.r 3 13 x1)), (0, .ref (ad 8 x0)), (1, .ref (ad 3 x1)), (2, .ref (ad 5 x2)), (3, .int x3), (4, .int x4)]) hx hb d_cSt_spotWith_4 hl (by decide) rfl (fun ls hl => ?_)
  rcases oe_some Heq with ⟨b_1, h_2, Heq⟩ | ⟨r_3, h_2, Heq⟩
  · refine w_cSt_spotWith_L6 hC h_2 (fun b h => ?_) (fun r h => by cases h) _ _ _ hP hD hS (lv_sub hl [1, 3, 4, 5, 0] rfl)
    cases h
    intro H locs ls hP hD hS hl
    refine lv_null hx hb d_cSt_spotWith_48 ?_
    exact Kr _ (Option.some.inj Heq).symm 49 _ _ _ d_cSt_spotWith_49 hP hD hS
  · refine w_cSt_spotWith_L6 hC h_2 (fun b h => by cases h) (fun r h => ?_) _ _ _ hP hD hS (lv_sub hl [1, 3, 4, 5, 0] rfl)
    cases h
    exact Kr _ (Option.some.inj Heq).symm
def m_cSt_spotWith (N : Nat → Nat) (x0 : Nat) (S : CS) (x1 : Nat) (x2 : Nat) (x3 : Int32) (x4 : Int32) : Option (CS × Option Nat) := m_cSt_spotWith_J0 N x0 S x1 x2 x3 x4
set_option maxHeartbeats 4000000 in
theorem g_cSt_spotWith (l : Launch) (D : va_G) (sz : Nat) {ad : Nat → Nat → Nat} {cc : Nat → ClassId} {sad sav : Nat → Nat} {N : Nat → Nat} {x0 : Nat} {S : CS} {x1 : Nat} {x2 : Nat} {x3 : Int32} {x4 : Int32} {o : CS × Option Nat} (Heq : m_cSt_spotWith N x0 S x1 x2 x3 x4 = some o) : Met l ⟨"JoinedTrees$Store", "spotWith", "(LJoinedTrees$Op;LJoinedTrees$Row;II)LJoinedTrees$Spot;"⟩ (Cond.code ⟨"JoinedTrees$Store", "spotWith", "(LJoinedTrees$Op;LJoinedTrees$Row;II)LJoinedTrees$Spot;"⟩ prog_10_method_7_code 7 (some (.object "JoinedTrees$Spot")) :: gb) ({ frames := 3, cells := 0, slots := 0, locals := 72 }) (cPc sad sav D (cw ad cc N S) (cty cc) sz [.ref (ad 8 x0), .ref (ad 3 x1), .ref (ad 5 x2), .int x3, .int x4]) (va_Qq (fun (r : Option Nat) (_ : Unit) => r = o.2.map (ad 7)) (fun _ t => gO D (cw ad cc N o.1) (cty cc) (va_A (cw ad cc N S) sz) t) (va_A (cw ad cc N S) sz)) 0 0 (va_A (cw ad cc N S) sz) := by
  refine Met.ofW (cc := prog_10_method_7_code) (maxL := 7) (ret := (some (.object "JoinedTrees$Spot"))) (by decide) rfl ?_
  intro p e s m args below meth c s₁ B hml hv
  obtain ⟨rfl, hsz, hP, hK, hD0, hev, hE, hN⟩ := hv
  have hx := B.exec
  have hb := B.bytes
  have hr := B.returns
  have hts : ∀ w9 ∈ gb, w9.before [.ref (ad 8 x0), .ref (ad 3 x1), .ref (ad 5 x2), .int x3, .int x4].toArray s = true := fun w9 h => atoms_spec (ws := Cond.code ⟨"JoinedTrees$Store", "spotWith", "(LJoinedTrees$Op;LJoinedTrees$Row;II)LJoinedTrees$Spot;"⟩ prog_10_method_7_code 7 (some (.object "JoinedTrees$Spot")) :: gb) B.pre w9 (List.mem_cons_of_mem _ h)
  have hown : s.vm.findClass "JoinedTrees$Store" = some m.cls := findClass_of_methodNamed B.named
  have hlocks := B.notSynchronized
  have hNS := ns_of hP
  subst hsz
  have hD := hD0.self (sz := s.heap.size)
  generalize hAe : va_A (cw ad cc N S) s.heap.size = A at hD hev hE hNS ⊢
  have hA : ∀ q : Nat, s.heap.size ≤ q → A q := fun q h => by rw [← hAe]; exact Or.inr h
  have hS : va_S A s.heap s.heap [] := va_S.rf
  obtain ⟨ls, hl, hle⟩ : ∃ ls : Array Slot, lv_has ls 7 [(0, .ref (ad 8 x0)), (1, .ref (ad 3 x1)), (2, .ref (ad 5 x2)), (3, .int x3), (4, .int x4)] ∧ entryFrame m ([.ref (ad 8 x0), .ref (ad 3 x1), .ref (ad 5 x2), .int x3, .int x4] : List Value).toArray 7 = F0 m 0 ls [] := by
    exact ⟨_, lv_entry (n := 7) _ (Nat.le_of_ble_eq_true rfl), lg_entry_eq ..⟩
  rw [hle]
  refine w_cSt_spotWith_J0 ⟨hx, hb, hr, hml, hown, hts, hK, hA, hev, hE, hN, hNS⟩ Heq (fun r h pc H locs ls hd hP hD hS => ?_) _ _ _ hP hD hS (lv_sub hl [0, 1, 2, 3, 4] rfl)
  subst h
  exact W.aret hx hb hr (Or.inl ⟨_, rfl⟩) (va_rf_or _) (fun t ht hW => ⟨⟨_, (), rfl, rfl, by rw [ht]; exact hP, va_K.moved hW.alike hK, hD⟩, hS.F ht⟩) hS.2.2 hd
def m_cVw_strikePreds_B2 (N : Nat → Nat) (x0 : Nat) (S : CS) (x1 : Option Nat) (x2 : Int32) : Option ((CS × Option Nat × Int32) ⊕ CS) := gn x1 (N 3) (fun j_1 => on (S.r 3 7 j_1) (some (.inr (S))) (fun j_4 => gl j_4 (N 15) ((if nI (S.z 15 j_4) ≤ x2 then some (.inr (S)) else gd x2 (S.z 15 j_4) (gl x0 (N 10) (gn (S.q 15 j_4 x2.toNatClampNeg) (N 3) (fun j_8 => some (.inl ((S.setI 3 14 j_8 (S.i 10 4 x0)), x1, (x2 + 1))))))))))
theorem d_cVw_strikePreds_0 : decode prog_12_method_6_code 0 = .ok (.iconst 0, 1) := by decide +kernel
theorem d_cVw_strikePreds_1 : decode prog_12_method_6_code 1 = .ok (.istore_n 2, 1) := by decide +kernel
theorem d_cVw_strikePreds_2 : decode prog_12_method_6_code 2 = .ok (.aload_n 1, 1) := by decide +kernel
theorem d_cVw_strikePreds_3 : decode prog_12_method_6_code 3 = .ok (.getfield 90, 3) := by decide +kernel
theorem d_cVw_strikePreds_6 : decode prog_12_method_6_code 6 = .ok (.ifnull 31, 3) := by decide +kernel
theorem d_cVw_strikePreds_9 : decode prog_12_method_6_code 9 = .ok (.iload_n 2, 1) := by decide +kernel
theorem d_cVw_strikePreds_10 : decode prog_12_method_6_code 10 = .ok (.aload_n 1, 1) := by decide +kernel
theorem d_cVw_strikePreds_11 : decode prog_12_method_6_code 11 = .ok (.getfield 90, 3) := by decide +kernel
theorem d_cVw_strikePreds_14 : decode prog_12_method_6_code 14 = .ok (.arraylength, 1) := by decide +kernel
theorem d_cVw_strikePreds_15 : decode prog_12_method_6_code 15 = .ok (.if_icmp .ge 22, 3) := by decide +kernel
theorem d_cVw_strikePreds_18 : decode prog_12_method_6_code 18 = .ok (.aload_n 1, 1) := by decide +kernel
theorem d_cVw_strikePreds_19 : decode prog_12_method_6_code 19 = .ok (.getfield 90, 3) := by decide +kernel
theorem d_cVw_strikePreds_22 : decode prog_12_method_6_code 22 = .ok (.iload_n 2, 1) := by decide +kernel
theorem d_cVw_strikePreds_23 : decode prog_12_method_6_code 23 = .ok (.aaload, 1) := by decide +kernel
theorem d_cVw_strikePreds_24 : decode prog_12_method_6_code 24 = .ok (.aload_n 0, 1) := by decide +kernel
theorem d_cVw_strikePreds_25 : decode prog_12_method_6_code 25 = .ok (.getfield 69, 3) := by decide +kernel
theorem d_cVw_strikePreds_28 : decode prog_12_method_6_code 28 = .ok (.putfield 84, 3) := by decide +kernel
theorem d_cVw_strikePreds_31 : decode prog_12_method_6_code 31 = .ok (.iinc 2 1, 3) := by decide +kernel
theorem d_cVw_strikePreds_34 : decode prog_12_method_6_code 34 = .ok (.goto (-32), 3) := by decide +kernel
set_option maxHeartbeats 4000000 in
set_option maxRecDepth 100000 in
theorem w_cVw_strikePreds_B2 {p : Program} {l : Launch} {e : Env} {s : State} {m : MethodId} {args : Array Value} {below : List Frame} {meth : Method} {c : Code} {A : Nat → Prop} {D : va_G} {ad : Nat → Nat → Nat} {cc : Nat → ClassId} {sad sav : Nat → Nat} {Q : State → Prop} (hC : MCc sad sav "JoinedTrees$View" prog_12_method_6_code 3 none p s m args meth c A D cc) {N : Nat → Nat} {x0 : Nat} {S : CS} {x1 : Option Nat} {x2 : Int32} {o : ((CS × Option Nat × Int32) ⊕ CS)} (Heq : m_cVw_strikePreds_B2 N x0 S x1 x2 = some o) (Ka : ∀ b : CS × Option Nat × Int32, o = .inl b → ∀ (H : Heap) (locs : List Loc) (ls : Array Slot), va_P D cls (cw ad cc N b.1) H → va_D A (cw ad cc N b.1) → va_S A s.heap H locs → lv_has ls 3 [(0, .ref (ad 10 x0)), (1, rv ad 3 b.2.1), (2, .int b.2.2)] → W p l e ({ frames := 0, cells := 0, slots := 0, locals := 0 }) s m args below meth c H locs 0 0 Q (F0 m 2 ls [])) (K0 : ∀ b : CS, o = .inr b → ∀ (H : Heap) (locs : List Loc) (ls : Array Slot), va_P D cls (cw ad cc N b) H → va_D A (cw ad cc N b) → va_S A s.heap H locs → lv_has ls 3 [(0, .ref (ad 10 x0))] → W p l e ({ frames := 0, cells := 0, slots := 0, locals := 0 }) s m args below meth c H locs 0 0 Q (F0 m 37 ls [])) : ∀ (H : Heap) (locs : List Loc) (ls : Array Slot), va_P D cls (cw ad cc N S) H → va_D A (cw ad cc N S) → va_S A s.heap H locs → lv_has ls 3 [(0, .ref (ad 10 x0)), (1, rv ad 3 x1), (2, .int x2)] → W p l e ({ frames := 0, cells := 0, slots := 0, locals := 0 }) s m args below meth c H locs 0 0 Q (F0 m 2 ls []) := by
  intro H locs ls hP hD hS hl
  obtain ⟨hx, hb, hr, hml, hown, hts, hK, hA, hev, hE, hN, hNS⟩ := id hC
  unfold m_cVw_strikePreds_B2 at Heq
  refine tx_aload_n (x := x1.map (ad 3)) hx hb d_cVw_strikePreds_2 rfl (lv_at hl 1 rfl) ?_
  refine w_v (y := rv ad 3 x1) rfl ?_
  obtain ⟨j_1, hj_2, hl_3, Heq⟩ := gn_some Heq
  refine w_s (st' := [.ref (ad 3 j_1)]) (congrArg (fun z9 : Option Nat => [rv ad 3 z9]) hj_2) ?_
  refine va_get (D := D) (ci := 3) (v := rv ad 15 (S.r 3 7 j_1)) (C := R_Op) (T := F_Op) (N := 15) hx hb hts i_Op hown hK hP (cPos N 3 j_1) (cw_obj (k := 3) (by decide) hl_3) rfl 7 (by decide) (hts _ kw_75) (fun _ h9 => h9) rfl d_cVw_strikePreds_3 ?_
  rcases on_some Heq with ⟨hj_5, Heq⟩ | ⟨j_4, hj_5, Heq⟩
  · refine w_s (st' := [.null]) (congrArg (fun z9 : Option Nat => [rv ad 15 z9]) hj_5) ?_
    refine lv_ifnullN (tgt := 37) hx hb d_cVw_strikePreds_6 (by decide) ?_
    exact K0 _ (Option.some.inj Heq).symm _ _ _ hP hD hS (lv_sub hl [0] rfl)
  · refine w_s (st' := [.ref (ad 15 j_4)]) (congrArg (fun z9 : Option Nat => [rv ad 15 z9]) hj_5) ?_
    refine lv_ifnull hx hb d_cVw_strikePreds_6 ?_
    refine lv_iload_n hx hb d_cVw_strikePreds_9 rfl (lv_at hl 2 rfl) ?_
    refine tx_aload_n (x := x1.map (ad 3)) hx hb d_cVw_strikePreds_10 rfl (lv_at hl 1 rfl) ?_
    refine w_v (y := rv ad 3 x1) rfl ?_
    refine w_s (st' := [.ref (ad 3 j_1), .int x2]) (congrArg (fun z9 : Option Nat => [rv ad 3 z9, .int x2]) hj_2) ?_
    refine va_get (D := D) (ci := 3) (v := rv ad 15 (S.r 3 7 j_1)) (C := R_Op) (T := F_Op) (N := 15) hx hb hts i_Op hown hK hP (cPos N 3 j_1) (cw_obj (k := 3) (by decide) hl_3) rfl 7 (by decide) (hts _ kw_75) (fun _ h9 => h9) rfl d_cVw_strikePreds_11 ?_
    refine w_s (st' := [.ref (ad 15 j_4), .int x2]) (congrArg (fun z9 : Option Nat => [rv ad 15 z9, .int x2]) hj_5) ?_
    obtain ⟨hl_j_4_15, Heq⟩ := gl_some Heq
    refine va_alen (v := nI (S.z 15 j_4)) hx hb hK hP (cPos N 15 j_4) 3 (cw_refs (k := 15) (by decide) hl_j_4_15) rfl rfl d_cVw_strikePreds_14 ?_
    refine lv_icmp_ge (tgt := 37) hx hb d_cVw_strikePreds_15 (by decide) (fun c_6 => ?_) (fun c_6 => ?_)
    · replace Heq := (if_pos c_6).symm.trans Heq
      exact K0 _ (Option.some.inj Heq).symm _ _ _ hP hD hS (lv_sub hl [0] rfl)
    · replace Heq := (if_neg c_6).symm.trans Heq
      refine tx_aload_n (x := x1.map (ad 3)) hx hb d_cVw_strikePreds_18 rfl (lv_at hl 1 rfl) ?_
      refine w_v (y := rv ad 3 x1) rfl ?_
      refine w_s (st' := [.ref (ad 3 j_1)]) (congrArg (fun z9 : Option Nat => [rv ad 3 z9]) hj_2) ?_
      refine va_get (D := D) (ci := 3) (v := rv ad 15 (S.r 3 7 j_1)) (C := R_Op) (T := F_Op) (N := 15) hx hb hts i_Op hown hK hP (cPos N 3 j_1) (cw_obj (k := 3) (by decide) hl_3) rfl 7 (by decide) (hts _ kw_75) (fun _ h9 => h9) rfl d_cVw_strikePreds_19 ?_
      refine lv_iload_n hx hb d_cVw_strikePreds_22 rfl (lv_at hl 2 rfl) ?_
      refine w_s (st' := [.int x2, .ref (ad 15 j_4)]) (congrArg (fun z9 : Option Nat => [.int x2, rv ad 15 z9]) hj_5) ?_
      obtain ⟨hi_7, Heq⟩ := gd_some Heq
      refine va_aldq hx hb hK hP (cPos N 15 j_4) 3 (cw_refs (k := 15) (by decide) hl_j_4_15) rfl (i := x2) hi_7 d_cVw_strikePreds_23 ?_
      refine w_v (y := rv ad 3 (S.q 15 j_4 x2.toNatClampNeg)) (congrArg (rv ad 3) rfl) ?_
      refine lv_aload_n hx hb d_cVw_strikePreds_24 rfl (lv_at hl 0 rfl) ?_
      obtain ⟨hl_x0_10, Heq⟩ := gl_some Heq
      refine va_get (D := D) (ci := 10) (v := .int (S.i 10 4 x0)) (C := R_Vw) (T := F_Vw) (N := 5) hx hb hts i_Vw hown hK hP (cPos N 10 x0) (cw_obj (k := 10) (by decide) hl_x0_10) rfl 4 (by decide) (hts _ kw_268) (fun _ h9 => h9) rfl d_cVw_strikePreds_25 ?_
      obtain ⟨j_8, hj_9, hl_10, Heq⟩ := gn_some Heq
      refine w_s (st' := [.int (S.i 10 4 x0), .ref (ad 3 j_8)]) (congrArg (fun z9 : Option Nat => [.int (S.i 10 4 x0), rv ad 3 z9]) hj_9) ?_
      refine va_put (D := D) (ci := 3) (v := .int (S.i 10 4 x0)) (ty := .int) (C := R_Op) (T := F_Op) (N := 15) hx hb hts i_Op t_Op t_Op_ok n_Op hown hK hP hD hS (cPos N 3 j_8) (cw_obj (k := 3) (by decide) hl_10) rfl 14 (by decide) (hts _ kw_101) (fun _ h9 => h9) rfl (by decide +kernel) rfl rfl (Nat.le_of_ble_eq_true rfl) d_cVw_strikePreds_28 (fun H locs hP hD hS => ?_)
      have hD := (congrArg (fun w9 => va_D A w9) (cw_setI (ad := ad) (cc := cc) (S := S) (k := 3) (f := 14) (v := S.i 10 4 x0) (by decide) rfl hl_10)).mp hD
      have hP := (congrArg (fun w9 => va_P D cls w9 H) (cw_setI (ad := ad) (cc := cc) (S := S) (k := 3) (f := 14) (v := S.i 10 4 x0) (by decide) rfl hl_10)).mp hP
      refine lv_iinc (v := x2 + 1) (lv' := [(2, .int (x2 + 1)), (0, .ref (ad 10 x0)), (1, rv ad 3 x1)]) hx hb d_cVw_strikePreds_31 hl (k := 2) rfl rfl (by decide) (by simp [rv, rf_cat]) (fun ls hl => ?_)
      refine lv_goto (tgt := 2) hx hb d_cVw_strikePreds_34 (by decide) ?_
      exact Ka _ (Option.some.inj Heq).symm _ _ _ hP hD hS (lv_sub hl [1, 2, 0] rfl)
def m_cVw_strikePreds_L2 (N : Nat → Nat) (x0 : Nat) (S : CS) (x1 : Option Nat) (x2 : Int32) : Option CS := lp (fun a : CS × Option Nat × Int32 => m_cVw_strikePreds_B2 N x0 a.1 a.2.1 a.2.2) FU (S, x1, x2)
theorem w_cVw_strikePreds_L2 {p : Program} {l : Launch} {e : Env} {s : State} {m : MethodId} {args : Array Value} {below : List Frame} {meth : Method} {c : Code} {A : Nat → Prop} {D : va_G} {ad : Nat → Nat → Nat} {cc : Nat → ClassId} {sad sav : Nat → Nat} {Q : State → Prop} (hC : MCc sad sav "JoinedTrees$View" prog_12_method_6_code 3 none p s m args meth c A D cc) {N : Nat → Nat} {x0 : Nat} {S : CS} {x1 : Option Nat} {x2 : Int32} {o : CS} (Heq : m_cVw_strikePreds_L2 N x0 S x1 x2 = some o) (K0 : ∀ b : CS, o = b → ∀ (H : Heap) (locs : List Loc) (ls : Array Slot), va_P D cls (cw ad cc N b) H → va_D A (cw ad cc N b) → va_S A s.heap H locs → lv_has ls 3 [(0, .ref (ad 10 x0))] → W p l e ({ frames := 0, cells := 0, slots := 0, locals := 0 }) s m args below meth c H locs 0 0 Q (F0 m 37 ls [])) : ∀ (H : Heap) (locs : List Loc) (ls : Array Slot), va_P D cls (cw ad cc N S) H → va_D A (cw ad cc N S) → va_S A s.heap H locs → lv_has ls 3 [(0, .ref (ad 10 x0)), (1, rv ad 3 x1), (2, .int x2)] → W p l e ({ frames := 0, cells := 0, slots := 0, locals := 0 }) s m args below meth c H locs 0 0 Q (F0 m 2 ls []) := by
  refine lp_w (G := fun a : CS × Option Nat × Int32 => ∀ (H : Heap) (locs : List Loc) (ls : Array Slot), va_P D cls (cw ad cc N a.1) H → va_D A (cw ad cc N a.1) → va_S A s.heap H locs → lv_has ls 3 [(0, .ref (ad 10 x0)), (1, rv ad 3 a.2.1), (2, .int a.2.2)] → W p l e ({ frames := 0, cells := 0, slots := 0, locals := 0 }) s m args below meth c H locs 0 0 Q (F0 m 2 ls [])) ?_ FU (S, x1, x2) Heq
  intro a o1 ho Ka Ke
  exact w_cVw_strikePreds_B2 hC ho (fun b h => Ka b h) (fun b h => K0 b (Ke _ h).symm)
def m_cVw_strikePreds_J37 (N : Nat → Nat) (x0 : Nat) (S : CS) : Option CS := some S
theorem d_cVw_strikePreds_37 : decode prog_12_method_6_code 37 = .ok (.return_, 1) := by decide +kernel
set_option maxHeartbeats 4000000 in
set_option maxRecDepth 100000 in
theorem w_cVw_strikePreds_J37 {p : Program} {l : Launch} {e : Env} {s : State} {m : MethodId} {args : Array Value} {below : List Frame} {meth : Method} {c : Code} {A : Nat → Prop} {D : va_G} {ad : Nat → Nat → Nat} {cc : Nat → ClassId} {sad sav : Nat → Nat} {Q : State → Prop} (hC : MCc sad sav "JoinedTrees$View" prog_12_method_6_code 3 none p s m args meth c A D cc) {N : Nat → Nat} {x0 : Nat} {S : CS} {o : CS} (Heq : m_cVw_strikePreds_J37 N x0 S = some o) (Kr : ∀ r : CS, o = r → ∀ (pc : Nat) (H : Heap) (locs : List Loc) (ls : Array Slot), decode prog_12_method_6_code pc = .ok (.return_, 1) → va_P D cls (cw ad cc N r) H → va_D A (cw ad cc N r) → va_S A s.heap H locs → W p l e ({ frames := 0, cells := 0, slots := 0, locals := 0 }) s m args below meth c H locs 0 0 Q (F0 m pc ls [])) : ∀ (H : Heap) (locs : List Loc) (ls : Array Slot), va_P D cls (cw ad cc N S) H → va_D A (cw ad cc N S) → va_S A s.heap H locs → lv_has ls 3 [(0, .ref (ad 10 x0))] → W p l e ({ frames := 0, cells := 0, slots := 0, locals := 0 }) s m args below meth c H locs 0 0 Q (F0 m 37 ls []) := by
  intro H locs ls hP hD hS hl
  obtain ⟨hx, hb, hr, hml, hown, hts, hK, hA, hev, hE, hN, hNS⟩ := id hC
  unfold m_cVw_strikePreds_J37 at Heq
  exact Kr _ (Option.some.inj Heq).symm 37 _ _ _ d_cVw_strikePreds_37 hP hD hS
def m_cVw_strikePreds_J0 (N : Nat → Nat) (x0 : Nat) (S : CS) (x1 : Nat) : Option CS := ob (m_cVw_strikePreds_L2 N x0 S (some x1) 0) (fun b_1 => m_cVw_strikePreds_J37 N x0 b_1)
set_option maxHeartbeats 4000000 in
set_option maxRecDepth 100000 in
theorem w_cVw_strikePreds_J0 {p : Program} {l : Launch} {e : Env} {s : State} {m : MethodId} {args : Array Value} {below : List Frame} {meth : Method} {c : Code} {A : Nat → Prop} {D : va_G} {ad : Nat → Nat → Nat} {cc : Nat → ClassId} {sad sav : Nat → Nat} {Q : State → Prop} (hC : MCc sad sav "JoinedTrees$View" prog_12_method_6_code 3 none p s m args meth c A D cc) {N : Nat → Nat} {x0 : Nat} {S : CS} {x1 : Nat} {o : CS} (Heq : m_cVw_strikePreds_J0 N x0 S x1 = some o) (Kr : ∀ r : CS, o = r → ∀ (pc : Nat) (H : Heap) (locs : List Loc) (ls : Array Slot), decode prog_12_method_6_code pc = .ok (.return_, 1) → va_P D cls (cw ad cc N r) H → va_D A (cw ad cc N r) → va_S A s.heap H locs → W p l e ({ frames := 0, cells := 0, slots := 0, locals := 0 }) s m args below meth c H locs 0 0 Q (F0 m pc ls [])) : ∀ (H : Heap) (locs : List Loc) (ls : Array Slot), va_P D cls (cw ad cc N S) H → va_D A (cw ad cc N S) → va_S A s.heap H locs → lv_has ls 3 [(0, .ref (ad 10 x0)), (1, .ref (ad 3 x1))] → W p l e ({ frames := 0, cells := 0, slots := 0, locals := 0 }) s m args below meth c H locs 0 0 Q (F0 m 0 ls []) := by
  intro H locs ls hP hD hS hl
  obtain ⟨hx, hb, hr, hml, hown, hts, hK, hA, hev, hE, hN, hNS⟩ := id hC
  unfold m_cVw_strikePreds_J0 at Heq
  refine lv_iconst (v := 0) hx hb d_cVw_strikePreds_0 (by decide) ?_
  refine lv_istore_n (lv' := [(2, .int 0), (0, .ref (ad 10 x0)), (1, .ref (ad 3 x1))]) hx hb d_cVw_strikePreds_1 rfl hl (by decide) rfl (fun ls hl => ?_)
  obtain ⟨b_1, h_2, Heq⟩ := ob_some Heq
  refine w_cVw_strikePreds_L2 hC h_2 (fun b h => ?_) _ _ _ hP hD hS (lv_sub hl [1, 2, 0] rfl)
  subst h
  intro H locs ls hP hD hS hl
  exact w_cVw_strikePreds_J37 hC Heq Kr _ _ _ hP hD hS (lv_sub hl [0] rfl)
def m_cVw_strikePreds (N : Nat → Nat) (x0 : Nat) (S : CS) (x1 : Nat) : Option CS := m_cVw_strikePreds_J0 N x0 S x1
set_option maxHeartbeats 4000000 in
theorem g_cVw_strikePreds (l : Launch) (D : va_G) (sz : Nat) {ad : Nat → Nat → Nat} {cc : Nat → ClassId} {sad sav : Nat → Nat} {N : Nat → Nat} {x0 : Nat} {S : CS} {x1 : Nat} {o : CS} (Heq : m_cVw_strikePreds N x0 S x1 = some o) : Met l ⟨"JoinedTrees$View", "strikePreds", "(LJoinedTrees$Op;)V"⟩ (Cond.code ⟨"JoinedTrees$View", "strikePreds", "(LJoinedTrees$Op;)V"⟩ prog_12_method_6_code 3 none :: gb) ({ frames := 0, cells := 0, slots := 0, locals := 0 }) (cPc sad sav D (cw ad cc N S) (cty cc) sz [.ref (ad 10 x0), .ref (ad 3 x1)]) (va_Qv (fun _ : Unit => True) (fun _ t => gO D (cw ad cc N o) (cty cc) (va_A (cw ad cc N S) sz) t) (va_A (cw ad cc N S) sz)) 0 0 (va_A (cw ad cc N S) sz) := by
  refine Met.ofW (cc := prog_12_method_6_code) (maxL := 3) (ret := none) (by decide) rfl ?_
  intro p e s m args below meth c s₁ B hml hv
  obtain ⟨rfl, hsz, hP, hK, hD0, hev, hE, hN⟩ := hv
  have hx := B.exec
  have hb := B.bytes
  have hr := B.returns
  have hts : ∀ w9 ∈ gb, w9.before [.ref (ad 10 x0), .ref (ad 3 x1)].toArray s = true := fun w9 h => atoms_spec (ws := Cond.code ⟨"JoinedTrees$View", "strikePreds", "(LJoinedTrees$Op;)V"⟩ prog_12_method_6_code 3 none :: gb) B.pre w9 (List.mem_cons_of_mem _ h)
  have hown : s.vm.findClass "JoinedTrees$View" = some m.cls := findClass_of_methodNamed B.named
  have hlocks := B.notSynchronized
  have hNS := ns_of hP
  subst hsz
  have hD := hD0.self (sz := s.heap.size)
  generalize hAe : va_A (cw ad cc N S) s.heap.size = A at hD hev hE hNS ⊢
  have hA : ∀ q : Nat, s.heap.size ≤ q → A q := fun q h => by rw [← hAe]; exact Or.inr h
  have hS : va_S A s.heap s.heap [] := va_S.rf
  obtain ⟨ls, hl, hle⟩ : ∃ ls : Array Slot, lv_has ls 3 [(0, .ref (ad 10 x0)), (1, .ref (ad 3 x1))] ∧ entryFrame m ([.ref (ad 10 x0), .ref (ad 3 x1)] : List Value).toArray 3 = F0 m 0 ls [] := by
    exact ⟨_, lv_entry (n := 3) _ (Nat.le_of_ble_eq_true rfl), lg_entry_eq ..⟩
  rw [hle]
  refine w_cVw_strikePreds_J0 ⟨hx, hb, hr, hml, hown, hts, hK, hA, hev, hE, hN, hNS⟩ Heq (fun r h pc H locs ls hd hP hD hS => ?_) _ _ _ hP hD hS (lv_sub hl [0, 1] rfl)
  subst h
  exact W.vret hx hb hr (fun t ht hW => ⟨⟨(), rfl, trivial, by rw [ht]; exact hP, va_K.moved hW.alike hK, hD⟩, hS.F ht⟩) hS.2.2 hd
def m_cVw_gather_J95 (N : Nat → Nat) (x0 : Nat) (S : CS) (x2 : Option Nat) : Option ((CS × Option Nat) ⊕ CS) := gn x2 (N 3) (fun j_1 => some (.inl (S, (S.r 3 12 j_1))))
theorem d_cVw_gather_0 : decode prog_12_method_5_code 0 = .ok (.aload_n 0, 1) := by decide +kernel
theorem d_cVw_gather_1 : decode prog_12_method_5_code 1 = .ok (.iconst 0, 1) := by decide +kernel
theorem d_cVw_gather_2 : decode prog_12_method_5_code 2 = .ok (.putfield 66, 3) := by decide +kernel
theorem d_cVw_gather_5 : decode prog_12_method_5_code 5 = .ok (.aload_n 0, 1) := by decide +kernel
theorem d_cVw_gather_6 : decode prog_12_method_5_code 6 = .ok (.dup, 1) := by decide +kernel
theorem d_cVw_gather_7 : decode prog_12_method_5_code 7 = .ok (.getfield 69, 3) := by decide +kernel
theorem d_cVw_gather_10 : decode prog_12_method_5_code 10 = .ok (.iconst 1, 1) := by decide +kernel
theorem d_cVw_gather_11 : decode prog_12_method_5_code 11 = .ok (.iadd, 1) := by decide +kernel
theorem d_cVw_gather_12 : decode prog_12_method_5_code 12 = .ok (.putfield 69, 3) := by decide +kernel
theorem d_cVw_gather_15 : decode prog_12_method_5_code 15 = .ok (.aload_n 1, 1) := by decide +kernel
theorem d_cVw_gather_16 : decode prog_12_method_5_code 16 = .ok (.getfield 72, 3) := by decide +kernel
theorem d_cVw_gather_19 : decode prog_12_method_5_code 19 = .ok (.astore_n 2, 1) := by decide +kernel
theorem d_cVw_gather_20 : decode prog_12_method_5_code 20 = .ok (.aload_n 2, 1) := by decide +kernel
theorem d_cVw_gather_21 : decode prog_12_method_5_code 21 = .ok (.ifnull 82, 3) := by decide +kernel
theorem d_cVw_gather_24 : decode prog_12_method_5_code 24 = .ok (.aload_n 2, 1) := by decide +kernel
theorem d_cVw_gather_25 : decode prog_12_method_5_code 25 = .ok (.getfield 77, 3) := by decide +kernel
theorem d_cVw_gather_28 : decode prog_12_method_5_code 28 = .ok (.bipush 10, 2) := by decide +kernel
theorem d_cVw_gather_30 : decode prog_12_method_5_code 30 = .ok (.if_icmp .eq 65, 3) := by decide +kernel
theorem d_cVw_gather_95 : decode prog_12_method_5_code 95 = .ok (.aload_n 2, 1) := by decide +kernel
theorem d_cVw_gather_96 : decode prog_12_method_5_code 96 = .ok (.getfield 87, 3) := by decide +kernel
theorem d_cVw_gather_99 : decode prog_12_method_5_code 99 = .ok (.astore_n 2, 1) := by decide +kernel
theorem d_cVw_gather_100 : decode prog_12_method_5_code 100 = .ok (.goto (-80), 3) := by decide +kernel
set_option maxHeartbeats 4000000 in
set_option maxRecDepth 100000 in
theorem w_cVw_gather_J95 {p : Program} {l : Launch} {e : Env} {s : State} {m : MethodId} {args : Array Value} {below : List Frame} {meth : Method} {c : Code} {A : Nat → Prop} {D : va_G} {ad : Nat → Nat → Nat} {cc : Nat → ClassId} {sad sav : Nat → Nat} {Q : State → Prop} (hC : MCc sad sav "JoinedTrees$View" prog_12_method_5_code 3 none p s m args meth c A D cc) {N : Nat → Nat} {x0 : Nat} {S : CS} {x2 : Option Nat} {o : ((CS × Option Nat) ⊕ CS)} (Heq : m_cVw_gather_J95 N x0 S x2 = some o) (Ka : ∀ b : CS × Option Nat, o = .inl b → ∀ (H : Heap) (locs : List Loc) (ls : Array Slot), va_P D cls (cw ad cc N b.1) H → va_D A (cw ad cc N b.1) → va_S A s.heap H locs → lv_has ls 3 [(0, .ref (ad 10 x0)), (2, rv ad 3 b.2)] → W p l e ({ frames := 1, cells := 0, slots := 0, locals := 22 }) s m args below meth c H locs 0 0 Q (F0 m 20 ls [])) (K0 : ∀ b : CS, o = .inr b → ∀ (H : Heap) (locs : List Loc) (ls : Array Slot), va_P D cls (cw ad cc N b) H → va_D A (cw ad cc N b) → va_S A s.heap H locs → lv_has ls 3 [(0, .ref (ad 10 x0))] → W p l e ({ frames := 1, cells := 0, slots := 0, locals := 22 }) s m args below meth c H locs 0 0 Q (F0 m 103 ls [])) : ∀ (H : Heap) (locs : List Loc) (ls : Array Slot), va_P D cls (cw ad cc N S) H → va_D A (cw ad cc N S) → va_S A s.heap H locs → lv_has ls 3 [(0, .ref (ad 10 x0)), (2, rv ad 3 x2)] → W p l e ({ frames := 1, cells := 0, slots := 0, locals := 22 }) s m args below meth c H locs 0 0 Q (F0 m 95 ls []) := by
  intro H locs ls hP hD hS hl
  obtain ⟨hx, hb, hr, hml, hown, hts, hK, hA, hev, hE, hN, hNS⟩ := id hC
  unfold m_cVw_gather_J95 at Heq
  refine tx_aload_n (x := x2.map (ad 3)) hx hb d_cVw_gather_95 rfl (lv_at hl 1 rfl) ?_
  refine w_v (y := rv ad 3 x2) rfl ?_
  obtain ⟨j_1, hj_2, hl_3, Heq⟩ := gn_some Heq
  refine w_s (st' := [.ref (ad 3 j_1)]) (congrArg (fun z9 : Option Nat => [rv ad 3 z9]) hj_2) ?_
  refine va_get (D := D) (ci := 3) (v := rv ad 3 (S.r 3 12 j_1)) (C := R_Op) (T := F_Op) (N := 15) hx hb hts i_Op hown hK hP (cPos N 3 j_1) (cw_obj (k := 3) (by decide) hl_3) rfl 12 (by decide) (hts _ kw_97) (fun _ h9 => h9) rfl d_cVw_gather_96 ?_
  refine tx_astore_n (x := (S.r 3 12 j_1).map (ad 3)) (lv' := [(2, rv ad 3 (S.r 3 12 j_1)), (0, .ref (ad 10 x0))]) hx hb d_cVw_gather_99 rfl hl (by decide) rfl (fun ls hl => ?_)
  refine lv_goto (tgt := 20) hx hb d_cVw_gather_100 (by decide) ?_
  exact Ka _ (Option.some.inj Heq).symm _ _ _ hP hD hS (lv_sub hl [1, 0] rfl)
def m_cVw_gather_B20 (N : Nat → Nat) (x0 : Nat) (S : CS) (x2 : Option Nat) : Option ((CS × Option Nat) ⊕ CS) := on x2 (some (.inr (S))) (fun j_1 => gl j_1 (N 3) ((if S.i 3 2 j_1 = 10 then m_cVw_gather_J95 N x0 S x2 else gl x0 (N 10) (ob (m_cVw_shows N x0 S j_1) (fun o_4 => (if o_4.2 = 0 then m_cVw_gather_J95 N x0 o_4.1 x2 else ob (m_cVw_strikePreds N x0 o_4.1 j_1) (fun o_7 => (if o_7.i 3 2 j_1 = 9 then m_cVw_gather_J95 N x0 o_7 x2 else (if o_7.i 3 14 j_1 = o_7.i 10 4 x0 then m_cVw_gather_J95 N x0 o_7 x2 else (if 8 ≤ o_7.i 10 3 x0 then m_cVw_gather_J95 N x0 o_7 x2 else gn (o_7.r 10 2 x0) (N 15) (fun j_12 => gd (o_7.i 10 3 x0) (o_7.z 15 j_12) (m_cVw_gather_J95 N x0 ((o_7.setQ 15 j_12 ((o_7.i 10 3 x0).toNatClampNeg) (some j_1)).setI 10 3 x0 ((o_7.i 10 3 x0) + 1)) x2))))))))))))
theorem d_cVw_gather_33 : decode prog_12_method_5_code 33 = .ok (.aload_n 0, 1) := by decide +kernel
theorem d_cVw_gather_34 : decode prog_12_method_5_code 34 = .ok (.aload_n 2, 1) := by decide +kernel
theorem d_cVw_gather_35 : decode prog_12_method_5_code 35 = .ok (.invokevirtual 62, 3) := by decide +kernel
theorem d_cVw_gather_38 : decode prog_12_method_5_code 38 = .ok (.ifCond .eq 57, 3) := by decide +kernel
theorem d_cVw_gather_41 : decode prog_12_method_5_code 41 = .ok (.aload_n 0, 1) := by decide +kernel
theorem d_cVw_gather_42 : decode prog_12_method_5_code 42 = .ok (.aload_n 2, 1) := by decide +kernel
theorem d_cVw_gather_43 : decode prog_12_method_5_code 43 = .ok (.invokevirtual 80, 3) := by decide +kernel
theorem d_cVw_gather_46 : decode prog_12_method_5_code 46 = .ok (.aload_n 2, 1) := by decide +kernel
theorem d_cVw_gather_47 : decode prog_12_method_5_code 47 = .ok (.getfield 77, 3) := by decide +kernel
theorem d_cVw_gather_50 : decode prog_12_method_5_code 50 = .ok (.bipush 9, 2) := by decide +kernel
theorem d_cVw_gather_52 : decode prog_12_method_5_code 52 = .ok (.if_icmp .eq 43, 3) := by decide +kernel
theorem d_cVw_gather_55 : decode prog_12_method_5_code 55 = .ok (.aload_n 2, 1) := by decide +kernel
theorem d_cVw_gather_56 : decode prog_12_method_5_code 56 = .ok (.getfield 84, 3) := by decide +kernel
theorem d_cVw_gather_59 : decode prog_12_method_5_code 59 = .ok (.aload_n 0, 1) := by decide +kernel
theorem d_cVw_gather_60 : decode prog_12_method_5_code 60 = .ok (.getfield 69, 3) := by decide +kernel
theorem d_cVw_gather_63 : decode prog_12_method_5_code 63 = .ok (.if_icmp .eq 32, 3) := by decide +kernel
theorem d_cVw_gather_66 : decode prog_12_method_5_code 66 = .ok (.aload_n 0, 1) := by decide +kernel
theorem d_cVw_gather_67 : decode prog_12_method_5_code 67 = .ok (.getfield 66, 3) := by decide +kernel
theorem d_cVw_gather_70 : decode prog_12_method_5_code 70 = .ok (.bipush 8, 2) := by decide +kernel
theorem d_cVw_gather_72 : decode prog_12_method_5_code 72 = .ok (.if_icmp .ge 23, 3) := by decide +kernel
theorem d_cVw_gather_75 : decode prog_12_method_5_code 75 = .ok (.aload_n 0, 1) := by decide +kernel
theorem d_cVw_gather_76 : decode prog_12_method_5_code 76 = .ok (.getfield 17, 3) := by decide +kernel
theorem d_cVw_gather_79 : decode prog_12_method_5_code 79 = .ok (.aload_n 0, 1) := by decide +kernel
theorem d_cVw_gather_80 : decode prog_12_method_5_code 80 = .ok (.getfield 66, 3) := by decide +kernel
theorem d_cVw_gather_83 : decode prog_12_method_5_code 83 = .ok (.aload_n 2, 1) := by decide +kernel
theorem d_cVw_gather_84 : decode prog_12_method_5_code 84 = .ok (.aastore, 1) := by decide +kernel
theorem d_cVw_gather_85 : decode prog_12_method_5_code 85 = .ok (.aload_n 0, 1) := by decide +kernel
theorem d_cVw_gather_86 : decode prog_12_method_5_code 86 = .ok (.dup, 1) := by decide +kernel
theorem d_cVw_gather_87 : decode prog_12_method_5_code 87 = .ok (.getfield 66, 3) := by decide +kernel
theorem d_cVw_gather_90 : decode prog_12_method_5_code 90 = .ok (.iconst 1, 1) := by decide +kernel
theorem d_cVw_gather_91 : decode prog_12_method_5_code 91 = .ok (.iadd, 1) := by decide +kernel
theorem d_cVw_gather_92 : decode prog_12_method_5_code 92 = .ok (.putfield 66, 3) := by decide +kernel
set_option maxHeartbeats 4000000 in
set_option maxRecDepth 100000 in
theorem w_cVw_gather_B20 {p : Program} {l : Launch} {e : Env} {s : State} {m : MethodId} {args : Array Value} {below : List Frame} {meth : Method} {c : Code} {A : Nat → Prop} {D : va_G} {ad : Nat → Nat → Nat} {cc : Nat → ClassId} {sad sav : Nat → Nat} {Q : State → Prop} (hC : MCc sad sav "JoinedTrees$View" prog_12_method_5_code 3 none p s m args meth c A D cc) {N : Nat → Nat} {x0 : Nat} {S : CS} {x2 : Option Nat} {o : ((CS × Option Nat) ⊕ CS)} (Heq : m_cVw_gather_B20 N x0 S x2 = some o) (Ka : ∀ b : CS × Option Nat, o = .inl b → ∀ (H : Heap) (locs : List Loc) (ls : Array Slot), va_P D cls (cw ad cc N b.1) H → va_D A (cw ad cc N b.1) → va_S A s.heap H locs → lv_has ls 3 [(0, .ref (ad 10 x0)), (2, rv ad 3 b.2)] → W p l e ({ frames := 1, cells := 0, slots := 0, locals := 22 }) s m args below meth c H locs 0 0 Q (F0 m 20 ls [])) (K0 : ∀ b : CS, o = .inr b → ∀ (H : Heap) (locs : List Loc) (ls : Array Slot), va_P D cls (cw ad cc N b) H → va_D A (cw ad cc N b) → va_S A s.heap H locs → lv_has ls 3 [(0, .ref (ad 10 x0))] → W p l e ({ frames := 1, cells := 0, slots := 0, locals := 22 }) s m args below meth c H locs 0 0 Q (F0 m 103 ls [])) : ∀ (H : Heap) (locs : List Loc) (ls : Array Slot), va_P D cls (cw ad cc N S) H → va_D A (cw ad cc N S) → va_S A s.heap H locs → lv_has ls 3 [(0, .ref (ad 10 x0)), (2, rv ad 3 x2)] → W p l e ({ frames := 1, cells := 0, slots := 0, locals := 22 }) s m args below meth c H locs 0 0 Q (F0 m 20 ls []) := by
  intro H locs ls hP hD hS hl
  obtain ⟨hx, hb, hr, hml, hown, hts, hK, hA, hev, hE, hN, hNS⟩ := id hC
  unfold m_cVw_gather_B20 at Heq
  refine tx_aload_n (x := x2.map (ad 3)) hx hb d_cVw_gather_20 rfl (lv_at hl 1 rfl) ?_
  refine w_v (y := rv ad 3 x2) rfl ?_
  rcases on_some Heq with ⟨hj_2, Heq⟩ | ⟨j_1, hj_2, Heq⟩
  · refine w_s (st' := [.null]) (congrArg (fun z9 : Option Nat => [rv ad 3 z9]) hj_2) ?_
    refine lv_ifnullN (tgt := 103) hx hb d_cVw_gather_21 (by decide) ?_
    exact K0 _ (Option.some.inj Heq).symm _ _ _ hP hD hS (lv_sub hl [0] rfl)
  · refine w_s (st' := [.ref (ad 3 j_1)]) (congrArg (fun z9 : Option Nat => [rv ad 3 z9]) hj_2) ?_
    refine lv_ifnull hx hb d_cVw_gather_21 ?_
    refine tx_aload_n (x := x2.map (ad 3)) hx hb d_cVw_gather_24 rfl (lv_at hl 1 rfl) ?_
    refine w_v (y := rv ad 3 x2) rfl ?_
    refine w_s (st' := [.ref (ad 3 j_1)]) (congrArg (fun z9 : Option Nat => [rv ad 3 z9]) hj_2) ?_
    obtain ⟨hl_j_1_3, Heq⟩ := gl_some Heq
    refine va_get (D := D) (ci := 3) (v := .int (S.i 3 2 j_1)) (C := R_Op) (T := F_Op) (N := 15) hx hb hts i_Op hown hK hP (cPos N 3 j_1) (cw_obj (k := 3) (by decide) hl_j_1_3) rfl 2 (by decide) (hts _ kw_61) (fun _ h9 => h9) rfl d_cVw_gather_25 ?_
    refine lv_bipush (v := 10) hx hb d_cVw_gather_28 (by decide) ?_
    refine lv_icmp_eq (tgt := 95) hx hb d_cVw_gather_30 (by decide) (fun c_3 => ?_) (fun c_3 => ?_)
    · replace Heq := (if_pos c_3).symm.trans Heq
      exact w_cVw_gather_J95 hC Heq Ka K0 _ _ _ hP hD hS (lv_sub hl [0, 1] rfl)
    · replace Heq := (if_neg c_3).symm.trans Heq
      refine lv_aload_n hx hb d_cVw_gather_33 rfl (lv_at hl 0 rfl) ?_
      refine tx_aload_n (x := x2.map (ad 3)) hx hb d_cVw_gather_34 rfl (lv_at hl 1 rfl) ?_
      refine w_v (y := rv ad 3 x2) rfl ?_
      refine w_s (st' := [.ref (ad 3 j_1), .ref (ad 10 x0)]) (congrArg (fun z9 : Option Nat => [rv ad 3 z9, .ref (ad 10 x0)]) hj_2) ?_
      obtain ⟨hl_x0_10, Heq⟩ := gl_some Heq
      obtain ⟨o_4, h_5, Heq⟩ := ob_some Heq
      have hFc := fr_all hD hS hA
      refine va_calli (va_runV (As := [.ref (ad 3 j_1)]) (rest := []) ⟨hx, hb, hml, hown, hts⟩ (g_cVw_shows l D H.size (ad := ad) (cc := cc) (sad := sad) (sav := sav) h_5) (cw_v 1 hts kw_624 kw_621 kw_622 kw_623 kw_6 rfl rfl (by decide +kernel) ⟨Nat.le_of_ble_eq_true rfl, Nat.le_of_ble_eq_true rfl⟩) ⟨c_blind, va_recv hK hP (ci := 10) (q0 := cPos N 10 x0) rfl (cw_obj (k := 10) (by decide) hl_x0_10), fun U hU hW => c_pre hU hW hP hK hD hev hE hN hNS hS hFc⟩ rfl rfl hl.1 rfl (lv_room (Nat.le_of_ble_eq_true rfl)) d_cVw_gather_35 ⟨Nat.le_of_ble_eq_true rfl, Nat.le_of_ble_eq_true rfl⟩) hS (fun q _ h => hFc q h) hFc (fun rz u t H1 locs ht hvm hw hB hz1 hk1 hS => ?_)
      obtain ⟨hP, -, hD1⟩ := hB
      rw [ht] at hP
      have hD := hD1.weaken (fun _ q _ h => hFc q.1 h)
      generalize H1 = H at hP hS ⊢
      refine W.cs (cells' := 0) (slots' := 0) rfl rfl ?_
      subst hw
      refine lv_if_eq (tgt := 95) hx hb d_cVw_gather_38 (by decide) (fun c_6 => ?_) (fun c_6 => ?_)
      · replace Heq := (if_pos c_6).symm.trans Heq
        exact w_cVw_gather_J95 hC Heq Ka K0 _ _ _ hP hD hS (lv_sub hl [0, 1] rfl)
      · replace Heq := (if_neg c_6).symm.trans Heq
        refine lv_aload_n hx hb d_cVw_gather_41 rfl (lv_at hl 0 rfl) ?_
        refine tx_aload_n (x := x2.map (ad 3)) hx hb d_cVw_gather_42 rfl (lv_at hl 1 rfl) ?_
        refine w_v (y := rv ad 3 x2) rfl ?_
        refine w_s (st' := [.ref (ad 3 j_1), .ref (ad 10 x0)]) (congrArg (fun z9 : Option Nat => [rv ad 3 z9, .ref (ad 10 x0)]) hj_2) ?_
        obtain ⟨o_7, h_8, Heq⟩ := ob_some Heq
        have hFc := fr_all hD hS hA
        refine va_callv (va_runV (As := [.ref (ad 3 j_1)]) (rest := []) ⟨hx, hb, hml, hown, hts⟩ (g_cVw_strikePreds l D H.size (ad := ad) (cc := cc) (sad := sad) (sav := sav) h_8) (cw_v 1 hts kw_701 kw_698 kw_699 kw_700 kw_6 rfl rfl (by decide +kernel) ⟨Nat.le_of_ble_eq_true rfl, Nat.le_of_ble_eq_true rfl⟩) ⟨c_blind, va_recv hK hP (ci := 10) (q0 := cPos N 10 x0) rfl (cw_obj (k := 10) (by decide) hl_x0_10), fun U hU hW => c_pre hU hW hP hK hD hev hE hN hNS hS hFc⟩ rfl rfl hl.1 rfl (lv_room (Nat.le_of_ble_eq_true rfl)) d_cVw_gather_43 ⟨Nat.le_of_ble_eq_true rfl, Nat.le_of_ble_eq_true rfl⟩) hS (fun q _ h => hFc q h) hFc (fun u t H1 locs ht hvm hw hB hz1 hk1 hS => ?_)
        obtain ⟨hP, -, hD1⟩ := hB
        rw [ht] at hP
        have hD := hD1.weaken (fun _ q _ h => hFc q.1 h)
        generalize H1 = H at hP hS ⊢
        refine W.cs (cells' := 0) (slots' := 0) rfl rfl ?_
        refine tx_aload_n (x := x2.map (ad 3)) hx hb d_cVw_gather_46 rfl (lv_at hl 1 rfl) ?_
        refine w_v (y := rv ad 3 x2) rfl ?_
        refine w_s (st' := [.ref (ad 3 j_1)]) (congrArg (fun z9 : Option Nat => [rv ad 3 z9]) hj_2) ?_
        refine va_get (D := D) (ci := 3) (v := .int (o_7.i 3 2 j_1)) (C := R_Op) (T := F_Op) (N := 15) hx hb hts i_Op hown hK hP (cPos N 3 j_1) (cw_obj (k := 3) (by decide) hl_j_1_3) rfl 2 (by decide) (hts _ kw_61) (fun _ h9 => h9) rfl d_cVw_gather_47 ?_
        refine lv_bipush (v := 9) hx hb d_cVw_gather_50 (by decide) ?_
        refine lv_icmp_eq (tgt := 95) hx hb d_cVw_gather_52 (by decide) (fun c_9 => ?_) (fun c_9 => ?_)
        · replace Heq := (if_pos c_9).symm.trans Heq
          exact w_cVw_gather_J95 hC Heq Ka K0 _ _ _ hP hD hS (lv_sub hl [0, 1] rfl)
        · replace Heq := (if_neg c_9).symm.trans Heq
          refine tx_aload_n (x := x2.map (ad 3)) hx hb d_cVw_gather_55 rfl (lv_at hl 1 rfl) ?_
          refine w_v (y := rv ad 3 x2) rfl ?_
          refine w_s (st' := [.ref (ad 3 j_1)]) (congrArg (fun z9 : Option Nat => [rv ad 3 z9]) hj_2) ?_
          refine va_get (D := D) (ci := 3) (v := .int (o_7.i 3 14 j_1)) (C := R_Op) (T := F_Op) (N := 15) hx hb hts i_Op hown hK hP (cPos N 3 j_1) (cw_obj (k := 3) (by decide) hl_j_1_3) rfl 14 (by decide) (hts _ kw_101) (fun _ h9 => h9) rfl d_cVw_gather_56 ?_
          refine lv_aload_n hx hb d_cVw_gather_59 rfl (lv_at hl 0 rfl) ?_
          refine va_get (D := D) (ci := 10) (v := .int (o_7.i 10 4 x0)) (C := R_Vw) (T := F_Vw) (N := 5) hx hb hts i_Vw hown hK hP (cPos N 10 x0) (cw_obj (k := 10) (by decide) hl_x0_10) rfl 4 (by decide) (hts _ kw_268) (fun _ h9 => h9) rfl d_cVw_gather_60 ?_
          refine lv_icmp_eq (tgt := 95) hx hb d_cVw_gather_63 (by decide) (fun c_10 => ?_) (fun c_10 => ?_)
          · replace Heq := (if_pos c_10).symm.trans Heq
            exact w_cVw_gather_J95 hC Heq Ka K0 _ _ _ hP hD hS (lv_sub hl [0, 1] rfl)
          · replace Heq := (if_neg c_10).symm.trans Heq
            refine lv_aload_n hx hb d_cVw_gather_66 rfl (lv_at hl 0 rfl) ?_
            refine va_get (D := D) (ci := 10) (v := .int (o_7.i 10 3 x0)) (C := R_Vw) (T := F_Vw) (N := 5) hx hb hts i_Vw hown hK hP (cPos N 10 x0) (cw_obj (k := 10) (by decide) hl_x0_10) rfl 3 (by decide) (hts _ kw_266) (fun _ h9 => h9) rfl d_cVw_gather_67 ?_
            refine lv_bipush (v := 8) hx hb d_cVw_gather_70 (by decide) ?_
            refine lv_icmp_ge (tgt := 95) hx hb d_cVw_gather_72 (by decide) (fun c_11 => ?_) (fun c_11 => ?_)
            · replace Heq := (if_pos c_11).symm.trans Heq
              exact w_cVw_gather_J95 hC Heq Ka K0 _ _ _ hP hD hS (lv_sub hl [0, 1] rfl)
            · replace Heq := (if_neg c_11).symm.trans Heq
              refine lv_aload_n hx hb d_cVw_gather_75 rfl (lv_at hl 0 rfl) ?_
              refine va_get (D := D) (ci := 10) (v := rv ad 15 (o_7.r 10 2 x0)) (C := R_Vw) (T := F_Vw) (N := 5) hx hb hts i_Vw hown hK hP (cPos N 10 x0) (cw_obj (k := 10) (by decide) hl_x0_10) rfl 2 (by decide) (hts _ kw_264) (fun _ h9 => h9) rfl d_cVw_gather_76 ?_
              refine lv_aload_n hx hb d_cVw_gather_79 rfl (lv_at hl 0 rfl) ?_
              refine va_get (D := D) (ci := 10) (v := .int (o_7.i 10 3 x0)) (C := R_Vw) (T := F_Vw) (N := 5) hx hb hts i_Vw hown hK hP (cPos N 10 x0) (cw_obj (k := 10) (by decide) hl_x0_10) rfl 3 (by decide) (hts _ kw_266) (fun _ h9 => h9) rfl d_cVw_gather_80 ?_
              refine tx_aload_n (x := x2.map (ad 3)) hx hb d_cVw_gather_83 rfl (lv_at hl 1 rfl) ?_
              refine w_v (y := rv ad 3 x2) rfl ?_
              obtain ⟨j_12, hj_13, hl_14, Heq⟩ := gn_some Heq
              refine w_s (st' := [rv ad 3 x2, .int (o_7.i 10 3 x0), .ref (ad 15 j_12)]) (congrArg (fun z9 : Option Nat => [rv ad 3 x2, .int (o_7.i 10 3 x0), rv ad 15 z9]) hj_13) ?_
              obtain ⟨hi_15, Heq⟩ := gd_some Heq
              refine w_s (st' := [.ref (ad 3 j_1), .int (o_7.i 10 3 x0), .ref (ad 15 j_12)]) (congrArg (fun z9 : Option Nat => [rv ad 3 z9, .int (o_7.i 10 3 x0), .ref (ad 15 j_12)]) hj_2) ?_
              refine va_astq hx hb hK hP hD hS (cPos N 15 j_12) 3 (cPos N 3 j_1) 3 (cw_refs (k := 15) (by decide) hl_14) rfl (cw_obj (k := 3) (by decide) hl_j_1_3) rfl (i := o_7.i 10 3 x0) hi_15 d_cVw_gather_84 (fun H locs hP hD hS => ?_)
              have hD := (congrArg (fun w9 => va_D A w9) (cw_setQ (ad := ad) (cc := cc) (S := o_7) (k := 15) (i := (o_7.i 10 3 x0).toNatClampNeg) (v := (some j_1)) (by decide) hl_14)).mp hD
              have hP := (congrArg (fun w9 => va_P D cls w9 H) (cw_setQ (ad := ad) (cc := cc) (S := o_7) (k := 15) (i := (o_7.i 10 3 x0).toNatClampNeg) (v := (some j_1)) (by decide) hl_14)).mp hP
              refine lv_aload_n hx hb d_cVw_gather_85 rfl (lv_at hl 0 rfl) ?_
              refine lv_dup hx hb d_cVw_gather_86 (by first | rfl | exact rv_cat) ?_
              refine va_get (D := D) (ci := 10) (v := .int ((o_7.setQ 15 j_12 ((o_7.i 10 3 x0).toNatClampNeg) (some j_1)).i 10 3 x0)) (C := R_Vw) (T := F_Vw) (N := 5) hx hb hts i_Vw hown hK hP (cPos N 10 x0) (cw_obj (k := 10) (by decide) hl_x0_10) rfl 3 (by decide) (hts _ kw_266) (fun _ h9 => h9) rfl d_cVw_gather_87 ?_
              refine w_i (y := o_7.i 10 3 x0) rfl ?_
              refine lv_iconst (v := 1) hx hb d_cVw_gather_90 (by decide) ?_
              refine lv_iadd hx hb d_cVw_gather_91 ?_
              refine w_i (y := (o_7.i 10 3 x0) + 1) rfl ?_
              refine va_put (D := D) (ci := 10) (v := .int ((o_7.i 10 3 x0) + 1)) (ty := .int) (C := R_Vw) (T := F_Vw) (N := 5) hx hb hts i_Vw t_Vw t_Vw_ok n_Vw hown hK hP hD hS (cPos N 10 x0) (cw_obj (k := 10) (by decide) hl_x0_10) rfl 3 (by decide) (hts _ kw_266) (fun _ h9 => h9) rfl (by decide +kernel) rfl rfl (Nat.le_of_ble_eq_true rfl) d_cVw_gather_92 (fun H locs hP hD hS => ?_)
              have hD := (congrArg (fun w9 => va_D A w9) (cw_setI (ad := ad) (cc := cc) (S := (o_7.setQ 15 j_12 ((o_7.i 10 3 x0).toNatClampNeg) (some j_1))) (k := 10) (f := 3) (v := (o_7.i 10 3 x0) + 1) (by decide) rfl hl_x0_10)).mp hD
              have hP := (congrArg (fun w9 => va_P D cls w9 H) (cw_setI (ad := ad) (cc := cc) (S := (o_7.setQ 15 j_12 ((o_7.i 10 3 x0).toNatClampNeg) (some j_1))) (k := 10) (f := 3) (v := (o_7.i 10 3 x0) + 1) (by decide) rfl hl_x0_10)).mp hP
              exact w_cVw_gather_J95 hC Heq Ka K0 _ _ _ hP hD hS (lv_sub hl [0, 1] rfl)
def m_cVw_gather_L20 (N : Nat → Nat) (x0 : Nat) (S : CS) (x2 : Option Nat) : Option CS := lp (fun a : CS × Option Nat => m_cVw_gather_B20 N x0 a.1 a.2) FU (S, x2)
theorem w_cVw_gather_L20 {p : Program} {l : Launch} {e : Env} {s : State} {m : MethodId} {args : Array Value} {below : List Frame} {meth : Method} {c : Code} {A : Nat → Prop} {D : va_G} {ad : Nat → Nat → Nat} {cc : Nat → ClassId} {sad sav : Nat → Nat} {Q : State → Prop} (hC : MCc sad sav "JoinedTrees$View" prog_12_method_5_code 3 none p s m args meth c A D cc) {N : Nat → Nat} {x0 : Nat} {S : CS} {x2 : Option Nat} {o : CS} (Heq : m_cVw_gather_L20 N x0 S x2 = some o) (K0 : ∀ b : CS, o = b → ∀ (H : Heap) (locs : List Loc) (ls : Array Slot), va_P D cls (cw ad cc N b) H → va_D A (cw ad cc N b) → va_S A s.heap H locs → lv_has ls 3 [(0, .ref (ad 10 x0))] → W p l e ({ frames := 1, cells := 0, slots := 0, locals := 22 }) s m args below meth c H locs 0 0 Q (F0 m 103 ls [])) : ∀ (H : Heap) (locs : List Loc) (ls : Array Slot), va_P D cls (cw ad cc N S) H → va_D A (cw ad cc N S) → va_S A s.heap H locs → lv_has ls 3 [(0, .ref (ad 10 x0)), (2, rv ad 3 x2)] → W p l e ({ frames := 1, cells := 0, slots := 0, locals := 22 }) s m args below meth c H locs 0 0 Q (F0 m 20 ls []) := by
  refine lp_w (G := fun a : CS × Option Nat => ∀ (H : Heap) (locs : List Loc) (ls : Array Slot), va_P D cls (cw ad cc N a.1) H → va_D A (cw ad cc N a.1) → va_S A s.heap H locs → lv_has ls 3 [(0, .ref (ad 10 x0)), (2, rv ad 3 a.2)] → W p l e ({ frames := 1, cells := 0, slots := 0, locals := 22 }) s m args below meth c H locs 0 0 Q (F0 m 20 ls [])) ?_ FU (S, x2) Heq
  intro a o1 ho Ka Ke
  exact w_cVw_gather_B20 hC ho (fun b h => Ka b h) (fun b h => K0 b (Ke _ h).symm)
def m_cVw_gather_J0 (N : Nat → Nat) (x0 : Nat) (S : CS) (x1 : Nat) : Option CS := gl x0 (N 10) (gl x1 (N 7) (ob (m_cVw_gather_L20 N x0 ((S.setI 10 3 x0 0).setI 10 4 x0 ((S.i 10 4 x0) + 1)) (S.r 7 1 x1)) (fun b_1 => some b_1)))
theorem d_cVw_gather_103 : decode prog_12_method_5_code 103 = .ok (.return_, 1) := by decide +kernel
set_option maxHeartbeats 4000000 in
set_option maxRecDepth 100000 in
theorem w_cVw_gather_J0 {p : Program} {l : Launch} {e : Env} {s : State} {m : MethodId} {args : Array Value} {below : List Frame} {meth : Method} {c : Code} {A : Nat → Prop} {D : va_G} {ad : Nat → Nat → Nat} {cc : Nat → ClassId} {sad sav : Nat → Nat} {Q : State → Prop} (hC : MCc sad sav "JoinedTrees$View" prog_12_method_5_code 3 none p s m args meth c A D cc) {N : Nat → Nat} {x0 : Nat} {S : CS} {x1 : Nat} {o : CS} (Heq : m_cVw_gather_J0 N x0 S x1 = some o) (Kr : ∀ r : CS, o = r → ∀ (pc : Nat) (H : Heap) (locs : List Loc) (ls : Array Slot), decode prog_12_method_5_code pc = .ok (.return_, 1) → va_P D cls (cw ad cc N r) H → va_D A (cw ad cc N r) → va_S A s.heap H locs → W p l e ({ frames := 1, cells := 0, slots := 0, locals := 22 }) s m args below meth c H locs 0 0 Q (F0 m pc ls [])) : ∀ (H : Heap) (locs : List Loc) (ls : Array Slot), va_P D cls (cw ad cc N S) H → va_D A (cw ad cc N S) → va_S A s.heap H locs → lv_has ls 3 [(0, .ref (ad 10 x0)), (1, .ref (ad 7 x1))] → W p l e ({ frames := 1, cells := 0, slots := 0, locals := 22 }) s m args below meth c H locs 0 0 Q (F0 m 0 ls []) := by
  intro H locs ls hP hD hS hl
  obtain ⟨hx, hb, hr, hml, hown, hts, hK, hA, hev, hE, hN, hNS⟩ := id hC
  unfold m_cVw_gather_J0 at Heq
  refine lv_aload_n hx hb d_cVw_gather_0 rfl (lv_at hl 0 rfl) ?_
  refine lv_iconst (v := 0) hx hb d_cVw_gather_1 (by decide) ?_
  obtain ⟨hl_x0_10, Heq⟩ := gl_some Heq
  refine va_put (D := D) (ci := 10) (v := .int 0) (ty := .int) (C := R_Vw) (T := F_Vw) (N := 5) hx hb hts i_Vw t_Vw t_Vw_ok n_Vw hown hK hP hD hS (cPos N 10 x0) (cw_obj (k := 10) (by decide) hl_x0_10) rfl 3 (by decide) (hts _ kw_266) (fun _ h9 => h9) rfl (by decide +kernel) rfl rfl (Nat.le_of_ble_eq_true rfl) d_cVw_gather_2 (fun H locs hP hD hS => ?_)
  have hD := (congrArg (fun w9 => va_D A w9) (cw_setI (ad := ad) (cc := cc) (S := S) (k := 10) (f := 3) (v := 0) (by decide) rfl hl_x0_10)).mp hD
  have hP := (congrArg (fun w9 => va_P D cls w9 H) (cw_setI (ad := ad) (cc := cc) (S := S) (k := 10) (f := 3) (v := 0) (by decide) rfl hl_x0_10)).mp hP
  refine lv_aload_n hx hb d_cVw_gather_5 rfl (lv_at hl 0 rfl) ?_
  refine lv_dup hx hb d_cVw_gather_6 (by first | rfl | exact rv_cat) ?_
  refine va_get (D := D) (ci := 10) (v := .int ((S.setI 10 3 x0 0).i 10 4 x0)) (C := R_Vw) (T := F_Vw) (N := 5) hx hb hts i_Vw hown hK hP (cPos N 10 x0) (cw_obj (k := 10) (by decide) hl_x0_10) rfl 4 (by decide) (hts _ kw_268) (fun _ h9 => h9) rfl d_cVw_gather_7 ?_
  refine w_i (y := S.i 10 4 x0) rfl ?_
  refine lv_iconst (v := 1) hx hb d_cVw_gather_10 (by decide) ?_
  refine lv_iadd hx hb d_cVw_gather_11 ?_
  refine w_i (y := (S.i 10 4 x0) + 1) rfl ?_
  refine va_put (D := D) (ci := 10) (v := .int ((S.i 10 4 x0) + 1)) (ty := .int) (C := R_Vw) (T := F_Vw) (N := 5) hx hb hts i_Vw t_Vw t_Vw_ok n_Vw hown hK hP hD hS (cPos N 10 x0) (cw_obj (k := 10) (by decide) hl_x0_10) rfl 4 (by decide) (hts _ kw_268) (fun _ h9 => h9) rfl (by decide +kernel) rfl rfl (Nat.le_of_ble_eq_true rfl) d_cVw_gather_12 (fun H locs hP hD hS => ?_)
  have hD := (congrArg (fun w9 => va_D A w9) (cw_setI (ad := ad) (cc := cc) (S := (S.setI 10 3 x0 0)) (k := 10) (f := 4) (v := (S.i 10 4 x0) + 1) (by decide) rfl hl_x0_10)).mp hD
  have hP := (congrArg (fun w9 => va_P D cls w9 H) (cw_setI (ad := ad) (cc := cc) (S := (S.setI 10 3 x0 0)) (k := 10) (f := 4) (v := (S.i 10 4 x0) + 1) (by decide) rfl hl_x0_10)).mp hP
  refine lv_aload_n hx hb d_cVw_gather_15 rfl (lv_at hl 1 rfl) ?_
  obtain ⟨hl_x1_7, Heq⟩ := gl_some Heq
  refine va_get (D := D) (ci := 7) (v := rv ad 3 (((S.setI 10 3 x0 0).setI 10 4 x0 ((S.i 10 4 x0) + 1)).r 7 1 x1)) (C := R_Sp) (T := F_Sp) (N := 3) hx hb hts i_Sp hown hK hP (cPos N 7 x1) (cw_obj (k := 7) (by decide) hl_x1_7) rfl 1 (by decide) (hts _ kw_745) (fun _ h9 => h9) rfl d_cVw_gather_16 ?_
  refine w_v (y := rv ad 3 (S.r 7 1 x1)) (congrArg (rv ad 3) rfl) ?_
  refine tx_astore_n (x := (S.r 7 1 x1).map (ad 3)) (lv' := [(2, rv ad 3 (S.r 7 1 x1)), (0, .ref (ad 10 x0)), (1, .ref (ad 7 x1))]) hx hb d_cVw_gather_19 rfl hl (by decide) rfl (fun ls hl => ?_)
  obtain ⟨b_1, h_2, Heq⟩ := ob_some Heq
  refine w_cVw_gather_L20 hC h_2 (fun b h => ?_) _ _ _ hP hD hS (lv_sub hl [1, 0] rfl)
  subst h
  intro H locs ls hP hD hS hl
  exact Kr _ (Option.some.inj Heq).symm 103 _ _ _ d_cVw_gather_103 hP hD hS
def m_cVw_gather (N : Nat → Nat) (x0 : Nat) (S : CS) (x1 : Nat) : Option CS := m_cVw_gather_J0 N x0 S x1
set_option maxHeartbeats 4000000 in
theorem g_cVw_gather (l : Launch) (D : va_G) (sz : Nat) {ad : Nat → Nat → Nat} {cc : Nat → ClassId} {sad sav : Nat → Nat} {N : Nat → Nat} {x0 : Nat} {S : CS} {x1 : Nat} {o : CS} (Heq : m_cVw_gather N x0 S x1 = some o) : Met l ⟨"JoinedTrees$View", "gather", "(LJoinedTrees$Spot;)V"⟩ (Cond.code ⟨"JoinedTrees$View", "gather", "(LJoinedTrees$Spot;)V"⟩ prog_12_method_5_code 3 none :: gb) ({ frames := 1, cells := 0, slots := 0, locals := 22 }) (cPc sad sav D (cw ad cc N S) (cty cc) sz [.ref (ad 10 x0), .ref (ad 7 x1)]) (va_Qv (fun _ : Unit => True) (fun _ t => gO D (cw ad cc N o) (cty cc) (va_A (cw ad cc N S) sz) t) (va_A (cw ad cc N S) sz)) 0 0 (va_A (cw ad cc N S) sz) := by
  refine Met.ofW (cc := prog_12_method_5_code) (maxL := 3) (ret := none) (by decide) rfl ?_
  intro p e s m args below meth c s₁ B hml hv
  obtain ⟨rfl, hsz, hP, hK, hD0, hev, hE, hN⟩ := hv
  have hx := B.exec
  have hb := B.bytes
  have hr := B.returns
  have hts : ∀ w9 ∈ gb, w9.before [.ref (ad 10 x0), .ref (ad 7 x1)].toArray s = true := fun w9 h => atoms_spec (ws := Cond.code ⟨"JoinedTrees$View", "gather", "(LJoinedTrees$Spot;)V"⟩ prog_12_method_5_code 3 none :: gb) B.pre w9 (List.mem_cons_of_mem _ h)
  have hown : s.vm.findClass "JoinedTrees$View" = some m.cls := findClass_of_methodNamed B.named
  have hlocks := B.notSynchronized
  have hNS := ns_of hP
  subst hsz
  have hD := hD0.self (sz := s.heap.size)
  generalize hAe : va_A (cw ad cc N S) s.heap.size = A at hD hev hE hNS ⊢
  have hA : ∀ q : Nat, s.heap.size ≤ q → A q := fun q h => by rw [← hAe]; exact Or.inr h
  have hS : va_S A s.heap s.heap [] := va_S.rf
  obtain ⟨ls, hl, hle⟩ : ∃ ls : Array Slot, lv_has ls 3 [(0, .ref (ad 10 x0)), (1, .ref (ad 7 x1))] ∧ entryFrame m ([.ref (ad 10 x0), .ref (ad 7 x1)] : List Value).toArray 3 = F0 m 0 ls [] := by
    exact ⟨_, lv_entry (n := 3) _ (Nat.le_of_ble_eq_true rfl), lg_entry_eq ..⟩
  rw [hle]
  refine w_cVw_gather_J0 ⟨hx, hb, hr, hml, hown, hts, hK, hA, hev, hE, hN, hNS⟩ Heq (fun r h pc H locs ls hd hP hD hS => ?_) _ _ _ hP hD hS (lv_sub hl [0, 1] rfl)
  subst h
  exact W.vret hx hb hr (fun t ht hW => ⟨⟨(), rfl, trivial, by rw [ht]; exact hP, va_K.moved hW.alike hK, hD⟩, hS.F ht⟩) hS.2.2 hd
