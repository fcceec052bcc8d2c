def m_cJT_argumentBytes_J37 (N : Nat → Nat) (x0 : Nat) (S : CS) (t0 : Int32) (t1 : Int32) : Option (CS × Int32) := some (S, t1 + t0)
theorem d_cJT_argumentBytes_0 : decode prog_1_method_31_code 0 = .ok (.aload_n 0, 1) := by decide +kernel
theorem d_cJT_argumentBytes_1 : decode prog_1_method_31_code 1 = .ok (.getfield 96, 3) := by decide +kernel
theorem d_cJT_argumentBytes_4 : decode prog_1_method_31_code 4 = .ok (.ifCond .le 13, 3) := by decide +kernel
theorem d_cJT_argumentBytes_17 : decode prog_1_method_31_code 17 = .ok (.iconst 0, 1) := by decide +kernel
theorem d_cJT_argumentBytes_18 : decode prog_1_method_31_code 18 = .ok (.aload_n 0, 1) := by decide +kernel
theorem d_cJT_argumentBytes_19 : decode prog_1_method_31_code 19 = .ok (.getfield 96, 3) := by decide +kernel
theorem d_cJT_argumentBytes_22 : decode prog_1_method_31_code 22 = .ok (.iconst 1, 1) := by decide +kernel
theorem d_cJT_argumentBytes_23 : decode prog_1_method_31_code 23 = .ok (.if_icmp .le 13, 3) := by decide +kernel
theorem d_cJT_argumentBytes_36 : decode prog_1_method_31_code 36 = .ok (.iconst 0, 1) := by decide +kernel
theorem d_cJT_argumentBytes_37 : decode prog_1_method_31_code 37 = .ok (.iadd, 1) := by decide +kernel
theorem d_cJT_argumentBytes_38 : decode prog_1_method_31_code 38 = .ok (.ireturn, 1) := by decide +kernel
set_option maxHeartbeats 4000000 in
set_option maxRecDepth 100000 in
theorem w_cJT_argumentBytes_J37 {p : Program} {l : Launch} {e : Env} {s : State} {m : MethodId} {args : Array Value} {below : List Frame} {meth : Method} {c : Code} {A : Nat → Prop} {D : va_G} {ad : Nat → Nat → Nat} {cc : Nat → ClassId} {sad sav : Nat → Nat} {Q : State → Prop} (hC : MCc sad sav "JoinedTrees" prog_1_method_31_code 1 (some .int) p s m args meth c A D cc) {N : Nat → Nat} {x0 : Nat} {S : CS} {t0 : Int32} {t1 : Int32} {o : CS × Int32} (Heq : m_cJT_argumentBytes_J37 N x0 S t0 t1 = some o) (Kr : ∀ r : CS × Int32, o = r → ∀ (pc : Nat) (H : Heap) (locs : List Loc) (ls : Array Slot), decode prog_1_method_31_code pc = .ok (.ireturn, 1) → va_P D cls (cw ad cc N r.1) H → va_D A (cw ad cc N r.1) → va_S A s.heap H locs → W p l e ({ frames := 0, cells := 0, slots := 0, locals := 0 }) s m args below meth c H locs 0 0 Q (F0 m pc ls [.int r.2])) : ∀ (H : Heap) (locs : List Loc) (ls : Array Slot), va_P D cls (cw ad cc N S) H → va_D A (cw ad cc N S) → va_S A s.heap H locs → lv_has ls 1 [(0, .ref (ad 11 x0))] → W p l e ({ frames := 0, cells := 0, slots := 0, locals := 0 }) s m args below meth c H locs 0 0 Q (F0 m 37 ls [.int t0, .int t1]) := by
  intro H locs ls hP hD hS hl
  obtain ⟨hx, hb, hr, hml, hown, hts, hK, hA, hev, hE, hN, hNS⟩ := id hC
  unfold m_cJT_argumentBytes_J37 at Heq
  refine lv_iadd hx hb d_cJT_argumentBytes_37 ?_
  refine w_i (y := t1 + t0) rfl ?_
  exact Kr _ (Option.some.inj Heq).symm 38 _ _ _ d_cJT_argumentBytes_38 hP hD hS
def m_cJT_argumentBytes_J18 (N : Nat → Nat) (x0 : Nat) (S : CS) (t0 : Int32) : Option (CS × Int32) := gl x0 (N 11) ((if S.i 11 11 x0 ≤ 1 then m_cJT_argumentBytes_J37 N x0 S 0 t0 else gn (S.r 11 10 x0) (N 5) (fun j_2 => m_cJT_argumentBytes_J37 N x0 S (S.i 5 1 j_2) t0)))
theorem d_cJT_argumentBytes_26 : decode prog_1_method_31_code 26 = .ok (.aload_n 0, 1) := by decide +kernel
theorem d_cJT_argumentBytes_27 : decode prog_1_method_31_code 27 = .ok (.getfield 73, 3) := by decide +kernel
theorem d_cJT_argumentBytes_30 : decode prog_1_method_31_code 30 = .ok (.getfield 80, 3) := by decide +kernel
theorem d_cJT_argumentBytes_33 : decode prog_1_method_31_code 33 = .ok (.goto 4, 3) := by decide +kernel
set_option maxHeartbeats 4000000 in
set_option maxRecDepth 100000 in
theorem w_cJT_argumentBytes_J18 {p : Program} {l : Launch} {e : Env} {s : State} {m : MethodId} {args : Array Value} {below : List Frame} {meth : Method} {c : Code} {A : Nat → Prop} {D : va_G} {ad : Nat → Nat → Nat} {cc : Nat → ClassId} {sad sav : Nat → Nat} {Q : State → Prop} (hC : MCc sad sav "JoinedTrees" prog_1_method_31_code 1 (some .int) p s m args meth c A D cc) {N : Nat → Nat} {x0 : Nat} {S : CS} {t0 : Int32} {o : CS × Int32} (Heq : m_cJT_argumentBytes_J18 N x0 S t0 = some o) (Kr : ∀ r : CS × Int32, o = r → ∀ (pc : Nat) (H : Heap) (locs : List Loc) (ls : Array Slot), decode prog_1_method_31_code pc = .ok (.ireturn, 1) → va_P D cls (cw ad cc N r.1) H → va_D A (cw ad cc N r.1) → va_S A s.heap H locs → W p l e ({ frames := 0, cells := 0, slots := 0, locals := 0 }) s m args below meth c H locs 0 0 Q (F0 m pc ls [.int r.2])) : ∀ (H : Heap) (locs : List Loc) (ls : Array Slot), va_P D cls (cw ad cc N S) H → va_D A (cw ad cc N S) → va_S A s.heap H locs → lv_has ls 1 [(0, .ref (ad 11 x0))] → W p l e ({ frames := 0, cells := 0, slots := 0, locals := 0 }) s m args below meth c H locs 0 0 Q (F0 m 18 ls [.int t0]) := by
  intro H locs ls hP hD hS hl
  obtain ⟨hx, hb, hr, hml, hown, hts, hK, hA, hev, hE, hN, hNS⟩ := id hC
  unfold m_cJT_argumentBytes_J18 at Heq
  refine lv_aload_n hx hb d_cJT_argumentBytes_18 rfl (lv_at hl 0 rfl) ?_
  obtain ⟨hl_x0_11, Heq⟩ := gl_some Heq
  refine va_get (D := D) (ci := 11) (v := .int (S.i 11 11 x0)) (C := R_JT) (T := F_JT) (N := 13) hx hb hts i_JT hown hK hP (cPos N 11 x0) (cw_obj (k := 11) (by decide) hl_x0_11) rfl 11 (by decide) (hts _ kw_432) (fun _ h9 => h9) rfl d_cJT_argumentBytes_19 ?_
  refine lv_iconst (v := 1) hx hb d_cJT_argumentBytes_22 (by decide) ?_
  refine lv_icmp_le (tgt := 36) hx hb d_cJT_argumentBytes_23 (by decide) (fun c_1 => ?_) (fun c_1 => ?_)
  · replace Heq := (if_pos c_1).symm.trans Heq
    refine lv_iconst (v := 0) hx hb d_cJT_argumentBytes_36 (by decide) ?_
    exact w_cJT_argumentBytes_J37 hC Heq Kr _ _ _ hP hD hS (lv_sub hl [0] rfl)
  · replace Heq := (if_neg c_1).symm.trans Heq
    refine lv_aload_n hx hb d_cJT_argumentBytes_26 rfl (lv_at hl 0 rfl) ?_
    refine va_get (D := D) (ci := 11) (v := rv ad 5 (S.r 11 10 x0)) (C := R_JT) (T := F_JT) (N := 13) hx hb hts i_JT hown hK hP (cPos N 11 x0) (cw_obj (k := 11) (by decide) hl_x0_11) rfl 10 (by decide) (hts _ kw_431) (fun _ h9 => h9) rfl d_cJT_argumentBytes_27 ?_
    obtain ⟨j_2, hj_3, hl_4, Heq⟩ := gn_some Heq
    refine w_s (st' := [.ref (ad 5 j_2), .int t0]) (congrArg (fun z9 : Option Nat => [rv ad 5 z9, .int t0]) hj_3) ?_
    refine va_get (D := D) (ci := 5) (v := .int (S.i 5 1 j_2)) (C := R_Rw) (T := F_Rw) (N := 3) hx hb hts i_Rw hown hK hP (cPos N 5 j_2) (cw_obj (k := 5) (by decide) hl_4) rfl 1 (by decide) (hts _ kw_143) (fun _ h9 => h9) rfl d_cJT_argumentBytes_30 ?_
    refine lv_goto (tgt := 37) hx hb d_cJT_argumentBytes_33 (by decide) ?_
    exact w_cJT_argumentBytes_J37 hC Heq Kr _ _ _ hP hD hS (lv_sub hl [0] rfl)
def m_cJT_argumentBytes_J0 (N : Nat → Nat) (x0 : Nat) (S : CS) : Option (CS × Int32) := gl x0 (N 11) ((if S.i 11 11 x0 ≤ 0 then m_cJT_argumentBytes_J18 N x0 S 0 else gn (S.r 11 9 x0) (N 5) (fun j_2 => m_cJT_argumentBytes_J18 N x0 S (S.i 5 1 j_2))))
theorem d_cJT_argumentBytes_7 : decode prog_1_method_31_code 7 = .ok (.aload_n 0, 1) := by decide +kernel
theorem d_cJT_argumentBytes_8 : decode prog_1_method_31_code 8 = .ok (.getfield 70, 3) := by decide +kernel
theorem d_cJT_argumentBytes_11 : decode prog_1_method_31_code 11 = .ok (.getfield 80, 3) := by decide +kernel
theorem d_cJT_argumentBytes_14 : decode prog_1_method_31_code 14 = .ok (.goto 4, 3) := by decide +kernel
set_option maxHeartbeats 4000000 in
set_option maxRecDepth 100000 in
theorem w_cJT_argumentBytes_J0 {p : Program} {l : Launch} {e : Env} {s : State} {m : MethodId} {args : Array Value} {below : List Frame} {meth : Method} {c : Code} {A : Nat → Prop} {D : va_G} {ad : Nat → Nat → Nat} {cc : Nat → ClassId} {sad sav : Nat → Nat} {Q : State → Prop} (hC : MCc sad sav "JoinedTrees" prog_1_method_31_code 1 (some .int) p s m args meth c A D cc) {N : Nat → Nat} {x0 : Nat} {S : CS} {o : CS × Int32} (Heq : m_cJT_argumentBytes_J0 N x0 S = some o) (Kr : ∀ r : CS × Int32, o = r → ∀ (pc : Nat) (H : Heap) (locs : List Loc) (ls : Array Slot), decode prog_1_method_31_code pc = .ok (.ireturn, 1) → va_P D cls (cw ad cc N r.1) H → va_D A (cw ad cc N r.1) → va_S A s.heap H locs → W p l e ({ frames := 0, cells := 0, slots := 0, locals := 0 }) s m args below meth c H locs 0 0 Q (F0 m pc ls [.int r.2])) : ∀ (H : Heap) (locs : List Loc) (ls : Array Slot), va_P D cls (cw ad cc N S) H → va_D A (cw ad cc N S) → va_S A s.heap H locs → lv_has ls 1 [(0, .ref (ad 11 x0))] → W p l e ({ frames := 0, cells := 0, slots := 0, locals := 0 }) s m args below meth c H locs 0 0 Q (F0 m 0 ls []) := by
  intro H locs ls hP hD hS hl
  obtain ⟨hx, hb, hr, hml, hown, hts, hK, hA, hev, hE, hN, hNS⟩ := id hC
  unfold m_cJT_argumentBytes_J0 at Heq
  refine lv_aload_n hx hb d_cJT_argumentBytes_0 rfl (lv_at hl 0 rfl) ?_
  obtain ⟨hl_x0_11, Heq⟩ := gl_some Heq
  refine va_get (D := D) (ci := 11) (v := .int (S.i 11 11 x0)) (C := R_JT) (T := F_JT) (N := 13) hx hb hts i_JT hown hK hP (cPos N 11 x0) (cw_obj (k := 11) (by decide) hl_x0_11) rfl 11 (by decide) (hts _ kw_432) (fun _ h9 => h9) rfl d_cJT_argumentBytes_1 ?_
  refine lv_if_le (tgt := 17) hx hb d_cJT_argumentBytes_4 (by decide) (fun c_1 => ?_) (fun c_1 => ?_)
  · replace Heq := (if_pos c_1).symm.trans Heq
    refine lv_iconst (v := 0) hx hb d_cJT_argumentBytes_17 (by decide) ?_
    exact w_cJT_argumentBytes_J18 hC Heq Kr _ _ _ hP hD hS (lv_sub hl [0] rfl)
  · replace Heq := (if_neg c_1).symm.trans Heq
    refine lv_aload_n hx hb d_cJT_argumentBytes_7 rfl (lv_at hl 0 rfl) ?_
    refine va_get (D := D) (ci := 11) (v := rv ad 5 (S.r 11 9 x0)) (C := R_JT) (T := F_JT) (N := 13) hx hb hts i_JT hown hK hP (cPos N 11 x0) (cw_obj (k := 11) (by decide) hl_x0_11) rfl 9 (by decide) (hts _ kw_430) (fun _ h9 => h9) rfl d_cJT_argumentBytes_8 ?_
    obtain ⟨j_2, hj_3, hl_4, Heq⟩ := gn_some Heq
    refine w_s (st' := [.ref (ad 5 j_2)]) (congrArg (fun z9 : Option Nat => [rv ad 5 z9]) hj_3) ?_
    refine va_get (D := D) (ci := 5) (v := .int (S.i 5 1 j_2)) (C := R_Rw) (T := F_Rw) (N := 3) hx hb hts i_Rw hown hK hP (cPos N 5 j_2) (cw_obj (k := 5) (by decide) hl_4) rfl 1 (by decide) (hts _ kw_143) (fun _ h9 => h9) rfl d_cJT_argumentBytes_11 ?_
    refine lv_goto (tgt := 18) hx hb d_cJT_argumentBytes_14 (by decide) ?_
    exact w_cJT_argumentBytes_J18 hC Heq Kr _ _ _ hP hD hS (lv_sub hl [0] rfl)
def m_cJT_argumentBytes (N : Nat → Nat) (x0 : Nat) (S : CS) : Option (CS × Int32) := m_cJT_argumentBytes_J0 N x0 S
set_option maxHeartbeats 4000000 in
theorem g_cJT_argumentBytes (l : Launch) (D : va_G) (sz : Nat) {ad : Nat → Nat → Nat} {cc : Nat → ClassId} {sad sav : Nat → Nat} {N : Nat → Nat} {x0 : Nat} {S : CS} {o : CS × Int32} (Heq : m_cJT_argumentBytes N x0 S = some o) : Met l ⟨"JoinedTrees", "argumentBytes", "()I"⟩ (Cond.code ⟨"JoinedTrees", "argumentBytes", "()I"⟩ prog_1_method_31_code 1 (some .int) :: gb) ({ frames := 0, cells := 0, slots := 0, locals := 0 }) (cPc sad sav D (cw ad cc N S) (cty cc) sz [.ref (ad 11 x0)]) (va_Qi (fun (r : Int32) (_ : Unit) => r = o.2) (fun _ t => gO D (cw ad cc N o.1) (cty cc) (va_A (cw ad cc N S) sz) t) (va_A (cw ad cc N S) sz)) 0 0 (va_A (cw ad cc N S) sz) := by
  refine Met.ofW (cc := prog_1_method_31_code) (maxL := 1) (ret := (some .int)) (by decide) rfl ?_
  intro p e s m args below meth c s₁ B hml hv
  obtain ⟨rfl, hsz, hP, hK, hD0, hev, hE, hN⟩ := hv
  have hx := B.exec
  have hb := B.bytes
  have hr := B.returns
  have hts : ∀ w9 ∈ gb, w9.before [.ref (ad 11 x0)].toArray s = true := fun w9 h => atoms_spec (ws := Cond.code ⟨"JoinedTrees", "argumentBytes", "()I"⟩ prog_1_method_31_code 1 (some .int) :: gb) B.pre w9 (List.mem_cons_of_mem _ h)
  have hown : s.vm.findClass "JoinedTrees" = some m.cls := findClass_of_methodNamed B.named
  have hlocks := B.notSynchronized
  have hNS := ns_of hP
  subst hsz
  have hD := hD0.self (sz := s.heap.size)
  generalize hAe : va_A (cw ad cc N S) s.heap.size = A at hD hev hE hNS ⊢
  have hA : ∀ q : Nat, s.heap.size ≤ q → A q := fun q h => by rw [← hAe]; exact Or.inr h
  have hS : va_S A s.heap s.heap [] := va_S.rf
  obtain ⟨ls, hl, hle⟩ : ∃ ls : Array Slot, lv_has ls 1 [(0, .ref (ad 11 x0))] ∧ entryFrame m ([.ref (ad 11 x0)] : List Value).toArray 1 = F0 m 0 ls [] := by
    exact ⟨_, lv_entry (n := 1) _ (Nat.le_of_ble_eq_true rfl), lg_entry_eq ..⟩
  rw [hle]
  refine w_cJT_argumentBytes_J0 ⟨hx, hb, hr, hml, hown, hts, hK, hA, hev, hE, hN, hNS⟩ Heq (fun r h pc H locs ls hd hP hD hS => ?_) _ _ _ hP hD hS (lv_sub hl [0] rfl)
  subst h
  exact W.iret hx hb hr (fun t ht hW => ⟨⟨_, (), rfl, rfl, by rw [ht]; exact hP, va_K.moved hW.alike hK, hD⟩, hS.F ht⟩) hS.2.2 hd
def m_cRw_write_J41 (N : Nat → Nat) (x0 : Nat) (S : CS) : Option CS := some S
theorem d_cRw_write_0 : decode prog_7_method_3_code 0 = .ok (.aload_n 0, 1) := by decide +kernel
theorem d_cRw_write_1 : decode prog_7_method_3_code 1 = .ok (.getfield 13, 3) := by decide +kernel
theorem d_cRw_write_4 : decode prog_7_method_3_code 4 = .ok (.aload_n 0, 1) := by decide +kernel
theorem d_cRw_write_5 : decode prog_7_method_3_code 5 = .ok (.getfield 7, 3) := by decide +kernel
theorem d_cRw_write_8 : decode prog_7_method_3_code 8 = .ok (.arraylength, 1) := by decide +kernel
theorem d_cRw_write_9 : decode prog_7_method_3_code 9 = .ok (.if_icmp .ge 27, 3) := by decide +kernel
theorem d_cRw_write_36 : decode prog_7_method_3_code 36 = .ok (.aload_n 0, 1) := by decide +kernel
theorem d_cRw_write_37 : decode prog_7_method_3_code 37 = .ok (.iconst 1, 1) := by decide +kernel
theorem d_cRw_write_38 : decode prog_7_method_3_code 38 = .ok (.putfield 17, 3) := by decide +kernel
theorem d_cRw_write_41 : decode prog_7_method_3_code 41 = .ok (.return_, 1) := by decide +kernel
set_option maxHeartbeats 4000000 in
set_option maxRecDepth 100000 in
theorem w_cRw_write_J41 {p : Program} {l : Launch} {e : Env} {s : State} {m : MethodId} {args : Array Value} {below : List Frame} {meth : Method} {c : Code} {A : Nat → Prop} {D : va_G} {ad : Nat → Nat → Nat} {cc : Nat → ClassId} {sad sav : Nat → Nat} {Q : State → Prop} (hC : MCc sad sav "JoinedTrees$Row" prog_7_method_3_code 2 none p s m args meth c A D cc) {N : Nat → Nat} {x0 : Nat} {S : CS} {o : CS} (Heq : m_cRw_write_J41 N x0 S = some o) (Kr : ∀ r : CS, o = r → ∀ (pc : Nat) (H : Heap) (locs : List Loc) (ls : Array Slot), decode prog_7_method_3_code pc = .ok (.return_, 1) → va_P D cls (cw ad cc N r) H → va_D A (cw ad cc N r) → va_S A s.heap H locs → W p l e ({ frames := 0, cells := 0, slots := 0, locals := 0 }) s m args below meth c H locs 0 0 Q (F0 m pc ls [])) : ∀ (H : Heap) (locs : List Loc) (ls : Array Slot), va_P D cls (cw ad cc N S) H → va_D A (cw ad cc N S) → va_S A s.heap H locs → lv_has ls 2 [(0, .ref (ad 5 x0))] → W p l e ({ frames := 0, cells := 0, slots := 0, locals := 0 }) s m args below meth c H locs 0 0 Q (F0 m 41 ls []) := by
  intro H locs ls hP hD hS hl
  obtain ⟨hx, hb, hr, hml, hown, hts, hK, hA, hev, hE, hN, hNS⟩ := id hC
  unfold m_cRw_write_J41 at Heq
  exact Kr _ (Option.some.inj Heq).symm 41 _ _ _ d_cRw_write_41 hP hD hS
def m_cRw_write_J0 (N : Nat → Nat) (x0 : Nat) (S : CS) (x1 : Int32) : Option CS := gl x0 (N 5) (gn (S.r 5 0 x0) (N 13) (fun j_1 => (if nI (S.z 13 j_1) ≤ S.i 5 1 x0 then m_cRw_write_J41 N x0 (S.setI 5 2 x0 1) else gd (S.i 5 1 x0) (S.z 13 j_1) (m_cRw_write_J41 N x0 ((S.setA 13 j_1 ((S.i 5 1 x0).toNatClampNeg) (vp_nar .byte x1.toInt8.toInt32)).setI 5 1 x0 ((S.i 5 1 x0) + 1))))))
theorem d_cRw_write_12 : decode prog_7_method_3_code 12 = .ok (.aload_n 0, 1) := by decide +kernel
theorem d_cRw_write_13 : decode prog_7_method_3_code 13 = .ok (.getfield 7, 3) := by decide +kernel
theorem d_cRw_write_16 : decode prog_7_method_3_code 16 = .ok (.aload_n 0, 1) := by decide +kernel
theorem d_cRw_write_17 : decode prog_7_method_3_code 17 = .ok (.getfield 13, 3) := by decide +kernel
theorem d_cRw_write_20 : decode prog_7_method_3_code 20 = .ok (.iload_n 1, 1) := by decide +kernel
theorem d_cRw_write_21 : decode prog_7_method_3_code 21 = .ok (.i2b, 1) := by decide +kernel
theorem d_cRw_write_22 : decode prog_7_method_3_code 22 = .ok (.bastore, 1) := by decide +kernel
theorem d_cRw_write_23 : decode prog_7_method_3_code 23 = .ok (.aload_n 0, 1) := by decide +kernel
theorem d_cRw_write_24 : decode prog_7_method_3_code 24 = .ok (.dup, 1) := by decide +kernel
theorem d_cRw_write_25 : decode prog_7_method_3_code 25 = .ok (.getfield 13, 3) := by decide +kernel
theorem d_cRw_write_28 : decode prog_7_method_3_code 28 = .ok (.iconst 1, 1) := by decide +kernel
theorem d_cRw_write_29 : decode prog_7_method_3_code 29 = .ok (.iadd, 1) := by decide +kernel
theorem d_cRw_write_30 : decode prog_7_method_3_code 30 = .ok (.putfield 13, 3) := by decide +kernel
theorem d_cRw_write_33 : decode prog_7_method_3_code 33 = .ok (.goto 8, 3) := by decide +kernel
set_option maxHeartbeats 4000000 in
set_option maxRecDepth 100000 in
theorem w_cRw_write_J0 {p : Program} {l : Launch} {e : Env} {s : State} {m : MethodId} {args : Array Value} {below : List Frame} {meth : Method} {c : Code} {A : Nat → Prop} {D : va_G} {ad : Nat → Nat → Nat} {cc : Nat → ClassId} {sad sav : Nat → Nat} {Q : State → Prop} (hC : MCc sad sav "JoinedTrees$Row" prog_7_method_3_code 2 none p s m args meth c A D cc) {N : Nat → Nat} {x0 : Nat} {S : CS} {x1 : Int32} {o : CS} (Heq : m_cRw_write_J0 N x0 S x1 = some o) (Kr : ∀ r : CS, o = r → ∀ (pc : Nat) (H : Heap) (locs : List Loc) (ls : Array Slot), decode prog_7_method_3_code pc = .ok (.return_, 1) → va_P D cls (cw ad cc N r) H → va_D A (cw ad cc N r) → va_S A s.heap H locs → W p l e ({ frames := 0, cells := 0, slots := 0, locals := 0 }) s m args below meth c H locs 0 0 Q (F0 m pc ls [])) : ∀ (H : Heap) (locs : List Loc) (ls : Array Slot), va_P D cls (cw ad cc N S) H → va_D A (cw ad cc N S) → va_S A s.heap H locs → lv_has ls 2 [(0, .ref (ad 5 x0)), (1, .int x1)] → W p l e ({ frames := 0, cells := 0, slots := 0, locals := 0 }) s m args below meth c H locs 0 0 Q (F0 m 0 ls []) := by
  intro H locs ls hP hD hS hl
  obtain ⟨hx, hb, hr, hml, hown, hts, hK, hA, hev, hE, hN, hNS⟩ := id hC
  unfold m_cRw_write_J0 at Heq
  refine lv_aload_n hx hb d_cRw_write_0 rfl (lv_at hl 0 rfl) ?_
  obtain ⟨hl_x0_5, Heq⟩ := gl_some Heq
  refine va_get (D := D) (ci := 5) (v := .int (S.i 5 1 x0)) (C := R_Rw) (T := F_Rw) (N := 3) hx hb hts i_Rw hown hK hP (cPos N 5 x0) (cw_obj (k := 5) (by decide) hl_x0_5) rfl 1 (by decide) (hts _ kw_142) (fun _ h9 => h9) rfl d_cRw_write_1 ?_
  refine lv_aload_n hx hb d_cRw_write_4 rfl (lv_at hl 0 rfl) ?_
  refine va_get (D := D) (ci := 5) (v := rv ad 13 (S.r 5 0 x0)) (C := R_Rw) (T := F_Rw) (N := 3) hx hb hts i_Rw hown hK hP (cPos N 5 x0) (cw_obj (k := 5) (by decide) hl_x0_5) rfl 0 (by decide) (hts _ kw_140) (fun _ h9 => h9) rfl d_cRw_write_5 ?_
  obtain ⟨j_1, hj_2, hl_3, Heq⟩ := gn_some Heq
  refine w_s (st' := [.ref (ad 13 j_1), .int (S.i 5 1 x0)]) (congrArg (fun z9 : Option Nat => [rv ad 13 z9, .int (S.i 5 1 x0)]) hj_2) ?_
  refine va_alen (v := nI (S.z 13 j_1)) hx hb hK hP (cPos N 13 j_1) 1 (cw_arr (k := 13) (by decide) hl_3) rfl rfl d_cRw_write_8 ?_
  refine lv_icmp_ge (tgt := 36) hx hb d_cRw_write_9 (by decide) (fun c_4 => ?_) (fun c_4 => ?_)
  · replace Heq := (if_pos c_4).symm.trans Heq
    refine lv_aload_n hx hb d_cRw_write_36 rfl (lv_at hl 0 rfl) ?_
    refine lv_iconst (v := 1) hx hb d_cRw_write_37 (by decide) ?_
    refine va_put (D := D) (ci := 5) (v := .int 1) (ty := .boolean) (C := R_Rw) (T := F_Rw) (N := 3) hx hb hts i_Rw t_Rw t_Rw_ok n_Rw hown hK hP hD hS (cPos N 5 x0) (cw_obj (k := 5) (by decide) hl_x0_5) rfl 2 (by decide) (hts _ kw_148) (fun _ h9 => h9) rfl (by decide +kernel) (by decide) (by decide) (Nat.le_of_ble_eq_true rfl) d_cRw_write_38 (fun H locs hP hD hS => ?_)
    have hD := (congrArg (fun w9 => va_D A w9) (cw_setI (ad := ad) (cc := cc) (S := S) (k := 5) (f := 2) (v := 1) (by decide) rfl hl_x0_5)).mp hD
    have hP := (congrArg (fun w9 => va_P D cls w9 H) (cw_setI (ad := ad) (cc := cc) (S := S) (k := 5) (f := 2) (v := 1) (by decide) rfl hl_x0_5)).mp hP
    exact w_cRw_write_J41 hC Heq Kr _ _ _ hP hD hS (lv_sub hl [0] rfl)
  · replace Heq := (if_neg c_4).symm.trans Heq
    refine lv_aload_n hx hb d_cRw_write_12 rfl (lv_at hl 0 rfl) ?_
    refine va_get (D := D) (ci := 5) (v := rv ad 13 (S.r 5 0 x0)) (C := R_Rw) (T := F_Rw) (N := 3) hx hb hts i_Rw hown hK hP (cPos N 5 x0) (cw_obj (k := 5) (by decide) hl_x0_5) rfl 0 (by decide) (hts _ kw_140) (fun _ h9 => h9) rfl d_cRw_write_13 ?_
    refine lv_aload_n hx hb d_cRw_write_16 rfl (lv_at hl 0 rfl) ?_
    refine va_get (D := D) (ci := 5) (v := .int (S.i 5 1 x0)) (C := R_Rw) (T := F_Rw) (N := 3) hx hb hts i_Rw hown hK hP (cPos N 5 x0) (cw_obj (k := 5) (by decide) hl_x0_5) rfl 1 (by decide) (hts _ kw_142) (fun _ h9 => h9) rfl d_cRw_write_17 ?_
    refine lv_iload_n hx hb d_cRw_write_20 rfl (lv_at hl 1 rfl) ?_
    refine lv_i2b hx hb d_cRw_write_21 rfl ?_
    refine w_i (y := x1.toInt8.toInt32) rfl ?_
    refine w_s (st' := [.int x1.toInt8.toInt32, .int (S.i 5 1 x0), .ref (ad 13 j_1)]) (congrArg (fun z9 : Option Nat => [.int x1.toInt8.toInt32, .int (S.i 5 1 x0), rv ad 13 z9]) hj_2) ?_
    obtain ⟨hi_5, Heq⟩ := gd_some Heq
    refine va_bast hx hb hK hP hD hS (cPos N 13 j_1) 1 (cw_arr (k := 13) (by decide) hl_3) rfl (i := S.i 5 1 x0) (x := x1.toInt8.toInt32) hi_5 d_cRw_write_22 (fun H locs hP hD hS => ?_)
    have hD := (congrArg (fun w9 => va_D A w9) (cw_setA (ad := ad) (cc := cc) (S := S) (k := 13) (i := (S.i 5 1 x0).toNatClampNeg) (v := (vp_nar .byte x1.toInt8.toInt32)) (by decide) hl_3)).mp hD
    have hP := (congrArg (fun w9 => va_P D cls w9 H) (cw_setA (ad := ad) (cc := cc) (S := S) (k := 13) (i := (S.i 5 1 x0).toNatClampNeg) (v := (vp_nar .byte x1.toInt8.toInt32)) (by decide) hl_3)).mp hP
    refine lv_aload_n hx hb d_cRw_write_23 rfl (lv_at hl 0 rfl) ?_
    refine lv_dup hx hb d_cRw_write_24 (by first | rfl | exact rv_cat) ?_
    refine va_get (D := D) (ci := 5) (v := .int ((S.setA 13 j_1 ((S.i 5 1 x0).toNatClampNeg) (vp_nar .byte x1.toInt8.toInt32)).i 5 1 x0)) (C := R_Rw) (T := F_Rw) (N := 3) hx hb hts i_Rw hown hK hP (cPos N 5 x0) (cw_obj (k := 5) (by decide) hl_x0_5) rfl 1 (by decide) (hts _ kw_142) (fun _ h9 => h9) rfl d_cRw_write_25 ?_
    refine w_i (y := S.i 5 1 x0) rfl ?_
    refine lv_iconst (v := 1) hx hb d_cRw_write_28 (by decide) ?_
    refine lv_iadd hx hb d_cRw_write_29 ?_
    refine w_i (y := (S.i 5 1 x0) + 1) rfl ?_
    refine va_put (D := D) (ci := 5) (v := .int ((S.i 5 1 x0) + 1)) (ty := .int) (C := R_Rw) (T := F_Rw) (N := 3) hx hb hts i_Rw t_Rw t_Rw_ok n_Rw hown hK hP hD hS (cPos N 5 x0) (cw_obj (k := 5) (by decide) hl_x0_5) rfl 1 (by decide) (hts _ kw_142) (fun _ h9 => h9) rfl (by decide +kernel) rfl rfl (Nat.le_of_ble_eq_true rfl) d_cRw_write_30 (fun H locs hP hD hS => ?_)
    have hD := (congrArg (fun w9 => va_D A w9) (cw_setI (ad := ad) (cc := cc) (S := (S.setA 13 j_1 ((S.i 5 1 x0).toNatClampNeg) (vp_nar .byte x1.toInt8.toInt32))) (k := 5) (f := 1) (v := (S.i 5 1 x0) + 1) (by decide) rfl hl_x0_5)).mp hD
    have hP := (congrArg (fun w9 => va_P D cls w9 H) (cw_setI (ad := ad) (cc := cc) (S := (S.setA 13 j_1 ((S.i 5 1 x0).toNatClampNeg) (vp_nar .byte x1.toInt8.toInt32))) (k := 5) (f := 1) (v := (S.i 5 1 x0) + 1) (by decide) rfl hl_x0_5)).mp hP
    refine lv_goto (tgt := 41) hx hb d_cRw_write_33 (by decide) ?_
    exact w_cRw_write_J41 hC Heq Kr _ _ _ hP hD hS (lv_sub hl [0] rfl)
def m_cRw_write (N : Nat → Nat) (x0 : Nat) (S : CS) (x1 : Int32) : Option CS := m_cRw_write_J0 N x0 S x1
set_option maxHeartbeats 4000000 in
theorem g_cRw_write (l : Launch) (D : va_G) (sz : Nat) {ad : Nat → Nat → Nat} {cc : Nat → ClassId} {sad sav : Nat → Nat} {N : Nat → Nat} {x0 : Nat} {S : CS} {x1 : Int32} {o : CS} (Heq : m_cRw_write N x0 S x1 = some o) : Met l ⟨"JoinedTrees$Row", "write", "(I)V"⟩ (Cond.code ⟨"JoinedTrees$Row", "write", "(I)V"⟩ prog_7_method_3_code 2 none :: gb) ({ frames := 0, cells := 0, slots := 0, locals := 0 }) (cPc sad sav D (cw ad cc N S) (cty cc) sz [.ref (ad 5 x0), .int x1]) (va_Qv (fun _ : Unit => True) (fun _ t => gO D (cw ad cc N o) (cty cc) (va_A (cw ad cc N S) sz) t) (va_A (cw ad cc N S) sz)) 0 0 (va_A (cw ad cc N S) sz) := by
  refine Met.ofW (cc := prog_7_method_3_code) (maxL := 2) (ret := none) (by decide) rfl ?_
  intro p e s m args below meth c s₁ B hml hv
  obtain ⟨rfl, hsz, hP, hK, hD0, hev, hE, hN⟩ := hv
  have hx := B.exec
  have hb := B.bytes
  have hr := B.returns
  have hts : ∀ w9 ∈ gb, w9.before [.ref (ad 5 x0), .int x1].toArray s = true := fun w9 h => atoms_spec (ws := Cond.code ⟨"JoinedTrees$Row", "write", "(I)V"⟩ prog_7_method_3_code 2 none :: gb) B.pre w9 (List.mem_cons_of_mem _ h)
  have hown : s.vm.findClass "JoinedTrees$Row" = some m.cls := findClass_of_methodNamed B.named
  have hlocks := B.notSynchronized
  have hNS := ns_of hP
  subst hsz
  have hD := hD0.self (sz := s.heap.size)
  generalize hAe : va_A (cw ad cc N S) s.heap.size = A at hD hev hE hNS ⊢
  have hA : ∀ q : Nat, s.heap.size ≤ q → A q := fun q h => by rw [← hAe]; exact Or.inr h
  have hS : va_S A s.heap s.heap [] := va_S.rf
  obtain ⟨ls, hl, hle⟩ : ∃ ls : Array Slot, lv_has ls 2 [(0, .ref (ad 5 x0)), (1, .int x1)] ∧ entryFrame m ([.ref (ad 5 x0), .int x1] : List Value).toArray 2 = F0 m 0 ls [] := by
    exact ⟨_, lv_entry (n := 2) _ (Nat.le_of_ble_eq_true rfl), lg_entry_eq ..⟩
  rw [hle]
  refine w_cRw_write_J0 ⟨hx, hb, hr, hml, hown, hts, hK, hA, hev, hE, hN, hNS⟩ Heq (fun r h pc H locs ls hd hP hD hS => ?_) _ _ _ hP hD hS (lv_sub hl [0, 1] rfl)
  subst h
  exact W.vret hx hb hr (fun t ht hW => ⟨⟨(), rfl, trivial, by rw [ht]; exact hP, va_K.moved hW.alike hK, hD⟩, hS.F ht⟩) hS.2.2 hd
def m_cRw_writeInt_J0 (N : Nat → Nat) (x0 : Nat) (S : CS) (x1 : Int32) : Option CS := gl x0 (N 5) (ob (m_cRw_write N x0 S (ushr32 x1 24)) (fun o_1 => ob (m_cRw_write N x0 o_1 (ushr32 x1 16)) (fun o_3 => ob (m_cRw_write N x0 o_3 (ushr32 x1 8)) (fun o_5 => ob (m_cRw_write N x0 o_5 x1) (fun o_7 => some o_7)))))
theorem d_cRw_writeInt_0 : decode prog_7_method_4_code 0 = .ok (.aload_n 0, 1) := by decide +kernel
theorem d_cRw_writeInt_1 : decode prog_7_method_4_code 1 = .ok (.iload_n 1, 1) := by decide +kernel
theorem d_cRw_writeInt_2 : decode prog_7_method_4_code 2 = .ok (.bipush 24, 2) := by decide +kernel
theorem d_cRw_writeInt_4 : decode prog_7_method_4_code 4 = .ok (.iushr, 1) := by decide +kernel
theorem d_cRw_writeInt_5 : decode prog_7_method_4_code 5 = .ok (.invokevirtual 21, 3) := by decide +kernel
theorem d_cRw_writeInt_8 : decode prog_7_method_4_code 8 = .ok (.aload_n 0, 1) := by decide +kernel
theorem d_cRw_writeInt_9 : decode prog_7_method_4_code 9 = .ok (.iload_n 1, 1) := by decide +kernel
theorem d_cRw_writeInt_10 : decode prog_7_method_4_code 10 = .ok (.bipush 16, 2) := by decide +kernel
theorem d_cRw_writeInt_12 : decode prog_7_method_4_code 12 = .ok (.iushr, 1) := by decide +kernel
theorem d_cRw_writeInt_13 : decode prog_7_method_4_code 13 = .ok (.invokevirtual 21, 3) := by decide +kernel
theorem d_cRw_writeInt_16 : decode prog_7_method_4_code 16 = .ok (.aload_n 0, 1) := by decide +kernel
theorem d_cRw_writeInt_17 : decode prog_7_method_4_code 17 = .ok (.iload_n 1, 1) := by decide +kernel
theorem d_cRw_writeInt_18 : decode prog_7_method_4_code 18 = .ok (.bipush 8, 2) := by decide +kernel
theorem d_cRw_writeInt_20 : decode prog_7_method_4_code 20 = .ok (.iushr, 1) := by decide +kernel
theorem d_cRw_writeInt_21 : decode prog_7_method_4_code 21 = .ok (.invokevirtual 21, 3) := by decide +kernel
theorem d_cRw_writeInt_24 : decode prog_7_method_4_code 24 = .ok (.aload_n 0, 1) := by decide +kernel
theorem d_cRw_writeInt_25 : decode prog_7_method_4_code 25 = .ok (.iload_n 1, 1) := by decide +kernel
theorem d_cRw_writeInt_26 : decode prog_7_method_4_code 26 = .ok (.invokevirtual 21, 3) := by decide +kernel
theorem d_cRw_writeInt_29 : decode prog_7_method_4_code 29 = .ok (.return_, 1) := by decide +kernel
set_option maxHeartbeats 4000000 in
set_option maxRecDepth 100000 in
theorem w_cRw_writeInt_J0 {p : Program} {l : Launch} {e : Env} {s : State} {m : MethodId} {args : Array Value} {below : List Frame} {meth : Method} {c : Code} {A : Nat → Prop} {D : va_G} {ad : Nat → Nat → Nat} {cc : Nat → ClassId} {sad sav : Nat → Nat} {Q : State → Prop} (hC : MCc sad sav "JoinedTrees$Row" prog_7_method_4_code 2 none p s m args meth c A D cc) {N : Nat → Nat} {x0 : Nat} {S : CS} {x1 : Int32} {o : CS} (Heq : m_cRw_writeInt_J0 N x0 S x1 = some o) (Kr : ∀ r : CS, o = r → ∀ (pc : Nat) (H : Heap) (locs : List Loc) (ls : Array Slot), decode prog_7_method_4_code pc = .ok (.return_, 1) → va_P D cls (cw ad cc N r) H → va_D A (cw ad cc N r) → va_S A s.heap H locs → W p l e ({ frames := 1, cells := 0, slots := 0, locals := 21 }) s m args below meth c H locs 0 0 Q (F0 m pc ls [])) : ∀ (H : Heap) (locs : List Loc) (ls : Array Slot), va_P D cls (cw ad cc N S) H → va_D A (cw ad cc N S) → va_S A s.heap H locs → lv_has ls 2 [(0, .ref (ad 5 x0)), (1, .int x1)] → W p l e ({ frames := 1, cells := 0, slots := 0, locals := 21 }) s m args below meth c H locs 0 0 Q (F0 m 0 ls []) := by
  intro H locs ls hP hD hS hl
  obtain ⟨hx, hb, hr, hml, hown, hts, hK, hA, hev, hE, hN, hNS⟩ := id hC
  unfold m_cRw_writeInt_J0 at Heq
  refine lv_aload_n hx hb d_cRw_writeInt_0 rfl (lv_at hl 0 rfl) ?_
  refine lv_iload_n hx hb d_cRw_writeInt_1 rfl (lv_at hl 1 rfl) ?_
  refine lv_bipush (v := 24) hx hb d_cRw_writeInt_2 (by decide) ?_
  refine lv_iushr hx hb d_cRw_writeInt_4 rfl ?_
  refine w_i (y := ushr32 x1 24) rfl ?_
  obtain ⟨hl_x0_5, Heq⟩ := gl_some Heq
  obtain ⟨o_1, h_2, Heq⟩ := ob_some Heq
  have hFc := fr_all hD hS hA
  refine va_callv (va_runV (As := [.int (ushr32 x1 24)]) (rest := []) ⟨hx, hb, hml, hown, hts⟩ (g_cRw_write l D H.size (ad := ad) (cc := cc) (sad := sad) (sav := sav) h_2) (cw_v 1 hts kw_549 kw_546 kw_547 kw_548 kw_4 rfl rfl (by decide +kernel) ⟨Nat.le_of_ble_eq_true rfl, Nat.le_of_ble_eq_true rfl⟩) ⟨c_blind, va_recv hK hP (ci := 5) (q0 := cPos N 5 x0) rfl (cw_obj (k := 5) (by decide) hl_x0_5), fun U hU hW => c_pre hU hW hP hK hD hev hE hN hNS hS hFc⟩ rfl rfl hl.1 rfl (lv_room (Nat.le_of_ble_eq_true rfl)) d_cRw_writeInt_5 ⟨Nat.le_of_ble_eq_true rfl, Nat.le_of_ble_eq_true rfl⟩) hS (fun q _ h => hFc q h) hFc (fun u t H1 locs ht hvm hw hB hz1 hk1 hS => ?_)
  obtain ⟨hP, -, hD1⟩ := hB
  rw [ht] at hP
  have hD := hD1.weaken (fun _ q _ h => hFc q.1 h)
  generalize H1 = H at hP hS ⊢
  refine W.cs (cells' := 0) (slots' := 0) rfl rfl ?_
  refine lv_aload_n hx hb d_cRw_writeInt_8 rfl (lv_at hl 0 rfl) ?_
  refine lv_iload_n hx hb d_cRw_writeInt_9 rfl (lv_at hl 1 rfl) ?_
  refine lv_bipush (v := 16) hx hb d_cRw_writeInt_10 (by decide) ?_
  refine lv_iushr hx hb d_cRw_writeInt_12 rfl ?_
  refine w_i (y := ushr32 x1 16) rfl ?_
  obtain ⟨o_3, h_4, Heq⟩ := ob_some Heq
  have hFc := fr_all hD hS hA
  refine va_callv (va_runV (As := [.int (ushr32 x1 16)]) (rest := []) ⟨hx, hb, hml, hown, hts⟩ (g_cRw_write l D H.size (ad := ad) (cc := cc) (sad := sad) (sav := sav) h_4) (cw_v 1 hts kw_549 kw_546 kw_547 kw_548 kw_4 rfl rfl (by decide +kernel) ⟨Nat.le_of_ble_eq_true rfl, Nat.le_of_ble_eq_true rfl⟩) ⟨c_blind, va_recv hK hP (ci := 5) (q0 := cPos N 5 x0) rfl (cw_obj (k := 5) (by decide) hl_x0_5), fun U hU hW => c_pre hU hW hP hK hD hev hE hN hNS hS hFc⟩ rfl rfl hl.1 rfl (lv_room (Nat.le_of_ble_eq_true rfl)) d_cRw_writeInt_13 ⟨Nat.le_of_ble_eq_true rfl, Nat.le_of_ble_eq_true rfl⟩) hS (fun q _ h => hFc q h) hFc (fun u t H1 locs ht hvm hw hB hz1 hk1 hS => ?_)
  obtain ⟨hP, -, hD1⟩ := hB
  rw [ht] at hP
  have hD := hD1.weaken (fun _ q _ h => hFc q.1 h)
  generalize H1 = H at hP hS ⊢
  refine W.cs (cells' := 0) (slots' := 0) rfl rfl ?_
  refine lv_aload_n hx hb d_cRw_writeInt_16 rfl (lv_at hl 0 rfl) ?_
  refine lv_iload_n hx hb d_cRw_writeInt_17 rfl (lv_at hl 1 rfl) ?_
  refine lv_bipush (v := 8) hx hb d_cRw_writeInt_18 (by decide) ?_
  refine lv_iushr hx hb d_cRw_writeInt_20 rfl ?_
  refine w_i (y := ushr32 x1 8) rfl ?_
  obtain ⟨o_5, h_6, Heq⟩ := ob_some Heq
  have hFc := fr_all hD hS hA
  refine va_callv (va_runV (As := [.int (ushr32 x1 8)]) (rest := []) ⟨hx, hb, hml, hown, hts⟩ (g_cRw_write l D H.size (ad := ad) (cc := cc) (sad := sad) (sav := sav) h_6) (cw_v 1 hts kw_549 kw_546 kw_547 kw_548 kw_4 rfl rfl (by decide +kernel) ⟨Nat.le_of_ble_eq_true rfl, Nat.le_of_ble_eq_true rfl⟩) ⟨c_blind, va_recv hK hP (ci := 5) (q0 := cPos N 5 x0) rfl (cw_obj (k := 5) (by decide) hl_x0_5), fun U hU hW => c_pre hU hW hP hK hD hev hE hN hNS hS hFc⟩ rfl rfl hl.1 rfl (lv_room (Nat.le_of_ble_eq_true rfl)) d_cRw_writeInt_21 ⟨Nat.le_of_ble_eq_true rfl, Nat.le_of_ble_eq_true rfl⟩) hS (fun q _ h => hFc q h) hFc (fun u t H1 locs ht hvm hw hB hz1 hk1 hS => ?_)
  obtain ⟨hP, -, hD1⟩ := hB
  rw [ht] at hP
  have hD := hD1.weaken (fun _ q _ h => hFc q.1 h)
  generalize H1 = H at hP hS ⊢
  refine W.cs (cells' := 0) (slots' := 0) rfl rfl ?_
  refine lv_aload_n hx hb d_cRw_writeInt_24 rfl (lv_at hl 0 rfl) ?_
  refine lv_iload_n hx hb d_cRw_writeInt_25 rfl (lv_at hl 1 rfl) ?_
  obtain ⟨o_7, h_8, Heq⟩ := ob_some Heq
  have hFc := fr_all hD hS hA
  refine va_callv (va_runV (As := [.int x1]) (rest := []) ⟨hx, hb, hml, hown, hts⟩ (g_cRw_write l D H.size (ad := ad) (cc := cc) (sad := sad) (sav := sav) h_8) (cw_v 1 hts kw_549 kw_546 kw_547 kw_548 kw_4 rfl rfl (by decide +kernel) ⟨Nat.le_of_ble_eq_true rfl, Nat.le_of_ble_eq_true rfl⟩) ⟨c_blind, va_recv hK hP (ci := 5) (q0 := cPos N 5 x0) rfl (cw_obj (k := 5) (by decide) hl_x0_5), fun U hU hW => c_pre hU hW hP hK hD hev hE hN hNS hS hFc⟩ rfl rfl hl.1 rfl (lv_room (Nat.le_of_ble_eq_true rfl)) d_cRw_writeInt_26 ⟨Nat.le_of_ble_eq_true rfl, Nat.le_of_ble_eq_true rfl⟩) hS (fun q _ h => hFc q h) hFc (fun u t H1 locs ht hvm hw hB hz1 hk1 hS => ?_)
  obtain ⟨hP, -, hD1⟩ := hB
  rw [ht] at hP
  have hD := hD1.weaken (fun _ q _ h => hFc q.1 h)
  generalize H1 = H at hP hS ⊢
  refine W.cs (cells' := 0) (slots' := 0) rfl rfl ?_
  exact Kr _ (Option.some.inj Heq).symm 29 _ _ _ d_cRw_writeInt_29 hP hD hS
def m_cRw_writeInt (N : Nat → Nat) (x0 : Nat) (S : CS) (x1 : Int32) : Option CS := m_cRw_writeInt_J0 N x0 S x1
set_option maxHeartbeats 4000000 in
theorem g_cRw_writeInt (l : Launch) (D : va_G) (sz : Nat) {ad : Nat → Nat → Nat} {cc : Nat → ClassId} {sad sav : Nat → Nat} {N : Nat → Nat} {x0 : Nat} {S : CS} {x1 : Int32} {o : CS} (Heq : m_cRw_writeInt N x0 S x1 = some o) : Met l ⟨"JoinedTrees$Row", "writeInt", "(I)V"⟩ (Cond.code ⟨"JoinedTrees$Row", "writeInt", "(I)V"⟩ prog_7_method_4_code 2 none :: gb) ({ frames := 1, cells := 0, slots := 0, locals := 21 }) (cPc sad sav D (cw ad cc N S) (cty cc) sz [.ref (ad 5 x0), .int x1]) (va_Qv (fun _ : Unit => True) (fun _ t => gO D (cw ad cc N o) (cty cc) (va_A (cw ad cc N S) sz) t) (va_A (cw ad cc N S) sz)) 0 0 (va_A (cw ad cc N S) sz) := by
  refine Met.ofW (cc := prog_7_method_4_code) (maxL := 2) (ret := none) (by decide) rfl ?_
  intro p e s m args below meth c s₁ B hml hv
  obtain ⟨rfl, hsz, hP, hK, hD0, hev, hE, hN⟩ := hv
  have hx := B.exec
  have hb := B.bytes
  have hr := B.returns
  have hts : ∀ w9 ∈ gb, w9.before [.ref (ad 5 x0), .int x1].toArray s = true := fun w9 h => atoms_spec (ws := Cond.code ⟨"JoinedTrees$Row", "writeInt", "(I)V"⟩ prog_7_method_4_code 2 none :: gb) B.pre w9 (List.mem_cons_of_mem _ h)
  have hown : s.vm.findClass "JoinedTrees$Row" = some m.cls := findClass_of_methodNamed B.named
  have hlocks := B.notSynchronized
  have hNS := ns_of hP
  subst hsz
  have hD := hD0.self (sz := s.heap.size)
  generalize hAe : va_A (cw ad cc N S) s.heap.size = A at hD hev hE hNS ⊢
  have hA : ∀ q : Nat, s.heap.size ≤ q → A q := fun q h => by rw [← hAe]; exact Or.inr h
  have hS : va_S A s.heap s.heap [] := va_S.rf
  obtain ⟨ls, hl, hle⟩ : ∃ ls : Array Slot, lv_has ls 2 [(0, .ref (ad 5 x0)), (1, .int x1)] ∧ entryFrame m ([.ref (ad 5 x0), .int x1] : List Value).toArray 2 = F0 m 0 ls [] := by
    exact ⟨_, lv_entry (n := 2) _ (Nat.le_of_ble_eq_true rfl), lg_entry_eq ..⟩
  rw [hle]
  refine w_cRw_writeInt_J0 ⟨hx, hb, hr, hml, hown, hts, hK, hA, hev, hE, hN, hNS⟩ Heq (fun r h pc H locs ls hd hP hD hS => ?_) _ _ _ hP hD hS (lv_sub hl [0, 1] rfl)
  subst h
  exact W.vret hx hb hr (fun t ht hW => ⟨⟨(), rfl, trivial, by rw [ht]; exact hP, va_K.moved hW.alike hK, hD⟩, hS.F ht⟩) hS.2.2 hd
def m_cRw_clear_J0 (N : Nat → Nat) (x0 : Nat) (S : CS) : Option CS := gl x0 (N 5) (some ((S.setI 5 1 x0 0).setI 5 2 x0 0))
theorem d_cRw_clear_0 : decode prog_7_method_2_code 0 = .ok (.aload_n 0, 1) := by decide +kernel
theorem d_cRw_clear_1 : decode prog_7_method_2_code 1 = .ok (.iconst 0, 1) := by decide +kernel
theorem d_cRw_clear_2 : decode prog_7_method_2_code 2 = .ok (.putfield 13, 3) := by decide +kernel
theorem d_cRw_clear_5 : decode prog_7_method_2_code 5 = .ok (.aload_n 0, 1) := by decide +kernel
theorem d_cRw_clear_6 : decode prog_7_method_2_code 6 = .ok (.iconst 0, 1) := by decide +kernel
theorem d_cRw_clear_7 : decode prog_7_method_2_code 7 = .ok (.putfield 17, 3) := by decide +kernel
theorem d_cRw_clear_10 : decode prog_7_method_2_code 10 = .ok (.return_, 1) := by decide +kernel
set_option maxHeartbeats 4000000 in
set_option maxRecDepth 100000 in
theorem w_cRw_clear_J0 {p : Program} {l : Launch} {e : Env} {s : State} {m : MethodId} {args : Array Value} {below : List Frame} {meth : Method} {c : Code} {A : Nat → Prop} {D : va_G} {ad : Nat → Nat → Nat} {cc : Nat → ClassId} {sad sav : Nat → Nat} {Q : State → Prop} (hC : MCc sad sav "JoinedTrees$Row" prog_7_method_2_code 1 none p s m args meth c A D cc) {N : Nat → Nat} {x0 : Nat} {S : CS} {o : CS} (Heq : m_cRw_clear_J0 N x0 S = some o) (Kr : ∀ r : CS, o = r → ∀ (pc : Nat) (H : Heap) (locs : List Loc) (ls : Array Slot), decode prog_7_method_2_code pc = .ok (.return_, 1) → va_P D cls (cw ad cc N r) H → va_D A (cw ad cc N r) → va_S A s.heap H locs → W p l e ({ frames := 0, cells := 0, slots := 0, locals := 0 }) s m args below meth c H locs 0 0 Q (F0 m pc ls [])) : ∀ (H : Heap) (locs : List Loc) (ls : Array Slot), va_P D cls (cw ad cc N S) H → va_D A (cw ad cc N S) → va_S A s.heap H locs → lv_has ls 1 [(0, .ref (ad 5 x0))] → W p l e ({ frames := 0, cells := 0, slots := 0, locals := 0 }) s m args below meth c H locs 0 0 Q (F0 m 0 ls []) := by
  intro H locs ls hP hD hS hl
  obtain ⟨hx, hb, hr, hml, hown, hts, hK, hA, hev, hE, hN, hNS⟩ := id hC
  unfold m_cRw_clear_J0 at Heq
  refine lv_aload_n hx hb d_cRw_clear_0 rfl (lv_at hl 0 rfl) ?_
  refine lv_iconst (v := 0) hx hb d_cRw_clear_1 (by decide) ?_
  obtain ⟨hl_x0_5, Heq⟩ := gl_some Heq
  refine va_put (D := D) (ci := 5) (v := .int 0) (ty := .int) (C := R_Rw) (T := F_Rw) (N := 3) hx hb hts i_Rw t_Rw t_Rw_ok n_Rw hown hK hP hD hS (cPos N 5 x0) (cw_obj (k := 5) (by decide) hl_x0_5) rfl 1 (by decide) (hts _ kw_142) (fun _ h9 => h9) rfl (by decide +kernel) rfl rfl (Nat.le_of_ble_eq_true rfl) d_cRw_clear_2 (fun H locs hP hD hS => ?_)
  have hD := (congrArg (fun w9 => va_D A w9) (cw_setI (ad := ad) (cc := cc) (S := S) (k := 5) (f := 1) (v := 0) (by decide) rfl hl_x0_5)).mp hD
  have hP := (congrArg (fun w9 => va_P D cls w9 H) (cw_setI (ad := ad) (cc := cc) (S := S) (k := 5) (f := 1) (v := 0) (by decide) rfl hl_x0_5)).mp hP
  refine lv_aload_n hx hb d_cRw_clear_5 rfl (lv_at hl 0 rfl) ?_
  refine lv_iconst (v := 0) hx hb d_cRw_clear_6 (by decide) ?_
  refine va_put (D := D) (ci := 5) (v := .int 0) (ty := .boolean) (C := R_Rw) (T := F_Rw) (N := 3) hx hb hts i_Rw t_Rw t_Rw_ok n_Rw hown hK hP hD hS (cPos N 5 x0) (cw_obj (k := 5) (by decide) hl_x0_5) rfl 2 (by decide) (hts _ kw_148) (fun _ h9 => h9) rfl (by decide +kernel) (by decide) (by decide) (Nat.le_of_ble_eq_true rfl) d_cRw_clear_7 (fun H locs hP hD hS => ?_)
  have hD := (congrArg (fun w9 => va_D A w9) (cw_setI (ad := ad) (cc := cc) (S := (S.setI 5 1 x0 0)) (k := 5) (f := 2) (v := 0) (by decide) rfl hl_x0_5)).mp hD
  have hP := (congrArg (fun w9 => va_P D cls w9 H) (cw_setI (ad := ad) (cc := cc) (S := (S.setI 5 1 x0 0)) (k := 5) (f := 2) (v := 0) (by decide) rfl hl_x0_5)).mp hP
  exact Kr _ (Option.some.inj Heq).symm 10 _ _ _ d_cRw_clear_10 hP hD hS
def m_cRw_clear (N : Nat → Nat) (x0 : Nat) (S : CS) : Option CS := m_cRw_clear_J0 N x0 S
set_option maxHeartbeats 4000000 in
theorem g_cRw_clear (l : Launch) (D : va_G) (sz : Nat) {ad : Nat → Nat → Nat} {cc : Nat → ClassId} {sad sav : Nat → Nat} {N : Nat → Nat} {x0 : Nat} {S : CS} {o : CS} (Heq : m_cRw_clear N x0 S = some o) : Met l ⟨"JoinedTrees$Row", "clear", "()V"⟩ (Cond.code ⟨"JoinedTrees$Row", "clear", "()V"⟩ prog_7_method_2_code 1 none :: gb) ({ frames := 0, cells := 0, slots := 0, locals := 0 }) (cPc sad sav D (cw ad cc N S) (cty cc) sz [.ref (ad 5 x0)]) (va_Qv (fun _ : Unit => True) (fun _ t => gO D (cw ad cc N o) (cty cc) (va_A (cw ad cc N S) sz) t) (va_A (cw ad cc N S) sz)) 0 0 (va_A (cw ad cc N S) sz) := by
  refine Met.ofW (cc := prog_7_method_2_code) (maxL := 1) (ret := none) (by decide) rfl ?_
  intro p e s m args below meth c s₁ B hml hv
  obtain ⟨rfl, hsz, hP, hK, hD0, hev, hE, hN⟩ := hv
  have hx := B.exec
  have hb := B.bytes
  have hr := B.returns
  have hts : ∀ w9 ∈ gb, w9.before [.ref (ad 5 x0)].toArray s = true := fun w9 h => atoms_spec (ws := Cond.code ⟨"JoinedTrees$Row", "clear", "()V"⟩ prog_7_method_2_code 1 none :: gb) B.pre w9 (List.mem_cons_of_mem _ h)
  have hown : s.vm.findClass "JoinedTrees$Row" = some m.cls := findClass_of_methodNamed B.named
  have hlocks := B.notSynchronized
  have hNS := ns_of hP
  subst hsz
  have hD := hD0.self (sz := s.heap.size)
  generalize hAe : va_A (cw ad cc N S) s.heap.size = A at hD hev hE hNS ⊢
  have hA : ∀ q : Nat, s.heap.size ≤ q → A q := fun q h => by rw [← hAe]; exact Or.inr h
  have hS : va_S A s.heap s.heap [] := va_S.rf
  obtain ⟨ls, hl, hle⟩ : ∃ ls : Array Slot, lv_has ls 1 [(0, .ref (ad 5 x0))] ∧ entryFrame m ([.ref (ad 5 x0)] : List Value).toArray 1 = F0 m 0 ls [] := by
    exact ⟨_, lv_entry (n := 1) _ (Nat.le_of_ble_eq_true rfl), lg_entry_eq ..⟩
  rw [hle]
  refine w_cRw_clear_J0 ⟨hx, hb, hr, hml, hown, hts, hK, hA, hev, hE, hN, hNS⟩ Heq (fun r h pc H locs ls hd hP hD hS => ?_) _ _ _ hP hD hS (lv_sub hl [0] rfl)
  subst h
  exact W.vret hx hb hr (fun t ht hW => ⟨⟨(), rfl, trivial, by rw [ht]; exact hP, va_K.moved hW.alike hK, hD⟩, hS.F ht⟩) hS.2.2 hd
def m_cJT_takeArguments_J0 (N : Nat → Nat) (x0 : Nat) (S : CS) : Option (CS × Int32) := gl x0 (N 11) (some ((S.setI 11 11 x0 0), S.i 11 11 x0))
theorem d_cJT_takeArguments_0 : decode prog_1_method_30_code 0 = .ok (.aload_n 0, 1) := by decide +kernel
theorem d_cJT_takeArguments_1 : decode prog_1_method_30_code 1 = .ok (.getfield 96, 3) := by decide +kernel
theorem d_cJT_takeArguments_4 : decode prog_1_method_30_code 4 = .ok (.istore_n 1, 1) := by decide +kernel
theorem d_cJT_takeArguments_5 : decode prog_1_method_30_code 5 = .ok (.aload_n 0, 1) := by decide +kernel
theorem d_cJT_takeArguments_6 : decode prog_1_method_30_code 6 = .ok (.iconst 0, 1) := by decide +kernel
theorem d_cJT_takeArguments_7 : decode prog_1_method_30_code 7 = .ok (.putfield 96, 3) := by decide +kernel
theorem d_cJT_takeArguments_10 : decode prog_1_method_30_code 10 = .ok (.iload_n 1, 1) := by decide +kernel
theorem d_cJT_takeArguments_11 : decode prog_1_method_30_code 11 = .ok (.ireturn, 1) := by decide +kernel
set_option maxHeartbeats 4000000 in
set_option maxRecDepth 100000 in
theorem w_cJT_takeArguments_J0 {p : Program} {l : Launch} {e : Env} {s : State} {m : MethodId} {args : Array Value} {below : List Frame} {meth : Method} {c : Code} {A : Nat → Prop} {D : va_G} {ad : Nat → Nat → Nat} {cc : Nat → ClassId} {sad sav : Nat → Nat} {Q : State → Prop} (hC : MCc sad sav "JoinedTrees" prog_1_method_30_code 2 (some .int) p s m args meth c A D cc) {N : Nat → Nat} {x0 : Nat} {S : CS} {o : CS × Int32} (Heq : m_cJT_takeArguments_J0 N x0 S = some o) (Kr : ∀ r : CS × Int32, o = r → ∀ (pc : Nat) (H : Heap) (locs : List Loc) (ls : Array Slot), decode prog_1_method_30_code pc = .ok (.ireturn, 1) → va_P D cls (cw ad cc N r.1) H → va_D A (cw ad cc N r.1) → va_S A s.heap H locs → W p l e ({ frames := 0, cells := 0, slots := 0, locals := 0 }) s m args below meth c H locs 0 0 Q (F0 m pc ls [.int r.2])) : ∀ (H : Heap) (locs : List Loc) (ls : Array Slot), va_P D cls (cw ad cc N S) H → va_D A (cw ad cc N S) → va_S A s.heap H locs → lv_has ls 2 [(0, .ref (ad 11 x0))] → W p l e ({ frames := 0, cells := 0, slots := 0, locals := 0 }) s m args below meth c H locs 0 0 Q (F0 m 0 ls []) := by
  intro H locs ls hP hD hS hl
  obtain ⟨hx, hb, hr, hml, hown, hts, hK, hA, hev, hE, hN, hNS⟩ := id hC
  unfold m_cJT_takeArguments_J0 at Heq
  refine lv_aload_n hx hb d_cJT_takeArguments_0 rfl (lv_at hl 0 rfl) ?_
  obtain ⟨hl_x0_11, Heq⟩ := gl_some Heq
  refine va_get (D := D) (ci := 11) (v := .int (S.i 11 11 x0)) (C := R_JT) (T := F_JT) (N := 13) hx hb hts i_JT hown hK hP (cPos N 11 x0) (cw_obj (k := 11) (by decide) hl_x0_11) rfl 11 (by decide) (hts _ kw_432) (fun _ h9 => h9) rfl d_cJT_takeArguments_1 ?_
  refine lv_istore_n (lv' := [(1, .int (S.i 11 11 x0)), (0, .ref (ad 11 x0))]) hx hb d_cJT_takeArguments_4 rfl hl (by decide) rfl (fun ls hl => ?_)
  refine lv_aload_n hx hb d_cJT_takeArguments_5 rfl (lv_at hl 1 rfl) ?_
  refine lv_iconst (v := 0) hx hb d_cJT_takeArguments_6 (by decide) ?_
  refine va_put (D := D) (ci := 11) (v := .int 0) (ty := .int) (C := R_JT) (T := F_JT) (N := 13) hx hb hts i_JT t_JT t_JT_ok n_JT hown hK hP hD hS (cPos N 11 x0) (cw_obj (k := 11) (by decide) hl_x0_11) rfl 11 (by decide) (hts _ kw_432) (fun _ h9 => h9) rfl (by decide +kernel) rfl rfl (Nat.le_of_ble_eq_true rfl) d_cJT_takeArguments_7 (fun H locs hP hD hS => ?_)
  have hD := (congrArg (fun w9 => va_D A w9) (cw_setI (ad := ad) (cc := cc) (S := S) (k := 11) (f := 11) (v := 0) (by decide) rfl hl_x0_11)).mp hD
  have hP := (congrArg (fun w9 => va_P D cls w9 H) (cw_setI (ad := ad) (cc := cc) (S := S) (k := 11) (f := 11) (v := 0) (by decide) rfl hl_x0_11)).mp hP
  refine lv_iload_n hx hb d_cJT_takeArguments_10 rfl (lv_at hl 0 rfl) ?_
  exact Kr _ (Option.some.inj Heq).symm 11 _ _ _ d_cJT_takeArguments_11 hP hD hS
def m_cJT_takeArguments (N : Nat → Nat) (x0 : Nat) (S : CS) : Option (CS × Int32) := m_cJT_takeArguments_J0 N x0 S
set_option maxHeartbeats 4000000 in
theorem g_cJT_takeArguments (l : Launch) (D : va_G) (sz : Nat) {ad : Nat → Nat → Nat} {cc : Nat → ClassId} {sad sav : Nat → Nat} {N : Nat → Nat} {x0 : Nat} {S : CS} {o : CS × Int32} (Heq : m_cJT_takeArguments N x0 S = some o) : Met l ⟨"JoinedTrees", "takeArguments", "()I"⟩ (Cond.code ⟨"JoinedTrees", "takeArguments", "()I"⟩ prog_1_method_30_code 2 (some .int) :: gb) ({ frames := 0, cells := 0, slots := 0, locals := 0 }) (cPc sad sav D (cw ad cc N S) (cty cc) sz [.ref (ad 11 x0)]) (va_Qi (fun (r : Int32) (_ : Unit) => r = o.2) (fun _ t => gO D (cw ad cc N o.1) (cty cc) (va_A (cw ad cc N S) sz) t) (va_A (cw ad cc N S) sz)) 0 0 (va_A (cw ad cc N S) sz) := by
  refine Met.ofW (cc := prog_1_method_30_code) (maxL := 2) (ret := (some .int)) (by decide) rfl ?_
  intro p e s m args below meth c s₁ B hml hv
  obtain ⟨rfl, hsz, hP, hK, hD0, hev, hE, hN⟩ := hv
  have hx := B.exec
  have hb := B.bytes
  have hr := B.returns
  have hts : ∀ w9 ∈ gb, w9.before [.ref (ad 11 x0)].toArray s = true := fun w9 h => atoms_spec (ws := Cond.code ⟨"JoinedTrees", "takeArguments", "()I"⟩ prog_1_method_30_code 2 (some .int) :: gb) B.pre w9 (List.mem_cons_of_mem _ h)
  have hown : s.vm.findClass "JoinedTrees" = some m.cls := findClass_of_methodNamed B.named
  have hlocks := B.notSynchronized
  have hNS := ns_of hP
  subst hsz
  have hD := hD0.self (sz := s.heap.size)
  generalize hAe : va_A (cw ad cc N S) s.heap.size = A at hD hev hE hNS ⊢
  have hA : ∀ q : Nat, s.heap.size ≤ q → A q := fun q h => by rw [← hAe]; exact Or.inr h
  have hS : va_S A s.heap s.heap [] := va_S.rf
  obtain ⟨ls, hl, hle⟩ : ∃ ls : Array Slot, lv_has ls 2 [(0, .ref (ad 11 x0))] ∧ entryFrame m ([.ref (ad 11 x0)] : List Value).toArray 2 = F0 m 0 ls [] := by
    exact ⟨_, lv_entry (n := 2) _ (Nat.le_of_ble_eq_true rfl), lg_entry_eq ..⟩
  rw [hle]
  refine w_cJT_takeArguments_J0 ⟨hx, hb, hr, hml, hown, hts, hK, hA, hev, hE, hN, hNS⟩ Heq (fun r h pc H locs ls hd hP hD hS => ?_) _ _ _ hP hD hS (lv_sub hl [0] rfl)
  subst h
  exact W.iret hx hb hr (fun t ht hW => ⟨⟨_, (), rfl, rfl, by rw [ht]; exact hP, va_K.moved hW.alike hK, hD⟩, hS.F ht⟩) hS.2.2 hd
def m_cVw_show_J54 (N : Nat → Nat) (x0 : Nat) (S : CS) : Option CS := some S
theorem d_cVw_show_0 : decode prog_12_method_2_code 0 = .ok (.aload_n 1, 1) := by decide +kernel
theorem d_cVw_show_1 : decode prog_12_method_2_code 1 = .ok (.getfield 25, 3) := by decide +kernel
theorem d_cVw_show_4 : decode prog_12_method_2_code 4 = .ok (.ifnonnull 10, 3) := by decide +kernel
theorem d_cVw_show_7 : decode prog_12_method_2_code 7 = .ok (.aload_n 1, 1) := by decide +kernel
theorem d_cVw_show_8 : decode prog_12_method_2_code 8 = .ok (.getfield 31, 3) := by decide +kernel
theorem d_cVw_show_11 : decode prog_12_method_2_code 11 = .ok (.goto 10, 3) := by decide +kernel
theorem d_cVw_show_21 : decode prog_12_method_2_code 21 = .ok (.astore_n 2, 1) := by decide +kernel
theorem d_cVw_show_22 : decode prog_12_method_2_code 22 = .ok (.aload_n 2, 1) := by decide +kernel
theorem d_cVw_show_23 : decode prog_12_method_2_code 23 = .ok (.iconst 0, 1) := by decide +kernel
theorem d_cVw_show_24 : decode prog_12_method_2_code 24 = .ok (.aload_n 0, 1) := by decide +kernel
theorem d_cVw_show_25 : decode prog_12_method_2_code 25 = .ok (.getfield 9, 3) := by decide +kernel
theorem d_cVw_show_28 : decode prog_12_method_2_code 28 = .ok (.iconst 0, 1) := by decide +kernel
theorem d_cVw_show_29 : decode prog_12_method_2_code 29 = .ok (.bipush 8, 2) := by decide +kernel
theorem d_cVw_show_31 : decode prog_12_method_2_code 31 = .ok (.invokestatic 37, 3) := by decide +kernel
theorem d_cVw_show_34 : decode prog_12_method_2_code 34 = .ok (.aload_n 1, 1) := by decide +kernel
theorem d_cVw_show_35 : decode prog_12_method_2_code 35 = .ok (.getfield 25, 3) := by decide +kernel
theorem d_cVw_show_38 : decode prog_12_method_2_code 38 = .ok (.ifnonnull 16, 3) := by decide +kernel
theorem d_cVw_show_41 : decode prog_12_method_2_code 41 = .ok (.aload_n 0, 1) := by decide +kernel
theorem d_cVw_show_42 : decode prog_12_method_2_code 42 = .ok (.getfield 9, 3) := by decide +kernel
theorem d_cVw_show_45 : decode prog_12_method_2_code 45 = .ok (.aload_n 1, 1) := by decide +kernel
theorem d_cVw_show_46 : decode prog_12_method_2_code 46 = .ok (.getfield 43, 3) := by decide +kernel
theorem d_cVw_show_49 : decode prog_12_method_2_code 49 = .ok (.dup2, 1) := by decide +kernel
theorem d_cVw_show_50 : decode prog_12_method_2_code 50 = .ok (.iaload, 1) := by decide +kernel
theorem d_cVw_show_51 : decode prog_12_method_2_code 51 = .ok (.iconst 1, 1) := by decide +kernel
theorem d_cVw_show_52 : decode prog_12_method_2_code 52 = .ok (.iadd, 1) := by decide +kernel
theorem d_cVw_show_53 : decode prog_12_method_2_code 53 = .ok (.iastore, 1) := by decide +kernel
theorem d_cVw_show_54 : decode prog_12_method_2_code 54 = .ok (.return_, 1) := by decide +kernel
set_option maxHeartbeats 4000000 in
set_option maxRecDepth 100000 in
theorem w_cVw_show_J54 {p : Program} {l : Launch} {e : Env} {s : State} {m : MethodId} {args : Array Value} {below : List Frame} {meth : Method} {c : Code} {A : Nat → Prop} {D : va_G} {ad : Nat → Nat → Nat} {cc : Nat → ClassId} {sad sav : Nat → Nat} {Q : State → Prop} (hC : MCc sad sav "JoinedTrees$View" prog_12_method_2_code 3 none p s m args meth c A D cc) {N : Nat → Nat} {x0 : Nat} {S : CS} {o : CS} (Heq : m_cVw_show_J54 N x0 S = some o) (Kr : ∀ r : CS, o = r → ∀ (pc : Nat) (H : Heap) (locs : List Loc) (ls : Array Slot), decode prog_12_method_2_code pc = .ok (.return_, 1) → va_P D cls (cw ad cc N r) H → va_D A (cw ad cc N r) → va_S A s.heap H locs → W p l e ({ frames := 1, cells := 0, slots := 0, locals := 60 }) s m args below meth c H locs 0 0 Q (F0 m pc ls [])) : ∀ (H : Heap) (locs : List Loc) (ls : Array Slot), va_P D cls (cw ad cc N S) H → va_D A (cw ad cc N S) → va_S A s.heap H locs → lv_has ls 3 [(0, .ref (ad 10 x0))] → W p l e ({ frames := 1, cells := 0, slots := 0, locals := 60 }) s m args below meth c H locs 0 0 Q (F0 m 54 ls []) := by
  intro H locs ls hP hD hS hl
  obtain ⟨hx, hb, hr, hml, hown, hts, hK, hA, hev, hE, hN, hNS⟩ := id hC
  unfold m_cVw_show_J54 at Heq
  exact Kr _ (Option.some.inj Heq).symm 54 _ _ _ d_cVw_show_54 hP hD hS
def m_cVw_show_J21 (N : Nat → Nat) (x0 : Nat) (S : CS) (x1 : Option Nat) (t0 : Option Nat) : Option CS := gl x0 (N 10) (gn (S.r 10 1 x0) (N 12) (fun j_1 => gn t0 (N 12) (fun j_4 => gle 8 (S.z 12 j_4) (gle 8 (S.z 12 j_1) (gn x1 (N 4) (fun j_9 => on (S.r 4 4 j_9) (gd (S.i 4 0 j_9) (S.z 12 j_1) (gd (S.i 4 0 j_9) (S.z 12 j_1) (m_cVw_show_J54 N x0 ((S.setF 12 j_1 (va_cpy (S.a 12 j_4) (S.a 12 j_1) ((0 : Int32).toNatClampNeg) ((0 : Int32).toNatClampNeg) ((8 : Int32).toNatClampNeg))).setA 12 j_1 ((S.i 4 0 j_9).toNatClampNeg) (((va_cpy (S.a 12 j_4) (S.a 12 j_1) ((0 : Int32).toNatClampNeg) ((0 : Int32).toNatClampNeg) ((8 : Int32).toNatClampNeg)) ((S.i 4 0 j_9).toNatClampNeg)) + 1))))) (fun j_12 => m_cVw_show_J54 N x0 (S.setF 12 j_1 (va_cpy (S.a 12 j_4) (S.a 12 j_1) ((0 : Int32).toNatClampNeg) ((0 : Int32).toNatClampNeg) ((8 : Int32).toNatClampNeg))))))))))
set_option maxHeartbeats 4000000 in
set_option maxRecDepth 100000 in
theorem w_cVw_show_J21 {p : Program} {l : Launch} {e : Env} {s : State} {m : MethodId} {args : Array Value} {below : List Frame} {meth : Method} {c : Code} {A : Nat → Prop} {D : va_G} {ad : Nat → Nat → Nat} {cc : Nat → ClassId} {sad sav : Nat → Nat} {Q : State → Prop} (hC : MCc sad sav "JoinedTrees$View" prog_12_method_2_code 3 none p s m args meth c A D cc) {N : Nat → Nat} {x0 : Nat} {S : CS} {x1 : Option Nat} {t0 : Option Nat} {o : CS} (Heq : m_cVw_show_J21 N x0 S x1 t0 = some o) (Kr : ∀ r : CS, o = r → ∀ (pc : Nat) (H : Heap) (locs : List Loc) (ls : Array Slot), decode prog_12_method_2_code pc = .ok (.return_, 1) → va_P D cls (cw ad cc N r) H → va_D A (cw ad cc N r) → va_S A s.heap H locs → W p l e ({ frames := 1, cells := 0, slots := 0, locals := 60 }) s m args below meth c H locs 0 0 Q (F0 m pc ls [])) : ∀ (H : Heap) (locs : List Loc) (ls : Array Slot), va_P D cls (cw ad cc N S) H → va_D A (cw ad cc N S) → va_S A s.heap H locs → lv_has ls 3 [(0, .ref (ad 10 x0)), (1, rv ad 4 x1)] → W p l e ({ frames := 1, cells := 0, slots := 0, locals := 60 }) s m args below meth c H locs 0 0 Q (F0 m 21 ls [rv ad 12 t0]) := by
  intro H locs ls hP hD hS hl
  obtain ⟨hx, hb, hr, hml, hown, hts, hK, hA, hev, hE, hN, hNS⟩ := id hC
  unfold m_cVw_show_J21 at Heq
  refine tx_astore_n (i := 2) (x := t0.map (ad 12)) (lv' := [(2, rv ad 12 t0), (0, .ref (ad 10 x0)), (1, rv ad 4 x1)]) hx hb d_cVw_show_21 rfl hl (by decide) (by simp [rv, rf_cat]) (fun ls hl => ?_)
  refine tx_aload_n (x := t0.map (ad 12)) hx hb d_cVw_show_22 rfl (lv_at hl 0 rfl) ?_
  refine w_v (y := rv ad 12 t0) rfl ?_
  refine lv_iconst (v := 0) hx hb d_cVw_show_23 (by decide) ?_
  refine lv_aload_n hx hb d_cVw_show_24 rfl (lv_at hl 1 rfl) ?_
  obtain ⟨hl_x0_10, Heq⟩ := gl_some Heq
  refine va_get (D := D) (ci := 10) (v := rv ad 12 (S.r 10 1 x0)) (C := R_Vw) (T := F_Vw) (N := 5) hx hb hts i_Vw hown hK hP (cPos N 10 x0) (cw_obj (k := 10) (by decide) hl_x0_10) rfl 1 (by decide) (hts _ kw_263) (fun _ h9 => h9) rfl d_cVw_show_25 ?_
  refine lv_iconst (v := 0) hx hb d_cVw_show_28 (by decide) ?_
  refine lv_bipush (v := 8) hx hb d_cVw_show_29 (by decide) ?_
  obtain ⟨j_1, hj_2, hl_3, Heq⟩ := gn_some Heq
  refine w_s (st' := [.int 8, .int 0, .ref (ad 12 j_1), .int 0, rv ad 12 t0]) (congrArg (fun z9 : Option Nat => [.int 8, .int 0, rv ad 12 z9, .int 0, rv ad 12 t0]) hj_2) ?_
  obtain ⟨j_4, hj_5, hl_6, Heq⟩ := gn_some Heq
  refine w_s (st' := [.int 8, .int 0, .ref (ad 12 j_1), .int 0, .ref (ad 12 j_4)]) (congrArg (fun z9 : Option Nat => [.int 8, .int 0, .ref (ad 12 j_1), .int 0, rv ad 12 z9]) hj_5) ?_
  obtain ⟨hg_7, Heq⟩ := gle_some Heq
  obtain ⟨hg_8, Heq⟩ := gle_some Heq
  refine va_copyi hx hb (hml.trans hl.1.symm) hown (hts _ kw_598) (hts _ kw_600) (hts _ kw_599) (hts _ kw_17) hK hP hD hS (cPos N 12 j_4) (cPos N 12 j_1) 0 0 (cw_arr (k := 12) (by decide) hl_6) (cw_arr (k := 12) (by decide) hl_3) rfl rfl rfl (sp := 0) (dp := 0) (n := 8) (by decide) (by decide) (by decide) hg_7 hg_8 (fun _ _ => rfl) (Nat.le_of_ble_eq_true rfl) (Nat.le_of_ble_eq_true rfl) d_cVw_show_31 (fun H locs hP hD hS => ?_)
  have hD := (congrArg (fun w9 => va_D A w9) (cw_setF (ad := ad) (cc := cc) (S := S) (k := 12) (g := va_cpy (S.a 12 j_4) (S.a 12 j_1) ((0 : Int32).toNatClampNeg) ((0 : Int32).toNatClampNeg) ((8 : Int32).toNatClampNeg)) (by decide) hl_3)).mp hD
  have hP := (congrArg (fun w9 => va_P D cls w9 H) (cw_setF (ad := ad) (cc := cc) (S := S) (k := 12) (g := va_cpy (S.a 12 j_4) (S.a 12 j_1) ((0 : Int32).toNatClampNeg) ((0 : Int32).toNatClampNeg) ((8 : Int32).toNatClampNeg)) (by decide) hl_3)).mp hP
  refine tx_aload_n (x := x1.map (ad 4)) hx hb d_cVw_show_34 rfl (lv_at hl 2 rfl) ?_
  refine w_v (y := rv ad 4 x1) rfl ?_
  obtain ⟨j_9, hj_10, hl_11, Heq⟩ := gn_some Heq
  refine w_s (st' := [.ref (ad 4 j_9)]) (congrArg (fun z9 : Option Nat => [rv ad 4 z9]) hj_10) ?_
  refine va_get (D := D) (ci := 4) (v := rv ad 0 ((S.setF 12 j_1 (va_cpy (S.a 12 j_4) (S.a 12 j_1) ((0 : Int32).toNatClampNeg) ((0 : Int32).toNatClampNeg) ((8 : Int32).toNatClampNeg))).r 4 4 j_9)) (C := R_Rp) (T := F_Rp) (N := 10) hx hb hts i_Rp hown hK hP (cPos N 4 j_9) (cw_obj (k := 4) (by decide) hl_11) rfl 4 (by decide) (hts _ kw_214) (fun _ h9 => h9) rfl d_cVw_show_35 ?_
  refine w_v (y := rv ad 0 (S.r 4 4 j_9)) (congrArg (rv ad 0) rfl) ?_
  rcases on_some Heq with ⟨hj_13, Heq⟩ | ⟨j_12, hj_13, Heq⟩
  · refine w_s (st' := [.null]) (congrArg (fun z9 : Option Nat => [rv ad 0 z9]) hj_13) ?_
    refine lv_ifnonnullN hx hb d_cVw_show_38 ?_
    refine lv_aload_n hx hb d_cVw_show_41 rfl (lv_at hl 1 rfl) ?_
    refine va_get (D := D) (ci := 10) (v := rv ad 12 ((S.setF 12 j_1 (va_cpy (S.a 12 j_4) (S.a 12 j_1) ((0 : Int32).toNatClampNeg) ((0 : Int32).toNatClampNeg) ((8 : Int32).toNatClampNeg))).r 10 1 x0)) (C := R_Vw) (T := F_Vw) (N := 5) hx hb hts i_Vw hown hK hP (cPos N 10 x0) (cw_obj (k := 10) (by decide) hl_x0_10) rfl 1 (by decide) (hts _ kw_263) (fun _ h9 => h9) rfl d_cVw_show_42 ?_
    refine w_v (y := rv ad 12 (S.r 10 1 x0)) (congrArg (rv ad 12) rfl) ?_
    refine tx_aload_n (x := x1.map (ad 4)) hx hb d_cVw_show_45 rfl (lv_at hl 2 rfl) ?_
    refine w_v (y := rv ad 4 x1) rfl ?_
    refine w_s (st' := [.ref (ad 4 j_9), rv ad 12 (S.r 10 1 x0)]) (congrArg (fun z9 : Option Nat => [rv ad 4 z9, rv ad 12 (S.r 10 1 x0)]) hj_10) ?_
    refine va_get (D := D) (ci := 4) (v := .int ((S.setF 12 j_1 (va_cpy (S.a 12 j_4) (S.a 12 j_1) ((0 : Int32).toNatClampNeg) ((0 : Int32).toNatClampNeg) ((8 : Int32).toNatClampNeg))).i 4 0 j_9)) (C := R_Rp) (T := F_Rp) (N := 10) hx hb hts i_Rp hown hK hP (cPos N 4 j_9) (cw_obj (k := 4) (by decide) hl_11) rfl 0 (by decide) (hts _ kw_202) (fun _ h9 => h9) rfl d_cVw_show_46 ?_
    refine w_i (y := S.i 4 0 j_9) rfl ?_
    refine lv_dup2_11 hx hb d_cVw_show_49 (by first | rfl | exact rv_cat) (by first | rfl | exact rv_cat) ?_
    refine w_s (st' := [.int (S.i 4 0 j_9), .ref (ad 12 j_1), .int (S.i 4 0 j_9), rv ad 12 (S.r 10 1 x0)]) (congrArg (fun z9 : Option Nat => [.int (S.i 4 0 j_9), rv ad 12 z9, .int (S.i 4 0 j_9), rv ad 12 (S.r 10 1 x0)]) hj_2) ?_
    obtain ⟨hi_14, Heq⟩ := gd_some Heq
    refine va_iald hx hb hK hP (cPos N 12 j_1) 0 (cw_arr (k := 12) (by decide) hl_3) rfl (i := S.i 4 0 j_9) hi_14 d_cVw_show_50 ?_
    refine w_i (y := (va_cpy (S.a 12 j_4) (S.a 12 j_1) ((0 : Int32).toNatClampNeg) ((0 : Int32).toNatClampNeg) ((8 : Int32).toNatClampNeg)) ((S.i 4 0 j_9).toNatClampNeg)) (if_pos ⟨rfl, rfl⟩) ?_
    refine lv_iconst (v := 1) hx hb d_cVw_show_51 (by decide) ?_
    refine lv_iadd hx hb d_cVw_show_52 ?_
    refine w_i (y := ((va_cpy (S.a 12 j_4) (S.a 12 j_1) ((0 : Int32).toNatClampNeg) ((0 : Int32).toNatClampNeg) ((8 : Int32).toNatClampNeg)) ((S.i 4 0 j_9).toNatClampNeg)) + 1) rfl ?_
    refine w_s (st' := [.int (((va_cpy (S.a 12 j_4) (S.a 12 j_1) ((0 : Int32).toNatClampNeg) ((0 : Int32).toNatClampNeg) ((8 : Int32).toNatClampNeg)) ((S.i 4 0 j_9).toNatClampNeg)) + 1), .int (S.i 4 0 j_9), .ref (ad 12 j_1)]) (congrArg (fun z9 : Option Nat => [.int (((va_cpy (S.a 12 j_4) (S.a 12 j_1) ((0 : Int32).toNatClampNeg) ((0 : Int32).toNatClampNeg) ((8 : Int32).toNatClampNeg)) ((S.i 4 0 j_9).toNatClampNeg)) + 1), .int (S.i 4 0 j_9), rv ad 12 z9]) hj_2) ?_
    obtain ⟨hi_15, Heq⟩ := gd_some Heq
    refine va_iast hx hb hK hP hD hS (cPos N 12 j_1) 0 (cw_arr (k := 12) (by decide) hl_3) rfl (i := S.i 4 0 j_9) (x := ((va_cpy (S.a 12 j_4) (S.a 12 j_1) ((0 : Int32).toNatClampNeg) ((0 : Int32).toNatClampNeg) ((8 : Int32).toNatClampNeg)) ((S.i 4 0 j_9).toNatClampNeg)) + 1) hi_15 d_cVw_show_53 (fun H locs hP hD hS => ?_)
    have hD := (congrArg (fun w9 => va_D A w9) (cw_setA (ad := ad) (cc := cc) (S := (S.setF 12 j_1 (va_cpy (S.a 12 j_4) (S.a 12 j_1) ((0 : Int32).toNatClampNeg) ((0 : Int32).toNatClampNeg) ((8 : Int32).toNatClampNeg)))) (k := 12) (i := (S.i 4 0 j_9).toNatClampNeg) (v := (((va_cpy (S.a 12 j_4) (S.a 12 j_1) ((0 : Int32).toNatClampNeg) ((0 : Int32).toNatClampNeg) ((8 : Int32).toNatClampNeg)) ((S.i 4 0 j_9).toNatClampNeg)) + 1)) (by decide) hl_3)).mp hD
    have hP := (congrArg (fun w9 => va_P D cls w9 H) (cw_setA (ad := ad) (cc := cc) (S := (S.setF 12 j_1 (va_cpy (S.a 12 j_4) (S.a 12 j_1) ((0 : Int32).toNatClampNeg) ((0 : Int32).toNatClampNeg) ((8 : Int32).toNatClampNeg)))) (k := 12) (i := (S.i 4 0 j_9).toNatClampNeg) (v := (((va_cpy (S.a 12 j_4) (S.a 12 j_1) ((0 : Int32).toNatClampNeg) ((0 : Int32).toNatClampNeg) ((8 : Int32).toNatClampNeg)) ((S.i 4 0 j_9).toNatClampNeg)) + 1)) (by decide) hl_3)).mp hP
    exact w_cVw_show_J54 hC Heq Kr _ _ _ hP hD hS (lv_sub hl [1] rfl)
  · refine w_s (st' := [.ref (ad 0 j_12)]) (congrArg (fun z9 : Option Nat => [rv ad 0 z9]) hj_13) ?_
    refine lv_ifnonnull (tgt := 54) hx hb d_cVw_show_38 (by decide) ?_
    exact w_cVw_show_J54 hC Heq Kr _ _ _ hP hD hS (lv_sub hl [1] rfl)
def m_cVw_show_J0 (N : Nat → Nat) (x0 : Nat) (S : CS) (x1 : Nat) : Option CS := gl x1 (N 4) (on (S.r 4 4 x1) (m_cVw_show_J21 N x0 S (some x1) (S.r 4 1 x1)) (fun j_1 => gl j_1 (N 0) (m_cVw_show_J21 N x0 S (some x1) (S.r 0 6 j_1))))
theorem d_cVw_show_14 : decode prog_12_method_2_code 14 = .ok (.aload_n 1, 1) := by decide +kernel
theorem d_cVw_show_15 : decode prog_12_method_2_code 15 = .ok (.getfield 25, 3) := by decide +kernel
theorem d_cVw_show_18 : decode prog_12_method_2_code 18 = .ok (.getfield 34, 3) := by decide +kernel
set_option maxHeartbeats 4000000 in
set_option maxRecDepth 100000 in
theorem w_cVw_show_J0 {p : Program} {l : Launch} {e : Env} {s : State} {m : MethodId} {args : Array Value} {below : List Frame} {meth : Method} {c : Code} {A : Nat → Prop} {D : va_G} {ad : Nat → Nat → Nat} {cc : Nat → ClassId} {sad sav : Nat → Nat} {Q : State → Prop} (hC : MCc sad sav "JoinedTrees$View" prog_12_method_2_code 3 none p s m args meth c A D cc) {N : Nat → Nat} {x0 : Nat} {S : CS} {x1 : Nat} {o : CS} (Heq : m_cVw_show_J0 N x0 S x1 = some o) (Kr : ∀ r : CS, o = r → ∀ (pc : Nat) (H : Heap) (locs : List Loc) (ls : Array Slot), decode prog_12_method_2_code pc = .ok (.return_, 1) → va_P D cls (cw ad cc N r) H → va_D A (cw ad cc N r) → va_S A s.heap H locs → W p l e ({ frames := 1, cells := 0, slots := 0, locals := 60 }) s m args below meth c H locs 0 0 Q (F0 m pc ls [])) : ∀ (H : Heap) (locs : List Loc) (ls : Array Slot), va_P D cls (cw ad cc N S) H → va_D A (cw ad cc N S) → va_S A s.heap H locs → lv_has ls 3 [(0, .ref (ad 10 x0)), (1, .ref (ad 4 x1))] → W p l e ({ frames := 1, cells := 0, slots := 0, locals := 60 }) s m args below meth c H locs 0 0 Q (F0 m 0 ls []) := by
  intro H locs ls hP hD hS hl
  obtain ⟨hx, hb, hr, hml, hown, hts, hK, hA, hev, hE, hN, hNS⟩ := id hC
  unfold m_cVw_show_J0 at Heq
  refine lv_aload_n hx hb d_cVw_show_0 rfl (lv_at hl 1 rfl) ?_
  obtain ⟨hl_x1_4, Heq⟩ := gl_some Heq
  refine va_get (D := D) (ci := 4) (v := rv ad 0 (S.r 4 4 x1)) (C := R_Rp) (T := F_Rp) (N := 10) hx hb hts i_Rp hown hK hP (cPos N 4 x1) (cw_obj (k := 4) (by decide) hl_x1_4) rfl 4 (by decide) (hts _ kw_214) (fun _ h9 => h9) rfl d_cVw_show_1 ?_
  rcases on_some Heq with ⟨hj_2, Heq⟩ | ⟨j_1, hj_2, Heq⟩
  · refine w_s (st' := [.null]) (congrArg (fun z9 : Option Nat => [rv ad 0 z9]) hj_2) ?_
    refine lv_ifnonnullN hx hb d_cVw_show_4 ?_
    refine lv_aload_n hx hb d_cVw_show_7 rfl (lv_at hl 1 rfl) ?_
    refine va_get (D := D) (ci := 4) (v := rv ad 12 (S.r 4 1 x1)) (C := R_Rp) (T := F_Rp) (N := 10) hx hb hts i_Rp hown hK hP (cPos N 4 x1) (cw_obj (k := 4) (by decide) hl_x1_4) rfl 1 (by decide) (hts _ kw_207) (fun _ h9 => h9) rfl d_cVw_show_8 ?_
    refine lv_goto (tgt := 21) hx hb d_cVw_show_11 (by decide) ?_
    exact w_cVw_show_J21 hC Heq Kr _ _ _ hP hD hS (lv_sub hl [0, 1] rfl)
  · refine w_s (st' := [.ref (ad 0 j_1)]) (congrArg (fun z9 : Option Nat => [rv ad 0 z9]) hj_2) ?_
    refine lv_ifnonnull (tgt := 14) hx hb d_cVw_show_4 (by decide) ?_
    refine lv_aload_n hx hb d_cVw_show_14 rfl (lv_at hl 1 rfl) ?_
    refine va_get (D := D) (ci := 4) (v := rv ad 0 (S.r 4 4 x1)) (C := R_Rp) (T := F_Rp) (N := 10) hx hb hts i_Rp hown hK hP (cPos N 4 x1) (cw_obj (k := 4) (by decide) hl_x1_4) rfl 4 (by decide) (hts _ kw_214) (fun _ h9 => h9) rfl d_cVw_show_15 ?_
    refine w_s (st' := [.ref (ad 0 j_1)]) (congrArg (fun z9 : Option Nat => [rv ad 0 z9]) hj_2) ?_
    obtain ⟨hl_j_1_0, Heq⟩ := gl_some Heq
    refine va_get (D := D) (ci := 0) (v := rv ad 12 (S.r 0 6 j_1)) (C := R_Ch) (T := F_Ch) (N := 7) hx hb hts i_Ch hown hK hP (cPos N 0 j_1) (cw_obj (k := 0) (by decide) hl_j_1_0) rfl 6 (by decide) (hts _ kw_1029) (fun _ h9 => h9) rfl d_cVw_show_18 ?_
    exact w_cVw_show_J21 hC Heq Kr _ _ _ hP hD hS (lv_sub hl [0, 1] rfl)
def m_cVw_show (N : Nat → Nat) (x0 : Nat) (S : CS) (x1 : Nat) : Option CS := m_cVw_show_J0 N x0 S x1
set_option maxHeartbeats 4000000 in
theorem g_cVw_show (l : Launch) (D : va_G) (sz : Nat) {ad : Nat → Nat → Nat} {cc : Nat → ClassId} {sad sav : Nat → Nat} {N : Nat → Nat} {x0 : Nat} {S : CS} {x1 : Nat} {o : CS} (Heq : m_cVw_show N x0 S x1 = some o) : Met l ⟨"JoinedTrees$View", "show", "(LJoinedTrees$Replica;)V"⟩ (Cond.code ⟨"JoinedTrees$View", "show", "(LJoinedTrees$Replica;)V"⟩ prog_12_method_2_code 3 none :: gb) ({ frames := 1, cells := 0, slots := 0, locals := 60 }) (cPc sad sav D (cw ad cc N S) (cty cc) sz [.ref (ad 10 x0), .ref (ad 4 x1)]) (va_Qv (fun _ : Unit => True) (fun _ t => gO D (cw ad cc N o) (cty cc) (va_A (cw ad cc N S) sz) t) (va_A (cw ad cc N S) sz)) 0 0 (va_A (cw ad cc N S) sz) := by
  refine Met.ofW (cc := prog_12_method_2_code) (maxL := 3) (ret := none) (by decide) rfl ?_
  intro p e s m args below meth c s₁ B hml hv
  obtain ⟨rfl, hsz, hP, hK, hD0, hev, hE, hN⟩ := hv
  have hx := B.exec
  have hb := B.bytes
  have hr := B.returns
  have hts : ∀ w9 ∈ gb, w9.before [.ref (ad 10 x0), .ref (ad 4 x1)].toArray s = true := fun w9 h => atoms_spec (ws := Cond.code ⟨"JoinedTrees$View", "show", "(LJoinedTrees$Replica;)V"⟩ prog_12_method_2_code 3 none :: gb) B.pre w9 (List.mem_cons_of_mem _ h)
  have hown : s.vm.findClass "JoinedTrees$View" = some m.cls := findClass_of_methodNamed B.named
  have hlocks := B.notSynchronized
  have hNS := ns_of hP
  subst hsz
  have hD := hD0.self (sz := s.heap.size)
  generalize hAe : va_A (cw ad cc N S) s.heap.size = A at hD hev hE hNS ⊢
  have hA : ∀ q : Nat, s.heap.size ≤ q → A q := fun q h => by rw [← hAe]; exact Or.inr h
  have hS : va_S A s.heap s.heap [] := va_S.rf
  obtain ⟨ls, hl, hle⟩ : ∃ ls : Array Slot, lv_has ls 3 [(0, .ref (ad 10 x0)), (1, .ref (ad 4 x1))] ∧ entryFrame m ([.ref (ad 10 x0), .ref (ad 4 x1)] : List Value).toArray 3 = F0 m 0 ls [] := by
    exact ⟨_, lv_entry (n := 3) _ (Nat.le_of_ble_eq_true rfl), lg_entry_eq ..⟩
  rw [hle]
  refine w_cVw_show_J0 ⟨hx, hb, hr, hml, hown, hts, hK, hA, hev, hE, hN, hNS⟩ Heq (fun r h pc H locs ls hd hP hD hS => ?_) _ _ _ hP hD hS (lv_sub hl [0, 1] rfl)
  subst h
  exact W.vret hx hb hr (fun t ht hW => ⟨⟨(), rfl, trivial, by rw [ht]; exact hP, va_K.moved hW.alike hK, hD⟩, hS.F ht⟩) hS.2.2 hd
def m_cVw_shows_J24 (N : Nat → Nat) (x0 : Nat) (S : CS) (t0 : Int32) : Option (CS × Int32) := (if t0 = 0 ∨ t0 = 1 then some (S, t0) else none)
theorem d_cVw_shows_0 : decode prog_12_method_3_code 0 = .ok (.aload_n 1, 1) := by decide +kernel
theorem d_cVw_shows_1 : decode prog_12_method_3_code 1 = .ok (.getfield 47, 3) := by decide +kernel
theorem d_cVw_shows_4 : decode prog_12_method_3_code 4 = .ok (.aload_n 0, 1) := by decide +kernel
theorem d_cVw_shows_5 : decode prog_12_method_3_code 5 = .ok (.getfield 9, 3) := by decide +kernel
theorem d_cVw_shows_8 : decode prog_12_method_3_code 8 = .ok (.aload_n 1, 1) := by decide +kernel
theorem d_cVw_shows_9 : decode prog_12_method_3_code 9 = .ok (.getfield 50, 3) := by decide +kernel
theorem d_cVw_shows_12 : decode prog_12_method_3_code 12 = .ok (.bipush 7, 2) := by decide +kernel
theorem d_cVw_shows_14 : decode prog_12_method_3_code 14 = .ok (.iand, 1) := by decide +kernel
theorem d_cVw_shows_15 : decode prog_12_method_3_code 15 = .ok (.iaload, 1) := by decide +kernel
theorem d_cVw_shows_16 : decode prog_12_method_3_code 16 = .ok (.if_icmp .gt 7, 3) := by decide +kernel
theorem d_cVw_shows_23 : decode prog_12_method_3_code 23 = .ok (.iconst 0, 1) := by decide +kernel
theorem d_cVw_shows_24 : decode prog_12_method_3_code 24 = .ok (.ireturn, 1) := by decide +kernel
set_option maxHeartbeats 4000000 in
set_option maxRecDepth 100000 in
theorem w_cVw_shows_J24 {p : Program} {l : Launch} {e : Env} {s : State} {m : MethodId} {args : Array Value} {below : List Frame} {meth : Method} {c : Code} {A : Nat → Prop} {D : va_G} {ad : Nat → Nat → Nat} {cc : Nat → ClassId} {sad sav : Nat → Nat} {Q : State → Prop} (hC : MCc sad sav "JoinedTrees$View" prog_12_method_3_code 2 (some .boolean) p s m args meth c A D cc) {N : Nat → Nat} {x0 : Nat} {S : CS} {t0 : Int32} {o : CS × Int32} (Heq : m_cVw_shows_J24 N x0 S t0 = some o) (Kr : ∀ r : CS × Int32, o = r → ∀ (pc : Nat) (H : Heap) (locs : List Loc) (ls : Array Slot), decode prog_12_method_3_code pc = .ok (.ireturn, 1) → (r.2 = 0 ∨ r.2 = 1) → va_P D cls (cw ad cc N r.1) H → va_D A (cw ad cc N r.1) → va_S A s.heap H locs → W p l e ({ frames := 0, cells := 0, slots := 0, locals := 0 }) s m args below meth c H locs 0 0 Q (F0 m pc ls [.int r.2])) : ∀ (H : Heap) (locs : List Loc) (ls : Array Slot), va_P D cls (cw ad cc N S) H → va_D A (cw ad cc N S) → va_S A s.heap H locs → lv_has ls 2 [(0, .ref (ad 10 x0))] → W p l e ({ frames := 0, cells := 0, slots := 0, locals := 0 }) s m args below meth c H locs 0 0 Q (F0 m 24 ls [.int t0]) := by
  intro H locs ls hP hD hS hl
  obtain ⟨hx, hb, hr, hml, hown, hts, hK, hA, hev, hE, hN, hNS⟩ := id hC
  unfold m_cVw_shows_J24 at Heq
  by_cases hz_1 : t0 = 0 ∨ t0 = 1
  case neg => rw [if_neg hz_1] at Heq; cases Heq
  replace Heq := (if_pos hz_1).symm.trans Heq
  exact Kr _ (Option.some.inj Heq).symm 24 _ _ _ d_cVw_shows_24 hz_1 hP hD hS
def m_cVw_shows_J0 (N : Nat → Nat) (x0 : Nat) (S : CS) (x1 : Nat) : Option (CS × Int32) := gl x1 (N 3) (gl x0 (N 10) (gn (S.r 10 1 x0) (N 12) (fun j_1 => gd ((S.i 3 0 x1) &&& 7) (S.z 12 j_1) ((if S.a 12 j_1 (((S.i 3 0 x1) &&& 7).toNatClampNeg) < S.i 3 4 x1 then m_cVw_shows_J24 N x0 S 0 else m_cVw_shows_J24 N x0 S 1)))))
theorem d_cVw_shows_19 : decode prog_12_method_3_code 19 = .ok (.iconst 1, 1) := by decide +kernel
theorem d_cVw_shows_20 : decode prog_12_method_3_code 20 = .ok (.goto 4, 3) := by decide +kernel
set_option maxHeartbeats 4000000 in
set_option maxRecDepth 100000 in
theorem w_cVw_shows_J0 {p : Program} {l : Launch} {e : Env} {s : State} {m : MethodId} {args : Array Value} {below : List Frame} {meth : Method} {c : Code} {A : Nat → Prop} {D : va_G} {ad : Nat → Nat → Nat} {cc : Nat → ClassId} {sad sav : Nat → Nat} {Q : State → Prop} (hC : MCc sad sav "JoinedTrees$View" prog_12_method_3_code 2 (some .boolean) p s m args meth c A D cc) {N : Nat → Nat} {x0 : Nat} {S : CS} {x1 : Nat} {o : CS × Int32} (Heq : m_cVw_shows_J0 N x0 S x1 = some o) (Kr : ∀ r : CS × Int32, o = r → ∀ (pc : Nat) (H : Heap) (locs : List Loc) (ls : Array Slot), decode prog_12_method_3_code pc = .ok (.ireturn, 1) → (r.2 = 0 ∨ r.2 = 1) → va_P D cls (cw ad cc N r.1) H → va_D A (cw ad cc N r.1) → va_S A s.heap H locs → W p l e ({ frames := 0, cells := 0, slots := 0, locals := 0 }) s m args below meth c H locs 0 0 Q (F0 m pc ls [.int r.2])) : ∀ (H : Heap) (locs : List Loc) (ls : Array Slot), va_P D cls (cw ad cc N S) H → va_D A (cw ad cc N S) → va_S A s.heap H locs → lv_has ls 2 [(0, .ref (ad 10 x0)), (1, .ref (ad 3 x1))] → W p l e ({ frames := 0, cells := 0, slots := 0, locals := 0 }) s m args below meth c H locs 0 0 Q (F0 m 0 ls []) := by
  intro H locs ls hP hD hS hl
  obtain ⟨hx, hb, hr, hml, hown, hts, hK, hA, hev, hE, hN, hNS⟩ := id hC
  unfold m_cVw_shows_J0 at Heq
  refine lv_aload_n hx hb d_cVw_shows_0 rfl (lv_at hl 1 rfl) ?_
  obtain ⟨hl_x1_3, Heq⟩ := gl_some Heq
  refine va_get (D := D) (ci := 3) (v := .int (S.i 3 4 x1)) (C := R_Op) (T := F_Op) (N := 15) hx hb hts i_Op hown hK hP (cPos N 3 x1) (cw_obj (k := 3) (by decide) hl_x1_3) rfl 4 (by decide) (hts _ kw_68) (fun _ h9 => h9) rfl d_cVw_shows_1 ?_
  refine lv_aload_n hx hb d_cVw_shows_4 rfl (lv_at hl 0 rfl) ?_
  obtain ⟨hl_x0_10, Heq⟩ := gl_some Heq
  refine va_get (D := D) (ci := 10) (v := rv ad 12 (S.r 10 1 x0)) (C := R_Vw) (T := F_Vw) (N := 5) hx hb hts i_Vw hown hK hP (cPos N 10 x0) (cw_obj (k := 10) (by decide) hl_x0_10) rfl 1 (by decide) (hts _ kw_263) (fun _ h9 => h9) rfl d_cVw_shows_5 ?_
  refine lv_aload_n hx hb d_cVw_shows_8 rfl (lv_at hl 1 rfl) ?_
  refine va_get (D := D) (ci := 3) (v := .int (S.i 3 0 x1)) (C := R_Op) (T := F_Op) (N := 15) hx hb hts i_Op hown hK hP (cPos N 3 x1) (cw_obj (k := 3) (by decide) hl_x1_3) rfl 0 (by decide) (hts _ kw_51) (fun _ h9 => h9) rfl d_cVw_shows_9 ?_
  refine lv_bipush (v := 7) hx hb d_cVw_shows_12 (by decide) ?_
  refine lv_iand hx hb d_cVw_shows_14 ?_
  refine w_i (y := (S.i 3 0 x1) &&& 7) rfl ?_
  obtain ⟨j_1, hj_2, hl_3, Heq⟩ := gn_some Heq
  refine w_s (st' := [.int ((S.i 3 0 x1) &&& 7), .ref (ad 12 j_1), .int (S.i 3 4 x1)]) (congrArg (fun z9 : Option Nat => [.int ((S.i 3 0 x1) &&& 7), rv ad 12 z9, .int (S.i 3 4 x1)]) hj_2) ?_
  obtain ⟨hi_4, Heq⟩ := gd_some Heq
  refine va_iald hx hb hK hP (cPos N 12 j_1) 0 (cw_arr (k := 12) (by decide) hl_3) rfl (i := (S.i 3 0 x1) &&& 7) hi_4 d_cVw_shows_15 ?_
  refine w_i (y := S.a 12 j_1 (((S.i 3 0 x1) &&& 7).toNatClampNeg)) rfl ?_
  refine lv_icmp_gt (tgt := 23) hx hb d_cVw_shows_16 (by decide) (fun c_5 => ?_) (fun c_5 => ?_)
  · replace Heq := (if_pos c_5).symm.trans Heq
    refine lv_iconst (v := 0) hx hb d_cVw_shows_23 (by decide) ?_
    exact w_cVw_shows_J24 hC Heq Kr _ _ _ hP hD hS (lv_sub hl [0] rfl)
  · replace Heq := (if_neg c_5).symm.trans Heq
    refine lv_iconst (v := 1) hx hb d_cVw_shows_19 (by decide) ?_
    refine lv_goto (tgt := 24) hx hb d_cVw_shows_20 (by decide) ?_
    exact w_cVw_shows_J24 hC Heq Kr _ _ _ hP hD hS (lv_sub hl [0] rfl)
def m_cVw_shows (N : Nat → Nat) (x0 : Nat) (S : CS) (x1 : Nat) : Option (CS × Int32) := m_cVw_shows_J0 N x0 S x1
set_option maxHeartbeats 4000000 in
theorem g_cVw_shows (l : Launch) (D : va_G) (sz : Nat) {ad : Nat → Nat → Nat} {cc : Nat → ClassId} {sad sav : Nat → Nat} {N : Nat → Nat} {x0 : Nat} {S : CS} {x1 : Nat} {o : CS × Int32} (Heq : m_cVw_shows N x0 S x1 = some o) : Met l ⟨"JoinedTrees$View", "shows", "(LJoinedTrees$Op;)Z"⟩ (Cond.code ⟨"JoinedTrees$View", "shows", "(LJoinedTrees$Op;)Z"⟩ prog_12_method_3_code 2 (some .boolean) :: gb) ({ frames := 0, cells := 0, slots := 0, locals := 0 }) (cPc sad sav D (cw ad cc N S) (cty cc) sz [.ref (ad 10 x0), .ref (ad 3 x1)]) (va_Qi (fun (r : Int32) (_ : Unit) => r = o.2) (fun _ t => gO D (cw ad cc N o.1) (cty cc) (va_A (cw ad cc N S) sz) t) (va_A (cw ad cc N S) sz)) 0 0 (va_A (cw ad cc N S) sz) := by
  refine Met.ofW (cc := prog_12_method_3_code) (maxL := 2) (ret := (some .boolean)) (by decide) rfl ?_
  intro p e s m args below meth c s₁ B hml hv
  obtain ⟨rfl, hsz, hP, hK, hD0, hev, hE, hN⟩ := hv
  have hx := B.exec
  have hb := B.bytes
  have hr := B.returns
  have hts : ∀ w9 ∈ gb, w9.before [.ref (ad 10 x0), .ref (ad 3 x1)].toArray s = true := fun w9 h => atoms_spec (ws := Cond.code ⟨"JoinedTrees$View", "shows", "(LJoinedTrees$Op;)Z"⟩ prog_12_method_3_code 2 (some .boolean) :: gb) B.pre w9 (List.mem_cons_of_mem _ h)
  have hown : s.vm.findClass "JoinedTrees$View" = some m.cls := findClass_of_methodNamed B.named
  have hlocks := B.notSynchronized
  have hNS := ns_of hP
  subst hsz
  have hD := hD0.self (sz := s.heap.size)
  generalize hAe : va_A (cw ad cc N S) s.heap.size = A at hD hev hE hNS ⊢
  have hA : ∀ q : Nat, s.heap.size ≤ q → A q := fun q h => by rw [← hAe]; exact Or.inr h
  have hS : va_S A s.heap s.heap [] := va_S.rf
  obtain ⟨ls, hl, hle⟩ : ∃ ls : Array Slot, lv_has ls 2 [(0, .ref (ad 10 x0)), (1, .ref (ad 3 x1))] ∧ entryFrame m ([.ref (ad 10 x0), .ref (ad 3 x1)] : List Value).toArray 2 = F0 m 0 ls [] := by
    exact ⟨_, lv_entry (n := 2) _ (Nat.le_of_ble_eq_true rfl), lg_entry_eq ..⟩
  rw [hle]
  refine w_cVw_shows_J0 ⟨hx, hb, hr, hml, hown, hts, hK, hA, hev, hE, hN, hNS⟩ Heq (fun r h pc H locs ls hd hz hP hD hS => ?_) _ _ _ hP hD hS (lv_sub hl [0, 1] rfl)
  subst h
  exact W.zret (ty := .boolean) hx hb hr (by rcases hz with hz | hz <;> rw [hz] <;> rfl) (fun t ht hW => ⟨⟨_, (), rfl, rfl, by rw [ht]; exact hP, va_K.moved hW.alike hK, hD⟩, hS.F ht⟩) hS.2.2 hd
def m_cVw_opAt_J59 (N : Nat → Nat) (x0 : Nat) (S : CS) (t0 : Option Nat) : Option (CS × Option Nat) := some (S, t0)
theorem d_cVw_opAt_0 : decode prog_12_method_4_code 0 = .ok (.iload_n 1, 1) := by decide +kernel
theorem d_cVw_opAt_1 : decode prog_12_method_4_code 1 = .ok (.ifCond .ne 11, 3) := by decide +kernel
theorem d_cVw_opAt_12 : decode prog_12_method_4_code 12 = .ok (.iload_n 1, 1) := by decide +kernel
theorem d_cVw_opAt_13 : decode prog_12_method_4_code 13 = .ok (.ifCond .lt 15, 3) := by decide +kernel
theorem d_cVw_opAt_28 : decode prog_12_method_4_code 28 = .ok (.aconst_null, 1) := by decide +kernel
theorem d_cVw_opAt_29 : decode prog_12_method_4_code 29 = .ok (.goto 12, 3) := by decide +kernel
theorem d_cVw_opAt_41 : decode prog_12_method_4_code 41 = .ok (.astore_n 2, 1) := by decide +kernel
theorem d_cVw_opAt_42 : decode prog_12_method_4_code 42 = .ok (.aload_n 2, 1) := by decide +kernel
theorem d_cVw_opAt_43 : decode prog_12_method_4_code 43 = .ok (.ifnull 11, 3) := by decide +kernel
theorem d_cVw_opAt_54 : decode prog_12_method_4_code 54 = .ok (.aconst_null, 1) := by decide +kernel
theorem d_cVw_opAt_55 : decode prog_12_method_4_code 55 = .ok (.goto 4, 3) := by decide +kernel
theorem d_cVw_opAt_59 : decode prog_12_method_4_code 59 = .ok (.areturn, 1) := by decide +kernel
set_option maxHeartbeats 4000000 in
set_option maxRecDepth 100000 in
theorem w_cVw_opAt_J59 {p : Program} {l : Launch} {e : Env} {s : State} {m : MethodId} {args : Array Value} {below : List Frame} {meth : Method} {c : Code} {A : Nat → Prop} {D : va_G} {ad : Nat → Nat → Nat} {cc : Nat → ClassId} {sad sav : Nat → Nat} {Q : State → Prop} (hC : MCc sad sav "JoinedTrees$View" prog_12_method_4_code 3 (some (.object "JoinedTrees$Op")) p s m args meth c A D cc) {N : Nat → Nat} {x0 : Nat} {S : CS} {t0 : Option Nat} {o : CS × Option Nat} (Heq : m_cVw_opAt_J59 N x0 S t0 = some o) (Kr : ∀ r : CS × Option Nat, o = r → ∀ (pc : Nat) (H : Heap) (locs : List Loc) (ls : Array Slot), decode prog_12_method_4_code pc = .ok (.areturn, 1) → va_P D cls (cw ad cc N r.1) H → va_D A (cw ad cc N r.1) → va_S A s.heap H locs → W p l e ({ frames := 1, cells := 0, slots := 0, locals := 21 }) s m args below meth c H locs 0 0 Q (F0 m pc ls [rv ad 3 r.2])) : ∀ (H : Heap) (locs : List Loc) (ls : Array Slot), va_P D cls (cw ad cc N S) H → va_D A (cw ad cc N S) → va_S A s.heap H locs → lv_has ls 3 [(0, .ref (ad 10 x0))] → W p l e ({ frames := 1, cells := 0, slots := 0, locals := 21 }) s m args below meth c H locs 0 0 Q (F0 m 59 ls [rv ad 3 t0]) := by
  intro H locs ls hP hD hS hl
  obtain ⟨hx, hb, hr, hml, hown, hts, hK, hA, hev, hE, hN, hNS⟩ := id hC
  unfold m_cVw_opAt_J59 at Heq
  exact Kr _ (Option.some.inj Heq).symm 59 _ _ _ d_cVw_opAt_59 hP hD hS
def m_cVw_opAt_J54 (N : Nat → Nat) (x0 : Nat) (S : CS) : Option (CS × Option Nat) := m_cVw_opAt_J59 N x0 S none
set_option maxHeartbeats 4000000 in
set_option maxRecDepth 100000 in
theorem w_cVw_opAt_J54 {p : Program} {l : Launch} {e : Env} {s : State} {m : MethodId} {args : Array Value} {below : List Frame} {meth : Method} {c : Code} {A : Nat → Prop} {D : va_G} {ad : Nat → Nat → Nat} {cc : Nat → ClassId} {sad sav : Nat → Nat} {Q : State → Prop} (hC : MCc sad sav "JoinedTrees$View" prog_12_method_4_code 3 (some (.object "JoinedTrees$Op")) p s m args meth c A D cc) {N : Nat → Nat} {x0 : Nat} {S : CS} {o : CS × Option Nat} (Heq : m_cVw_opAt_J54 N x0 S = some o) (Kr : ∀ r : CS × Option Nat, o = r → ∀ (pc : Nat) (H : Heap) (locs : List Loc) (ls : Array Slot), decode prog_12_method_4_code pc = .ok (.areturn, 1) → va_P D cls (cw ad cc N r.1) H → va_D A (cw ad cc N r.1) → va_S A s.heap H locs → W p l e ({ frames := 1, cells := 0, slots := 0, locals := 21 }) s m args below meth c H locs 0 0 Q (F0 m pc ls [rv ad 3 r.2])) : ∀ (H : Heap) (locs : List Loc) (ls : Array Slot), va_P D cls (cw ad cc N S) H → va_D A (cw ad cc N S) → va_S A s.heap H locs → lv_has ls 3 [(0, .ref (ad 10 x0))] → W p l e ({ frames := 1, cells := 0, slots := 0, locals := 21 }) s m args below meth c H locs 0 0 Q (F0 m 54 ls []) := by
  intro H locs ls hP hD hS hl
  obtain ⟨hx, hb, hr, hml, hown, hts, hK, hA, hev, hE, hN, hNS⟩ := id hC
  unfold m_cVw_opAt_J54 at Heq
  refine lv_null hx hb d_cVw_opAt_54 ?_
  refine lv_goto (tgt := 59) hx hb d_cVw_opAt_55 (by decide) ?_
  exact w_cVw_opAt_J59 hC Heq Kr _ _ _ hP hD hS (lv_sub hl [0] rfl)
def m_cVw_opAt_J41 (N : Nat → Nat) (x0 : Nat) (S : CS) (t0 : Option Nat) : Option (CS × Option Nat) := on t0 (m_cVw_opAt_J54 N x0 S) (fun j_1 => gl j_1 (N 3) (gl x0 (N 10) (ob (m_cVw_shows N x0 S j_1) (fun o_3 => (if o_3.2 = 0 then m_cVw_opAt_J54 N x0 o_3.1 else m_cVw_opAt_J59 N x0 o_3.1 t0)))))
theorem d_cVw_opAt_46 : decode prog_12_method_4_code 46 = .ok (.aload_n 0, 1) := by decide +kernel
theorem d_cVw_opAt_47 : decode prog_12_method_4_code 47 = .ok (.aload_n 2, 1) := by decide +kernel
theorem d_cVw_opAt_48 : decode prog_12_method_4_code 48 = .ok (.invokevirtual 62, 3) := by decide +kernel
theorem d_cVw_opAt_51 : decode prog_12_method_4_code 51 = .ok (.ifCond .ne 7, 3) := by decide +kernel
theorem d_cVw_opAt_58 : decode prog_12_method_4_code 58 = .ok (.aload_n 2, 1) := by decide +kernel
set_option maxHeartbeats 4000000 in
set_option maxRecDepth 100000 in
theorem w_cVw_opAt_J41 {p : Program} {l : Launch} {e : Env} {s : State} {m : MethodId} {args : Array Value} {below : List Frame} {meth : Method} {c : Code} {A : Nat → Prop} {D : va_G} {ad : Nat → Nat → Nat} {cc : Nat → ClassId} {sad sav : Nat → Nat} {Q : State → Prop} (hC : MCc sad sav "JoinedTrees$View" prog_12_method_4_code 3 (some (.object "JoinedTrees$Op")) p s m args meth c A D cc) {N : Nat → Nat} {x0 : Nat} {S : CS} {t0 : Option Nat} {o : CS × Option Nat} (Heq : m_cVw_opAt_J41 N x0 S t0 = some o) (Kr : ∀ r : CS × Option Nat, o = r → ∀ (pc : Nat) (H : Heap) (locs : List Loc) (ls : Array Slot), decode prog_12_method_4_code pc = .ok (.areturn, 1) → va_P D cls (cw ad cc N r.1) H → va_D A (cw ad cc N r.1) → va_S A s.heap H locs → W p l e ({ frames := 1, cells := 0, slots := 0, locals := 21 }) s m args below meth c H locs 0 0 Q (F0 m pc ls [rv ad 3 r.2])) : ∀ (H : Heap) (locs : List Loc) (ls : Array Slot), va_P D cls (cw ad cc N S) H → va_D A (cw ad cc N S) → va_S A s.heap H locs → lv_has ls 3 [(0, .ref (ad 10 x0))] → W p l e ({ frames := 1, cells := 0, slots := 0, locals := 21 }) s m args below meth c H locs 0 0 Q (F0 m 41 ls [rv ad 3 t0]) := by
  intro H locs ls hP hD hS hl
  obtain ⟨hx, hb, hr, hml, hown, hts, hK, hA, hev, hE, hN, hNS⟩ := id hC
  unfold m_cVw_opAt_J41 at Heq
  refine tx_astore_n (x := t0.map (ad 3)) (lv' := [(2, rv ad 3 t0), (0, .ref (ad 10 x0))]) hx hb d_cVw_opAt_41 rfl hl (by decide) rfl (fun ls hl => ?_)
  refine tx_aload_n (x := t0.map (ad 3)) hx hb d_cVw_opAt_42 rfl (lv_at hl 0 rfl) ?_
  refine w_v (y := rv ad 3 t0) rfl ?_
  rcases on_some Heq with ⟨hj_2, Heq⟩ | ⟨j_1, hj_2, Heq⟩
  · refine w_s (st' := [.null]) (congrArg (fun z9 : Option Nat => [rv ad 3 z9]) hj_2) ?_
    refine lv_ifnullN (tgt := 54) hx hb d_cVw_opAt_43 (by decide) ?_
    exact w_cVw_opAt_J54 hC Heq Kr _ _ _ hP hD hS (lv_sub hl [1] rfl)
  · refine w_s (st' := [.ref (ad 3 j_1)]) (congrArg (fun z9 : Option Nat => [rv ad 3 z9]) hj_2) ?_
    refine lv_ifnull hx hb d_cVw_opAt_43 ?_
    refine lv_aload_n hx hb d_cVw_opAt_46 rfl (lv_at hl 1 rfl) ?_
    refine tx_aload_n (x := t0.map (ad 3)) hx hb d_cVw_opAt_47 rfl (lv_at hl 0 rfl) ?_
    refine w_v (y := rv ad 3 t0) rfl ?_
    refine w_s (st' := [.ref (ad 3 j_1), .ref (ad 10 x0)]) (congrArg (fun z9 : Option Nat => [rv ad 3 z9, .ref (ad 10 x0)]) hj_2) ?_
    obtain ⟨hl_j_1_3, Heq⟩ := gl_some Heq
    obtain ⟨hl_x0_10, Heq⟩ := gl_some Heq
    obtain ⟨o_3, h_4, Heq⟩ := ob_some Heq
    have hFc := fr_all hD hS hA
    refine va_calli (va_runV (As := [.ref (ad 3 j_1)]) (rest := []) ⟨hx, hb, hml, hown, hts⟩ (g_cVw_shows l D H.size (ad := ad) (cc := cc) (sad := sad) (sav := sav) h_4) (cw_v 1 hts kw_624 kw_621 kw_622 kw_623 kw_6 rfl rfl (by decide +kernel) ⟨Nat.le_of_ble_eq_true rfl, Nat.le_of_ble_eq_true rfl⟩) ⟨c_blind, va_recv hK hP (ci := 10) (q0 := cPos N 10 x0) rfl (cw_obj (k := 10) (by decide) hl_x0_10), fun U hU hW => c_pre hU hW hP hK hD hev hE hN hNS hS hFc⟩ rfl rfl hl.1 rfl (lv_room (Nat.le_of_ble_eq_true rfl)) d_cVw_opAt_48 ⟨Nat.le_of_ble_eq_true rfl, Nat.le_of_ble_eq_true rfl⟩) hS (fun q _ h => hFc q h) hFc (fun rz u t H1 locs ht hvm hw hB hz1 hk1 hS => ?_)
    obtain ⟨hP, -, hD1⟩ := hB
    rw [ht] at hP
    have hD := hD1.weaken (fun _ q _ h => hFc q.1 h)
    generalize H1 = H at hP hS ⊢
    refine W.cs (cells' := 0) (slots' := 0) rfl rfl ?_
    subst hw
    refine lv_if_ne (tgt := 58) hx hb d_cVw_opAt_51 (by decide) (fun c_5 => ?_) (fun c_5 => ?_)
    · replace Heq := (if_neg c_5).symm.trans Heq
      refine tx_aload_n (x := t0.map (ad 3)) hx hb d_cVw_opAt_58 rfl (lv_at hl 0 rfl) ?_
      refine w_v (y := rv ad 3 t0) rfl ?_
      exact w_cVw_opAt_J59 hC Heq Kr _ _ _ hP hD hS (lv_sub hl [1] rfl)
    · replace Heq := (if_pos c_5).symm.trans Heq
      exact w_cVw_opAt_J54 hC Heq Kr _ _ _ hP hD hS (lv_sub hl [1] rfl)
def m_cVw_opAt_J28 (N : Nat → Nat) (x0 : Nat) (S : CS) : Option (CS × Option Nat) := m_cVw_opAt_J41 N x0 S none
set_option maxHeartbeats 4000000 in
set_option maxRecDepth 100000 in
theorem w_cVw_opAt_J28 {p : Program} {l : Launch} {e : Env} {s : State} {m : MethodId} {args : Array Value} {below : List Frame} {meth : Method} {c : Code} {A : Nat → Prop} {D : va_G} {ad : Nat → Nat → Nat} {cc : Nat → ClassId} {sad sav : Nat → Nat} {Q : State → Prop} (hC : MCc sad sav "JoinedTrees$View" prog_12_method_4_code 3 (some (.object "JoinedTrees$Op")) p s m args meth c A D cc) {N : Nat → Nat} {x0 : Nat} {S : CS} {o : CS × Option Nat} (Heq : m_cVw_opAt_J28 N x0 S = some o) (Kr : ∀ r : CS × Option Nat, o = r → ∀ (pc : Nat) (H : Heap) (locs : List Loc) (ls : Array Slot), decode prog_12_method_4_code pc = .ok (.areturn, 1) → va_P D cls (cw ad cc N r.1) H → va_D A (cw ad cc N r.1) → va_S A s.heap H locs → W p l e ({ frames := 1, cells := 0, slots := 0, locals := 21 }) s m args below meth c H locs 0 0 Q (F0 m pc ls [rv ad 3 r.2])) : ∀ (H : Heap) (locs : List Loc) (ls : Array Slot), va_P D cls (cw ad cc N S) H → va_D A (cw ad cc N S) → va_S A s.heap H locs → lv_has ls 3 [(0, .ref (ad 10 x0))] → W p l e ({ frames := 1, cells := 0, slots := 0, locals := 21 }) s m args below meth c H locs 0 0 Q (F0 m 28 ls []) := by
  intro H locs ls hP hD hS hl
  obtain ⟨hx, hb, hr, hml, hown, hts, hK, hA, hev, hE, hN, hNS⟩ := id hC
  unfold m_cVw_opAt_J28 at Heq
  refine lv_null hx hb d_cVw_opAt_28 ?_
  refine lv_goto (tgt := 41) hx hb d_cVw_opAt_29 (by decide) ?_
  exact w_cVw_opAt_J41 hC Heq Kr _ _ _ hP hD hS (lv_sub hl [0] rfl)
def m_cVw_opAt_J0 (N : Nat → Nat) (x0 : Nat) (S : CS) (x1 : Int32) : Option (CS × Option Nat) := (if x1 = 0 then gl x0 (N 10) (gn (S.r 10 0 x0) (N 8) (fun j_11 => some (S, (S.r 8 0 j_11)))) else (if x1 < 0 then m_cVw_opAt_J28 N x0 S else gl x0 (N 10) (gn (S.r 10 0 x0) (N 8) (fun j_3 => gn (S.r 8 1 j_3) (N 15) (fun j_6 => (if x1 < nI (S.z 15 j_6) then gd x1 (S.z 15 j_6) (m_cVw_opAt_J41 N x0 S (S.q 15 j_6 x1.toNatClampNeg)) else m_cVw_opAt_J28 N x0 S))))))
theorem d_cVw_opAt_16 : decode prog_12_method_4_code 16 = .ok (.iload_n 1, 1) := by decide +kernel
theorem d_cVw_opAt_17 : decode prog_12_method_4_code 17 = .ok (.aload_n 0, 1) := by decide +kernel
theorem d_cVw_opAt_18 : decode prog_12_method_4_code 18 = .ok (.getfield 21, 3) := by decide +kernel
theorem d_cVw_opAt_21 : decode prog_12_method_4_code 21 = .ok (.getfield 59, 3) := by decide +kernel
theorem d_cVw_opAt_24 : decode prog_12_method_4_code 24 = .ok (.arraylength, 1) := by decide +kernel
theorem d_cVw_opAt_25 : decode prog_12_method_4_code 25 = .ok (.if_icmp .lt 7, 3) := by decide +kernel
theorem d_cVw_opAt_32 : decode prog_12_method_4_code 32 = .ok (.aload_n 0, 1) := by decide +kernel
theorem d_cVw_opAt_33 : decode prog_12_method_4_code 33 = .ok (.getfield 21, 3) := by decide +kernel
theorem d_cVw_opAt_36 : decode prog_12_method_4_code 36 = .ok (.getfield 59, 3) := by decide +kernel
theorem d_cVw_opAt_39 : decode prog_12_method_4_code 39 = .ok (.iload_n 1, 1) := by decide +kernel
theorem d_cVw_opAt_40 : decode prog_12_method_4_code 40 = .ok (.aaload, 1) := by decide +kernel
theorem d_cVw_opAt_4 : decode prog_12_method_4_code 4 = .ok (.aload_n 0, 1) := by decide +kernel
theorem d_cVw_opAt_5 : decode prog_12_method_4_code 5 = .ok (.getfield 21, 3) := by decide +kernel
theorem d_cVw_opAt_8 : decode prog_12_method_4_code 8 = .ok (.getfield 53, 3) := by decide +kernel
theorem d_cVw_opAt_11 : decode prog_12_method_4_code 11 = .ok (.areturn, 1) := by decide +kernel
set_option maxHeartbeats 4000000 in
set_option maxRecDepth 100000 in
theorem w_cVw_opAt_J0 {p : Program} {l : Launch} {e : Env} {s : State} {m : MethodId} {args : Array Value} {below : List Frame} {meth : Method} {c : Code} {A : Nat → Prop} {D : va_G} {ad : Nat → Nat → Nat} {cc : Nat → ClassId} {sad sav : Nat → Nat} {Q : State → Prop} (hC : MCc sad sav "JoinedTrees$View" prog_12_method_4_code 3 (some (.object "JoinedTrees$Op")) p s m args meth c A D cc) {N : Nat → Nat} {x0 : Nat} {S : CS} {x1 : Int32} {o : CS × Option Nat} (Heq : m_cVw_opAt_J0 N x0 S x1 = some o) (Kr : ∀ r : CS × Option Nat, o = r → ∀ (pc : Nat) (H : Heap) (locs : List Loc) (ls : Array Slot), decode prog_12_method_4_code pc = .ok (.areturn, 1) → va_P D cls (cw ad cc N r.1) H → va_D A (cw ad cc N r.1) → va_S A s.heap H locs → W p l e ({ frames := 1, cells := 0, slots := 0, locals := 21 }) s m args below meth c H locs 0 0 Q (F0 m pc ls [rv ad 3 r.2])) : ∀ (H : Heap) (locs : List Loc) (ls : Array Slot), va_P D cls (cw ad cc N S) H → va_D A (cw ad cc N S) → va_S A s.heap H locs → lv_has ls 3 [(0, .ref (ad 10 x0)), (1, .int x1)] → W p l e ({ frames := 1, cells := 0, slots := 0, locals := 21 }) s m args below meth c H locs 0 0 Q (F0 m 0 ls []) := by
  intro H locs ls hP hD hS hl
  obtain ⟨hx, hb, hr, hml, hown, hts, hK, hA, hev, hE, hN, hNS⟩ := id hC
  unfold m_cVw_opAt_J0 at Heq
  refine lv_iload_n hx hb d_cVw_opAt_0 rfl (lv_at hl 1 rfl) ?_
  refine lv_if_ne (tgt := 12) hx hb d_cVw_opAt_1 (by decide) (fun c_1 => ?_) (fun c_1 => ?_)
  · replace Heq := (if_neg c_1).symm.trans Heq
    refine lv_iload_n hx hb d_cVw_opAt_12 rfl (lv_at hl 1 rfl) ?_
    refine lv_if_lt (tgt := 28) hx hb d_cVw_opAt_13 (by decide) (fun c_2 => ?_) (fun c_2 => ?_)
    · replace Heq := (if_pos c_2).symm.trans Heq
      exact w_cVw_opAt_J28 hC Heq Kr _ _ _ hP hD hS (lv_sub hl [0] rfl)
    · replace Heq := (if_neg c_2).symm.trans Heq
      refine lv_iload_n hx hb d_cVw_opAt_16 rfl (lv_at hl 1 rfl) ?_
      refine lv_aload_n hx hb d_cVw_opAt_17 rfl (lv_at hl 0 rfl) ?_
      obtain ⟨hl_x0_10, Heq⟩ := gl_some Heq
      refine va_get (D := D) (ci := 10) (v := rv ad 8 (S.r 10 0 x0)) (C := R_Vw) (T := F_Vw) (N := 5) hx hb hts i_Vw hown hK hP (cPos N 10 x0) (cw_obj (k := 10) (by decide) hl_x0_10) rfl 0 (by decide) (hts _ kw_261) (fun _ h9 => h9) rfl d_cVw_opAt_18 ?_
      obtain ⟨j_3, hj_4, hl_5, Heq⟩ := gn_some Heq
      refine w_s (st' := [.ref (ad 8 j_3), .int x1]) (congrArg (fun z9 : Option Nat => [rv ad 8 z9, .int x1]) hj_4) ?_
      refine va_get (D := D) (ci := 8) (v := rv ad 15 (S.r 8 1 j_3)) (C := R_St) (T := F_St) (N := 6) hx hb hts i_St hown hK hP (cPos N 8 j_3) (cw_obj (k := 8) (by decide) hl_5) rfl 1 (by decide) (hts _ kw_165) (fun _ h9 => h9) rfl d_cVw_opAt_21 ?_
      obtain ⟨j_6, hj_7, hl_8, Heq⟩ := gn_some Heq
      refine w_s (st' := [.ref (ad 15 j_6), .int x1]) (congrArg (fun z9 : Option Nat => [rv ad 15 z9, .int x1]) hj_7) ?_
      refine va_alen (v := nI (S.z 15 j_6)) hx hb hK hP (cPos N 15 j_6) 3 (cw_refs (k := 15) (by decide) hl_8) rfl rfl d_cVw_opAt_24 ?_
      refine lv_icmp_lt (tgt := 32) hx hb d_cVw_opAt_25 (by decide) (fun c_9 => ?_) (fun c_9 => ?_)
      · replace Heq := (if_pos c_9).symm.trans Heq
        refine lv_aload_n hx hb d_cVw_opAt_32 rfl (lv_at hl 0 rfl) ?_
        refine va_get (D := D) (ci := 10) (v := rv ad 8 (S.r 10 0 x0)) (C := R_Vw) (T := F_Vw) (N := 5) hx hb hts i_Vw hown hK hP (cPos N 10 x0) (cw_obj (k := 10) (by decide) hl_x0_10) rfl 0 (by decide) (hts _ kw_261) (fun _ h9 => h9) rfl d_cVw_opAt_33 ?_
        refine w_s (st' := [.ref (ad 8 j_3)]) (congrArg (fun z9 : Option Nat => [rv ad 8 z9]) hj_4) ?_
        refine va_get (D := D) (ci := 8) (v := rv ad 15 (S.r 8 1 j_3)) (C := R_St) (T := F_St) (N := 6) hx hb hts i_St hown hK hP (cPos N 8 j_3) (cw_obj (k := 8) (by decide) hl_5) rfl 1 (by decide) (hts _ kw_165) (fun _ h9 => h9) rfl d_cVw_opAt_36 ?_
        refine lv_iload_n hx hb d_cVw_opAt_39 rfl (lv_at hl 1 rfl) ?_
        refine w_s (st' := [.int x1, .ref (ad 15 j_6)]) (congrArg (fun z9 : Option Nat => [.int x1, rv ad 15 z9]) hj_7) ?_
        obtain ⟨hi_10, Heq⟩ := gd_some Heq
        refine va_aldq hx hb hK hP (cPos N 15 j_6) 3 (cw_refs (k := 15) (by decide) hl_8) rfl (i := x1) hi_10 d_cVw_opAt_40 ?_
        refine w_v (y := rv ad 3 (S.q 15 j_6 x1.toNatClampNeg)) (congrArg (rv ad 3) rfl) ?_
        exact w_cVw_opAt_J41 hC Heq Kr _ _ _ hP hD hS (lv_sub hl [0] rfl)
      · replace Heq := (if_neg c_9).symm.trans Heq
        exact w_cVw_opAt_J28 hC Heq Kr _ _ _ hP hD hS (lv_sub hl [0] rfl)
  · replace Heq := (if_pos c_1).symm.trans Heq
    refine lv_aload_n hx hb d_cVw_opAt_4 rfl (lv_at hl 0 rfl) ?_
    obtain ⟨hl_x0_10, Heq⟩ := gl_some Heq
    refine va_get (D := D) (ci := 10) (v := rv ad 8 (S.r 10 0 x0)) (C := R_Vw) (T := F_Vw) (N := 5) hx hb hts i_Vw hown hK hP (cPos N 10 x0) (cw_obj (k := 10) (by decide) hl_x0_10) rfl 0 (by decide) (hts _ kw_261) (fun _ h9 => h9) rfl d_cVw_opAt_5 ?_
    obtain ⟨j_11, hj_12, hl_13, Heq⟩ := gn_some Heq
    refine w_s (st' := [.ref (ad 8 j_11)]) (congrArg (fun z9 : Option Nat => [rv ad 8 z9]) hj_12) ?_
    refine va_get (D := D) (ci := 8) (v := rv ad 3 (S.r 8 0 j_11)) (C := R_St) (T := F_St) (N := 6) hx hb hts i_St hown hK hP (cPos N 8 j_11) (cw_obj (k := 8) (by decide) hl_13) rfl 0 (by decide) (hts _ kw_162) (fun _ h9 => h9) rfl d_cVw_opAt_8 ?_
    exact Kr _ (Option.some.inj Heq).symm 11 _ _ _ d_cVw_opAt_11 hP hD hS
def m_cVw_opAt (N : Nat → Nat) (x0 : Nat) (S : CS) (x1 : Int32) : Option (CS × Option Nat) := m_cVw_opAt_J0 N x0 S x1
set_option maxHeartbeats 4000000 in
theorem g_cVw_opAt (l : Launch) (D : va_G) (sz : Nat) {ad : Nat → Nat → Nat} {cc : Nat → ClassId} {sad sav : Nat → Nat} {N : Nat → Nat} {x0 : Nat} {S : CS} {x1 : Int32} {o : CS × Option Nat} (Heq : m_cVw_opAt N x0 S x1 = some o) : Met l ⟨"JoinedTrees$View", "opAt", "(I)LJoinedTrees$Op;"⟩ (Cond.code ⟨"JoinedTrees$View", "opAt", "(I)LJoinedTrees$Op;"⟩ prog_12_method_4_code 3 (some (.object "JoinedTrees$Op")) :: gb) ({ frames := 1, cells := 0, slots := 0, locals := 21 }) (cPc sad sav D (cw ad cc N S) (cty cc) sz [.ref (ad 10 x0), .int x1]) (va_Qq (fun (r : Option Nat) (_ : Unit) => r = o.2.map (ad 3)) (fun _ t => gO D (cw ad cc N o.1) (cty cc) (va_A (cw ad cc N S) sz) t) (va_A (cw ad cc N S) sz)) 0 0 (va_A (cw ad cc N S) sz) := by
  refine Met.ofW (cc := prog_12_method_4_code) (maxL := 3) (ret := (some (.object "JoinedTrees$Op"))) (by decide) rfl ?_
  intro p e s m args below meth c s₁ B hml hv
  obtain ⟨rfl, hsz, hP, hK, hD0, hev, hE, hN⟩ := hv
  have hx := B.exec
  have hb := B.bytes
  have hr := B.returns
  have hts : ∀ w9 ∈ gb, w9.before [.ref (ad 10 x0), .int x1].toArray s = true := fun w9 h => atoms_spec (ws := Cond.code ⟨"JoinedTrees$View", "opAt", "(I)LJoinedTrees$Op;"⟩ prog_12_method_4_code 3 (some (.object "JoinedTrees$Op")) :: gb) B.pre w9 (List.mem_cons_of_mem _ h)
  have hown : s.vm.findClass "JoinedTrees$View" = some m.cls := findClass_of_methodNamed B.named
  have hlocks := B.notSynchronized
  have hNS := ns_of hP
  subst hsz
  have hD := hD0.self (sz := s.heap.size)
  generalize hAe : va_A (cw ad cc N S) s.heap.size = A at hD hev hE hNS ⊢
  have hA : ∀ q : Nat, s.heap.size ≤ q → A q := fun q h => by rw [← hAe]; exact Or.inr h
  have hS : va_S A s.heap s.heap [] := va_S.rf
  obtain ⟨ls, hl, hle⟩ : ∃ ls : Array Slot, lv_has ls 3 [(0, .ref (ad 10 x0)), (1, .int x1)] ∧ entryFrame m ([.ref (ad 10 x0), .int x1] : List Value).toArray 3 = F0 m 0 ls [] := by
    exact ⟨_, lv_entry (n := 3) _ (Nat.le_of_ble_eq_true rfl), lg_entry_eq ..⟩
  rw [hle]
  refine w_cVw_opAt_J0 ⟨hx, hb, hr, hml, hown, hts, hK, hA, hev, hE, hN, hNS⟩ Heq (fun r h pc H locs ls hd hP hD hS => ?_) _ _ _ hP hD hS (lv_sub hl [0, 1] rfl)
  subst h
  exact W.aret hx hb hr (Or.inl ⟨_, rfl⟩) (va_rf_or _) (fun t ht hW => ⟨⟨_, (), rfl, rfl, by rw [ht]; exact hP, va_K.moved hW.alike hK, hD⟩, hS.F ht⟩) hS.2.2 hd
def m_cOp_isObject_J23 (N : Nat → Nat) (x0 : Nat) (S : CS) (t0 : Int32) : Option (CS × Int32) := (if t0 = 0 ∨ t0 = 1 then some (S, t0) else none)
theorem d_cOp_isObject_0 : decode prog_5_method_2_code 0 = .ok (.aload_n 0, 1) := by decide +kernel
theorem d_cOp_isObject_1 : decode prog_5_method_2_code 1 = .ok (.getfield 19, 3) := by decide +kernel
theorem d_cOp_isObject_4 : decode prog_5_method_2_code 4 = .ok (.bipush 6, 2) := by decide +kernel
theorem d_cOp_isObject_6 : decode prog_5_method_2_code 6 = .ok (.if_icmp .lt 16, 3) := by decide +kernel
theorem d_cOp_isObject_22 : decode prog_5_method_2_code 22 = .ok (.iconst 0, 1) := by decide +kernel
theorem d_cOp_isObject_23 : decode prog_5_method_2_code 23 = .ok (.ireturn, 1) := by decide +kernel
set_option maxHeartbeats 4000000 in
set_option maxRecDepth 100000 in
theorem w_cOp_isObject_J23 {p : Program} {l : Launch} {e : Env} {s : State} {m : MethodId} {args : Array Value} {below : List Frame} {meth : Method} {c : Code} {A : Nat → Prop} {D : va_G} {ad : Nat → Nat → Nat} {cc : Nat → ClassId} {sad sav : Nat → Nat} {Q : State → Prop} (hC : MCc sad sav "JoinedTrees$Op" prog_5_method_2_code 1 (some .boolean) p s m args meth c A D cc) {N : Nat → Nat} {x0 : Nat} {S : CS} {t0 : Int32} {o : CS × Int32} (Heq : m_cOp_isObject_J23 N x0 S t0 = some o) (Kr : ∀ r : CS × Int32, o = r → ∀ (pc : Nat) (H : Heap) (locs : List Loc) (ls : Array Slot), decode prog_5_method_2_code pc = .ok (.ireturn, 1) → (r.2 = 0 ∨ r.2 = 1) → va_P D cls (cw ad cc N r.1) H → va_D A (cw ad cc N r.1) → va_S A s.heap H locs → W p l e ({ frames := 0, cells := 0, slots := 0, locals := 0 }) s m args below meth c H locs 0 0 Q (F0 m pc ls [.int r.2])) : ∀ (H : Heap) (locs : List Loc) (ls : Array Slot), va_P D cls (cw ad cc N S) H → va_D A (cw ad cc N S) → va_S A s.heap H locs → lv_has ls 1 [(0, .ref (ad 3 x0))] → W p l e ({ frames := 0, cells := 0, slots := 0, locals := 0 }) s m args below meth c H locs 0 0 Q (F0 m 23 ls [.int t0]) := by
  intro H locs ls hP hD hS hl
  obtain ⟨hx, hb, hr, hml, hown, hts, hK, hA, hev, hE, hN, hNS⟩ := id hC
  unfold m_cOp_isObject_J23 at Heq
  by_cases hz_1 : t0 = 0 ∨ t0 = 1
  case neg => rw [if_neg hz_1] at Heq; cases Heq
  replace Heq := (if_pos hz_1).symm.trans Heq
  exact Kr _ (Option.some.inj Heq).symm 23 _ _ _ d_cOp_isObject_23 hz_1 hP hD hS
def m_cOp_isObject_J22 (N : Nat → Nat) (x0 : Nat) (S : CS) : Option (CS × Int32) := m_cOp_isObject_J23 N x0 S 0
set_option maxHeartbeats 4000000 in
set_option maxRecDepth 100000 in
theorem w_cOp_isObject_J22 {p : Program} {l : Launch} {e : Env} {s : State} {m : MethodId} {args : Array Value} {below : List Frame} {meth : Method} {c : Code} {A : Nat → Prop} {D : va_G} {ad : Nat → Nat → Nat} {cc : Nat → ClassId} {sad sav : Nat → Nat} {Q : State → Prop} (hC : MCc sad sav "JoinedTrees$Op" prog_5_method_2_code 1 (some .boolean) p s m args meth c A D cc) {N : Nat → Nat} {x0 : Nat} {S : CS} {o : CS × Int32} (Heq : m_cOp_isObject_J22 N x0 S = some o) (Kr : ∀ r : CS × Int32, o = r → ∀ (pc : Nat) (H : Heap) (locs : List Loc) (ls : Array Slot), decode prog_5_method_2_code pc = .ok (.ireturn, 1) → (r.2 = 0 ∨ r.2 = 1) → va_P D cls (cw ad cc N r.1) H → va_D A (cw ad cc N r.1) → va_S A s.heap H locs → W p l e ({ frames := 0, cells := 0, slots := 0, locals := 0 }) s m args below meth c H locs 0 0 Q (F0 m pc ls [.int r.2])) : ∀ (H : Heap) (locs : List Loc) (ls : Array Slot), va_P D cls (cw ad cc N S) H → va_D A (cw ad cc N S) → va_S A s.heap H locs → lv_has ls 1 [(0, .ref (ad 3 x0))] → W p l e ({ frames := 0, cells := 0, slots := 0, locals := 0 }) s m args below meth c H locs 0 0 Q (F0 m 22 ls []) := by
  intro H locs ls hP hD hS hl
  obtain ⟨hx, hb, hr, hml, hown, hts, hK, hA, hev, hE, hN, hNS⟩ := id hC
  unfold m_cOp_isObject_J22 at Heq
  refine lv_iconst (v := 0) hx hb d_cOp_isObject_22 (by decide) ?_
  exact w_cOp_isObject_J23 hC Heq Kr _ _ _ hP hD hS (lv_sub hl [0] rfl)
def m_cOp_isObject_J0 (N : Nat → Nat) (x0 : Nat) (S : CS) : Option (CS × Int32) := gl x0 (N 3) ((if S.i 3 2 x0 < 6 then m_cOp_isObject_J22 N x0 S else (if 8 < S.i 3 2 x0 then m_cOp_isObject_J22 N x0 S else m_cOp_isObject_J23 N x0 S 1)))
theorem d_cOp_isObject_9 : decode prog_5_method_2_code 9 = .ok (.aload_n 0, 1) := by decide +kernel
theorem d_cOp_isObject_10 : decode prog_5_method_2_code 10 = .ok (.getfield 19, 3) := by decide +kernel
theorem d_cOp_isObject_13 : decode prog_5_method_2_code 13 = .ok (.bipush 8, 2) := by decide +kernel
theorem d_cOp_isObject_15 : decode prog_5_method_2_code 15 = .ok (.if_icmp .gt 7, 3) := by decide +kernel
theorem d_cOp_isObject_18 : decode prog_5_method_2_code 18 = .ok (.iconst 1, 1) := by decide +kernel
theorem d_cOp_isObject_19 : decode prog_5_method_2_code 19 = .ok (.goto 4, 3) := by decide +kernel
set_option maxHeartbeats 4000000 in
set_option maxRecDepth 100000 in
theorem w_cOp_isObject_J0 {p : Program} {l : Launch} {e : Env} {s : State} {m : MethodId} {args : Array Value} {below : List Frame} {meth : Method} {c : Code} {A : Nat → Prop} {D : va_G} {ad : Nat → Nat → Nat} {cc : Nat → ClassId} {sad sav : Nat → Nat} {Q : State → Prop} (hC : MCc sad sav "JoinedTrees$Op" prog_5_method_2_code 1 (some .boolean) p s m args meth c A D cc) {N : Nat → Nat} {x0 : Nat} {S : CS} {o : CS × Int32} (Heq : m_cOp_isObject_J0 N x0 S = some o) (Kr : ∀ r : CS × Int32, o = r → ∀ (pc : Nat) (H : Heap) (locs : List Loc) (ls : Array Slot), decode prog_5_method_2_code pc = .ok (.ireturn, 1) → (r.2 = 0 ∨ r.2 = 1) → va_P D cls (cw ad cc N r.1) H → va_D A (cw ad cc N r.1) → va_S A s.heap H locs → W p l e ({ frames := 0, cells := 0, slots := 0, locals := 0 }) s m args below meth c H locs 0 0 Q (F0 m pc ls [.int r.2])) : ∀ (H : Heap) (locs : List Loc) (ls : Array Slot), va_P D cls (cw ad cc N S) H → va_D A (cw ad cc N S) → va_S A s.heap H locs → lv_has ls 1 [(0, .ref (ad 3 x0))] → W p l e ({ frames := 0, cells := 0, slots := 0, locals := 0 }) s m args below meth c H locs 0 0 Q (F0 m 0 ls []) := by
  intro H locs ls hP hD hS hl
  obtain ⟨hx, hb, hr, hml, hown, hts, hK, hA, hev, hE, hN, hNS⟩ := id hC
  unfold m_cOp_isObject_J0 at Heq
  refine lv_aload_n hx hb d_cOp_isObject_0 rfl (lv_at hl 0 rfl) ?_
  obtain ⟨hl_x0_3, Heq⟩ := gl_some Heq
  refine va_get (D := D) (ci := 3) (v := .int (S.i 3 2 x0)) (C := R_Op) (T := F_Op) (N := 15) hx hb hts i_Op hown hK hP (cPos N 3 x0) (cw_obj (k := 3) (by decide) hl_x0_3) rfl 2 (by decide) (hts _ kw_59) (fun _ h9 => h9) rfl d_cOp_isObject_1 ?_
  refine lv_bipush (v := 6) hx hb d_cOp_isObject_4 (by decide) ?_
  refine lv_icmp_lt (tgt := 22) hx hb d_cOp_isObject_6 (by decide) (fun c_1 => ?_) (fun c_1 => ?_)
  · replace Heq := (if_pos c_1).symm.trans Heq
    exact w_cOp_isObject_J22 hC Heq Kr _ _ _ hP hD hS (lv_sub hl [0] rfl)
  · replace Heq := (if_neg c_1).symm.trans Heq
    refine lv_aload_n hx hb d_cOp_isObject_9 rfl (lv_at hl 0 rfl) ?_
    refine va_get (D := D) (ci := 3) (v := .int (S.i 3 2 x0)) (C := R_Op) (T := F_Op) (N := 15) hx hb hts i_Op hown hK hP (cPos N 3 x0) (cw_obj (k := 3) (by decide) hl_x0_3) rfl 2 (by decide) (hts _ kw_59) (fun _ h9 => h9) rfl d_cOp_isObject_10 ?_
    refine lv_bipush (v := 8) hx hb d_cOp_isObject_13 (by decide) ?_
    refine lv_icmp_gt (tgt := 22) hx hb d_cOp_isObject_15 (by decide) (fun c_2 => ?_) (fun c_2 => ?_)
    · replace Heq := (if_pos c_2).symm.trans Heq
      exact w_cOp_isObject_J22 hC Heq Kr _ _ _ hP hD hS (lv_sub hl [0] rfl)
    · replace Heq := (if_neg c_2).symm.trans Heq
      refine lv_iconst (v := 1) hx hb d_cOp_isObject_18 (by decide) ?_
      refine lv_goto (tgt := 23) hx hb d_cOp_isObject_19 (by decide) ?_
      exact w_cOp_isObject_J23 hC Heq Kr _ _ _ hP hD hS (lv_sub hl [0] rfl)
def m_cOp_isObject (N : Nat → Nat) (x0 : Nat) (S : CS) : Option (CS × Int32) := m_cOp_isObject_J0 N x0 S
set_option maxHeartbeats 4000000 in
theorem g_cOp_isObject (l : Launch) (D : va_G) (sz : Nat) {ad : Nat → Nat → Nat} {cc : Nat → ClassId} {sad sav : Nat → Nat} {N : Nat → Nat} {x0 : Nat} {S : CS} {o : CS × Int32} (Heq : m_cOp_isObject N x0 S = some o) : Met l ⟨"JoinedTrees$Op", "isObject", "()Z"⟩ (Cond.code ⟨"JoinedTrees$Op", "isObject", "()Z"⟩ prog_5_method_2_code 1 (some .boolean) :: gb) ({ frames := 0, cells := 0, slots := 0, locals := 0 }) (cPc sad sav D (cw ad cc N S) (cty cc) sz [.ref (ad 3 x0)]) (va_Qi (fun (r : Int32) (_ : Unit) => r = o.2) (fun _ t => gO D (cw ad cc N o.1) (cty cc) (va_A (cw ad cc N S) sz) t) (va_A (cw ad cc N S) sz)) 0 0 (va_A (cw ad cc N S) sz) := by
  refine Met.ofW (cc := prog_5_method_2_code) (maxL := 1) (ret := (some .boolean)) (by decide) rfl ?_
  intro p e s m args below meth c s₁ B hml hv
  obtain ⟨rfl, hsz, hP, hK, hD0, hev, hE, hN⟩ := hv
  have hx := B.exec
  have hb := B.bytes
  have hr := B.returns
  have hts : ∀ w9 ∈ gb, w9.before [.ref (ad 3 x0)].toArray s = true := fun w9 h => atoms_spec (ws := Cond.code ⟨"JoinedTrees$Op", "isObject", "()Z"⟩ prog_5_method_2_code 1 (some .boolean) :: gb) B.pre w9 (List.mem_cons_of_mem _ h)
  have hown : s.vm.findClass "JoinedTrees$Op" = some m.cls := findClass_of_methodNamed B.named
  have hlocks := B.notSynchronized
  have hNS := ns_of hP
  subst hsz
  have hD := hD0.self (sz := s.heap.size)
  generalize hAe : va_A (cw ad cc N S) s.heap.size = A at hD hev hE hNS ⊢
  have hA : ∀ q : Nat, s.heap.size ≤ q → A q := fun q h => by rw [← hAe]; exact Or.inr h
  have hS : va_S A s.heap s.heap [] := va_S.rf
  obtain ⟨ls, hl, hle⟩ : ∃ ls : Array Slot, lv_has ls 1 [(0, .ref (ad 3 x0))] ∧ entryFrame m ([.ref (ad 3 x0)] : List Value).toArray 1 = F0 m 0 ls [] := by
    exact ⟨_, lv_entry (n := 1) _ (Nat.le_of_ble_eq_true rfl), lg_entry_eq ..⟩
  rw [hle]
  refine w_cOp_isObject_J0 ⟨hx, hb, hr, hml, hown, hts, hK, hA, hev, hE, hN, hNS⟩ Heq (fun r h pc H locs ls hd hz hP hD hS => ?_) _ _ _ hP hD hS (lv_sub hl [0] rfl)
  subst h
  exact W.zret (ty := .boolean) hx hb hr (by rcases hz with hz | hz <;> rw [hz] <;> rfl) (fun t ht hW => ⟨⟨_, (), rfl, rfl, by rw [ht]; exact hP, va_K.moved hW.alike hK, hD⟩, hS.F ht⟩) hS.2.2 hd
