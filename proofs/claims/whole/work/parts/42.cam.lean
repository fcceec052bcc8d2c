def m_cSv_emit_J36 (N : Nat → Nat) (x0 : Nat) (S : CS) : Option CS := gl x0 (N 6) (some (S.setI 6 5 x0 ((S.i 6 5 x0) + 1)))
theorem d_cSv_emit_0 : decode prog_8_method_5_code 0 = .ok (.aload_n 0, 1) := by decide +kernel
theorem d_cSv_emit_1 : decode prog_8_method_5_code 1 = .ok (.getfield 23, 3) := by decide +kernel
theorem d_cSv_emit_4 : decode prog_8_method_5_code 4 = .ok (.ifCond .ne 12, 3) := by decide +kernel
theorem d_cSv_emit_16 : decode prog_8_method_5_code 16 = .ok (.aload_n 0, 1) := by decide +kernel
theorem d_cSv_emit_17 : decode prog_8_method_5_code 17 = .ok (.getfield 19, 3) := by decide +kernel
theorem d_cSv_emit_20 : decode prog_8_method_5_code 20 = .ok (.aload_n 0, 1) := by decide +kernel
theorem d_cSv_emit_21 : decode prog_8_method_5_code 21 = .ok (.getfield 77, 3) := by decide +kernel
theorem d_cSv_emit_24 : decode prog_8_method_5_code 24 = .ok (.invokevirtual 84, 3) := by decide +kernel
theorem d_cSv_emit_27 : decode prog_8_method_5_code 27 = .ok (.iload_n 1, 1) := by decide +kernel
theorem d_cSv_emit_28 : decode prog_8_method_5_code 28 = .ok (.if_icmp .eq 8, 3) := by decide +kernel
theorem d_cSv_emit_36 : decode prog_8_method_5_code 36 = .ok (.aload_n 0, 1) := by decide +kernel
theorem d_cSv_emit_37 : decode prog_8_method_5_code 37 = .ok (.dup, 1) := by decide +kernel
theorem d_cSv_emit_38 : decode prog_8_method_5_code 38 = .ok (.getfield 77, 3) := by decide +kernel
theorem d_cSv_emit_41 : decode prog_8_method_5_code 41 = .ok (.iconst 1, 1) := by decide +kernel
theorem d_cSv_emit_42 : decode prog_8_method_5_code 42 = .ok (.iadd, 1) := by decide +kernel
theorem d_cSv_emit_43 : decode prog_8_method_5_code 43 = .ok (.putfield 77, 3) := by decide +kernel
theorem d_cSv_emit_46 : decode prog_8_method_5_code 46 = .ok (.return_, 1) := by decide +kernel
set_option maxHeartbeats 4000000 in
set_option maxRecDepth 100000 in
theorem w_cSv_emit_J36 {p : Program} {l : Launch} {e : Env} {s : State} {m : MethodId} {args : Array Value} {below : List Frame} {meth : Method} {c : Code} {A : Nat → Prop} {D : va_G} {ad : Nat → Nat → Nat} {cc : Nat → ClassId} {sad sav : Nat → Nat} {Q : State → Prop} (hC : MCc sad sav "JoinedTrees$Saver" prog_8_method_5_code 2 none p s m args meth c A D cc) {N : Nat → Nat} {x0 : Nat} {S : CS} {o : CS} (Heq : m_cSv_emit_J36 N x0 S = some o) (Kr : ∀ r : CS, o = r → ∀ (pc : Nat) (H : Heap) (locs : List Loc) (ls : Array Slot), decode prog_8_method_5_code pc = .ok (.return_, 1) → va_P D cls (cw ad cc N r) H → va_D A (cw ad cc N r) → va_S A s.heap H locs → W p l e ({ frames := 1, cells := 0, slots := 0, locals := 21 }) s m args below meth c H locs 0 0 Q (F0 m pc ls [])) : ∀ (H : Heap) (locs : List Loc) (ls : Array Slot), va_P D cls (cw ad cc N S) H → va_D A (cw ad cc N S) → va_S A s.heap H locs → lv_has ls 2 [(0, .ref (ad 6 x0))] → W p l e ({ frames := 1, cells := 0, slots := 0, locals := 21 }) s m args below meth c H locs 0 0 Q (F0 m 36 ls []) := by
  intro H locs ls hP hD hS hl
  obtain ⟨hx, hb, hr, hml, hown, hts, hK, hA, hev, hE, hN, hNS⟩ := id hC
  unfold m_cSv_emit_J36 at Heq
  refine lv_aload_n hx hb d_cSv_emit_36 rfl (lv_at hl 0 rfl) ?_
  refine lv_dup hx hb d_cSv_emit_37 (by first | rfl | exact rv_cat) ?_
  obtain ⟨hl_x0_6, Heq⟩ := gl_some Heq
  refine va_get (D := D) (ci := 6) (v := .int (S.i 6 5 x0)) (C := R_Sv) (T := F_Sv) (N := 6) hx hb hts i_Sv hown hK hP (cPos N 6 x0) (cw_obj (k := 6) (by decide) hl_x0_6) rfl 5 (by decide) (hts _ kw_407) (fun _ h9 => h9) rfl d_cSv_emit_38 ?_
  refine lv_iconst (v := 1) hx hb d_cSv_emit_41 (by decide) ?_
  refine lv_iadd hx hb d_cSv_emit_42 ?_
  refine w_i (y := (S.i 6 5 x0) + 1) rfl ?_
  refine va_put (D := D) (ci := 6) (v := .int ((S.i 6 5 x0) + 1)) (ty := .int) (C := R_Sv) (T := F_Sv) (N := 6) hx hb hts i_Sv t_Sv t_Sv_ok n_Sv hown hK hP hD hS (cPos N 6 x0) (cw_obj (k := 6) (by decide) hl_x0_6) rfl 5 (by decide) (hts _ kw_407) (fun _ h9 => h9) rfl (by decide +kernel) rfl rfl (Nat.le_of_ble_eq_true rfl) d_cSv_emit_43 (fun H locs hP hD hS => ?_)
  have hD := (congrArg (fun w9 => va_D A w9) (cw_setI (ad := ad) (cc := cc) (S := S) (k := 6) (f := 5) (v := (S.i 6 5 x0) + 1) (by decide) rfl hl_x0_6)).mp hD
  have hP := (congrArg (fun w9 => va_P D cls w9 H) (cw_setI (ad := ad) (cc := cc) (S := S) (k := 6) (f := 5) (v := (S.i 6 5 x0) + 1) (by decide) rfl hl_x0_6)).mp hP
  exact Kr _ (Option.some.inj Heq).symm 46 _ _ _ d_cSv_emit_46 hP hD hS
def m_cSv_emit_J0 (N : Nat → Nat) (x0 : Nat) (S : CS) (x1 : Int32) : Option CS := gl x0 (N 6) ((if S.i 6 3 x0 = 0 then gn (S.r 6 1 x0) (N 5) (fun j_8 => ob (m_cRw_write N j_8 S x1) (fun o_11 => some o_11)) else gn (S.r 6 1 x0) (N 5) (fun j_2 => ob (m_cRw_at N j_2 S (S.i 6 5 x0)) (fun o_5 => (if o_5.2 = x1 then m_cSv_emit_J36 N x0 o_5.1 else m_cSv_emit_J36 N x0 (o_5.1.setI 6 4 x0 1))))))
theorem d_cSv_emit_31 : decode prog_8_method_5_code 31 = .ok (.aload_n 0, 1) := by decide +kernel
theorem d_cSv_emit_32 : decode prog_8_method_5_code 32 = .ok (.iconst 1, 1) := by decide +kernel
theorem d_cSv_emit_33 : decode prog_8_method_5_code 33 = .ok (.putfield 74, 3) := by decide +kernel
theorem d_cSv_emit_7 : decode prog_8_method_5_code 7 = .ok (.aload_n 0, 1) := by decide +kernel
theorem d_cSv_emit_8 : decode prog_8_method_5_code 8 = .ok (.getfield 19, 3) := by decide +kernel
theorem d_cSv_emit_11 : decode prog_8_method_5_code 11 = .ok (.iload_n 1, 1) := by decide +kernel
theorem d_cSv_emit_12 : decode prog_8_method_5_code 12 = .ok (.invokevirtual 95, 3) := by decide +kernel
theorem d_cSv_emit_15 : decode prog_8_method_5_code 15 = .ok (.return_, 1) := by decide +kernel
set_option maxHeartbeats 4000000 in
set_option maxRecDepth 100000 in
theorem w_cSv_emit_J0 {p : Program} {l : Launch} {e : Env} {s : State} {m : MethodId} {args : Array Value} {below : List Frame} {meth : Method} {c : Code} {A : Nat → Prop} {D : va_G} {ad : Nat → Nat → Nat} {cc : Nat → ClassId} {sad sav : Nat → Nat} {Q : State → Prop} (hC : MCc sad sav "JoinedTrees$Saver" prog_8_method_5_code 2 none p s m args meth c A D cc) {N : Nat → Nat} {x0 : Nat} {S : CS} {x1 : Int32} {o : CS} (Heq : m_cSv_emit_J0 N x0 S x1 = some o) (Kr : ∀ r : CS, o = r → ∀ (pc : Nat) (H : Heap) (locs : List Loc) (ls : Array Slot), decode prog_8_method_5_code pc = .ok (.return_, 1) → va_P D cls (cw ad cc N r) H → va_D A (cw ad cc N r) → va_S A s.heap H locs → W p l e ({ frames := 1, cells := 0, slots := 0, locals := 21 }) s m args below meth c H locs 0 0 Q (F0 m pc ls [])) : ∀ (H : Heap) (locs : List Loc) (ls : Array Slot), va_P D cls (cw ad cc N S) H → va_D A (cw ad cc N S) → va_S A s.heap H locs → lv_has ls 2 [(0, .ref (ad 6 x0)), (1, .int x1)] → W p l e ({ frames := 1, cells := 0, slots := 0, locals := 21 }) s m args below meth c H locs 0 0 Q (F0 m 0 ls []) := by
  intro H locs ls hP hD hS hl
  obtain ⟨hx, hb, hr, hml, hown, hts, hK, hA, hev, hE, hN, hNS⟩ := id hC
  unfold m_cSv_emit_J0 at Heq
  refine lv_aload_n hx hb d_cSv_emit_0 rfl (lv_at hl 0 rfl) ?_
  obtain ⟨hl_x0_6, Heq⟩ := gl_some Heq
  refine va_get (D := D) (ci := 6) (v := .int (S.i 6 3 x0)) (C := R_Sv) (T := F_Sv) (N := 6) hx hb hts i_Sv hown hK hP (cPos N 6 x0) (cw_obj (k := 6) (by decide) hl_x0_6) rfl 3 (by decide) (hts _ kw_405) (fun _ h9 => h9) rfl d_cSv_emit_1 ?_
  refine lv_if_ne (tgt := 16) hx hb d_cSv_emit_4 (by decide) (fun c_1 => ?_) (fun c_1 => ?_)
  · replace Heq := (if_neg c_1).symm.trans Heq
    refine lv_aload_n hx hb d_cSv_emit_16 rfl (lv_at hl 0 rfl) ?_
    refine va_get (D := D) (ci := 6) (v := rv ad 5 (S.r 6 1 x0)) (C := R_Sv) (T := F_Sv) (N := 6) hx hb hts i_Sv hown hK hP (cPos N 6 x0) (cw_obj (k := 6) (by decide) hl_x0_6) rfl 1 (by decide) (hts _ kw_402) (fun _ h9 => h9) rfl d_cSv_emit_17 ?_
    refine lv_aload_n hx hb d_cSv_emit_20 rfl (lv_at hl 0 rfl) ?_
    refine va_get (D := D) (ci := 6) (v := .int (S.i 6 5 x0)) (C := R_Sv) (T := F_Sv) (N := 6) hx hb hts i_Sv hown hK hP (cPos N 6 x0) (cw_obj (k := 6) (by decide) hl_x0_6) rfl 5 (by decide) (hts _ kw_407) (fun _ h9 => h9) rfl d_cSv_emit_21 ?_
    obtain ⟨j_2, hj_3, hl_4, Heq⟩ := gn_some Heq
    refine w_s (st' := [.int (S.i 6 5 x0), .ref (ad 5 j_2)]) (congrArg (fun z9 : Option Nat => [.int (S.i 6 5 x0), rv ad 5 z9]) hj_3) ?_
    obtain ⟨o_5, h_6, Heq⟩ := ob_some Heq
    have hFc := fr_all hD hS hA
    refine va_calli (va_runV (As := [.int (S.i 6 5 x0)]) (rest := []) ⟨hx, hb, hml, hown, hts⟩ (g_cRw_at l D H.size (ad := ad) (cc := cc) (sad := sad) (sav := sav) h_6) (cw_v 1 hts kw_689 kw_1290 kw_687 kw_688 kw_4 rfl rfl (by decide +kernel) ⟨Nat.le_of_ble_eq_true rfl, Nat.le_of_ble_eq_true rfl⟩) ⟨c_blind, va_recv hK hP (ci := 5) (q0 := cPos N 5 j_2) rfl (cw_obj (k := 5) (by decide) hl_4), fun U hU hW => c_pre hU hW hP hK hD hev hE hN hNS hS hFc⟩ rfl rfl hl.1 rfl (lv_room (Nat.le_of_ble_eq_true rfl)) d_cSv_emit_24 ⟨Nat.le_of_ble_eq_true rfl, Nat.le_of_ble_eq_true rfl⟩) hS (fun q _ h => hFc q h) hFc (fun rz u t H1 locs ht hvm hw hB hz1 hk1 hS => ?_)
    obtain ⟨hP, -, hD1⟩ := hB
    rw [ht] at hP
    have hD := hD1.weaken (fun _ q _ h => hFc q.1 h)
    generalize H1 = H at hP hS ⊢
    refine W.cs (cells' := 0) (slots' := 0) rfl rfl ?_
    subst hw
    refine lv_iload_n hx hb d_cSv_emit_27 rfl (lv_at hl 1 rfl) ?_
    refine lv_icmp_eq (tgt := 36) hx hb d_cSv_emit_28 (by decide) (fun c_7 => ?_) (fun c_7 => ?_)
    · replace Heq := (if_pos c_7).symm.trans Heq
      exact w_cSv_emit_J36 hC Heq Kr _ _ _ hP hD hS (lv_sub hl [0] rfl)
    · replace Heq := (if_neg c_7).symm.trans Heq
      refine lv_aload_n hx hb d_cSv_emit_31 rfl (lv_at hl 0 rfl) ?_
      refine lv_iconst (v := 1) hx hb d_cSv_emit_32 (by decide) ?_
      refine va_put (D := D) (ci := 6) (v := .int 1) (ty := .boolean) (C := R_Sv) (T := F_Sv) (N := 6) hx hb hts i_Sv t_Sv t_Sv_ok n_Sv hown hK hP hD hS (cPos N 6 x0) (cw_obj (k := 6) (by decide) hl_x0_6) rfl 4 (by decide) (hts _ kw_406) (fun _ h9 => h9) rfl (by decide +kernel) (by decide) (by decide) (Nat.le_of_ble_eq_true rfl) d_cSv_emit_33 (fun H locs hP hD hS => ?_)
      have hD := (congrArg (fun w9 => va_D A w9) (cw_setI (ad := ad) (cc := cc) (S := o_5.1) (k := 6) (f := 4) (v := 1) (by decide) rfl hl_x0_6)).mp hD
      have hP := (congrArg (fun w9 => va_P D cls w9 H) (cw_setI (ad := ad) (cc := cc) (S := o_5.1) (k := 6) (f := 4) (v := 1) (by decide) rfl hl_x0_6)).mp hP
      exact w_cSv_emit_J36 hC Heq Kr _ _ _ hP hD hS (lv_sub hl [0] rfl)
  · replace Heq := (if_pos c_1).symm.trans Heq
    refine lv_aload_n hx hb d_cSv_emit_7 rfl (lv_at hl 0 rfl) ?_
    refine va_get (D := D) (ci := 6) (v := rv ad 5 (S.r 6 1 x0)) (C := R_Sv) (T := F_Sv) (N := 6) hx hb hts i_Sv hown hK hP (cPos N 6 x0) (cw_obj (k := 6) (by decide) hl_x0_6) rfl 1 (by decide) (hts _ kw_402) (fun _ h9 => h9) rfl d_cSv_emit_8 ?_
    refine lv_iload_n hx hb d_cSv_emit_11 rfl (lv_at hl 1 rfl) ?_
    obtain ⟨j_8, hj_9, hl_10, Heq⟩ := gn_some Heq
    refine w_s (st' := [.int x1, .ref (ad 5 j_8)]) (congrArg (fun z9 : Option Nat => [.int x1, rv ad 5 z9]) hj_9) ?_
    obtain ⟨o_11, h_12, Heq⟩ := ob_some Heq
    have hFc := fr_all hD hS hA
    refine va_callv (va_runV (As := [.int x1]) (rest := []) ⟨hx, hb, hml, hown, hts⟩ (g_cRw_write l D H.size (ad := ad) (cc := cc) (sad := sad) (sav := sav) h_12) (cw_v 1 hts kw_549 kw_1289 kw_547 kw_548 kw_4 rfl rfl (by decide +kernel) ⟨Nat.le_of_ble_eq_true rfl, Nat.le_of_ble_eq_true rfl⟩) ⟨c_blind, va_recv hK hP (ci := 5) (q0 := cPos N 5 j_8) rfl (cw_obj (k := 5) (by decide) hl_10), fun U hU hW => c_pre hU hW hP hK hD hev hE hN hNS hS hFc⟩ rfl rfl hl.1 rfl (lv_room (Nat.le_of_ble_eq_true rfl)) d_cSv_emit_12 ⟨Nat.le_of_ble_eq_true rfl, Nat.le_of_ble_eq_true rfl⟩) hS (fun q _ h => hFc q h) hFc (fun u t H1 locs ht hvm hw hB hz1 hk1 hS => ?_)
    obtain ⟨hP, -, hD1⟩ := hB
    rw [ht] at hP
    have hD := hD1.weaken (fun _ q _ h => hFc q.1 h)
    generalize H1 = H at hP hS ⊢
    refine W.cs (cells' := 0) (slots' := 0) rfl rfl ?_
    exact Kr _ (Option.some.inj Heq).symm 15 _ _ _ d_cSv_emit_15 hP hD hS
def m_cSv_emit (N : Nat → Nat) (x0 : Nat) (S : CS) (x1 : Int32) : Option CS := m_cSv_emit_J0 N x0 S x1
set_option maxHeartbeats 4000000 in
theorem g_cSv_emit (l : Launch) (D : va_G) (sz : Nat) {ad : Nat → Nat → Nat} {cc : Nat → ClassId} {sad sav : Nat → Nat} {N : Nat → Nat} {x0 : Nat} {S : CS} {x1 : Int32} {o : CS} (Heq : m_cSv_emit N x0 S x1 = some o) : Met l ⟨"JoinedTrees$Saver", "emit", "(I)V"⟩ (Cond.code ⟨"JoinedTrees$Saver", "emit", "(I)V"⟩ prog_8_method_5_code 2 none :: gb) ({ frames := 1, cells := 0, slots := 0, locals := 21 }) (cPc sad sav D (cw ad cc N S) (cty cc) sz [.ref (ad 6 x0), .int x1]) (va_Qv (fun _ : Unit => True) (fun _ t => gO D (cw ad cc N o) (cty cc) (va_A (cw ad cc N S) sz) t) (va_A (cw ad cc N S) sz)) 0 0 (va_A (cw ad cc N S) sz) := by
  refine Met.ofW (cc := prog_8_method_5_code) (maxL := 2) (ret := none) (by decide) rfl ?_
  intro p e s m args below meth c s₁ B hml hv
  obtain ⟨rfl, hsz, hP, hK, hD0, hev, hE, hN⟩ := hv
  have hx := B.exec
  have hb := B.bytes
  have hr := B.returns
  have hts : ∀ w9 ∈ gb, w9.before [.ref (ad 6 x0), .int x1].toArray s = true := fun w9 h => atoms_spec (ws := Cond.code ⟨"JoinedTrees$Saver", "emit", "(I)V"⟩ prog_8_method_5_code 2 none :: gb) B.pre w9 (List.mem_cons_of_mem _ h)
  have hown : s.vm.findClass "JoinedTrees$Saver" = some m.cls := findClass_of_methodNamed B.named
  have hlocks := B.notSynchronized
  have hNS := ns_of hP
  subst hsz
  have hD := hD0.self (sz := s.heap.size)
  generalize hAe : va_A (cw ad cc N S) s.heap.size = A at hD hev hE hNS ⊢
  have hA : ∀ q : Nat, s.heap.size ≤ q → A q := fun q h => by rw [← hAe]; exact Or.inr h
  have hS : va_S A s.heap s.heap [] := va_S.rf
  obtain ⟨ls, hl, hle⟩ : ∃ ls : Array Slot, lv_has ls 2 [(0, .ref (ad 6 x0)), (1, .int x1)] ∧ entryFrame m ([.ref (ad 6 x0), .int x1] : List Value).toArray 2 = F0 m 0 ls [] := by
    exact ⟨_, lv_entry (n := 2) _ (Nat.le_of_ble_eq_true rfl), lg_entry_eq ..⟩
  rw [hle]
  refine w_cSv_emit_J0 ⟨hx, hb, hr, hml, hown, hts, hK, hA, hev, hE, hN, hNS⟩ Heq (fun r h pc H locs ls hd hP hD hS => ?_) _ _ _ hP hD hS (lv_sub hl [0, 1] rfl)
  subst h
  exact W.vret hx hb hr (fun t ht hW => ⟨⟨(), rfl, trivial, by rw [ht]; exact hP, va_K.moved hW.alike hK, hD⟩, hS.F ht⟩) hS.2.2 hd
def m_cSv_emitNumber_B5 (N : Nat → Nat) (x0 : Nat) (S : CS) (x3 : Int64) (x5 : Int32) : Option ((CS × Int64 × Int32) ⊕ (CS × Int64)) := (if 9 ≤ x5 then some (.inr (S, x3)) else (if lg_cmp (ushr64 x3 7) 0 = 0 then some (.inr (S, x3)) else gl x0 (N 6) (ob (m_cSv_emit N x0 S (((x3 &&& 127).toInt32) ||| 128)) (fun o_3 => some (.inl (o_3, (ushr64 x3 7), (x5 + 1)))))))
theorem d_cSv_emitNumber_0 : decode prog_8_method_6_code 0 = .ok (.lload_n 1, 1) := by decide +kernel
theorem d_cSv_emitNumber_1 : decode prog_8_method_6_code 1 = .ok (.lstore_n 3, 1) := by decide +kernel
theorem d_cSv_emitNumber_2 : decode prog_8_method_6_code 2 = .ok (.iconst 0, 1) := by decide +kernel
theorem d_cSv_emitNumber_3 : decode prog_8_method_6_code 3 = .ok (.istore 5, 2) := by decide +kernel
theorem d_cSv_emitNumber_5 : decode prog_8_method_6_code 5 = .ok (.iload 5, 2) := by decide +kernel
theorem d_cSv_emitNumber_7 : decode prog_8_method_6_code 7 = .ok (.bipush 9, 2) := by decide +kernel
theorem d_cSv_emitNumber_9 : decode prog_8_method_6_code 9 = .ok (.if_icmp .ge 37, 3) := by decide +kernel
theorem d_cSv_emitNumber_12 : decode prog_8_method_6_code 12 = .ok (.lload_n 3, 1) := by decide +kernel
theorem d_cSv_emitNumber_13 : decode prog_8_method_6_code 13 = .ok (.bipush 7, 2) := by decide +kernel
theorem d_cSv_emitNumber_15 : decode prog_8_method_6_code 15 = .ok (.lushr, 1) := by decide +kernel
theorem d_cSv_emitNumber_16 : decode prog_8_method_6_code 16 = .ok (.lconst 0, 1) := by decide +kernel
theorem d_cSv_emitNumber_17 : decode prog_8_method_6_code 17 = .ok (.lcmp, 1) := by decide +kernel
theorem d_cSv_emitNumber_18 : decode prog_8_method_6_code 18 = .ok (.ifCond .eq 28, 3) := by decide +kernel
theorem d_cSv_emitNumber_21 : decode prog_8_method_6_code 21 = .ok (.aload_n 0, 1) := by decide +kernel
theorem d_cSv_emitNumber_22 : decode prog_8_method_6_code 22 = .ok (.lload_n 3, 1) := by decide +kernel
theorem d_cSv_emitNumber_23 : decode prog_8_method_6_code 23 = .ok (.ldc2_w 98, 3) := by decide +kernel
theorem d_cSv_emitNumber_26 : decode prog_8_method_6_code 26 = .ok (.land, 1) := by decide +kernel
theorem d_cSv_emitNumber_27 : decode prog_8_method_6_code 27 = .ok (.l2i, 1) := by decide +kernel
theorem d_cSv_emitNumber_28 : decode prog_8_method_6_code 28 = .ok (.sipush 128, 3) := by decide +kernel
theorem d_cSv_emitNumber_31 : decode prog_8_method_6_code 31 = .ok (.ior, 1) := by decide +kernel
theorem d_cSv_emitNumber_32 : decode prog_8_method_6_code 32 = .ok (.invokevirtual 86, 3) := by decide +kernel
theorem d_cSv_emitNumber_35 : decode prog_8_method_6_code 35 = .ok (.lload_n 3, 1) := by decide +kernel
theorem d_cSv_emitNumber_36 : decode prog_8_method_6_code 36 = .ok (.bipush 7, 2) := by decide +kernel
theorem d_cSv_emitNumber_38 : decode prog_8_method_6_code 38 = .ok (.lushr, 1) := by decide +kernel
theorem d_cSv_emitNumber_39 : decode prog_8_method_6_code 39 = .ok (.lstore_n 3, 1) := by decide +kernel
theorem d_cSv_emitNumber_40 : decode prog_8_method_6_code 40 = .ok (.iinc 5 1, 3) := by decide +kernel
theorem d_cSv_emitNumber_43 : decode prog_8_method_6_code 43 = .ok (.goto (-38), 3) := by decide +kernel
set_option maxHeartbeats 4000000 in
set_option maxRecDepth 100000 in
theorem w_cSv_emitNumber_B5 {p : Program} {l : Launch} {e : Env} {s : State} {m : MethodId} {args : Array Value} {below : List Frame} {meth : Method} {c : Code} {A : Nat → Prop} {D : va_G} {ad : Nat → Nat → Nat} {cc : Nat → ClassId} {sad sav : Nat → Nat} {Q : State → Prop} (hC : MCc sad sav "JoinedTrees$Saver" prog_8_method_6_code 6 none p s m args meth c A D cc) {N : Nat → Nat} {x0 : Nat} {S : CS} {x3 : Int64} {x5 : Int32} {o : ((CS × Int64 × Int32) ⊕ (CS × Int64))} (Heq : m_cSv_emitNumber_B5 N x0 S x3 x5 = some o) (Ka : ∀ b : CS × Int64 × Int32, o = .inl b → ∀ (H : Heap) (locs : List Loc) (ls : Array Slot), va_P D cls (cw ad cc N b.1) H → va_D A (cw ad cc N b.1) → va_S A s.heap H locs → lv_has ls 6 [(0, .ref (ad 6 x0)), (3, .long b.2.1), (5, .int b.2.2)] → W p l e ({ frames := 2, cells := 0, slots := 0, locals := 42 }) s m args below meth c H locs 0 0 Q (F0 m 5 ls [])) (K0 : ∀ b : CS × Int64, o = .inr b → ∀ (H : Heap) (locs : List Loc) (ls : Array Slot), va_P D cls (cw ad cc N b.1) H → va_D A (cw ad cc N b.1) → va_S A s.heap H locs → lv_has ls 6 [(0, .ref (ad 6 x0)), (3, .long b.2)] → W p l e ({ frames := 2, cells := 0, slots := 0, locals := 42 }) s m args below meth c H locs 0 0 Q (F0 m 46 ls [])) : ∀ (H : Heap) (locs : List Loc) (ls : Array Slot), va_P D cls (cw ad cc N S) H → va_D A (cw ad cc N S) → va_S A s.heap H locs → lv_has ls 6 [(0, .ref (ad 6 x0)), (3, .long x3), (5, .int x5)] → W p l e ({ frames := 2, cells := 0, slots := 0, locals := 42 }) s m args below meth c H locs 0 0 Q (F0 m 5 ls []) := by
  intro H locs ls hP hD hS hl
  obtain ⟨hx, hb, hr, hml, hown, hts, hK, hA, hev, hE, hN, hNS⟩ := id hC
  unfold m_cSv_emitNumber_B5 at Heq
  refine lv_iload hx hb d_cSv_emitNumber_5 (lv_at hl 2 rfl) ?_
  refine lv_bipush (v := 9) hx hb d_cSv_emitNumber_7 (by decide) ?_
  refine lv_icmp_ge (tgt := 46) hx hb d_cSv_emitNumber_9 (by decide) (fun c_1 => ?_) (fun c_1 => ?_)
  · replace Heq := (if_pos c_1).symm.trans Heq
    exact K0 _ (Option.some.inj Heq).symm _ _ _ hP hD hS (lv_sub hl [0, 1] rfl)
  · replace Heq := (if_neg c_1).symm.trans Heq
    refine lv_lload_n hx hb d_cSv_emitNumber_12 rfl (lv_at hl 1 rfl) ?_
    refine lv_bipush (v := 7) hx hb d_cSv_emitNumber_13 (by decide) ?_
    refine lv_lushr hx hb d_cSv_emitNumber_15 rfl ?_
    refine w_l (y := ushr64 x3 7) rfl ?_
    refine lv_lconst (v := 0) hx hb d_cSv_emitNumber_16 (by decide) ?_
    refine W.lcmp hx hb d_cSv_emitNumber_17 ?_
    refine w_i (y := lg_cmp (ushr64 x3 7) 0) rfl ?_
    refine lv_if_eq (tgt := 46) hx hb d_cSv_emitNumber_18 (by decide) (fun c_2 => ?_) (fun c_2 => ?_)
    · replace Heq := (if_pos c_2).symm.trans Heq
      exact K0 _ (Option.some.inj Heq).symm _ _ _ hP hD hS (lv_sub hl [0, 1] rfl)
    · replace Heq := (if_neg c_2).symm.trans Heq
      refine lv_aload_n hx hb d_cSv_emitNumber_21 rfl (lv_at hl 0 rfl) ?_
      refine lv_lload_n hx hb d_cSv_emitNumber_22 rfl (lv_at hl 1 rfl) ?_
      refine lv_ldc2 (v := 127) hx hb hown (hts _ kw_1284) d_cSv_emitNumber_23 ?_
      refine lv_land hx hb d_cSv_emitNumber_26 ?_
      refine w_l (y := x3 &&& 127) rfl ?_
      refine lv_l2i hx hb d_cSv_emitNumber_27 rfl ?_
      refine w_i (y := (x3 &&& 127).toInt32) rfl ?_
      refine lv_sipush (v := 128) hx hb d_cSv_emitNumber_28 (by decide) ?_
      refine lv_ior hx hb d_cSv_emitNumber_31 ?_
      refine w_i (y := ((x3 &&& 127).toInt32) ||| 128) rfl ?_
      obtain ⟨hl_x0_6, Heq⟩ := gl_some Heq
      obtain ⟨o_3, h_4, Heq⟩ := ob_some Heq
      have hFc := fr_all hD hS hA
      refine va_callv (va_runV (As := [.int (((x3 &&& 127).toInt32) ||| 128)]) (rest := []) ⟨hx, hb, hml, hown, hts⟩ (g_cSv_emit l D H.size (ad := ad) (cc := cc) (sad := sad) (sav := sav) h_4) (cw_v 1 hts kw_1288 kw_1285 kw_1286 kw_1287 kw_10 rfl rfl (by decide +kernel) ⟨Nat.le_of_ble_eq_true rfl, Nat.le_of_ble_eq_true rfl⟩) ⟨c_blind, va_recv hK hP (ci := 6) (q0 := cPos N 6 x0) rfl (cw_obj (k := 6) (by decide) hl_x0_6), fun U hU hW => c_pre hU hW hP hK hD hev hE hN hNS hS hFc⟩ rfl rfl hl.1 rfl (lv_room (Nat.le_of_ble_eq_true rfl)) d_cSv_emitNumber_32 ⟨Nat.le_of_ble_eq_true rfl, Nat.le_of_ble_eq_true rfl⟩) hS (fun q _ h => hFc q h) hFc (fun u t H1 locs ht hvm hw hB hz1 hk1 hS => ?_)
      obtain ⟨hP, -, hD1⟩ := hB
      rw [ht] at hP
      have hD := hD1.weaken (fun _ q _ h => hFc q.1 h)
      generalize H1 = H at hP hS ⊢
      refine W.cs (cells' := 0) (slots' := 0) rfl rfl ?_
      refine lv_lload_n hx hb d_cSv_emitNumber_35 rfl (lv_at hl 1 rfl) ?_
      refine lv_bipush (v := 7) hx hb d_cSv_emitNumber_36 (by decide) ?_
      refine lv_lushr hx hb d_cSv_emitNumber_38 rfl ?_
      refine w_l (y := ushr64 x3 7) rfl ?_
      refine lv_lstore_n (lv' := [(3, .long (ushr64 x3 7)), (0, .ref (ad 6 x0)), (5, .int x5)]) hx hb d_cSv_emitNumber_39 rfl hl (by decide) rfl (fun ls hl => ?_)
      refine lv_iinc (v := x5 + 1) (lv' := [(5, .int (x5 + 1)), (3, .long (ushr64 x3 7)), (0, .ref (ad 6 x0))]) hx hb d_cSv_emitNumber_40 hl (k := 2) rfl rfl (by decide) rfl (fun ls hl => ?_)
      refine lv_goto (tgt := 5) hx hb d_cSv_emitNumber_43 (by decide) ?_
      exact Ka _ (Option.some.inj Heq).symm _ _ _ hP hD hS (lv_sub hl [2, 1, 0] rfl)
def m_cSv_emitNumber_L5 (N : Nat → Nat) (x0 : Nat) (S : CS) (x3 : Int64) (x5 : Int32) : Option (CS × Int64) := lp (fun a : CS × Int64 × Int32 => m_cSv_emitNumber_B5 N x0 a.1 a.2.1 a.2.2) FU (S, x3, x5)
theorem w_cSv_emitNumber_L5 {p : Program} {l : Launch} {e : Env} {s : State} {m : MethodId} {args : Array Value} {below : List Frame} {meth : Method} {c : Code} {A : Nat → Prop} {D : va_G} {ad : Nat → Nat → Nat} {cc : Nat → ClassId} {sad sav : Nat → Nat} {Q : State → Prop} (hC : MCc sad sav "JoinedTrees$Saver" prog_8_method_6_code 6 none p s m args meth c A D cc) {N : Nat → Nat} {x0 : Nat} {S : CS} {x3 : Int64} {x5 : Int32} {o : CS × Int64} (Heq : m_cSv_emitNumber_L5 N x0 S x3 x5 = some o) (K0 : ∀ b : CS × Int64, o = b → ∀ (H : Heap) (locs : List Loc) (ls : Array Slot), va_P D cls (cw ad cc N b.1) H → va_D A (cw ad cc N b.1) → va_S A s.heap H locs → lv_has ls 6 [(0, .ref (ad 6 x0)), (3, .long b.2)] → W p l e ({ frames := 2, cells := 0, slots := 0, locals := 42 }) s m args below meth c H locs 0 0 Q (F0 m 46 ls [])) : ∀ (H : Heap) (locs : List Loc) (ls : Array Slot), va_P D cls (cw ad cc N S) H → va_D A (cw ad cc N S) → va_S A s.heap H locs → lv_has ls 6 [(0, .ref (ad 6 x0)), (3, .long x3), (5, .int x5)] → W p l e ({ frames := 2, cells := 0, slots := 0, locals := 42 }) s m args below meth c H locs 0 0 Q (F0 m 5 ls []) := by
  refine lp_w (G := fun a : CS × Int64 × Int32 => ∀ (H : Heap) (locs : List Loc) (ls : Array Slot), va_P D cls (cw ad cc N a.1) H → va_D A (cw ad cc N a.1) → va_S A s.heap H locs → lv_has ls 6 [(0, .ref (ad 6 x0)), (3, .long a.2.1), (5, .int a.2.2)] → W p l e ({ frames := 2, cells := 0, slots := 0, locals := 42 }) s m args below meth c H locs 0 0 Q (F0 m 5 ls [])) ?_ FU (S, x3, x5) Heq
  intro a o1 ho Ka Ke
  exact w_cSv_emitNumber_B5 hC ho (fun b h => Ka b h) (fun b h => K0 b (Ke _ h).symm)
def m_cSv_emitNumber_J46 (N : Nat → Nat) (x0 : Nat) (S : CS) (x3 : Int64) : Option CS := gl x0 (N 6) (ob (m_cSv_emit N x0 S x3.toInt32) (fun o_1 => some o_1))
theorem d_cSv_emitNumber_46 : decode prog_8_method_6_code 46 = .ok (.aload_n 0, 1) := by decide +kernel
theorem d_cSv_emitNumber_47 : decode prog_8_method_6_code 47 = .ok (.lload_n 3, 1) := by decide +kernel
theorem d_cSv_emitNumber_48 : decode prog_8_method_6_code 48 = .ok (.l2i, 1) := by decide +kernel
theorem d_cSv_emitNumber_49 : decode prog_8_method_6_code 49 = .ok (.invokevirtual 86, 3) := by decide +kernel
theorem d_cSv_emitNumber_52 : decode prog_8_method_6_code 52 = .ok (.return_, 1) := by decide +kernel
set_option maxHeartbeats 4000000 in
set_option maxRecDepth 100000 in
theorem w_cSv_emitNumber_J46 {p : Program} {l : Launch} {e : Env} {s : State} {m : MethodId} {args : Array Value} {below : List Frame} {meth : Method} {c : Code} {A : Nat → Prop} {D : va_G} {ad : Nat → Nat → Nat} {cc : Nat → ClassId} {sad sav : Nat → Nat} {Q : State → Prop} (hC : MCc sad sav "JoinedTrees$Saver" prog_8_method_6_code 6 none p s m args meth c A D cc) {N : Nat → Nat} {x0 : Nat} {S : CS} {x3 : Int64} {o : CS} (Heq : m_cSv_emitNumber_J46 N x0 S x3 = some o) (Kr : ∀ r : CS, o = r → ∀ (pc : Nat) (H : Heap) (locs : List Loc) (ls : Array Slot), decode prog_8_method_6_code pc = .ok (.return_, 1) → va_P D cls (cw ad cc N r) H → va_D A (cw ad cc N r) → va_S A s.heap H locs → W p l e ({ frames := 2, cells := 0, slots := 0, locals := 42 }) s m args below meth c H locs 0 0 Q (F0 m pc ls [])) : ∀ (H : Heap) (locs : List Loc) (ls : Array Slot), va_P D cls (cw ad cc N S) H → va_D A (cw ad cc N S) → va_S A s.heap H locs → lv_has ls 6 [(0, .ref (ad 6 x0)), (3, .long x3)] → W p l e ({ frames := 2, cells := 0, slots := 0, locals := 42 }) s m args below meth c H locs 0 0 Q (F0 m 46 ls []) := by
  intro H locs ls hP hD hS hl
  obtain ⟨hx, hb, hr, hml, hown, hts, hK, hA, hev, hE, hN, hNS⟩ := id hC
  unfold m_cSv_emitNumber_J46 at Heq
  refine lv_aload_n hx hb d_cSv_emitNumber_46 rfl (lv_at hl 0 rfl) ?_
  refine lv_lload_n hx hb d_cSv_emitNumber_47 rfl (lv_at hl 1 rfl) ?_
  refine lv_l2i hx hb d_cSv_emitNumber_48 rfl ?_
  refine w_i (y := x3.toInt32) rfl ?_
  obtain ⟨hl_x0_6, Heq⟩ := gl_some Heq
  obtain ⟨o_1, h_2, Heq⟩ := ob_some Heq
  have hFc := fr_all hD hS hA
  refine va_callv (va_runV (As := [.int x3.toInt32]) (rest := []) ⟨hx, hb, hml, hown, hts⟩ (g_cSv_emit l D H.size (ad := ad) (cc := cc) (sad := sad) (sav := sav) h_2) (cw_v 1 hts kw_1288 kw_1285 kw_1286 kw_1287 kw_10 rfl rfl (by decide +kernel) ⟨Nat.le_of_ble_eq_true rfl, Nat.le_of_ble_eq_true rfl⟩) ⟨c_blind, va_recv hK hP (ci := 6) (q0 := cPos N 6 x0) rfl (cw_obj (k := 6) (by decide) hl_x0_6), fun U hU hW => c_pre hU hW hP hK hD hev hE hN hNS hS hFc⟩ rfl rfl hl.1 rfl (lv_room (Nat.le_of_ble_eq_true rfl)) d_cSv_emitNumber_49 ⟨Nat.le_of_ble_eq_true rfl, Nat.le_of_ble_eq_true rfl⟩) hS (fun q _ h => hFc q h) hFc (fun u t H1 locs ht hvm hw hB hz1 hk1 hS => ?_)
  obtain ⟨hP, -, hD1⟩ := hB
  rw [ht] at hP
  have hD := hD1.weaken (fun _ q _ h => hFc q.1 h)
  generalize H1 = H at hP hS ⊢
  refine W.cs (cells' := 0) (slots' := 0) rfl rfl ?_
  exact Kr _ (Option.some.inj Heq).symm 52 _ _ _ d_cSv_emitNumber_52 hP hD hS
def m_cSv_emitNumber_J0 (N : Nat → Nat) (x0 : Nat) (S : CS) (x1 : Int64) : Option CS := ob (m_cSv_emitNumber_L5 N x0 S x1 0) (fun b_1 => m_cSv_emitNumber_J46 N x0 b_1.1 b_1.2)
set_option maxHeartbeats 4000000 in
set_option maxRecDepth 100000 in
theorem w_cSv_emitNumber_J0 {p : Program} {l : Launch} {e : Env} {s : State} {m : MethodId} {args : Array Value} {below : List Frame} {meth : Method} {c : Code} {A : Nat → Prop} {D : va_G} {ad : Nat → Nat → Nat} {cc : Nat → ClassId} {sad sav : Nat → Nat} {Q : State → Prop} (hC : MCc sad sav "JoinedTrees$Saver" prog_8_method_6_code 6 none p s m args meth c A D cc) {N : Nat → Nat} {x0 : Nat} {S : CS} {x1 : Int64} {o : CS} (Heq : m_cSv_emitNumber_J0 N x0 S x1 = some o) (Kr : ∀ r : CS, o = r → ∀ (pc : Nat) (H : Heap) (locs : List Loc) (ls : Array Slot), decode prog_8_method_6_code pc = .ok (.return_, 1) → va_P D cls (cw ad cc N r) H → va_D A (cw ad cc N r) → va_S A s.heap H locs → W p l e ({ frames := 2, cells := 0, slots := 0, locals := 42 }) s m args below meth c H locs 0 0 Q (F0 m pc ls [])) : ∀ (H : Heap) (locs : List Loc) (ls : Array Slot), va_P D cls (cw ad cc N S) H → va_D A (cw ad cc N S) → va_S A s.heap H locs → lv_has ls 6 [(0, .ref (ad 6 x0)), (1, .long x1)] → W p l e ({ frames := 2, cells := 0, slots := 0, locals := 42 }) s m args below meth c H locs 0 0 Q (F0 m 0 ls []) := by
  intro H locs ls hP hD hS hl
  obtain ⟨hx, hb, hr, hml, hown, hts, hK, hA, hev, hE, hN, hNS⟩ := id hC
  unfold m_cSv_emitNumber_J0 at Heq
  refine lv_lload_n hx hb d_cSv_emitNumber_0 rfl (lv_at hl 1 rfl) ?_
  refine lv_lstore_n (lv' := [(3, .long x1), (0, .ref (ad 6 x0)), (1, .long x1)]) hx hb d_cSv_emitNumber_1 rfl hl (by decide) rfl (fun ls hl => ?_)
  refine lv_iconst (v := 0) hx hb d_cSv_emitNumber_2 (by decide) ?_
  refine lv_istore (lv' := [(5, .int 0), (3, .long x1), (0, .ref (ad 6 x0)), (1, .long x1)]) hx hb d_cSv_emitNumber_3 hl (by decide) rfl (fun ls hl => ?_)
  obtain ⟨b_1, h_2, Heq⟩ := ob_some Heq
  refine w_cSv_emitNumber_L5 hC h_2 (fun b h => ?_) _ _ _ hP hD hS (lv_sub hl [2, 1, 0] rfl)
  subst h
  intro H locs ls hP hD hS hl
  exact w_cSv_emitNumber_J46 hC Heq Kr _ _ _ hP hD hS (lv_sub hl [0, 1] rfl)
def m_cSv_emitNumber (N : Nat → Nat) (x0 : Nat) (S : CS) (x1 : Int64) : Option CS := m_cSv_emitNumber_J0 N x0 S x1
set_option maxHeartbeats 4000000 in
theorem g_cSv_emitNumber (l : Launch) (D : va_G) (sz : Nat) {ad : Nat → Nat → Nat} {cc : Nat → ClassId} {sad sav : Nat → Nat} {N : Nat → Nat} {x0 : Nat} {S : CS} {x1 : Int64} {o : CS} (Heq : m_cSv_emitNumber N x0 S x1 = some o) : Met l ⟨"JoinedTrees$Saver", "emitNumber", "(J)V"⟩ (Cond.code ⟨"JoinedTrees$Saver", "emitNumber", "(J)V"⟩ prog_8_method_6_code 6 none :: gb) ({ frames := 2, cells := 0, slots := 0, locals := 42 }) (cPc sad sav D (cw ad cc N S) (cty cc) sz [.ref (ad 6 x0), .long x1]) (va_Qv (fun _ : Unit => True) (fun _ t => gO D (cw ad cc N o) (cty cc) (va_A (cw ad cc N S) sz) t) (va_A (cw ad cc N S) sz)) 0 0 (va_A (cw ad cc N S) sz) := by
  refine Met.ofW (cc := prog_8_method_6_code) (maxL := 6) (ret := none) (by decide) rfl ?_
  intro p e s m args below meth c s₁ B hml hv
  obtain ⟨rfl, hsz, hP, hK, hD0, hev, hE, hN⟩ := hv
  have hx := B.exec
  have hb := B.bytes
  have hr := B.returns
  have hts : ∀ w9 ∈ gb, w9.before [.ref (ad 6 x0), .long x1].toArray s = true := fun w9 h => atoms_spec (ws := Cond.code ⟨"JoinedTrees$Saver", "emitNumber", "(J)V"⟩ prog_8_method_6_code 6 none :: gb) B.pre w9 (List.mem_cons_of_mem _ h)
  have hown : s.vm.findClass "JoinedTrees$Saver" = some m.cls := findClass_of_methodNamed B.named
  have hlocks := B.notSynchronized
  have hNS := ns_of hP
  subst hsz
  have hD := hD0.self (sz := s.heap.size)
  generalize hAe : va_A (cw ad cc N S) s.heap.size = A at hD hev hE hNS ⊢
  have hA : ∀ q : Nat, s.heap.size ≤ q → A q := fun q h => by rw [← hAe]; exact Or.inr h
  have hS : va_S A s.heap s.heap [] := va_S.rf
  obtain ⟨ls, hl, hle⟩ : ∃ ls : Array Slot, lv_has ls 6 [(0, .ref (ad 6 x0)), (1, .long x1)] ∧ entryFrame m ([.ref (ad 6 x0), .long x1] : List Value).toArray 6 = F0 m 0 ls [] := by
    exact ⟨_, lv_entry (n := 6) _ (Nat.le_of_ble_eq_true rfl), lg_entry_eq ..⟩
  rw [hle]
  refine w_cSv_emitNumber_J0 ⟨hx, hb, hr, hml, hown, hts, hK, hA, hev, hE, hN, hNS⟩ Heq (fun r h pc H locs ls hd hP hD hS => ?_) _ _ _ hP hD hS (lv_sub hl [0, 1] rfl)
  subst h
  exact W.vret hx hb hr (fun t ht hW => ⟨⟨(), rfl, trivial, by rw [ht]; exact hP, va_K.moved hW.alike hK, hD⟩, hS.F ht⟩) hS.2.2 hd
def m_cSv_emitBytes_B2 (N : Nat → Nat) (x0 : Nat) (S : CS) (x1 : Int32) (x2 : Int32) (x3 : Int32) : Option ((CS × Int32 × Int32 × Int32) ⊕ CS) := (if x2 ≤ x3 then some (.inr (S)) else gl x0 (N 6) (gn (S.r 6 0 x0) (N 8) (fun j_2 => gn (S.r 8 2 j_2) (N 5) (fun j_5 => ob (m_cRw_at N j_5 S (x1 + x3)) (fun o_8 => ob (m_cSv_emit N x0 o_8.1 o_8.2) (fun o_10 => some (.inl (o_10, x1, x2, (x3 + 1)))))))))
theorem d_cSv_emitBytes_0 : decode prog_8_method_7_code 0 = .ok (.iconst 0, 1) := by decide +kernel
theorem d_cSv_emitBytes_1 : decode prog_8_method_7_code 1 = .ok (.istore_n 3, 1) := by decide +kernel
theorem d_cSv_emitBytes_2 : decode prog_8_method_7_code 2 = .ok (.iload_n 3, 1) := by decide +kernel
theorem d_cSv_emitBytes_3 : decode prog_8_method_7_code 3 = .ok (.iload_n 2, 1) := by decide +kernel
theorem d_cSv_emitBytes_4 : decode prog_8_method_7_code 4 = .ok (.if_icmp .ge 26, 3) := by decide +kernel
theorem d_cSv_emitBytes_7 : decode prog_8_method_7_code 7 = .ok (.aload_n 0, 1) := by decide +kernel
theorem d_cSv_emitBytes_8 : decode prog_8_method_7_code 8 = .ok (.aload_n 0, 1) := by decide +kernel
theorem d_cSv_emitBytes_9 : decode prog_8_method_7_code 9 = .ok (.getfield 15, 3) := by decide +kernel
theorem d_cSv_emitBytes_12 : decode prog_8_method_7_code 12 = .ok (.getfield 100, 3) := by decide +kernel
theorem d_cSv_emitBytes_15 : decode prog_8_method_7_code 15 = .ok (.iload_n 1, 1) := by decide +kernel
theorem d_cSv_emitBytes_16 : decode prog_8_method_7_code 16 = .ok (.iload_n 3, 1) := by decide +kernel
theorem d_cSv_emitBytes_17 : decode prog_8_method_7_code 17 = .ok (.iadd, 1) := by decide +kernel
theorem d_cSv_emitBytes_18 : decode prog_8_method_7_code 18 = .ok (.invokevirtual 84, 3) := by decide +kernel
theorem d_cSv_emitBytes_21 : decode prog_8_method_7_code 21 = .ok (.invokevirtual 86, 3) := by decide +kernel
theorem d_cSv_emitBytes_24 : decode prog_8_method_7_code 24 = .ok (.iinc 3 1, 3) := by decide +kernel
theorem d_cSv_emitBytes_27 : decode prog_8_method_7_code 27 = .ok (.goto (-25), 3) := by decide +kernel
set_option maxHeartbeats 4000000 in
set_option maxRecDepth 100000 in
theorem w_cSv_emitBytes_B2 {p : Program} {l : Launch} {e : Env} {s : State} {m : MethodId} {args : Array Value} {below : List Frame} {meth : Method} {c : Code} {A : Nat → Prop} {D : va_G} {ad : Nat → Nat → Nat} {cc : Nat → ClassId} {sad sav : Nat → Nat} {Q : State → Prop} (hC : MCc sad sav "JoinedTrees$Saver" prog_8_method_7_code 4 none p s m args meth c A D cc) {N : Nat → Nat} {x0 : Nat} {S : CS} {x1 : Int32} {x2 : Int32} {x3 : Int32} {o : ((CS × Int32 × Int32 × Int32) ⊕ CS)} (Heq : m_cSv_emitBytes_B2 N x0 S x1 x2 x3 = some o) (Ka : ∀ b : CS × Int32 × Int32 × Int32, o = .inl b → ∀ (H : Heap) (locs : List Loc) (ls : Array Slot), va_P D cls (cw ad cc N b.1) H → va_D A (cw ad cc N b.1) → va_S A s.heap H locs → lv_has ls 4 [(0, .ref (ad 6 x0)), (1, .int b.2.1), (2, .int b.2.2.1), (3, .int b.2.2.2)] → W p l e ({ frames := 2, cells := 0, slots := 0, locals := 42 }) s m args below meth c H locs 0 0 Q (F0 m 2 ls [])) (K0 : ∀ b : CS, o = .inr b → ∀ (H : Heap) (locs : List Loc) (ls : Array Slot), va_P D cls (cw ad cc N b) H → va_D A (cw ad cc N b) → va_S A s.heap H locs → lv_has ls 4 [(0, .ref (ad 6 x0))] → W p l e ({ frames := 2, cells := 0, slots := 0, locals := 42 }) s m args below meth c H locs 0 0 Q (F0 m 30 ls [])) : ∀ (H : Heap) (locs : List Loc) (ls : Array Slot), va_P D cls (cw ad cc N S) H → va_D A (cw ad cc N S) → va_S A s.heap H locs → lv_has ls 4 [(0, .ref (ad 6 x0)), (1, .int x1), (2, .int x2), (3, .int x3)] → W p l e ({ frames := 2, cells := 0, slots := 0, locals := 42 }) s m args below meth c H locs 0 0 Q (F0 m 2 ls []) := by
  intro H locs ls hP hD hS hl
  obtain ⟨hx, hb, hr, hml, hown, hts, hK, hA, hev, hE, hN, hNS⟩ := id hC
  unfold m_cSv_emitBytes_B2 at Heq
  refine lv_iload_n hx hb d_cSv_emitBytes_2 rfl (lv_at hl 3 rfl) ?_
  refine lv_iload_n hx hb d_cSv_emitBytes_3 rfl (lv_at hl 2 rfl) ?_
  refine lv_icmp_ge (tgt := 30) hx hb d_cSv_emitBytes_4 (by decide) (fun c_1 => ?_) (fun c_1 => ?_)
  · replace Heq := (if_pos c_1).symm.trans Heq
    exact K0 _ (Option.some.inj Heq).symm _ _ _ hP hD hS (lv_sub hl [0] rfl)
  · replace Heq := (if_neg c_1).symm.trans Heq
    refine lv_aload_n hx hb d_cSv_emitBytes_7 rfl (lv_at hl 0 rfl) ?_
    refine lv_aload_n hx hb d_cSv_emitBytes_8 rfl (lv_at hl 0 rfl) ?_
    obtain ⟨hl_x0_6, Heq⟩ := gl_some Heq
    refine va_get (D := D) (ci := 6) (v := rv ad 8 (S.r 6 0 x0)) (C := R_Sv) (T := F_Sv) (N := 6) hx hb hts i_Sv hown hK hP (cPos N 6 x0) (cw_obj (k := 6) (by decide) hl_x0_6) rfl 0 (by decide) (hts _ kw_401) (fun _ h9 => h9) rfl d_cSv_emitBytes_9 ?_
    obtain ⟨j_2, hj_3, hl_4, Heq⟩ := gn_some Heq
    refine w_s (st' := [.ref (ad 8 j_2), .ref (ad 6 x0)]) (congrArg (fun z9 : Option Nat => [rv ad 8 z9, .ref (ad 6 x0)]) hj_3) ?_
    refine va_get (D := D) (ci := 8) (v := rv ad 5 (S.r 8 2 j_2)) (C := R_St) (T := F_St) (N := 6) hx hb hts i_St hown hK hP (cPos N 8 j_2) (cw_obj (k := 8) (by decide) hl_4) rfl 2 (by decide) (hts _ kw_168) (fun _ h9 => h9) rfl d_cSv_emitBytes_12 ?_
    refine lv_iload_n hx hb d_cSv_emitBytes_15 rfl (lv_at hl 1 rfl) ?_
    refine lv_iload_n hx hb d_cSv_emitBytes_16 rfl (lv_at hl 3 rfl) ?_
    refine lv_iadd hx hb d_cSv_emitBytes_17 ?_
    refine w_i (y := x1 + x3) rfl ?_
    obtain ⟨j_5, hj_6, hl_7, Heq⟩ := gn_some Heq
    refine w_s (st' := [.int (x1 + x3), .ref (ad 5 j_5), .ref (ad 6 x0)]) (congrArg (fun z9 : Option Nat => [.int (x1 + x3), rv ad 5 z9, .ref (ad 6 x0)]) hj_6) ?_
    obtain ⟨o_8, h_9, Heq⟩ := ob_some Heq
    have hFc := fr_all hD hS hA
    refine va_calli (va_runV (As := [.int (x1 + x3)]) (rest := [.ref (ad 6 x0)]) ⟨hx, hb, hml, hown, hts⟩ (g_cRw_at l D H.size (ad := ad) (cc := cc) (sad := sad) (sav := sav) h_9) (cw_v 1 hts kw_689 kw_1290 kw_687 kw_688 kw_4 rfl rfl (by decide +kernel) ⟨Nat.le_of_ble_eq_true rfl, Nat.le_of_ble_eq_true rfl⟩) ⟨c_blind, va_recv hK hP (ci := 5) (q0 := cPos N 5 j_5) rfl (cw_obj (k := 5) (by decide) hl_7), fun U hU hW => c_pre hU hW hP hK hD hev hE hN hNS hS hFc⟩ rfl rfl hl.1 rfl (lv_room (Nat.le_of_ble_eq_true rfl)) d_cSv_emitBytes_18 ⟨Nat.le_of_ble_eq_true rfl, Nat.le_of_ble_eq_true rfl⟩) hS (fun q _ h => hFc q h) hFc (fun rz u t H1 locs ht hvm hw hB hz1 hk1 hS => ?_)
    obtain ⟨hP, -, hD1⟩ := hB
    rw [ht] at hP
    have hD := hD1.weaken (fun _ q _ h => hFc q.1 h)
    generalize H1 = H at hP hS ⊢
    refine W.cs (cells' := 0) (slots' := 0) rfl rfl ?_
    subst hw
    obtain ⟨o_10, h_11, Heq⟩ := ob_some Heq
    have hFc := fr_all hD hS hA
    refine va_callv (va_runV (As := [.int o_8.2]) (rest := []) ⟨hx, hb, hml, hown, hts⟩ (g_cSv_emit l D H.size (ad := ad) (cc := cc) (sad := sad) (sav := sav) h_11) (cw_v 1 hts kw_1288 kw_1285 kw_1286 kw_1287 kw_10 rfl rfl (by decide +kernel) ⟨Nat.le_of_ble_eq_true rfl, Nat.le_of_ble_eq_true rfl⟩) ⟨c_blind, va_recv hK hP (ci := 6) (q0 := cPos N 6 x0) rfl (cw_obj (k := 6) (by decide) hl_x0_6), fun U hU hW => c_pre hU hW hP hK hD hev hE hN hNS hS hFc⟩ rfl rfl hl.1 rfl (lv_room (Nat.le_of_ble_eq_true rfl)) d_cSv_emitBytes_21 ⟨Nat.le_of_ble_eq_true rfl, Nat.le_of_ble_eq_true rfl⟩) hS (fun q _ h => hFc q h) hFc (fun u t H1 locs ht hvm hw hB hz1 hk1 hS => ?_)
    obtain ⟨hP, -, hD1⟩ := hB
    rw [ht] at hP
    have hD := hD1.weaken (fun _ q _ h => hFc q.1 h)
    generalize H1 = H at hP hS ⊢
    refine W.cs (cells' := 0) (slots' := 0) rfl rfl ?_
    refine lv_iinc (v := x3 + 1) (lv' := [(3, .int (x3 + 1)), (0, .ref (ad 6 x0)), (1, .int x1), (2, .int x2)]) hx hb d_cSv_emitBytes_24 hl (k := 3) rfl rfl (by decide) rfl (fun ls hl => ?_)
    refine lv_goto (tgt := 2) hx hb d_cSv_emitBytes_27 (by decide) ?_
    exact Ka _ (Option.some.inj Heq).symm _ _ _ hP hD hS (lv_sub hl [1, 2, 3, 0] rfl)
def m_cSv_emitBytes_L2 (N : Nat → Nat) (x0 : Nat) (S : CS) (x1 : Int32) (x2 : Int32) (x3 : Int32) : Option CS := lp (fun a : CS × Int32 × Int32 × Int32 => m_cSv_emitBytes_B2 N x0 a.1 a.2.1 a.2.2.1 a.2.2.2) FU (S, x1, x2, x3)
theorem w_cSv_emitBytes_L2 {p : Program} {l : Launch} {e : Env} {s : State} {m : MethodId} {args : Array Value} {below : List Frame} {meth : Method} {c : Code} {A : Nat → Prop} {D : va_G} {ad : Nat → Nat → Nat} {cc : Nat → ClassId} {sad sav : Nat → Nat} {Q : State → Prop} (hC : MCc sad sav "JoinedTrees$Saver" prog_8_method_7_code 4 none p s m args meth c A D cc) {N : Nat → Nat} {x0 : Nat} {S : CS} {x1 : Int32} {x2 : Int32} {x3 : Int32} {o : CS} (Heq : m_cSv_emitBytes_L2 N x0 S x1 x2 x3 = some o) (K0 : ∀ b : CS, o = b → ∀ (H : Heap) (locs : List Loc) (ls : Array Slot), va_P D cls (cw ad cc N b) H → va_D A (cw ad cc N b) → va_S A s.heap H locs → lv_has ls 4 [(0, .ref (ad 6 x0))] → W p l e ({ frames := 2, cells := 0, slots := 0, locals := 42 }) s m args below meth c H locs 0 0 Q (F0 m 30 ls [])) : ∀ (H : Heap) (locs : List Loc) (ls : Array Slot), va_P D cls (cw ad cc N S) H → va_D A (cw ad cc N S) → va_S A s.heap H locs → lv_has ls 4 [(0, .ref (ad 6 x0)), (1, .int x1), (2, .int x2), (3, .int x3)] → W p l e ({ frames := 2, cells := 0, slots := 0, locals := 42 }) s m args below meth c H locs 0 0 Q (F0 m 2 ls []) := by
  refine lp_w (G := fun a : CS × Int32 × Int32 × Int32 => ∀ (H : Heap) (locs : List Loc) (ls : Array Slot), va_P D cls (cw ad cc N a.1) H → va_D A (cw ad cc N a.1) → va_S A s.heap H locs → lv_has ls 4 [(0, .ref (ad 6 x0)), (1, .int a.2.1), (2, .int a.2.2.1), (3, .int a.2.2.2)] → W p l e ({ frames := 2, cells := 0, slots := 0, locals := 42 }) s m args below meth c H locs 0 0 Q (F0 m 2 ls [])) ?_ FU (S, x1, x2, x3) Heq
  intro a o1 ho Ka Ke
  exact w_cSv_emitBytes_B2 hC ho (fun b h => Ka b h) (fun b h => K0 b (Ke _ h).symm)
def m_cSv_emitBytes_J0 (N : Nat → Nat) (x0 : Nat) (S : CS) (x1 : Int32) (x2 : Int32) : Option CS := ob (m_cSv_emitBytes_L2 N x0 S x1 x2 0) (fun b_1 => some b_1)
theorem d_cSv_emitBytes_30 : decode prog_8_method_7_code 30 = .ok (.return_, 1) := by decide +kernel
set_option maxHeartbeats 4000000 in
set_option maxRecDepth 100000 in
theorem w_cSv_emitBytes_J0 {p : Program} {l : Launch} {e : Env} {s : State} {m : MethodId} {args : Array Value} {below : List Frame} {meth : Method} {c : Code} {A : Nat → Prop} {D : va_G} {ad : Nat → Nat → Nat} {cc : Nat → ClassId} {sad sav : Nat → Nat} {Q : State → Prop} (hC : MCc sad sav "JoinedTrees$Saver" prog_8_method_7_code 4 none p s m args meth c A D cc) {N : Nat → Nat} {x0 : Nat} {S : CS} {x1 : Int32} {x2 : Int32} {o : CS} (Heq : m_cSv_emitBytes_J0 N x0 S x1 x2 = some o) (Kr : ∀ r : CS, o = r → ∀ (pc : Nat) (H : Heap) (locs : List Loc) (ls : Array Slot), decode prog_8_method_7_code pc = .ok (.return_, 1) → va_P D cls (cw ad cc N r) H → va_D A (cw ad cc N r) → va_S A s.heap H locs → W p l e ({ frames := 2, cells := 0, slots := 0, locals := 42 }) s m args below meth c H locs 0 0 Q (F0 m pc ls [])) : ∀ (H : Heap) (locs : List Loc) (ls : Array Slot), va_P D cls (cw ad cc N S) H → va_D A (cw ad cc N S) → va_S A s.heap H locs → lv_has ls 4 [(0, .ref (ad 6 x0)), (1, .int x1), (2, .int x2)] → W p l e ({ frames := 2, cells := 0, slots := 0, locals := 42 }) s m args below meth c H locs 0 0 Q (F0 m 0 ls []) := by
  intro H locs ls hP hD hS hl
  obtain ⟨hx, hb, hr, hml, hown, hts, hK, hA, hev, hE, hN, hNS⟩ := id hC
  unfold m_cSv_emitBytes_J0 at Heq
  refine lv_iconst (v := 0) hx hb d_cSv_emitBytes_0 (by decide) ?_
  refine lv_istore_n (lv' := [(3, .int 0), (0, .ref (ad 6 x0)), (1, .int x1), (2, .int x2)]) hx hb d_cSv_emitBytes_1 rfl hl (by decide) rfl (fun ls hl => ?_)
  obtain ⟨b_1, h_2, Heq⟩ := ob_some Heq
  refine w_cSv_emitBytes_L2 hC h_2 (fun b h => ?_) _ _ _ hP hD hS (lv_sub hl [1, 2, 3, 0] rfl)
  subst h
  intro H locs ls hP hD hS hl
  exact Kr _ (Option.some.inj Heq).symm 30 _ _ _ d_cSv_emitBytes_30 hP hD hS
def m_cSv_emitBytes (N : Nat → Nat) (x0 : Nat) (S : CS) (x1 : Int32) (x2 : Int32) : Option CS := m_cSv_emitBytes_J0 N x0 S x1 x2
set_option maxHeartbeats 4000000 in
theorem g_cSv_emitBytes (l : Launch) (D : va_G) (sz : Nat) {ad : Nat → Nat → Nat} {cc : Nat → ClassId} {sad sav : Nat → Nat} {N : Nat → Nat} {x0 : Nat} {S : CS} {x1 : Int32} {x2 : Int32} {o : CS} (Heq : m_cSv_emitBytes N x0 S x1 x2 = some o) : Met l ⟨"JoinedTrees$Saver", "emitBytes", "(II)V"⟩ (Cond.code ⟨"JoinedTrees$Saver", "emitBytes", "(II)V"⟩ prog_8_method_7_code 4 none :: gb) ({ frames := 2, cells := 0, slots := 0, locals := 42 }) (cPc sad sav D (cw ad cc N S) (cty cc) sz [.ref (ad 6 x0), .int x1, .int x2]) (va_Qv (fun _ : Unit => True) (fun _ t => gO D (cw ad cc N o) (cty cc) (va_A (cw ad cc N S) sz) t) (va_A (cw ad cc N S) sz)) 0 0 (va_A (cw ad cc N S) sz) := by
  refine Met.ofW (cc := prog_8_method_7_code) (maxL := 4) (ret := none) (by decide) rfl ?_
  intro p e s m args below meth c s₁ B hml hv
  obtain ⟨rfl, hsz, hP, hK, hD0, hev, hE, hN⟩ := hv
  have hx := B.exec
  have hb := B.bytes
  have hr := B.returns
  have hts : ∀ w9 ∈ gb, w9.before [.ref (ad 6 x0), .int x1, .int x2].toArray s = true := fun w9 h => atoms_spec (ws := Cond.code ⟨"JoinedTrees$Saver", "emitBytes", "(II)V"⟩ prog_8_method_7_code 4 none :: gb) B.pre w9 (List.mem_cons_of_mem _ h)
  have hown : s.vm.findClass "JoinedTrees$Saver" = some m.cls := findClass_of_methodNamed B.named
  have hlocks := B.notSynchronized
  have hNS := ns_of hP
  subst hsz
  have hD := hD0.self (sz := s.heap.size)
  generalize hAe : va_A (cw ad cc N S) s.heap.size = A at hD hev hE hNS ⊢
  have hA : ∀ q : Nat, s.heap.size ≤ q → A q := fun q h => by rw [← hAe]; exact Or.inr h
  have hS : va_S A s.heap s.heap [] := va_S.rf
  obtain ⟨ls, hl, hle⟩ : ∃ ls : Array Slot, lv_has ls 4 [(0, .ref (ad 6 x0)), (1, .int x1), (2, .int x2)] ∧ entryFrame m ([.ref (ad 6 x0), .int x1, .int x2] : List Value).toArray 4 = F0 m 0 ls [] := by
    exact ⟨_, lv_entry (n := 4) _ (Nat.le_of_ble_eq_true rfl), lg_entry_eq ..⟩
  rw [hle]
  refine w_cSv_emitBytes_J0 ⟨hx, hb, hr, hml, hown, hts, hK, hA, hev, hE, hN, hNS⟩ Heq (fun r h pc H locs ls hd hP hD hS => ?_) _ _ _ hP hD hS (lv_sub hl [0, 1, 2] rfl)
  subst h
  exact W.vret hx hb hr (fun t ht hW => ⟨⟨(), rfl, trivial, by rw [ht]; exact hP, va_K.moved hW.alike hK, hD⟩, hS.F ht⟩) hS.2.2 hd
def m_cOp_hasLong_J30 (N : Nat → Nat) (x0 : Nat) (S : CS) (t0 : Int32) : Option (CS × Int32) := (if t0 = 0 ∨ t0 = 1 then some (S, t0) else none)
theorem d_cOp_hasLong_0 : decode prog_5_method_3_code 0 = .ok (.aload_n 0, 1) := by decide +kernel
theorem d_cOp_hasLong_1 : decode prog_5_method_3_code 1 = .ok (.getfield 19, 3) := by decide +kernel
theorem d_cOp_hasLong_4 : decode prog_5_method_3_code 4 = .ok (.iconst 3, 1) := by decide +kernel
theorem d_cOp_hasLong_5 : decode prog_5_method_3_code 5 = .ok (.if_icmp .eq 20, 3) := by decide +kernel
theorem d_cOp_hasLong_25 : decode prog_5_method_3_code 25 = .ok (.iconst 1, 1) := by decide +kernel
theorem d_cOp_hasLong_26 : decode prog_5_method_3_code 26 = .ok (.goto 4, 3) := by decide +kernel
theorem d_cOp_hasLong_30 : decode prog_5_method_3_code 30 = .ok (.ireturn, 1) := by decide +kernel
set_option maxHeartbeats 4000000 in
set_option maxRecDepth 100000 in
theorem w_cOp_hasLong_J30 {p : Program} {l : Launch} {e : Env} {s : State} {m : MethodId} {args : Array Value} {below : List Frame} {meth : Method} {c : Code} {A : Nat → Prop} {D : va_G} {ad : Nat → Nat → Nat} {cc : Nat → ClassId} {sad sav : Nat → Nat} {Q : State → Prop} (hC : MCc sad sav "JoinedTrees$Op" prog_5_method_3_code 1 (some .boolean) p s m args meth c A D cc) {N : Nat → Nat} {x0 : Nat} {S : CS} {t0 : Int32} {o : CS × Int32} (Heq : m_cOp_hasLong_J30 N x0 S t0 = some o) (Kr : ∀ r : CS × Int32, o = r → ∀ (pc : Nat) (H : Heap) (locs : List Loc) (ls : Array Slot), decode prog_5_method_3_code pc = .ok (.ireturn, 1) → (r.2 = 0 ∨ r.2 = 1) → va_P D cls (cw ad cc N r.1) H → va_D A (cw ad cc N r.1) → va_S A s.heap H locs → W p l e ({ frames := 0, cells := 0, slots := 0, locals := 0 }) s m args below meth c H locs 0 0 Q (F0 m pc ls [.int r.2])) : ∀ (H : Heap) (locs : List Loc) (ls : Array Slot), va_P D cls (cw ad cc N S) H → va_D A (cw ad cc N S) → va_S A s.heap H locs → lv_has ls 1 [(0, .ref (ad 3 x0))] → W p l e ({ frames := 0, cells := 0, slots := 0, locals := 0 }) s m args below meth c H locs 0 0 Q (F0 m 30 ls [.int t0]) := by
  intro H locs ls hP hD hS hl
  obtain ⟨hx, hb, hr, hml, hown, hts, hK, hA, hev, hE, hN, hNS⟩ := id hC
  unfold m_cOp_hasLong_J30 at Heq
  by_cases hz_1 : t0 = 0 ∨ t0 = 1
  case neg => rw [if_neg hz_1] at Heq; cases Heq
  replace Heq := (if_pos hz_1).symm.trans Heq
  exact Kr _ (Option.some.inj Heq).symm 30 _ _ _ d_cOp_hasLong_30 hz_1 hP hD hS
def m_cOp_hasLong_J25 (N : Nat → Nat) (x0 : Nat) (S : CS) : Option (CS × Int32) := m_cOp_hasLong_J30 N x0 S 1
set_option maxHeartbeats 4000000 in
set_option maxRecDepth 100000 in
theorem w_cOp_hasLong_J25 {p : Program} {l : Launch} {e : Env} {s : State} {m : MethodId} {args : Array Value} {below : List Frame} {meth : Method} {c : Code} {A : Nat → Prop} {D : va_G} {ad : Nat → Nat → Nat} {cc : Nat → ClassId} {sad sav : Nat → Nat} {Q : State → Prop} (hC : MCc sad sav "JoinedTrees$Op" prog_5_method_3_code 1 (some .boolean) p s m args meth c A D cc) {N : Nat → Nat} {x0 : Nat} {S : CS} {o : CS × Int32} (Heq : m_cOp_hasLong_J25 N x0 S = some o) (Kr : ∀ r : CS × Int32, o = r → ∀ (pc : Nat) (H : Heap) (locs : List Loc) (ls : Array Slot), decode prog_5_method_3_code pc = .ok (.ireturn, 1) → (r.2 = 0 ∨ r.2 = 1) → va_P D cls (cw ad cc N r.1) H → va_D A (cw ad cc N r.1) → va_S A s.heap H locs → W p l e ({ frames := 0, cells := 0, slots := 0, locals := 0 }) s m args below meth c H locs 0 0 Q (F0 m pc ls [.int r.2])) : ∀ (H : Heap) (locs : List Loc) (ls : Array Slot), va_P D cls (cw ad cc N S) H → va_D A (cw ad cc N S) → va_S A s.heap H locs → lv_has ls 1 [(0, .ref (ad 3 x0))] → W p l e ({ frames := 0, cells := 0, slots := 0, locals := 0 }) s m args below meth c H locs 0 0 Q (F0 m 25 ls []) := by
  intro H locs ls hP hD hS hl
  obtain ⟨hx, hb, hr, hml, hown, hts, hK, hA, hev, hE, hN, hNS⟩ := id hC
  unfold m_cOp_hasLong_J25 at Heq
  refine lv_iconst (v := 1) hx hb d_cOp_hasLong_25 (by decide) ?_
  refine lv_goto (tgt := 30) hx hb d_cOp_hasLong_26 (by decide) ?_
  exact w_cOp_hasLong_J30 hC Heq Kr _ _ _ hP hD hS (lv_sub hl [0] rfl)
def m_cOp_hasLong_J0 (N : Nat → Nat) (x0 : Nat) (S : CS) : Option (CS × Int32) := gl x0 (N 3) ((if S.i 3 2 x0 = 3 then m_cOp_hasLong_J25 N x0 S else (if S.i 3 2 x0 = 5 then m_cOp_hasLong_J25 N x0 S else (if S.i 3 2 x0 = 10 then m_cOp_hasLong_J25 N x0 S else m_cOp_hasLong_J30 N x0 S 0))))
theorem d_cOp_hasLong_8 : decode prog_5_method_3_code 8 = .ok (.aload_n 0, 1) := by decide +kernel
theorem d_cOp_hasLong_9 : decode prog_5_method_3_code 9 = .ok (.getfield 19, 3) := by decide +kernel
theorem d_cOp_hasLong_12 : decode prog_5_method_3_code 12 = .ok (.iconst 5, 1) := by decide +kernel
theorem d_cOp_hasLong_13 : decode prog_5_method_3_code 13 = .ok (.if_icmp .eq 12, 3) := by decide +kernel
theorem d_cOp_hasLong_16 : decode prog_5_method_3_code 16 = .ok (.aload_n 0, 1) := by decide +kernel
theorem d_cOp_hasLong_17 : decode prog_5_method_3_code 17 = .ok (.getfield 19, 3) := by decide +kernel
theorem d_cOp_hasLong_20 : decode prog_5_method_3_code 20 = .ok (.bipush 10, 2) := by decide +kernel
theorem d_cOp_hasLong_22 : decode prog_5_method_3_code 22 = .ok (.if_icmp .ne 7, 3) := by decide +kernel
theorem d_cOp_hasLong_29 : decode prog_5_method_3_code 29 = .ok (.iconst 0, 1) := by decide +kernel
set_option maxHeartbeats 4000000 in
set_option maxRecDepth 100000 in
theorem w_cOp_hasLong_J0 {p : Program} {l : Launch} {e : Env} {s : State} {m : MethodId} {args : Array Value} {below : List Frame} {meth : Method} {c : Code} {A : Nat → Prop} {D : va_G} {ad : Nat → Nat → Nat} {cc : Nat → ClassId} {sad sav : Nat → Nat} {Q : State → Prop} (hC : MCc sad sav "JoinedTrees$Op" prog_5_method_3_code 1 (some .boolean) p s m args meth c A D cc) {N : Nat → Nat} {x0 : Nat} {S : CS} {o : CS × Int32} (Heq : m_cOp_hasLong_J0 N x0 S = some o) (Kr : ∀ r : CS × Int32, o = r → ∀ (pc : Nat) (H : Heap) (locs : List Loc) (ls : Array Slot), decode prog_5_method_3_code pc = .ok (.ireturn, 1) → (r.2 = 0 ∨ r.2 = 1) → va_P D cls (cw ad cc N r.1) H → va_D A (cw ad cc N r.1) → va_S A s.heap H locs → W p l e ({ frames := 0, cells := 0, slots := 0, locals := 0 }) s m args below meth c H locs 0 0 Q (F0 m pc ls [.int r.2])) : ∀ (H : Heap) (locs : List Loc) (ls : Array Slot), va_P D cls (cw ad cc N S) H → va_D A (cw ad cc N S) → va_S A s.heap H locs → lv_has ls 1 [(0, .ref (ad 3 x0))] → W p l e ({ frames := 0, cells := 0, slots := 0, locals := 0 }) s m args below meth c H locs 0 0 Q (F0 m 0 ls []) := by
  intro H locs ls hP hD hS hl
  obtain ⟨hx, hb, hr, hml, hown, hts, hK, hA, hev, hE, hN, hNS⟩ := id hC
  unfold m_cOp_hasLong_J0 at Heq
  refine lv_aload_n hx hb d_cOp_hasLong_0 rfl (lv_at hl 0 rfl) ?_
  obtain ⟨hl_x0_3, Heq⟩ := gl_some Heq
  refine va_get (D := D) (ci := 3) (v := .int (S.i 3 2 x0)) (C := R_Op) (T := F_Op) (N := 15) hx hb hts i_Op hown hK hP (cPos N 3 x0) (cw_obj (k := 3) (by decide) hl_x0_3) rfl 2 (by decide) (hts _ kw_59) (fun _ h9 => h9) rfl d_cOp_hasLong_1 ?_
  refine lv_iconst (v := 3) hx hb d_cOp_hasLong_4 (by decide) ?_
  refine lv_icmp_eq (tgt := 25) hx hb d_cOp_hasLong_5 (by decide) (fun c_1 => ?_) (fun c_1 => ?_)
  · replace Heq := (if_pos c_1).symm.trans Heq
    exact w_cOp_hasLong_J25 hC Heq Kr _ _ _ hP hD hS (lv_sub hl [0] rfl)
  · replace Heq := (if_neg c_1).symm.trans Heq
    refine lv_aload_n hx hb d_cOp_hasLong_8 rfl (lv_at hl 0 rfl) ?_
    refine va_get (D := D) (ci := 3) (v := .int (S.i 3 2 x0)) (C := R_Op) (T := F_Op) (N := 15) hx hb hts i_Op hown hK hP (cPos N 3 x0) (cw_obj (k := 3) (by decide) hl_x0_3) rfl 2 (by decide) (hts _ kw_59) (fun _ h9 => h9) rfl d_cOp_hasLong_9 ?_
    refine lv_iconst (v := 5) hx hb d_cOp_hasLong_12 (by decide) ?_
    refine lv_icmp_eq (tgt := 25) hx hb d_cOp_hasLong_13 (by decide) (fun c_2 => ?_) (fun c_2 => ?_)
    · replace Heq := (if_pos c_2).symm.trans Heq
      exact w_cOp_hasLong_J25 hC Heq Kr _ _ _ hP hD hS (lv_sub hl [0] rfl)
    · replace Heq := (if_neg c_2).symm.trans Heq
      refine lv_aload_n hx hb d_cOp_hasLong_16 rfl (lv_at hl 0 rfl) ?_
      refine va_get (D := D) (ci := 3) (v := .int (S.i 3 2 x0)) (C := R_Op) (T := F_Op) (N := 15) hx hb hts i_Op hown hK hP (cPos N 3 x0) (cw_obj (k := 3) (by decide) hl_x0_3) rfl 2 (by decide) (hts _ kw_59) (fun _ h9 => h9) rfl d_cOp_hasLong_17 ?_
      refine lv_bipush (v := 10) hx hb d_cOp_hasLong_20 (by decide) ?_
      refine lv_icmp_ne (tgt := 29) hx hb d_cOp_hasLong_22 (by decide) (fun c_3 => ?_) (fun c_3 => ?_)
      · replace Heq := (if_neg c_3).symm.trans Heq
        refine lv_iconst (v := 0) hx hb d_cOp_hasLong_29 (by decide) ?_
        exact w_cOp_hasLong_J30 hC Heq Kr _ _ _ hP hD hS (lv_sub hl [0] rfl)
      · replace Heq := (if_pos c_3).symm.trans Heq
        exact w_cOp_hasLong_J25 hC Heq Kr _ _ _ hP hD hS (lv_sub hl [0] rfl)
def m_cOp_hasLong (N : Nat → Nat) (x0 : Nat) (S : CS) : Option (CS × Int32) := m_cOp_hasLong_J0 N x0 S
set_option maxHeartbeats 4000000 in
theorem g_cOp_hasLong (l : Launch) (D : va_G) (sz : Nat) {ad : Nat → Nat → Nat} {cc : Nat → ClassId} {sad sav : Nat → Nat} {N : Nat → Nat} {x0 : Nat} {S : CS} {o : CS × Int32} (Heq : m_cOp_hasLong N x0 S = some o) : Met l ⟨"JoinedTrees$Op", "hasLong", "()Z"⟩ (Cond.code ⟨"JoinedTrees$Op", "hasLong", "()Z"⟩ prog_5_method_3_code 1 (some .boolean) :: gb) ({ frames := 0, cells := 0, slots := 0, locals := 0 }) (cPc sad sav D (cw ad cc N S) (cty cc) sz [.ref (ad 3 x0)]) (va_Qi (fun (r : Int32) (_ : Unit) => r = o.2) (fun _ t => gO D (cw ad cc N o.1) (cty cc) (va_A (cw ad cc N S) sz) t) (va_A (cw ad cc N S) sz)) 0 0 (va_A (cw ad cc N S) sz) := by
  refine Met.ofW (cc := prog_5_method_3_code) (maxL := 1) (ret := (some .boolean)) (by decide) rfl ?_
  intro p e s m args below meth c s₁ B hml hv
  obtain ⟨rfl, hsz, hP, hK, hD0, hev, hE, hN⟩ := hv
  have hx := B.exec
  have hb := B.bytes
  have hr := B.returns
  have hts : ∀ w9 ∈ gb, w9.before [.ref (ad 3 x0)].toArray s = true := fun w9 h => atoms_spec (ws := Cond.code ⟨"JoinedTrees$Op", "hasLong", "()Z"⟩ prog_5_method_3_code 1 (some .boolean) :: gb) B.pre w9 (List.mem_cons_of_mem _ h)
  have hown : s.vm.findClass "JoinedTrees$Op" = some m.cls := findClass_of_methodNamed B.named
  have hlocks := B.notSynchronized
  have hNS := ns_of hP
  subst hsz
  have hD := hD0.self (sz := s.heap.size)
  generalize hAe : va_A (cw ad cc N S) s.heap.size = A at hD hev hE hNS ⊢
  have hA : ∀ q : Nat, s.heap.size ≤ q → A q := fun q h => by rw [← hAe]; exact Or.inr h
  have hS : va_S A s.heap s.heap [] := va_S.rf
  obtain ⟨ls, hl, hle⟩ : ∃ ls : Array Slot, lv_has ls 1 [(0, .ref (ad 3 x0))] ∧ entryFrame m ([.ref (ad 3 x0)] : List Value).toArray 1 = F0 m 0 ls [] := by
    exact ⟨_, lv_entry (n := 1) _ (Nat.le_of_ble_eq_true rfl), lg_entry_eq ..⟩
  rw [hle]
  refine w_cOp_hasLong_J0 ⟨hx, hb, hr, hml, hown, hts, hK, hA, hev, hE, hN, hNS⟩ Heq (fun r h pc H locs ls hd hz hP hD hS => ?_) _ _ _ hP hD hS (lv_sub hl [0] rfl)
  subst h
  exact W.zret (ty := .boolean) hx hb hr (by rcases hz with hz | hz <;> rw [hz] <;> rfl) (fun t ht hW => ⟨⟨_, (), rfl, rfl, by rw [ht]; exact hP, va_K.moved hW.alike hK, hD⟩, hS.F ht⟩) hS.2.2 hd
def m_cSv_emitOp_B206 (N : Nat → Nat) (x0 : Nat) (S : CS) (x1 : Option Nat) (x2 : Int32) (x3 : Int32) : Option ((CS × Option Nat × Int32 × Int32) ⊕ CS) := (if x2 ≤ x3 then some (.inr (S)) else gn x1 (N 3) (fun j_2 => gn (S.r 3 7 j_2) (N 15) (fun j_5 => gd x3 (S.z 15 j_5) (gn (S.q 15 j_5 x3.toNatClampNeg) (N 3) (fun j_9 => gl x0 (N 6) (ob (m_cSv_emitNumber N x0 S ((S.i 3 0 j_9).toInt64)) (fun o_12 => some (.inl (o_12, x1, x2, (x3 + 1))))))))))
theorem d_cSv_emitOp_0 : decode prog_8_method_9_code 0 = .ok (.aload_n 0, 1) := by decide +kernel
theorem d_cSv_emitOp_1 : decode prog_8_method_9_code 1 = .ok (.aload_n 1, 1) := by decide +kernel
theorem d_cSv_emitOp_2 : decode prog_8_method_9_code 2 = .ok (.getfield 123, 3) := by decide +kernel
theorem d_cSv_emitOp_5 : decode prog_8_method_9_code 5 = .ok (.getfield 129, 3) := by decide +kernel
theorem d_cSv_emitOp_8 : decode prog_8_method_9_code 8 = .ok (.i2l, 1) := by decide +kernel
theorem d_cSv_emitOp_9 : decode prog_8_method_9_code 9 = .ok (.invokevirtual 38, 3) := by decide +kernel
theorem d_cSv_emitOp_12 : decode prog_8_method_9_code 12 = .ok (.aload_n 0, 1) := by decide +kernel
theorem d_cSv_emitOp_13 : decode prog_8_method_9_code 13 = .ok (.aload_n 1, 1) := by decide +kernel
theorem d_cSv_emitOp_14 : decode prog_8_method_9_code 14 = .ok (.getfield 132, 3) := by decide +kernel
theorem d_cSv_emitOp_17 : decode prog_8_method_9_code 17 = .ok (.aload_n 1, 1) := by decide +kernel
theorem d_cSv_emitOp_18 : decode prog_8_method_9_code 18 = .ok (.getfield 135, 3) := by decide +kernel
theorem d_cSv_emitOp_21 : decode prog_8_method_9_code 21 = .ok (.ifCond .eq 8, 3) := by decide +kernel
theorem d_cSv_emitOp_29 : decode prog_8_method_9_code 29 = .ok (.iconst 0, 1) := by decide +kernel
theorem d_cSv_emitOp_30 : decode prog_8_method_9_code 30 = .ok (.iadd, 1) := by decide +kernel
theorem d_cSv_emitOp_31 : decode prog_8_method_9_code 31 = .ok (.i2l, 1) := by decide +kernel
theorem d_cSv_emitOp_32 : decode prog_8_method_9_code 32 = .ok (.invokevirtual 38, 3) := by decide +kernel
theorem d_cSv_emitOp_35 : decode prog_8_method_9_code 35 = .ok (.aload_n 1, 1) := by decide +kernel
theorem d_cSv_emitOp_36 : decode prog_8_method_9_code 36 = .ok (.getfield 123, 3) := by decide +kernel
theorem d_cSv_emitOp_39 : decode prog_8_method_9_code 39 = .ok (.getfield 132, 3) := by decide +kernel
theorem d_cSv_emitOp_42 : decode prog_8_method_9_code 42 = .ok (.bipush 6, 2) := by decide +kernel
theorem d_cSv_emitOp_44 : decode prog_8_method_9_code 44 = .ok (.if_icmp .ne 27, 3) := by decide +kernel
theorem d_cSv_emitOp_71 : decode prog_8_method_9_code 71 = .ok (.aload_n 1, 1) := by decide +kernel
theorem d_cSv_emitOp_72 : decode prog_8_method_9_code 72 = .ok (.getfield 135, 3) := by decide +kernel
theorem d_cSv_emitOp_75 : decode prog_8_method_9_code 75 = .ok (.ifCond .eq 29, 3) := by decide +kernel
theorem d_cSv_emitOp_104 : decode prog_8_method_9_code 104 = .ok (.aload_n 0, 1) := by decide +kernel
theorem d_cSv_emitOp_105 : decode prog_8_method_9_code 105 = .ok (.aload_n 1, 1) := by decide +kernel
theorem d_cSv_emitOp_106 : decode prog_8_method_9_code 106 = .ok (.getfield 151, 3) := by decide +kernel
theorem d_cSv_emitOp_109 : decode prog_8_method_9_code 109 = .ok (.getfield 155, 3) := by decide +kernel
theorem d_cSv_emitOp_112 : decode prog_8_method_9_code 112 = .ok (.getfield 129, 3) := by decide +kernel
theorem d_cSv_emitOp_115 : decode prog_8_method_9_code 115 = .ok (.i2l, 1) := by decide +kernel
theorem d_cSv_emitOp_116 : decode prog_8_method_9_code 116 = .ok (.invokevirtual 38, 3) := by decide +kernel
theorem d_cSv_emitOp_119 : decode prog_8_method_9_code 119 = .ok (.aload_n 1, 1) := by decide +kernel
theorem d_cSv_emitOp_120 : decode prog_8_method_9_code 120 = .ok (.invokevirtual 160, 3) := by decide +kernel
theorem d_cSv_emitOp_123 : decode prog_8_method_9_code 123 = .ok (.ifCond .eq 24, 3) := by decide +kernel
theorem d_cSv_emitOp_147 : decode prog_8_method_9_code 147 = .ok (.aload_n 1, 1) := by decide +kernel
theorem d_cSv_emitOp_148 : decode prog_8_method_9_code 148 = .ok (.getfield 132, 3) := by decide +kernel
theorem d_cSv_emitOp_151 : decode prog_8_method_9_code 151 = .ok (.iconst 4, 1) := by decide +kernel
theorem d_cSv_emitOp_152 : decode prog_8_method_9_code 152 = .ok (.if_icmp .ne 29, 3) := by decide +kernel
theorem d_cSv_emitOp_181 : decode prog_8_method_9_code 181 = .ok (.aload_n 1, 1) := by decide +kernel
theorem d_cSv_emitOp_182 : decode prog_8_method_9_code 182 = .ok (.getfield 171, 3) := by decide +kernel
theorem d_cSv_emitOp_185 : decode prog_8_method_9_code 185 = .ok (.ifnonnull 7, 3) := by decide +kernel
theorem d_cSv_emitOp_188 : decode prog_8_method_9_code 188 = .ok (.iconst 0, 1) := by decide +kernel
theorem d_cSv_emitOp_189 : decode prog_8_method_9_code 189 = .ok (.goto 8, 3) := by decide +kernel
theorem d_cSv_emitOp_197 : decode prog_8_method_9_code 197 = .ok (.istore_n 2, 1) := by decide +kernel
theorem d_cSv_emitOp_198 : decode prog_8_method_9_code 198 = .ok (.aload_n 0, 1) := by decide +kernel
theorem d_cSv_emitOp_199 : decode prog_8_method_9_code 199 = .ok (.iload_n 2, 1) := by decide +kernel
theorem d_cSv_emitOp_200 : decode prog_8_method_9_code 200 = .ok (.i2l, 1) := by decide +kernel
theorem d_cSv_emitOp_201 : decode prog_8_method_9_code 201 = .ok (.invokevirtual 38, 3) := by decide +kernel
theorem d_cSv_emitOp_204 : decode prog_8_method_9_code 204 = .ok (.iconst 0, 1) := by decide +kernel
theorem d_cSv_emitOp_205 : decode prog_8_method_9_code 205 = .ok (.istore_n 3, 1) := by decide +kernel
theorem d_cSv_emitOp_206 : decode prog_8_method_9_code 206 = .ok (.iload_n 3, 1) := by decide +kernel
theorem d_cSv_emitOp_207 : decode prog_8_method_9_code 207 = .ok (.iload_n 2, 1) := by decide +kernel
theorem d_cSv_emitOp_208 : decode prog_8_method_9_code 208 = .ok (.if_icmp .ge 23, 3) := by decide +kernel
theorem d_cSv_emitOp_211 : decode prog_8_method_9_code 211 = .ok (.aload_n 0, 1) := by decide +kernel
theorem d_cSv_emitOp_212 : decode prog_8_method_9_code 212 = .ok (.aload_n 1, 1) := by decide +kernel
theorem d_cSv_emitOp_213 : decode prog_8_method_9_code 213 = .ok (.getfield 171, 3) := by decide +kernel
theorem d_cSv_emitOp_216 : decode prog_8_method_9_code 216 = .ok (.iload_n 3, 1) := by decide +kernel
theorem d_cSv_emitOp_217 : decode prog_8_method_9_code 217 = .ok (.aaload, 1) := by decide +kernel
theorem d_cSv_emitOp_218 : decode prog_8_method_9_code 218 = .ok (.getfield 129, 3) := by decide +kernel
theorem d_cSv_emitOp_221 : decode prog_8_method_9_code 221 = .ok (.i2l, 1) := by decide +kernel
theorem d_cSv_emitOp_222 : decode prog_8_method_9_code 222 = .ok (.invokevirtual 38, 3) := by decide +kernel
theorem d_cSv_emitOp_225 : decode prog_8_method_9_code 225 = .ok (.iinc 3 1, 3) := by decide +kernel
theorem d_cSv_emitOp_228 : decode prog_8_method_9_code 228 = .ok (.goto (-22), 3) := by decide +kernel
set_option maxHeartbeats 4000000 in
set_option maxRecDepth 100000 in
theorem w_cSv_emitOp_B206 {p : Program} {l : Launch} {e : Env} {s : State} {m : MethodId} {args : Array Value} {below : List Frame} {meth : Method} {c : Code} {A : Nat → Prop} {D : va_G} {ad : Nat → Nat → Nat} {cc : Nat → ClassId} {sad sav : Nat → Nat} {Q : State → Prop} (hC : MCc sad sav "JoinedTrees$Saver" prog_8_method_9_code 4 none p s m args meth c A D cc) {N : Nat → Nat} {x0 : Nat} {S : CS} {x1 : Option Nat} {x2 : Int32} {x3 : Int32} {o : ((CS × Option Nat × Int32 × Int32) ⊕ CS)} (Heq : m_cSv_emitOp_B206 N x0 S x1 x2 x3 = some o) (Ka : ∀ b : CS × Option Nat × Int32 × Int32, o = .inl b → ∀ (H : Heap) (locs : List Loc) (ls : Array Slot), va_P D cls (cw ad cc N b.1) H → va_D A (cw ad cc N b.1) → va_S A s.heap H locs → lv_has ls 4 [(0, .ref (ad 6 x0)), (1, rv ad 3 b.2.1), (2, .int b.2.2.1), (3, .int b.2.2.2)] → W p l e ({ frames := 3, cells := 0, slots := 0, locals := 67 }) s m args below meth c H locs 0 0 Q (F0 m 206 ls [])) (K0 : ∀ b : CS, o = .inr b → ∀ (H : Heap) (locs : List Loc) (ls : Array Slot), va_P D cls (cw ad cc N b) H → va_D A (cw ad cc N b) → va_S A s.heap H locs → lv_has ls 4 [(0, .ref (ad 6 x0))] → W p l e ({ frames := 3, cells := 0, slots := 0, locals := 67 }) s m args below meth c H locs 0 0 Q (F0 m 231 ls [])) : ∀ (H : Heap) (locs : List Loc) (ls : Array Slot), va_P D cls (cw ad cc N S) H → va_D A (cw ad cc N S) → va_S A s.heap H locs → lv_has ls 4 [(0, .ref (ad 6 x0)), (1, rv ad 3 x1), (2, .int x2), (3, .int x3)] → W p l e ({ frames := 3, cells := 0, slots := 0, locals := 67 }) s m args below meth c H locs 0 0 Q (F0 m 206 ls []) := by
  intro H locs ls hP hD hS hl
  obtain ⟨hx, hb, hr, hml, hown, hts, hK, hA, hev, hE, hN, hNS⟩ := id hC
  unfold m_cSv_emitOp_B206 at Heq
  refine lv_iload_n hx hb d_cSv_emitOp_206 rfl (lv_at hl 3 rfl) ?_
  refine lv_iload_n hx hb d_cSv_emitOp_207 rfl (lv_at hl 2 rfl) ?_
  refine lv_icmp_ge (tgt := 231) hx hb d_cSv_emitOp_208 (by decide) (fun c_1 => ?_) (fun c_1 => ?_)
  · replace Heq := (if_pos c_1).symm.trans Heq
    exact K0 _ (Option.some.inj Heq).symm _ _ _ hP hD hS (lv_sub hl [0] rfl)
  · replace Heq := (if_neg c_1).symm.trans Heq
    refine lv_aload_n hx hb d_cSv_emitOp_211 rfl (lv_at hl 0 rfl) ?_
    refine tx_aload_n (x := x1.map (ad 3)) hx hb d_cSv_emitOp_212 rfl (lv_at hl 1 rfl) ?_
    refine w_v (y := rv ad 3 x1) rfl ?_
    obtain ⟨j_2, hj_3, hl_4, Heq⟩ := gn_some Heq
    refine w_s (st' := [.ref (ad 3 j_2), .ref (ad 6 x0)]) (congrArg (fun z9 : Option Nat => [rv ad 3 z9, .ref (ad 6 x0)]) hj_3) ?_
    refine va_get (D := D) (ci := 3) (v := rv ad 15 (S.r 3 7 j_2)) (C := R_Op) (T := F_Op) (N := 15) hx hb hts i_Op hown hK hP (cPos N 3 j_2) (cw_obj (k := 3) (by decide) hl_4) rfl 7 (by decide) (hts _ kw_76) (fun _ h9 => h9) rfl d_cSv_emitOp_213 ?_
    refine lv_iload_n hx hb d_cSv_emitOp_216 rfl (lv_at hl 3 rfl) ?_
    obtain ⟨j_5, hj_6, hl_7, Heq⟩ := gn_some Heq
    refine w_s (st' := [.int x3, .ref (ad 15 j_5), .ref (ad 6 x0)]) (congrArg (fun z9 : Option Nat => [.int x3, rv ad 15 z9, .ref (ad 6 x0)]) hj_6) ?_
    obtain ⟨hi_8, Heq⟩ := gd_some Heq
    refine va_aldq hx hb hK hP (cPos N 15 j_5) 3 (cw_refs (k := 15) (by decide) hl_7) rfl (i := x3) hi_8 d_cSv_emitOp_217 ?_
    refine w_v (y := rv ad 3 (S.q 15 j_5 x3.toNatClampNeg)) (congrArg (rv ad 3) rfl) ?_
    obtain ⟨j_9, hj_10, hl_11, Heq⟩ := gn_some Heq
    refine w_s (st' := [.ref (ad 3 j_9), .ref (ad 6 x0)]) (congrArg (fun z9 : Option Nat => [rv ad 3 z9, .ref (ad 6 x0)]) hj_10) ?_
    refine va_get (D := D) (ci := 3) (v := .int (S.i 3 0 j_9)) (C := R_Op) (T := F_Op) (N := 15) hx hb hts i_Op hown hK hP (cPos N 3 j_9) (cw_obj (k := 3) (by decide) hl_11) rfl 0 (by decide) (hts _ kw_53) (fun _ h9 => h9) rfl d_cSv_emitOp_218 ?_
    refine lv_i2l hx hb d_cSv_emitOp_221 rfl ?_
    refine w_l (y := (S.i 3 0 j_9).toInt64) rfl ?_
    obtain ⟨hl_x0_6, Heq⟩ := gl_some Heq
    obtain ⟨o_12, h_13, Heq⟩ := ob_some Heq
    have hFc := fr_all hD hS hA
    refine va_callv (va_runV (As := [.long ((S.i 3 0 j_9).toInt64)]) (rest := []) ⟨hx, hb, hml, hown, hts⟩ (g_cSv_emitNumber l D H.size (ad := ad) (cc := cc) (sad := sad) (sav := sav) h_13) (cw_v 1 hts kw_1283 kw_1280 kw_1281 kw_1282 kw_10 rfl rfl (by decide +kernel) ⟨Nat.le_of_ble_eq_true rfl, Nat.le_of_ble_eq_true rfl⟩) ⟨c_blind, va_recv hK hP (ci := 6) (q0 := cPos N 6 x0) rfl (cw_obj (k := 6) (by decide) hl_x0_6), fun U hU hW => c_pre hU hW hP hK hD hev hE hN hNS hS hFc⟩ rfl rfl hl.1 rfl (lv_room (Nat.le_of_ble_eq_true rfl)) d_cSv_emitOp_222 ⟨Nat.le_of_ble_eq_true rfl, Nat.le_of_ble_eq_true rfl⟩) hS (fun q _ h => hFc q h) hFc (fun u t H1 locs ht hvm hw hB hz1 hk1 hS => ?_)
    obtain ⟨hP, -, hD1⟩ := hB
    rw [ht] at hP
    have hD := hD1.weaken (fun _ q _ h => hFc q.1 h)
    generalize H1 = H at hP hS ⊢
    refine W.cs (cells' := 0) (slots' := 0) rfl rfl ?_
    refine lv_iinc (v := x3 + 1) (lv' := [(3, .int (x3 + 1)), (0, .ref (ad 6 x0)), (1, rv ad 3 x1), (2, .int x2)]) hx hb d_cSv_emitOp_225 hl (k := 3) rfl rfl (by decide) rfl (fun ls hl => ?_)
    refine lv_goto (tgt := 206) hx hb d_cSv_emitOp_228 (by decide) ?_
    exact Ka _ (Option.some.inj Heq).symm _ _ _ hP hD hS (lv_sub hl [1, 2, 3, 0] rfl)
def m_cSv_emitOp_L206 (N : Nat → Nat) (x0 : Nat) (S : CS) (x1 : Option Nat) (x2 : Int32) (x3 : Int32) : Option CS := lp (fun a : CS × Option Nat × Int32 × Int32 => m_cSv_emitOp_B206 N x0 a.1 a.2.1 a.2.2.1 a.2.2.2) FU (S, x1, x2, x3)
theorem w_cSv_emitOp_L206 {p : Program} {l : Launch} {e : Env} {s : State} {m : MethodId} {args : Array Value} {below : List Frame} {meth : Method} {c : Code} {A : Nat → Prop} {D : va_G} {ad : Nat → Nat → Nat} {cc : Nat → ClassId} {sad sav : Nat → Nat} {Q : State → Prop} (hC : MCc sad sav "JoinedTrees$Saver" prog_8_method_9_code 4 none p s m args meth c A D cc) {N : Nat → Nat} {x0 : Nat} {S : CS} {x1 : Option Nat} {x2 : Int32} {x3 : Int32} {o : CS} (Heq : m_cSv_emitOp_L206 N x0 S x1 x2 x3 = some o) (K0 : ∀ b : CS, o = b → ∀ (H : Heap) (locs : List Loc) (ls : Array Slot), va_P D cls (cw ad cc N b) H → va_D A (cw ad cc N b) → va_S A s.heap H locs → lv_has ls 4 [(0, .ref (ad 6 x0))] → W p l e ({ frames := 3, cells := 0, slots := 0, locals := 67 }) s m args below meth c H locs 0 0 Q (F0 m 231 ls [])) : ∀ (H : Heap) (locs : List Loc) (ls : Array Slot), va_P D cls (cw ad cc N S) H → va_D A (cw ad cc N S) → va_S A s.heap H locs → lv_has ls 4 [(0, .ref (ad 6 x0)), (1, rv ad 3 x1), (2, .int x2), (3, .int x3)] → W p l e ({ frames := 3, cells := 0, slots := 0, locals := 67 }) s m args below meth c H locs 0 0 Q (F0 m 206 ls []) := by
  refine lp_w (G := fun a : CS × Option Nat × Int32 × Int32 => ∀ (H : Heap) (locs : List Loc) (ls : Array Slot), va_P D cls (cw ad cc N a.1) H → va_D A (cw ad cc N a.1) → va_S A s.heap H locs → lv_has ls 4 [(0, .ref (ad 6 x0)), (1, rv ad 3 a.2.1), (2, .int a.2.2.1), (3, .int a.2.2.2)] → W p l e ({ frames := 3, cells := 0, slots := 0, locals := 67 }) s m args below meth c H locs 0 0 Q (F0 m 206 ls [])) ?_ FU (S, x1, x2, x3) Heq
  intro a o1 ho Ka Ke
  exact w_cSv_emitOp_B206 hC ho (fun b h => Ka b h) (fun b h => K0 b (Ke _ h).symm)
def m_cSv_emitOp_J197 (N : Nat → Nat) (x0 : Nat) (S : CS) (x1 : Option Nat) (t0 : Int32) : Option CS := gl x0 (N 6) (ob (m_cSv_emitNumber N x0 S t0.toInt64) (fun o_1 => ob (m_cSv_emitOp_L206 N x0 o_1 x1 t0 0) (fun b_3 => some b_3)))
theorem d_cSv_emitOp_231 : decode prog_8_method_9_code 231 = .ok (.return_, 1) := by decide +kernel
set_option maxHeartbeats 4000000 in
set_option maxRecDepth 100000 in
theorem w_cSv_emitOp_J197 {p : Program} {l : Launch} {e : Env} {s : State} {m : MethodId} {args : Array Value} {below : List Frame} {meth : Method} {c : Code} {A : Nat → Prop} {D : va_G} {ad : Nat → Nat → Nat} {cc : Nat → ClassId} {sad sav : Nat → Nat} {Q : State → Prop} (hC : MCc sad sav "JoinedTrees$Saver" prog_8_method_9_code 4 none p s m args meth c A D cc) {N : Nat → Nat} {x0 : Nat} {S : CS} {x1 : Option Nat} {t0 : Int32} {o : CS} (Heq : m_cSv_emitOp_J197 N x0 S x1 t0 = some o) (Kr : ∀ r : CS, o = r → ∀ (pc : Nat) (H : Heap) (locs : List Loc) (ls : Array Slot), decode prog_8_method_9_code pc = .ok (.return_, 1) → va_P D cls (cw ad cc N r) H → va_D A (cw ad cc N r) → va_S A s.heap H locs → W p l e ({ frames := 3, cells := 0, slots := 0, locals := 67 }) s m args below meth c H locs 0 0 Q (F0 m pc ls [])) : ∀ (H : Heap) (locs : List Loc) (ls : Array Slot), va_P D cls (cw ad cc N S) H → va_D A (cw ad cc N S) → va_S A s.heap H locs → lv_has ls 4 [(0, .ref (ad 6 x0)), (1, rv ad 3 x1)] → W p l e ({ frames := 3, cells := 0, slots := 0, locals := 67 }) s m args below meth c H locs 0 0 Q (F0 m 197 ls [.int t0]) := by
  intro H locs ls hP hD hS hl
  obtain ⟨hx, hb, hr, hml, hown, hts, hK, hA, hev, hE, hN, hNS⟩ := id hC
  unfold m_cSv_emitOp_J197 at Heq
  refine lv_istore_n (i := 2) (lv' := [(2, .int t0), (0, .ref (ad 6 x0)), (1, rv ad 3 x1)]) hx hb d_cSv_emitOp_197 rfl hl (by decide) (by simp [rv, rf_cat]) (fun ls hl => ?_)
  refine lv_aload_n hx hb d_cSv_emitOp_198 rfl (lv_at hl 1 rfl) ?_
  refine lv_iload_n hx hb d_cSv_emitOp_199 rfl (lv_at hl 0 rfl) ?_
  refine lv_i2l hx hb d_cSv_emitOp_200 rfl ?_
  refine w_l (y := t0.toInt64) rfl ?_
  obtain ⟨hl_x0_6, Heq⟩ := gl_some Heq
  obtain ⟨o_1, h_2, Heq⟩ := ob_some Heq
  have hFc := fr_all hD hS hA
  refine va_callv (va_runV (As := [.long t0.toInt64]) (rest := []) ⟨hx, hb, hml, hown, hts⟩ (g_cSv_emitNumber l D H.size (ad := ad) (cc := cc) (sad := sad) (sav := sav) h_2) (cw_v 1 hts kw_1283 kw_1280 kw_1281 kw_1282 kw_10 rfl rfl (by decide +kernel) ⟨Nat.le_of_ble_eq_true rfl, Nat.le_of_ble_eq_true rfl⟩) ⟨c_blind, va_recv hK hP (ci := 6) (q0 := cPos N 6 x0) rfl (cw_obj (k := 6) (by decide) hl_x0_6), fun U hU hW => c_pre hU hW hP hK hD hev hE hN hNS hS hFc⟩ rfl rfl hl.1 rfl (lv_room (Nat.le_of_ble_eq_true rfl)) d_cSv_emitOp_201 ⟨Nat.le_of_ble_eq_true rfl, Nat.le_of_ble_eq_true rfl⟩) hS (fun q _ h => hFc q h) hFc (fun u t H1 locs ht hvm hw hB hz1 hk1 hS => ?_)
  obtain ⟨hP, -, hD1⟩ := hB
  rw [ht] at hP
  have hD := hD1.weaken (fun _ q _ h => hFc q.1 h)
  generalize H1 = H at hP hS ⊢
  refine W.cs (cells' := 0) (slots' := 0) rfl rfl ?_
  refine lv_iconst (v := 0) hx hb d_cSv_emitOp_204 (by decide) ?_
  refine lv_istore_n (lv' := [(3, .int 0), (2, .int t0), (0, .ref (ad 6 x0)), (1, rv ad 3 x1)]) hx hb d_cSv_emitOp_205 rfl hl (by decide) rfl (fun ls hl => ?_)
  obtain ⟨b_3, h_4, Heq⟩ := ob_some Heq
  refine w_cSv_emitOp_L206 hC h_4 (fun b h => ?_) _ _ _ hP hD hS (lv_sub hl [2, 3, 1, 0] rfl)
  subst h
  intro H locs ls hP hD hS hl
  exact Kr _ (Option.some.inj Heq).symm 231 _ _ _ d_cSv_emitOp_231 hP hD hS
def m_cSv_emitOp_J181 (N : Nat → Nat) (x0 : Nat) (S : CS) (x1 : Option Nat) : Option CS := gn x1 (N 3) (fun j_1 => on (S.r 3 7 j_1) (m_cSv_emitOp_J197 N x0 S x1 0) (fun j_4 => gl j_4 (N 15) (m_cSv_emitOp_J197 N x0 S x1 (nI (S.z 15 j_4)))))
theorem d_cSv_emitOp_192 : decode prog_8_method_9_code 192 = .ok (.aload_n 1, 1) := by decide +kernel
theorem d_cSv_emitOp_193 : decode prog_8_method_9_code 193 = .ok (.getfield 171, 3) := by decide +kernel
theorem d_cSv_emitOp_196 : decode prog_8_method_9_code 196 = .ok (.arraylength, 1) := by decide +kernel
set_option maxHeartbeats 4000000 in
set_option maxRecDepth 100000 in
theorem w_cSv_emitOp_J181 {p : Program} {l : Launch} {e : Env} {s : State} {m : MethodId} {args : Array Value} {below : List Frame} {meth : Method} {c : Code} {A : Nat → Prop} {D : va_G} {ad : Nat → Nat → Nat} {cc : Nat → ClassId} {sad sav : Nat → Nat} {Q : State → Prop} (hC : MCc sad sav "JoinedTrees$Saver" prog_8_method_9_code 4 none p s m args meth c A D cc) {N : Nat → Nat} {x0 : Nat} {S : CS} {x1 : Option Nat} {o : CS} (Heq : m_cSv_emitOp_J181 N x0 S x1 = some o) (Kr : ∀ r : CS, o = r → ∀ (pc : Nat) (H : Heap) (locs : List Loc) (ls : Array Slot), decode prog_8_method_9_code pc = .ok (.return_, 1) → va_P D cls (cw ad cc N r) H → va_D A (cw ad cc N r) → va_S A s.heap H locs → W p l e ({ frames := 3, cells := 0, slots := 0, locals := 67 }) s m args below meth c H locs 0 0 Q (F0 m pc ls [])) : ∀ (H : Heap) (locs : List Loc) (ls : Array Slot), va_P D cls (cw ad cc N S) H → va_D A (cw ad cc N S) → va_S A s.heap H locs → lv_has ls 4 [(0, .ref (ad 6 x0)), (1, rv ad 3 x1)] → W p l e ({ frames := 3, cells := 0, slots := 0, locals := 67 }) s m args below meth c H locs 0 0 Q (F0 m 181 ls []) := by
  intro H locs ls hP hD hS hl
  obtain ⟨hx, hb, hr, hml, hown, hts, hK, hA, hev, hE, hN, hNS⟩ := id hC
  unfold m_cSv_emitOp_J181 at Heq
  refine tx_aload_n (x := x1.map (ad 3)) hx hb d_cSv_emitOp_181 rfl (lv_at hl 1 rfl) ?_
  refine w_v (y := rv ad 3 x1) rfl ?_
  obtain ⟨j_1, hj_2, hl_3, Heq⟩ := gn_some Heq
  refine w_s (st' := [.ref (ad 3 j_1)]) (congrArg (fun z9 : Option Nat => [rv ad 3 z9]) hj_2) ?_
  refine va_get (D := D) (ci := 3) (v := rv ad 15 (S.r 3 7 j_1)) (C := R_Op) (T := F_Op) (N := 15) hx hb hts i_Op hown hK hP (cPos N 3 j_1) (cw_obj (k := 3) (by decide) hl_3) rfl 7 (by decide) (hts _ kw_76) (fun _ h9 => h9) rfl d_cSv_emitOp_182 ?_
  rcases on_some Heq with ⟨hj_5, Heq⟩ | ⟨j_4, hj_5, Heq⟩
  · refine w_s (st' := [.null]) (congrArg (fun z9 : Option Nat => [rv ad 15 z9]) hj_5) ?_
    refine lv_ifnonnullN hx hb d_cSv_emitOp_185 ?_
    refine lv_iconst (v := 0) hx hb d_cSv_emitOp_188 (by decide) ?_
    refine lv_goto (tgt := 197) hx hb d_cSv_emitOp_189 (by decide) ?_
    exact w_cSv_emitOp_J197 hC Heq Kr _ _ _ hP hD hS (lv_sub hl [0, 1] rfl)
  · refine w_s (st' := [.ref (ad 15 j_4)]) (congrArg (fun z9 : Option Nat => [rv ad 15 z9]) hj_5) ?_
    refine lv_ifnonnull (tgt := 192) hx hb d_cSv_emitOp_185 (by decide) ?_
    refine tx_aload_n (x := x1.map (ad 3)) hx hb d_cSv_emitOp_192 rfl (lv_at hl 1 rfl) ?_
    refine w_v (y := rv ad 3 x1) rfl ?_
    refine w_s (st' := [.ref (ad 3 j_1)]) (congrArg (fun z9 : Option Nat => [rv ad 3 z9]) hj_2) ?_
    refine va_get (D := D) (ci := 3) (v := rv ad 15 (S.r 3 7 j_1)) (C := R_Op) (T := F_Op) (N := 15) hx hb hts i_Op hown hK hP (cPos N 3 j_1) (cw_obj (k := 3) (by decide) hl_3) rfl 7 (by decide) (hts _ kw_76) (fun _ h9 => h9) rfl d_cSv_emitOp_193 ?_
    refine w_s (st' := [.ref (ad 15 j_4)]) (congrArg (fun z9 : Option Nat => [rv ad 15 z9]) hj_5) ?_
    obtain ⟨hl_j_4_15, Heq⟩ := gl_some Heq
    refine va_alen (v := nI (S.z 15 j_4)) hx hb hK hP (cPos N 15 j_4) 3 (cw_refs (k := 15) (by decide) hl_j_4_15) rfl rfl d_cSv_emitOp_196 ?_
    exact w_cSv_emitOp_J197 hC Heq Kr _ _ _ hP hD hS (lv_sub hl [0, 1] rfl)
def m_cSv_emitOp_J119 (N : Nat → Nat) (x0 : Nat) (S : CS) (x1 : Option Nat) : Option CS := gn x1 (N 3) (fun j_1 => ob (m_cOp_hasLong N j_1 S) (fun o_4 => (if o_4.2 = 0 then (if o_4.1.i 3 2 j_1 = 4 then gl x0 (N 6) (ob (m_cSv_emitNumber N x0 o_4.1 ((o_4.1.i 3 10 j_1).toInt64)) (fun o_8 => ob (m_cSv_emitBytes N x0 o_8 ((o_8.i 3 8 j_1) + (o_8.i 3 9 j_1)) (o_8.i 3 10 j_1)) (fun o_10 => m_cSv_emitOp_J181 N x0 o_10 x1))) else m_cSv_emitOp_J181 N x0 o_4.1 x1) else gl x0 (N 6) (ob (m_cSv_emitNumber N x0 o_4.1 (((o_4.1.l 3 3 j_1) <<< ((1 : Int32).toInt64 &&& 63)) ^^^ ((o_4.1.l 3 3 j_1) >>> ((63 : Int32).toInt64 &&& 63)))) (fun o_12 => m_cSv_emitOp_J181 N x0 o_12 x1)))))
theorem d_cSv_emitOp_155 : decode prog_8_method_9_code 155 = .ok (.aload_n 0, 1) := by decide +kernel
theorem d_cSv_emitOp_156 : decode prog_8_method_9_code 156 = .ok (.aload_n 1, 1) := by decide +kernel
theorem d_cSv_emitOp_157 : decode prog_8_method_9_code 157 = .ok (.getfield 168, 3) := by decide +kernel
theorem d_cSv_emitOp_160 : decode prog_8_method_9_code 160 = .ok (.i2l, 1) := by decide +kernel
theorem d_cSv_emitOp_161 : decode prog_8_method_9_code 161 = .ok (.invokevirtual 38, 3) := by decide +kernel
theorem d_cSv_emitOp_164 : decode prog_8_method_9_code 164 = .ok (.aload_n 0, 1) := by decide +kernel
theorem d_cSv_emitOp_165 : decode prog_8_method_9_code 165 = .ok (.aload_n 1, 1) := by decide +kernel
theorem d_cSv_emitOp_166 : decode prog_8_method_9_code 166 = .ok (.getfield 141, 3) := by decide +kernel
theorem d_cSv_emitOp_169 : decode prog_8_method_9_code 169 = .ok (.aload_n 1, 1) := by decide +kernel
theorem d_cSv_emitOp_170 : decode prog_8_method_9_code 170 = .ok (.getfield 138, 3) := by decide +kernel
theorem d_cSv_emitOp_173 : decode prog_8_method_9_code 173 = .ok (.iadd, 1) := by decide +kernel
theorem d_cSv_emitOp_174 : decode prog_8_method_9_code 174 = .ok (.aload_n 1, 1) := by decide +kernel
theorem d_cSv_emitOp_175 : decode prog_8_method_9_code 175 = .ok (.getfield 168, 3) := by decide +kernel
theorem d_cSv_emitOp_178 : decode prog_8_method_9_code 178 = .ok (.invokevirtual 144, 3) := by decide +kernel
theorem d_cSv_emitOp_126 : decode prog_8_method_9_code 126 = .ok (.aload_n 0, 1) := by decide +kernel
theorem d_cSv_emitOp_127 : decode prog_8_method_9_code 127 = .ok (.aload_n 1, 1) := by decide +kernel
theorem d_cSv_emitOp_128 : decode prog_8_method_9_code 128 = .ok (.getfield 164, 3) := by decide +kernel
theorem d_cSv_emitOp_131 : decode prog_8_method_9_code 131 = .ok (.iconst 1, 1) := by decide +kernel
theorem d_cSv_emitOp_132 : decode prog_8_method_9_code 132 = .ok (.lshl, 1) := by decide +kernel
theorem d_cSv_emitOp_133 : decode prog_8_method_9_code 133 = .ok (.aload_n 1, 1) := by decide +kernel
theorem d_cSv_emitOp_134 : decode prog_8_method_9_code 134 = .ok (.getfield 164, 3) := by decide +kernel
theorem d_cSv_emitOp_137 : decode prog_8_method_9_code 137 = .ok (.bipush 63, 2) := by decide +kernel
theorem d_cSv_emitOp_139 : decode prog_8_method_9_code 139 = .ok (.lshr, 1) := by decide +kernel
theorem d_cSv_emitOp_140 : decode prog_8_method_9_code 140 = .ok (.lxor, 1) := by decide +kernel
theorem d_cSv_emitOp_141 : decode prog_8_method_9_code 141 = .ok (.invokevirtual 38, 3) := by decide +kernel
theorem d_cSv_emitOp_144 : decode prog_8_method_9_code 144 = .ok (.goto 37, 3) := by decide +kernel
set_option maxHeartbeats 4000000 in
set_option maxRecDepth 100000 in
theorem w_cSv_emitOp_J119 {p : Program} {l : Launch} {e : Env} {s : State} {m : MethodId} {args : Array Value} {below : List Frame} {meth : Method} {c : Code} {A : Nat → Prop} {D : va_G} {ad : Nat → Nat → Nat} {cc : Nat → ClassId} {sad sav : Nat → Nat} {Q : State → Prop} (hC : MCc sad sav "JoinedTrees$Saver" prog_8_method_9_code 4 none p s m args meth c A D cc) {N : Nat → Nat} {x0 : Nat} {S : CS} {x1 : Option Nat} {o : CS} (Heq : m_cSv_emitOp_J119 N x0 S x1 = some o) (Kr : ∀ r : CS, o = r → ∀ (pc : Nat) (H : Heap) (locs : List Loc) (ls : Array Slot), decode prog_8_method_9_code pc = .ok (.return_, 1) → va_P D cls (cw ad cc N r) H → va_D A (cw ad cc N r) → va_S A s.heap H locs → W p l e ({ frames := 3, cells := 0, slots := 0, locals := 67 }) s m args below meth c H locs 0 0 Q (F0 m pc ls [])) : ∀ (H : Heap) (locs : List Loc) (ls : Array Slot), va_P D cls (cw ad cc N S) H → va_D A (cw ad cc N S) → va_S A s.heap H locs → lv_has ls 4 [(0, .ref (ad 6 x0)), (1, rv ad 3 x1)] → W p l e ({ frames := 3, cells := 0, slots := 0, locals := 67 }) s m args below meth c H locs 0 0 Q (F0 m 119 ls []) := by
  intro H locs ls hP hD hS hl
  obtain ⟨hx, hb, hr, hml, hown, hts, hK, hA, hev, hE, hN, hNS⟩ := id hC
  unfold m_cSv_emitOp_J119 at Heq
  refine tx_aload_n (x := x1.map (ad 3)) hx hb d_cSv_emitOp_119 rfl (lv_at hl 1 rfl) ?_
  refine w_v (y := rv ad 3 x1) rfl ?_
  obtain ⟨j_1, hj_2, hl_3, Heq⟩ := gn_some Heq
  refine w_s (st' := [.ref (ad 3 j_1)]) (congrArg (fun z9 : Option Nat => [rv ad 3 z9]) hj_2) ?_
  obtain ⟨o_4, h_5, Heq⟩ := ob_some Heq
  have hFc := fr_all hD hS hA
  refine va_calli (va_runV (As := []) (rest := []) ⟨hx, hb, hml, hown, hts⟩ (g_cOp_hasLong l D H.size (ad := ad) (cc := cc) (sad := sad) (sav := sav) h_5) (cw_v 0 hts kw_1307 kw_1304 kw_1305 kw_1306 kw_3 rfl rfl (by decide +kernel) ⟨Nat.le_of_ble_eq_true rfl, Nat.le_of_ble_eq_true rfl⟩) ⟨c_blind, va_recv hK hP (ci := 3) (q0 := cPos N 3 j_1) rfl (cw_obj (k := 3) (by decide) hl_3), fun U hU hW => c_pre hU hW hP hK hD hev hE hN hNS hS hFc⟩ rfl rfl hl.1 rfl (lv_room (Nat.le_of_ble_eq_true rfl)) d_cSv_emitOp_120 ⟨Nat.le_of_ble_eq_true rfl, Nat.le_of_ble_eq_true rfl⟩) hS (fun q _ h => hFc q h) hFc (fun rz u t H1 locs ht hvm hw hB hz1 hk1 hS => ?_)
  obtain ⟨hP, -, hD1⟩ := hB
  rw [ht] at hP
  have hD := hD1.weaken (fun _ q _ h => hFc q.1 h)
  generalize H1 = H at hP hS ⊢
  refine W.cs (cells' := 0) (slots' := 0) rfl rfl ?_
  subst hw
  refine lv_if_eq (tgt := 147) hx hb d_cSv_emitOp_123 (by decide) (fun c_6 => ?_) (fun c_6 => ?_)
  · replace Heq := (if_pos c_6).symm.trans Heq
    refine tx_aload_n (x := x1.map (ad 3)) hx hb d_cSv_emitOp_147 rfl (lv_at hl 1 rfl) ?_
    refine w_v (y := rv ad 3 x1) rfl ?_
    refine w_s (st' := [.ref (ad 3 j_1)]) (congrArg (fun z9 : Option Nat => [rv ad 3 z9]) hj_2) ?_
    refine va_get (D := D) (ci := 3) (v := .int (o_4.1.i 3 2 j_1)) (C := R_Op) (T := F_Op) (N := 15) hx hb hts i_Op hown hK hP (cPos N 3 j_1) (cw_obj (k := 3) (by decide) hl_3) rfl 2 (by decide) (hts _ kw_63) (fun _ h9 => h9) rfl d_cSv_emitOp_148 ?_
    refine lv_iconst (v := 4) hx hb d_cSv_emitOp_151 (by decide) ?_
    refine lv_icmp_ne (tgt := 181) hx hb d_cSv_emitOp_152 (by decide) (fun c_7 => ?_) (fun c_7 => ?_)
    · replace Heq := (if_neg c_7).symm.trans Heq
      exact w_cSv_emitOp_J181 hC Heq Kr _ _ _ hP hD hS (lv_sub hl [0, 1] rfl)
    · replace Heq := (if_pos c_7).symm.trans Heq
      refine lv_aload_n hx hb d_cSv_emitOp_155 rfl (lv_at hl 0 rfl) ?_
      refine tx_aload_n (x := x1.map (ad 3)) hx hb d_cSv_emitOp_156 rfl (lv_at hl 1 rfl) ?_
      refine w_v (y := rv ad 3 x1) rfl ?_
      refine w_s (st' := [.ref (ad 3 j_1), .ref (ad 6 x0)]) (congrArg (fun z9 : Option Nat => [rv ad 3 z9, .ref (ad 6 x0)]) hj_2) ?_
      refine va_get (D := D) (ci := 3) (v := .int (o_4.1.i 3 10 j_1)) (C := R_Op) (T := F_Op) (N := 15) hx hb hts i_Op hown hK hP (cPos N 3 j_1) (cw_obj (k := 3) (by decide) hl_3) rfl 10 (by decide) (hts _ kw_88) (fun _ h9 => h9) rfl d_cSv_emitOp_157 ?_
      refine lv_i2l hx hb d_cSv_emitOp_160 rfl ?_
      refine w_l (y := (o_4.1.i 3 10 j_1).toInt64) rfl ?_
      obtain ⟨hl_x0_6, Heq⟩ := gl_some Heq
      obtain ⟨o_8, h_9, Heq⟩ := ob_some Heq
      have hFc := fr_all hD hS hA
      refine va_callv (va_runV (As := [.long ((o_4.1.i 3 10 j_1).toInt64)]) (rest := []) ⟨hx, hb, hml, hown, hts⟩ (g_cSv_emitNumber l D H.size (ad := ad) (cc := cc) (sad := sad) (sav := sav) h_9) (cw_v 1 hts kw_1283 kw_1280 kw_1281 kw_1282 kw_10 rfl rfl (by decide +kernel) ⟨Nat.le_of_ble_eq_true rfl, Nat.le_of_ble_eq_true rfl⟩) ⟨c_blind, va_recv hK hP (ci := 6) (q0 := cPos N 6 x0) rfl (cw_obj (k := 6) (by decide) hl_x0_6), fun U hU hW => c_pre hU hW hP hK hD hev hE hN hNS hS hFc⟩ rfl rfl hl.1 rfl (lv_room (Nat.le_of_ble_eq_true rfl)) d_cSv_emitOp_161 ⟨Nat.le_of_ble_eq_true rfl, Nat.le_of_ble_eq_true rfl⟩) hS (fun q _ h => hFc q h) hFc (fun u t H1 locs ht hvm hw hB hz1 hk1 hS => ?_)
      obtain ⟨hP, -, hD1⟩ := hB
      rw [ht] at hP
      have hD := hD1.weaken (fun _ q _ h => hFc q.1 h)
      generalize H1 = H at hP hS ⊢
      refine W.cs (cells' := 0) (slots' := 0) rfl rfl ?_
      refine lv_aload_n hx hb d_cSv_emitOp_164 rfl (lv_at hl 0 rfl) ?_
      refine tx_aload_n (x := x1.map (ad 3)) hx hb d_cSv_emitOp_165 rfl (lv_at hl 1 rfl) ?_
      refine w_v (y := rv ad 3 x1) rfl ?_
      refine w_s (st' := [.ref (ad 3 j_1), .ref (ad 6 x0)]) (congrArg (fun z9 : Option Nat => [rv ad 3 z9, .ref (ad 6 x0)]) hj_2) ?_
      refine va_get (D := D) (ci := 3) (v := .int (o_8.i 3 8 j_1)) (C := R_Op) (T := F_Op) (N := 15) hx hb hts i_Op hown hK hP (cPos N 3 j_1) (cw_obj (k := 3) (by decide) hl_3) rfl 8 (by decide) (hts _ kw_80) (fun _ h9 => h9) rfl d_cSv_emitOp_166 ?_
      refine tx_aload_n (x := x1.map (ad 3)) hx hb d_cSv_emitOp_169 rfl (lv_at hl 1 rfl) ?_
      refine w_v (y := rv ad 3 x1) rfl ?_
      refine w_s (st' := [.ref (ad 3 j_1), .int (o_8.i 3 8 j_1), .ref (ad 6 x0)]) (congrArg (fun z9 : Option Nat => [rv ad 3 z9, .int (o_8.i 3 8 j_1), .ref (ad 6 x0)]) hj_2) ?_
      refine va_get (D := D) (ci := 3) (v := .int (o_8.i 3 9 j_1)) (C := R_Op) (T := F_Op) (N := 15) hx hb hts i_Op hown hK hP (cPos N 3 j_1) (cw_obj (k := 3) (by decide) hl_3) rfl 9 (by decide) (hts _ kw_84) (fun _ h9 => h9) rfl d_cSv_emitOp_170 ?_
      refine lv_iadd hx hb d_cSv_emitOp_173 ?_
      refine w_i (y := (o_8.i 3 8 j_1) + (o_8.i 3 9 j_1)) rfl ?_
      refine tx_aload_n (x := x1.map (ad 3)) hx hb d_cSv_emitOp_174 rfl (lv_at hl 1 rfl) ?_
      refine w_v (y := rv ad 3 x1) rfl ?_
      refine w_s (st' := [.ref (ad 3 j_1), .int ((o_8.i 3 8 j_1) + (o_8.i 3 9 j_1)), .ref (ad 6 x0)]) (congrArg (fun z9 : Option Nat => [rv ad 3 z9, .int ((o_8.i 3 8 j_1) + (o_8.i 3 9 j_1)), .ref (ad 6 x0)]) hj_2) ?_
      refine va_get (D := D) (ci := 3) (v := .int (o_8.i 3 10 j_1)) (C := R_Op) (T := F_Op) (N := 15) hx hb hts i_Op hown hK hP (cPos N 3 j_1) (cw_obj (k := 3) (by decide) hl_3) rfl 10 (by decide) (hts _ kw_88) (fun _ h9 => h9) rfl d_cSv_emitOp_175 ?_
      obtain ⟨o_10, h_11, Heq⟩ := ob_some Heq
      have hFc := fr_all hD hS hA
      refine va_callv (va_runV (As := [.int ((o_8.i 3 8 j_1) + (o_8.i 3 9 j_1)), .int (o_8.i 3 10 j_1)]) (rest := []) ⟨hx, hb, hml, hown, hts⟩ (g_cSv_emitBytes l D H.size (ad := ad) (cc := cc) (sad := sad) (sav := sav) h_11) (cw_v 2 hts kw_1303 kw_1300 kw_1301 kw_1302 kw_10 rfl rfl (by decide +kernel) ⟨Nat.le_of_ble_eq_true rfl, Nat.le_of_ble_eq_true rfl⟩) ⟨c_blind, va_recv hK hP (ci := 6) (q0 := cPos N 6 x0) rfl (cw_obj (k := 6) (by decide) hl_x0_6), fun U hU hW => c_pre hU hW hP hK hD hev hE hN hNS hS hFc⟩ rfl rfl hl.1 rfl (lv_room (Nat.le_of_ble_eq_true rfl)) d_cSv_emitOp_178 ⟨Nat.le_of_ble_eq_true rfl, Nat.le_of_ble_eq_true rfl⟩) hS (fun q _ h => hFc q h) hFc (fun u t H1 locs ht hvm hw hB hz1 hk1 hS => ?_)
      obtain ⟨hP, -, hD1⟩ := hB
      rw [ht] at hP
      have hD := hD1.weaken (fun _ q _ h => hFc q.1 h)
      generalize H1 = H at hP hS ⊢
      refine W.cs (cells' := 0) (slots' := 0) rfl rfl ?_
      exact w_cSv_emitOp_J181 hC Heq Kr _ _ _ hP hD hS (lv_sub hl [0, 1] rfl)
  · replace Heq := (if_neg c_6).symm.trans Heq
    refine lv_aload_n hx hb d_cSv_emitOp_126 rfl (lv_at hl 0 rfl) ?_
    refine tx_aload_n (x := x1.map (ad 3)) hx hb d_cSv_emitOp_127 rfl (lv_at hl 1 rfl) ?_
    refine w_v (y := rv ad 3 x1) rfl ?_
    refine w_s (st' := [.ref (ad 3 j_1), .ref (ad 6 x0)]) (congrArg (fun z9 : Option Nat => [rv ad 3 z9, .ref (ad 6 x0)]) hj_2) ?_
    refine va_get (D := D) (ci := 3) (v := .long (o_4.1.l 3 3 j_1)) (C := R_Op) (T := F_Op) (N := 15) hx hb hts i_Op hown hK hP (cPos N 3 j_1) (cw_obj (k := 3) (by decide) hl_3) rfl 3 (by decide) (hts _ kw_65) (fun _ h9 => h9) rfl d_cSv_emitOp_128 ?_
    refine lv_iconst (v := 1) hx hb d_cSv_emitOp_131 (by decide) ?_
    refine lv_lshl hx hb d_cSv_emitOp_132 rfl ?_
    refine w_l (y := (o_4.1.l 3 3 j_1) <<< ((1 : Int32).toInt64 &&& 63)) rfl ?_
    refine tx_aload_n (x := x1.map (ad 3)) hx hb d_cSv_emitOp_133 rfl (lv_at hl 1 rfl) ?_
    refine w_v (y := rv ad 3 x1) rfl ?_
    refine w_s (st' := [.ref (ad 3 j_1), .long ((o_4.1.l 3 3 j_1) <<< ((1 : Int32).toInt64 &&& 63)), .ref (ad 6 x0)]) (congrArg (fun z9 : Option Nat => [rv ad 3 z9, .long ((o_4.1.l 3 3 j_1) <<< ((1 : Int32).toInt64 &&& 63)), .ref (ad 6 x0)]) hj_2) ?_
    refine va_get (D := D) (ci := 3) (v := .long (o_4.1.l 3 3 j_1)) (C := R_Op) (T := F_Op) (N := 15) hx hb hts i_Op hown hK hP (cPos N 3 j_1) (cw_obj (k := 3) (by decide) hl_3) rfl 3 (by decide) (hts _ kw_65) (fun _ h9 => h9) rfl d_cSv_emitOp_134 ?_
    refine lv_bipush (v := 63) hx hb d_cSv_emitOp_137 (by decide) ?_
    refine lv_lshr hx hb d_cSv_emitOp_139 rfl ?_
    refine w_l (y := (o_4.1.l 3 3 j_1) >>> ((63 : Int32).toInt64 &&& 63)) rfl ?_
    refine lv_lxor hx hb d_cSv_emitOp_140 ?_
    refine w_l (y := ((o_4.1.l 3 3 j_1) <<< ((1 : Int32).toInt64 &&& 63)) ^^^ ((o_4.1.l 3 3 j_1) >>> ((63 : Int32).toInt64 &&& 63))) rfl ?_
    obtain ⟨hl_x0_6, Heq⟩ := gl_some Heq
    obtain ⟨o_12, h_13, Heq⟩ := ob_some Heq
    have hFc := fr_all hD hS hA
    refine va_callv (va_runV (As := [.long (((o_4.1.l 3 3 j_1) <<< ((1 : Int32).toInt64 &&& 63)) ^^^ ((o_4.1.l 3 3 j_1) >>> ((63 : Int32).toInt64 &&& 63)))]) (rest := []) ⟨hx, hb, hml, hown, hts⟩ (g_cSv_emitNumber l D H.size (ad := ad) (cc := cc) (sad := sad) (sav := sav) h_13) (cw_v 1 hts kw_1283 kw_1280 kw_1281 kw_1282 kw_10 rfl rfl (by decide +kernel) ⟨Nat.le_of_ble_eq_true rfl, Nat.le_of_ble_eq_true rfl⟩) ⟨c_blind, va_recv hK hP (ci := 6) (q0 := cPos N 6 x0) rfl (cw_obj (k := 6) (by decide) hl_x0_6), fun U hU hW => c_pre hU hW hP hK hD hev hE hN hNS hS hFc⟩ rfl rfl hl.1 rfl (lv_room (Nat.le_of_ble_eq_true rfl)) d_cSv_emitOp_141 ⟨Nat.le_of_ble_eq_true rfl, Nat.le_of_ble_eq_true rfl⟩) hS (fun q _ h => hFc q h) hFc (fun u t H1 locs ht hvm hw hB hz1 hk1 hS => ?_)
    obtain ⟨hP, -, hD1⟩ := hB
    rw [ht] at hP
    have hD := hD1.weaken (fun _ q _ h => hFc q.1 h)
    generalize H1 = H at hP hS ⊢
    refine W.cs (cells' := 0) (slots' := 0) rfl rfl ?_
    refine lv_goto (tgt := 181) hx hb d_cSv_emitOp_144 (by decide) ?_
    exact w_cSv_emitOp_J181 hC Heq Kr _ _ _ hP hD hS (lv_sub hl [0, 1] rfl)
def m_cSv_emitOp_J98 (N : Nat → Nat) (x0 : Nat) (S : CS) (x1 : Option Nat) (t0 : Int64) (t1 : Option Nat) : Option CS := gn t1 (N 6) (fun j_1 => ob (m_cSv_emitNumber N j_1 S t0) (fun o_4 => m_cSv_emitOp_J119 N x0 o_4 x1))
theorem d_cSv_emitOp_78 : decode prog_8_method_9_code 78 = .ok (.aload_n 0, 1) := by decide +kernel
theorem d_cSv_emitOp_79 : decode prog_8_method_9_code 79 = .ok (.aload_n 1, 1) := by decide +kernel
theorem d_cSv_emitOp_80 : decode prog_8_method_9_code 80 = .ok (.getfield 148, 3) := by decide +kernel
theorem d_cSv_emitOp_83 : decode prog_8_method_9_code 83 = .ok (.ifnonnull 7, 3) := by decide +kernel
theorem d_cSv_emitOp_86 : decode prog_8_method_9_code 86 = .ok (.lconst 0, 1) := by decide +kernel
theorem d_cSv_emitOp_87 : decode prog_8_method_9_code 87 = .ok (.goto 11, 3) := by decide +kernel
theorem d_cSv_emitOp_98 : decode prog_8_method_9_code 98 = .ok (.invokevirtual 38, 3) := by decide +kernel
theorem d_cSv_emitOp_101 : decode prog_8_method_9_code 101 = .ok (.goto 18, 3) := by decide +kernel
set_option maxHeartbeats 4000000 in
set_option maxRecDepth 100000 in
theorem w_cSv_emitOp_J98 {p : Program} {l : Launch} {e : Env} {s : State} {m : MethodId} {args : Array Value} {below : List Frame} {meth : Method} {c : Code} {A : Nat → Prop} {D : va_G} {ad : Nat → Nat → Nat} {cc : Nat → ClassId} {sad sav : Nat → Nat} {Q : State → Prop} (hC : MCc sad sav "JoinedTrees$Saver" prog_8_method_9_code 4 none p s m args meth c A D cc) {N : Nat → Nat} {x0 : Nat} {S : CS} {x1 : Option Nat} {t0 : Int64} {t1 : Option Nat} {o : CS} (Heq : m_cSv_emitOp_J98 N x0 S x1 t0 t1 = some o) (Kr : ∀ r : CS, o = r → ∀ (pc : Nat) (H : Heap) (locs : List Loc) (ls : Array Slot), decode prog_8_method_9_code pc = .ok (.return_, 1) → va_P D cls (cw ad cc N r) H → va_D A (cw ad cc N r) → va_S A s.heap H locs → W p l e ({ frames := 3, cells := 0, slots := 0, locals := 67 }) s m args below meth c H locs 0 0 Q (F0 m pc ls [])) : ∀ (H : Heap) (locs : List Loc) (ls : Array Slot), va_P D cls (cw ad cc N S) H → va_D A (cw ad cc N S) → va_S A s.heap H locs → lv_has ls 4 [(0, .ref (ad 6 x0)), (1, rv ad 3 x1)] → W p l e ({ frames := 3, cells := 0, slots := 0, locals := 67 }) s m args below meth c H locs 0 0 Q (F0 m 98 ls [.long t0, rv ad 6 t1]) := by
  intro H locs ls hP hD hS hl
  obtain ⟨hx, hb, hr, hml, hown, hts, hK, hA, hev, hE, hN, hNS⟩ := id hC
  unfold m_cSv_emitOp_J98 at Heq
  obtain ⟨j_1, hj_2, hl_3, Heq⟩ := gn_some Heq
  refine w_s (st' := [.long t0, .ref (ad 6 j_1)]) (congrArg (fun z9 : Option Nat => [.long t0, rv ad 6 z9]) hj_2) ?_
  obtain ⟨o_4, h_5, Heq⟩ := ob_some Heq
  have hFc := fr_all hD hS hA
  refine va_callv (va_runV (As := [.long t0]) (rest := []) ⟨hx, hb, hml, hown, hts⟩ (g_cSv_emitNumber l D H.size (ad := ad) (cc := cc) (sad := sad) (sav := sav) h_5) (cw_v 1 hts kw_1283 kw_1280 kw_1281 kw_1282 kw_10 rfl rfl (by decide +kernel) ⟨Nat.le_of_ble_eq_true rfl, Nat.le_of_ble_eq_true rfl⟩) ⟨c_blind, va_recv hK hP (ci := 6) (q0 := cPos N 6 j_1) rfl (cw_obj (k := 6) (by decide) hl_3), fun U hU hW => c_pre hU hW hP hK hD hev hE hN hNS hS hFc⟩ rfl rfl hl.1 rfl (lv_room (Nat.le_of_ble_eq_true rfl)) d_cSv_emitOp_98 ⟨Nat.le_of_ble_eq_true rfl, Nat.le_of_ble_eq_true rfl⟩) hS (fun q _ h => hFc q h) hFc (fun u t H1 locs ht hvm hw hB hz1 hk1 hS => ?_)
  obtain ⟨hP, -, hD1⟩ := hB
  rw [ht] at hP
  have hD := hD1.weaken (fun _ q _ h => hFc q.1 h)
  generalize H1 = H at hP hS ⊢
  refine W.cs (cells' := 0) (slots' := 0) rfl rfl ?_
  refine lv_goto (tgt := 119) hx hb d_cSv_emitOp_101 (by decide) ?_
  exact w_cSv_emitOp_J119 hC Heq Kr _ _ _ hP hD hS (lv_sub hl [0, 1] rfl)
def m_cSv_emitOp_J30 (N : Nat → Nat) (x0 : Nat) (S : CS) (x1 : Option Nat) (t0 : Int32) (t1 : Int32) (t2 : Option Nat) : Option CS := gn t2 (N 6) (fun j_1 => ob (m_cSv_emitNumber N j_1 S ((t1 + t0).toInt64)) (fun o_4 => gn x1 (N 3) (fun j_6 => gn (o_4.r 3 1 j_6) (N 3) (fun j_9 => (if o_4.i 3 2 j_9 = 6 then gl x0 (N 6) (ob (m_cSv_emitNumber N x0 o_4 ((o_4.i 3 9 j_6).toInt64)) (fun o_24 => ob (m_cSv_emitBytes N x0 o_24 (o_24.i 3 8 j_6) (o_24.i 3 9 j_6)) (fun o_26 => m_cSv_emitOp_J119 N x0 o_26 x1))) else (if o_4.i 3 5 j_6 = 0 then gn (o_4.r 3 11 j_6) (N 7) (fun j_14 => gn (o_4.r 7 0 j_14) (N 3) (fun j_17 => gl x0 (N 6) (ob (m_cSv_emitNumber N x0 o_4 ((o_4.i 3 0 j_17).toInt64)) (fun o_20 => m_cSv_emitOp_J119 N x0 o_20 x1)))) else on (o_4.r 3 6 j_6) (m_cSv_emitOp_J98 N x0 o_4 x1 0 (some x0)) (fun j_22 => gl j_22 (N 3) (m_cSv_emitOp_J98 N x0 o_4 x1 ((o_4.i 3 0 j_22).toInt64) (some x0)))))))))
theorem d_cSv_emitOp_90 : decode prog_8_method_9_code 90 = .ok (.aload_n 1, 1) := by decide +kernel
theorem d_cSv_emitOp_91 : decode prog_8_method_9_code 91 = .ok (.getfield 148, 3) := by decide +kernel
theorem d_cSv_emitOp_94 : decode prog_8_method_9_code 94 = .ok (.getfield 129, 3) := by decide +kernel
theorem d_cSv_emitOp_97 : decode prog_8_method_9_code 97 = .ok (.i2l, 1) := by decide +kernel
theorem d_cSv_emitOp_47 : decode prog_8_method_9_code 47 = .ok (.aload_n 0, 1) := by decide +kernel
theorem d_cSv_emitOp_48 : decode prog_8_method_9_code 48 = .ok (.aload_n 1, 1) := by decide +kernel
theorem d_cSv_emitOp_49 : decode prog_8_method_9_code 49 = .ok (.getfield 138, 3) := by decide +kernel
theorem d_cSv_emitOp_52 : decode prog_8_method_9_code 52 = .ok (.i2l, 1) := by decide +kernel
theorem d_cSv_emitOp_53 : decode prog_8_method_9_code 53 = .ok (.invokevirtual 38, 3) := by decide +kernel
theorem d_cSv_emitOp_56 : decode prog_8_method_9_code 56 = .ok (.aload_n 0, 1) := by decide +kernel
theorem d_cSv_emitOp_57 : decode prog_8_method_9_code 57 = .ok (.aload_n 1, 1) := by decide +kernel
theorem d_cSv_emitOp_58 : decode prog_8_method_9_code 58 = .ok (.getfield 141, 3) := by decide +kernel
theorem d_cSv_emitOp_61 : decode prog_8_method_9_code 61 = .ok (.aload_n 1, 1) := by decide +kernel
theorem d_cSv_emitOp_62 : decode prog_8_method_9_code 62 = .ok (.getfield 138, 3) := by decide +kernel
theorem d_cSv_emitOp_65 : decode prog_8_method_9_code 65 = .ok (.invokevirtual 144, 3) := by decide +kernel
theorem d_cSv_emitOp_68 : decode prog_8_method_9_code 68 = .ok (.goto 51, 3) := by decide +kernel
set_option maxHeartbeats 4000000 in
set_option maxRecDepth 100000 in
theorem w_cSv_emitOp_J30 {p : Program} {l : Launch} {e : Env} {s : State} {m : MethodId} {args : Array Value} {below : List Frame} {meth : Method} {c : Code} {A : Nat → Prop} {D : va_G} {ad : Nat → Nat → Nat} {cc : Nat → ClassId} {sad sav : Nat → Nat} {Q : State → Prop} (hC : MCc sad sav "JoinedTrees$Saver" prog_8_method_9_code 4 none p s m args meth c A D cc) {N : Nat → Nat} {x0 : Nat} {S : CS} {x1 : Option Nat} {t0 : Int32} {t1 : Int32} {t2 : Option Nat} {o : CS} (Heq : m_cSv_emitOp_J30 N x0 S x1 t0 t1 t2 = some o) (Kr : ∀ r : CS, o = r → ∀ (pc : Nat) (H : Heap) (locs : List Loc) (ls : Array Slot), decode prog_8_method_9_code pc = .ok (.return_, 1) → va_P D cls (cw ad cc N r) H → va_D A (cw ad cc N r) → va_S A s.heap H locs → W p l e ({ frames := 3, cells := 0, slots := 0, locals := 67 }) s m args below meth c H locs 0 0 Q (F0 m pc ls [])) : ∀ (H : Heap) (locs : List Loc) (ls : Array Slot), va_P D cls (cw ad cc N S) H → va_D A (cw ad cc N S) → va_S A s.heap H locs → lv_has ls 4 [(0, .ref (ad 6 x0)), (1, rv ad 3 x1)] → W p l e ({ frames := 3, cells := 0, slots := 0, locals := 67 }) s m args below meth c H locs 0 0 Q (F0 m 30 ls [.int t0, .int t1, rv ad 6 t2]) := by
  intro H locs ls hP hD hS hl
  obtain ⟨hx, hb, hr, hml, hown, hts, hK, hA, hev, hE, hN, hNS⟩ := id hC
  unfold m_cSv_emitOp_J30 at Heq
  refine lv_iadd hx hb d_cSv_emitOp_30 ?_
  refine w_i (y := t1 + t0) rfl ?_
  refine lv_i2l hx hb d_cSv_emitOp_31 rfl ?_
  refine w_l (y := (t1 + t0).toInt64) rfl ?_
  obtain ⟨j_1, hj_2, hl_3, Heq⟩ := gn_some Heq
  refine w_s (st' := [.long ((t1 + t0).toInt64), .ref (ad 6 j_1)]) (congrArg (fun z9 : Option Nat => [.long ((t1 + t0).toInt64), rv ad 6 z9]) hj_2) ?_
  obtain ⟨o_4, h_5, Heq⟩ := ob_some Heq
  have hFc := fr_all hD hS hA
  refine va_callv (va_runV (As := [.long ((t1 + t0).toInt64)]) (rest := []) ⟨hx, hb, hml, hown, hts⟩ (g_cSv_emitNumber l D H.size (ad := ad) (cc := cc) (sad := sad) (sav := sav) h_5) (cw_v 1 hts kw_1283 kw_1280 kw_1281 kw_1282 kw_10 rfl rfl (by decide +kernel) ⟨Nat.le_of_ble_eq_true rfl, Nat.le_of_ble_eq_true rfl⟩) ⟨c_blind, va_recv hK hP (ci := 6) (q0 := cPos N 6 j_1) rfl (cw_obj (k := 6) (by decide) hl_3), fun U hU hW => c_pre hU hW hP hK hD hev hE hN hNS hS hFc⟩ rfl rfl hl.1 rfl (lv_room (Nat.le_of_ble_eq_true rfl)) d_cSv_emitOp_32 ⟨Nat.le_of_ble_eq_true rfl, Nat.le_of_ble_eq_true rfl⟩) hS (fun q _ h => hFc q h) hFc (fun u t H1 locs ht hvm hw hB hz1 hk1 hS => ?_)
  obtain ⟨hP, -, hD1⟩ := hB
  rw [ht] at hP
  have hD := hD1.weaken (fun _ q _ h => hFc q.1 h)
  generalize H1 = H at hP hS ⊢
  refine W.cs (cells' := 0) (slots' := 0) rfl rfl ?_
  refine tx_aload_n (x := x1.map (ad 3)) hx hb d_cSv_emitOp_35 rfl (lv_at hl 1 rfl) ?_
  refine w_v (y := rv ad 3 x1) rfl ?_
  obtain ⟨j_6, hj_7, hl_8, Heq⟩ := gn_some Heq
  refine w_s (st' := [.ref (ad 3 j_6)]) (congrArg (fun z9 : Option Nat => [rv ad 3 z9]) hj_7) ?_
  refine va_get (D := D) (ci := 3) (v := rv ad 3 (o_4.r 3 1 j_6)) (C := R_Op) (T := F_Op) (N := 15) hx hb hts i_Op hown hK hP (cPos N 3 j_6) (cw_obj (k := 3) (by decide) hl_8) rfl 1 (by decide) (hts _ kw_57) (fun _ h9 => h9) rfl d_cSv_emitOp_36 ?_
  obtain ⟨j_9, hj_10, hl_11, Heq⟩ := gn_some Heq
  refine w_s (st' := [.ref (ad 3 j_9)]) (congrArg (fun z9 : Option Nat => [rv ad 3 z9]) hj_10) ?_
  refine va_get (D := D) (ci := 3) (v := .int (o_4.i 3 2 j_9)) (C := R_Op) (T := F_Op) (N := 15) hx hb hts i_Op hown hK hP (cPos N 3 j_9) (cw_obj (k := 3) (by decide) hl_11) rfl 2 (by decide) (hts _ kw_63) (fun _ h9 => h9) rfl d_cSv_emitOp_39 ?_
  refine lv_bipush (v := 6) hx hb d_cSv_emitOp_42 (by decide) ?_
  refine lv_icmp_ne (tgt := 71) hx hb d_cSv_emitOp_44 (by decide) (fun c_12 => ?_) (fun c_12 => ?_)
  · replace Heq := (if_neg c_12).symm.trans Heq
    refine tx_aload_n (x := x1.map (ad 3)) hx hb d_cSv_emitOp_71 rfl (lv_at hl 1 rfl) ?_
    refine w_v (y := rv ad 3 x1) rfl ?_
    refine w_s (st' := [.ref (ad 3 j_6)]) (congrArg (fun z9 : Option Nat => [rv ad 3 z9]) hj_7) ?_
    refine va_get (D := D) (ci := 3) (v := .int (o_4.i 3 5 j_6)) (C := R_Op) (T := F_Op) (N := 15) hx hb hts i_Op hown hK hP (cPos N 3 j_6) (cw_obj (k := 3) (by decide) hl_8) rfl 5 (by decide) (hts _ kw_70) (fun _ h9 => h9) rfl d_cSv_emitOp_72 ?_
    refine lv_if_eq (tgt := 104) hx hb d_cSv_emitOp_75 (by decide) (fun c_13 => ?_) (fun c_13 => ?_)
    · replace Heq := (if_pos c_13).symm.trans Heq
      refine lv_aload_n hx hb d_cSv_emitOp_104 rfl (lv_at hl 0 rfl) ?_
      refine tx_aload_n (x := x1.map (ad 3)) hx hb d_cSv_emitOp_105 rfl (lv_at hl 1 rfl) ?_
      refine w_v (y := rv ad 3 x1) rfl ?_
      refine w_s (st' := [.ref (ad 3 j_6), .ref (ad 6 x0)]) (congrArg (fun z9 : Option Nat => [rv ad 3 z9, .ref (ad 6 x0)]) hj_7) ?_
      refine va_get (D := D) (ci := 3) (v := rv ad 7 (o_4.r 3 11 j_6)) (C := R_Op) (T := F_Op) (N := 15) hx hb hts i_Op hown hK hP (cPos N 3 j_6) (cw_obj (k := 3) (by decide) hl_8) rfl 11 (by decide) (hts _ kw_93) (fun _ h9 => h9) rfl d_cSv_emitOp_106 ?_
      obtain ⟨j_14, hj_15, hl_16, Heq⟩ := gn_some Heq
      refine w_s (st' := [.ref (ad 7 j_14), .ref (ad 6 x0)]) (congrArg (fun z9 : Option Nat => [rv ad 7 z9, .ref (ad 6 x0)]) hj_15) ?_
      refine va_get (D := D) (ci := 7) (v := rv ad 3 (o_4.r 7 0 j_14)) (C := R_Sp) (T := F_Sp) (N := 3) hx hb hts i_Sp hown hK hP (cPos N 7 j_14) (cw_obj (k := 7) (by decide) hl_16) rfl 0 (by decide) (hts _ kw_742) (fun _ h9 => h9) rfl d_cSv_emitOp_109 ?_
      obtain ⟨j_17, hj_18, hl_19, Heq⟩ := gn_some Heq
      refine w_s (st' := [.ref (ad 3 j_17), .ref (ad 6 x0)]) (congrArg (fun z9 : Option Nat => [rv ad 3 z9, .ref (ad 6 x0)]) hj_18) ?_
      refine va_get (D := D) (ci := 3) (v := .int (o_4.i 3 0 j_17)) (C := R_Op) (T := F_Op) (N := 15) hx hb hts i_Op hown hK hP (cPos N 3 j_17) (cw_obj (k := 3) (by decide) hl_19) rfl 0 (by decide) (hts _ kw_53) (fun _ h9 => h9) rfl d_cSv_emitOp_112 ?_
      refine lv_i2l hx hb d_cSv_emitOp_115 rfl ?_
      refine w_l (y := (o_4.i 3 0 j_17).toInt64) rfl ?_
      obtain ⟨hl_x0_6, Heq⟩ := gl_some Heq
      obtain ⟨o_20, h_21, Heq⟩ := ob_some Heq
      have hFc := fr_all hD hS hA
      refine va_callv (va_runV (As := [.long ((o_4.i 3 0 j_17).toInt64)]) (rest := []) ⟨hx, hb, hml, hown, hts⟩ (g_cSv_emitNumber l D H.size (ad := ad) (cc := cc) (sad := sad) (sav := sav) h_21) (cw_v 1 hts kw_1283 kw_1280 kw_1281 kw_1282 kw_10 rfl rfl (by decide +kernel) ⟨Nat.le_of_ble_eq_true rfl, Nat.le_of_ble_eq_true rfl⟩) ⟨c_blind, va_recv hK hP (ci := 6) (q0 := cPos N 6 x0) rfl (cw_obj (k := 6) (by decide) hl_x0_6), fun U hU hW => c_pre hU hW hP hK hD hev hE hN hNS hS hFc⟩ rfl rfl hl.1 rfl (lv_room (Nat.le_of_ble_eq_true rfl)) d_cSv_emitOp_116 ⟨Nat.le_of_ble_eq_true rfl, Nat.le_of_ble_eq_true rfl⟩) hS (fun q _ h => hFc q h) hFc (fun u t H1 locs ht hvm hw hB hz1 hk1 hS => ?_)
      obtain ⟨hP, -, hD1⟩ := hB
      rw [ht] at hP
      have hD := hD1.weaken (fun _ q _ h => hFc q.1 h)
      generalize H1 = H at hP hS ⊢
      refine W.cs (cells' := 0) (slots' := 0) rfl rfl ?_
      exact w_cSv_emitOp_J119 hC Heq Kr _ _ _ hP hD hS (lv_sub hl [0, 1] rfl)
    · replace Heq := (if_neg c_13).symm.trans Heq
      refine lv_aload_n hx hb d_cSv_emitOp_78 rfl (lv_at hl 0 rfl) ?_
      refine tx_aload_n (x := x1.map (ad 3)) hx hb d_cSv_emitOp_79 rfl (lv_at hl 1 rfl) ?_
      refine w_v (y := rv ad 3 x1) rfl ?_
      refine w_s (st' := [.ref (ad 3 j_6), .ref (ad 6 x0)]) (congrArg (fun z9 : Option Nat => [rv ad 3 z9, .ref (ad 6 x0)]) hj_7) ?_
      refine va_get (D := D) (ci := 3) (v := rv ad 3 (o_4.r 3 6 j_6)) (C := R_Op) (T := F_Op) (N := 15) hx hb hts i_Op hown hK hP (cPos N 3 j_6) (cw_obj (k := 3) (by decide) hl_8) rfl 6 (by decide) (hts _ kw_73) (fun _ h9 => h9) rfl d_cSv_emitOp_80 ?_
      rcases on_some Heq with ⟨hj_23, Heq⟩ | ⟨j_22, hj_23, Heq⟩
      · refine w_s (st' := [.null, .ref (ad 6 x0)]) (congrArg (fun z9 : Option Nat => [rv ad 3 z9, .ref (ad 6 x0)]) hj_23) ?_
        refine lv_ifnonnullN hx hb d_cSv_emitOp_83 ?_
        refine lv_lconst (v := 0) hx hb d_cSv_emitOp_86 (by decide) ?_
        refine lv_goto (tgt := 98) hx hb d_cSv_emitOp_87 (by decide) ?_
        exact w_cSv_emitOp_J98 hC Heq Kr _ _ _ hP hD hS (lv_sub hl [0, 1] rfl)
      · refine w_s (st' := [.ref (ad 3 j_22), .ref (ad 6 x0)]) (congrArg (fun z9 : Option Nat => [rv ad 3 z9, .ref (ad 6 x0)]) hj_23) ?_
        refine lv_ifnonnull (tgt := 90) hx hb d_cSv_emitOp_83 (by decide) ?_
        refine tx_aload_n (x := x1.map (ad 3)) hx hb d_cSv_emitOp_90 rfl (lv_at hl 1 rfl) ?_
        refine w_v (y := rv ad 3 x1) rfl ?_
        refine w_s (st' := [.ref (ad 3 j_6), .ref (ad 6 x0)]) (congrArg (fun z9 : Option Nat => [rv ad 3 z9, .ref (ad 6 x0)]) hj_7) ?_
        refine va_get (D := D) (ci := 3) (v := rv ad 3 (o_4.r 3 6 j_6)) (C := R_Op) (T := F_Op) (N := 15) hx hb hts i_Op hown hK hP (cPos N 3 j_6) (cw_obj (k := 3) (by decide) hl_8) rfl 6 (by decide) (hts _ kw_73) (fun _ h9 => h9) rfl d_cSv_emitOp_91 ?_
        refine w_s (st' := [.ref (ad 3 j_22), .ref (ad 6 x0)]) (congrArg (fun z9 : Option Nat => [rv ad 3 z9, .ref (ad 6 x0)]) hj_23) ?_
        obtain ⟨hl_j_22_3, Heq⟩ := gl_some Heq
        refine va_get (D := D) (ci := 3) (v := .int (o_4.i 3 0 j_22)) (C := R_Op) (T := F_Op) (N := 15) hx hb hts i_Op hown hK hP (cPos N 3 j_22) (cw_obj (k := 3) (by decide) hl_j_22_3) rfl 0 (by decide) (hts _ kw_53) (fun _ h9 => h9) rfl d_cSv_emitOp_94 ?_
        refine lv_i2l hx hb d_cSv_emitOp_97 rfl ?_
        refine w_l (y := (o_4.i 3 0 j_22).toInt64) rfl ?_
        exact w_cSv_emitOp_J98 hC Heq Kr _ _ _ hP hD hS (lv_sub hl [0, 1] rfl)
  · replace Heq := (if_pos c_12).symm.trans Heq
    refine lv_aload_n hx hb d_cSv_emitOp_47 rfl (lv_at hl 0 rfl) ?_
    refine tx_aload_n (x := x1.map (ad 3)) hx hb d_cSv_emitOp_48 rfl (lv_at hl 1 rfl) ?_
    refine w_v (y := rv ad 3 x1) rfl ?_
    refine w_s (st' := [.ref (ad 3 j_6), .ref (ad 6 x0)]) (congrArg (fun z9 : Option Nat => [rv ad 3 z9, .ref (ad 6 x0)]) hj_7) ?_
    refine va_get (D := D) (ci := 3) (v := .int (o_4.i 3 9 j_6)) (C := R_Op) (T := F_Op) (N := 15) hx hb hts i_Op hown hK hP (cPos N 3 j_6) (cw_obj (k := 3) (by decide) hl_8) rfl 9 (by decide) (hts _ kw_84) (fun _ h9 => h9) rfl d_cSv_emitOp_49 ?_
    refine lv_i2l hx hb d_cSv_emitOp_52 rfl ?_
    refine w_l (y := (o_4.i 3 9 j_6).toInt64) rfl ?_
    obtain ⟨hl_x0_6, Heq⟩ := gl_some Heq
    obtain ⟨o_24, h_25, Heq⟩ := ob_some Heq
    have hFc := fr_all hD hS hA
    refine va_callv (va_runV (As := [.long ((o_4.i 3 9 j_6).toInt64)]) (rest := []) ⟨hx, hb, hml, hown, hts⟩ (g_cSv_emitNumber l D H.size (ad := ad) (cc := cc) (sad := sad) (sav := sav) h_25) (cw_v 1 hts kw_1283 kw_1280 kw_1281 kw_1282 kw_10 rfl rfl (by decide +kernel) ⟨Nat.le_of_ble_eq_true rfl, Nat.le_of_ble_eq_true rfl⟩) ⟨c_blind, va_recv hK hP (ci := 6) (q0 := cPos N 6 x0) rfl (cw_obj (k := 6) (by decide) hl_x0_6), fun U hU hW => c_pre hU hW hP hK hD hev hE hN hNS hS hFc⟩ rfl rfl hl.1 rfl (lv_room (Nat.le_of_ble_eq_true rfl)) d_cSv_emitOp_53 ⟨Nat.le_of_ble_eq_true rfl, Nat.le_of_ble_eq_true rfl⟩) hS (fun q _ h => hFc q h) hFc (fun u t H1 locs ht hvm hw hB hz1 hk1 hS => ?_)
    obtain ⟨hP, -, hD1⟩ := hB
    rw [ht] at hP
    have hD := hD1.weaken (fun _ q _ h => hFc q.1 h)
    generalize H1 = H at hP hS ⊢
    refine W.cs (cells' := 0) (slots' := 0) rfl rfl ?_
    refine lv_aload_n hx hb d_cSv_emitOp_56 rfl (lv_at hl 0 rfl) ?_
    refine tx_aload_n (x := x1.map (ad 3)) hx hb d_cSv_emitOp_57 rfl (lv_at hl 1 rfl) ?_
    refine w_v (y := rv ad 3 x1) rfl ?_
    refine w_s (st' := [.ref (ad 3 j_6), .ref (ad 6 x0)]) (congrArg (fun z9 : Option Nat => [rv ad 3 z9, .ref (ad 6 x0)]) hj_7) ?_
    refine va_get (D := D) (ci := 3) (v := .int (o_24.i 3 8 j_6)) (C := R_Op) (T := F_Op) (N := 15) hx hb hts i_Op hown hK hP (cPos N 3 j_6) (cw_obj (k := 3) (by decide) hl_8) rfl 8 (by decide) (hts _ kw_80) (fun _ h9 => h9) rfl d_cSv_emitOp_58 ?_
    refine tx_aload_n (x := x1.map (ad 3)) hx hb d_cSv_emitOp_61 rfl (lv_at hl 1 rfl) ?_
    refine w_v (y := rv ad 3 x1) rfl ?_
    refine w_s (st' := [.ref (ad 3 j_6), .int (o_24.i 3 8 j_6), .ref (ad 6 x0)]) (congrArg (fun z9 : Option Nat => [rv ad 3 z9, .int (o_24.i 3 8 j_6), .ref (ad 6 x0)]) hj_7) ?_
    refine va_get (D := D) (ci := 3) (v := .int (o_24.i 3 9 j_6)) (C := R_Op) (T := F_Op) (N := 15) hx hb hts i_Op hown hK hP (cPos N 3 j_6) (cw_obj (k := 3) (by decide) hl_8) rfl 9 (by decide) (hts _ kw_84) (fun _ h9 => h9) rfl d_cSv_emitOp_62 ?_
    obtain ⟨o_26, h_27, Heq⟩ := ob_some Heq
    have hFc := fr_all hD hS hA
    refine va_callv (va_runV (As := [.int (o_24.i 3 8 j_6), .int (o_24.i 3 9 j_6)]) (rest := []) ⟨hx, hb, hml, hown, hts⟩ (g_cSv_emitBytes l D H.size (ad := ad) (cc := cc) (sad := sad) (sav := sav) h_27) (cw_v 2 hts kw_1303 kw_1300 kw_1301 kw_1302 kw_10 rfl rfl (by decide +kernel) ⟨Nat.le_of_ble_eq_true rfl, Nat.le_of_ble_eq_true rfl⟩) ⟨c_blind, va_recv hK hP (ci := 6) (q0 := cPos N 6 x0) rfl (cw_obj (k := 6) (by decide) hl_x0_6), fun U hU hW => c_pre hU hW hP hK hD hev hE hN hNS hS hFc⟩ rfl rfl hl.1 rfl (lv_room (Nat.le_of_ble_eq_true rfl)) d_cSv_emitOp_65 ⟨Nat.le_of_ble_eq_true rfl, Nat.le_of_ble_eq_true rfl⟩) hS (fun q _ h => hFc q h) hFc (fun u t H1 locs ht hvm hw hB hz1 hk1 hS => ?_)
    obtain ⟨hP, -, hD1⟩ := hB
    rw [ht] at hP
    have hD := hD1.weaken (fun _ q _ h => hFc q.1 h)
    generalize H1 = H at hP hS ⊢
    refine W.cs (cells' := 0) (slots' := 0) rfl rfl ?_
    refine lv_goto (tgt := 119) hx hb d_cSv_emitOp_68 (by decide) ?_
    exact w_cSv_emitOp_J119 hC Heq Kr _ _ _ hP hD hS (lv_sub hl [0, 1] rfl)
def m_cSv_emitOp_J0 (N : Nat → Nat) (x0 : Nat) (S : CS) (x1 : Nat) : Option CS := gl x1 (N 3) (gn (S.r 3 1 x1) (N 3) (fun j_1 => gl x0 (N 6) (ob (m_cSv_emitNumber N x0 S ((S.i 3 0 j_1).toInt64)) (fun o_4 => (if o_4.i 3 5 x1 = 0 then m_cSv_emitOp_J30 N x0 o_4 (some x1) 0 (o_4.i 3 2 x1) (some x0) else m_cSv_emitOp_J30 N x0 o_4 (some x1) 16 (o_4.i 3 2 x1) (some x0))))))
theorem d_cSv_emitOp_24 : decode prog_8_method_9_code 24 = .ok (.bipush 16, 2) := by decide +kernel
theorem d_cSv_emitOp_26 : decode prog_8_method_9_code 26 = .ok (.goto 4, 3) := by decide +kernel
set_option maxHeartbeats 4000000 in
set_option maxRecDepth 100000 in
theorem w_cSv_emitOp_J0 {p : Program} {l : Launch} {e : Env} {s : State} {m : MethodId} {args : Array Value} {below : List Frame} {meth : Method} {c : Code} {A : Nat → Prop} {D : va_G} {ad : Nat → Nat → Nat} {cc : Nat → ClassId} {sad sav : Nat → Nat} {Q : State → Prop} (hC : MCc sad sav "JoinedTrees$Saver" prog_8_method_9_code 4 none p s m args meth c A D cc) {N : Nat → Nat} {x0 : Nat} {S : CS} {x1 : Nat} {o : CS} (Heq : m_cSv_emitOp_J0 N x0 S x1 = some o) (Kr : ∀ r : CS, o = r → ∀ (pc : Nat) (H : Heap) (locs : List Loc) (ls : Array Slot), decode prog_8_method_9_code pc = .ok (.return_, 1) → va_P D cls (cw ad cc N r) H → va_D A (cw ad cc N r) → va_S A s.heap H locs → W p l e ({ frames := 3, cells := 0, slots := 0, locals := 67 }) s m args below meth c H locs 0 0 Q (F0 m pc ls [])) : ∀ (H : Heap) (locs : List Loc) (ls : Array Slot), va_P D cls (cw ad cc N S) H → va_D A (cw ad cc N S) → va_S A s.heap H locs → lv_has ls 4 [(0, .ref (ad 6 x0)), (1, .ref (ad 3 x1))] → W p l e ({ frames := 3, cells := 0, slots := 0, locals := 67 }) s m args below meth c H locs 0 0 Q (F0 m 0 ls []) := by
  intro H locs ls hP hD hS hl
  obtain ⟨hx, hb, hr, hml, hown, hts, hK, hA, hev, hE, hN, hNS⟩ := id hC
  unfold m_cSv_emitOp_J0 at Heq
  refine lv_aload_n hx hb d_cSv_emitOp_0 rfl (lv_at hl 0 rfl) ?_
  refine lv_aload_n hx hb d_cSv_emitOp_1 rfl (lv_at hl 1 rfl) ?_
  obtain ⟨hl_x1_3, Heq⟩ := gl_some Heq
  refine va_get (D := D) (ci := 3) (v := rv ad 3 (S.r 3 1 x1)) (C := R_Op) (T := F_Op) (N := 15) hx hb hts i_Op hown hK hP (cPos N 3 x1) (cw_obj (k := 3) (by decide) hl_x1_3) rfl 1 (by decide) (hts _ kw_57) (fun _ h9 => h9) rfl d_cSv_emitOp_2 ?_
  obtain ⟨j_1, hj_2, hl_3, Heq⟩ := gn_some Heq
  refine w_s (st' := [.ref (ad 3 j_1), .ref (ad 6 x0)]) (congrArg (fun z9 : Option Nat => [rv ad 3 z9, .ref (ad 6 x0)]) hj_2) ?_
  refine va_get (D := D) (ci := 3) (v := .int (S.i 3 0 j_1)) (C := R_Op) (T := F_Op) (N := 15) hx hb hts i_Op hown hK hP (cPos N 3 j_1) (cw_obj (k := 3) (by decide) hl_3) rfl 0 (by decide) (hts _ kw_53) (fun _ h9 => h9) rfl d_cSv_emitOp_5 ?_
  refine lv_i2l hx hb d_cSv_emitOp_8 rfl ?_
  refine w_l (y := (S.i 3 0 j_1).toInt64) rfl ?_
  obtain ⟨hl_x0_6, Heq⟩ := gl_some Heq
  obtain ⟨o_4, h_5, Heq⟩ := ob_some Heq
  have hFc := fr_all hD hS hA
  refine va_callv (va_runV (As := [.long ((S.i 3 0 j_1).toInt64)]) (rest := []) ⟨hx, hb, hml, hown, hts⟩ (g_cSv_emitNumber l D H.size (ad := ad) (cc := cc) (sad := sad) (sav := sav) h_5) (cw_v 1 hts kw_1283 kw_1280 kw_1281 kw_1282 kw_10 rfl rfl (by decide +kernel) ⟨Nat.le_of_ble_eq_true rfl, Nat.le_of_ble_eq_true rfl⟩) ⟨c_blind, va_recv hK hP (ci := 6) (q0 := cPos N 6 x0) rfl (cw_obj (k := 6) (by decide) hl_x0_6), fun U hU hW => c_pre hU hW hP hK hD hev hE hN hNS hS hFc⟩ rfl rfl hl.1 rfl (lv_room (Nat.le_of_ble_eq_true rfl)) d_cSv_emitOp_9 ⟨Nat.le_of_ble_eq_true rfl, Nat.le_of_ble_eq_true rfl⟩) hS (fun q _ h => hFc q h) hFc (fun u t H1 locs ht hvm hw hB hz1 hk1 hS => ?_)
  obtain ⟨hP, -, hD1⟩ := hB
  rw [ht] at hP
  have hD := hD1.weaken (fun _ q _ h => hFc q.1 h)
  generalize H1 = H at hP hS ⊢
  refine W.cs (cells' := 0) (slots' := 0) rfl rfl ?_
  refine lv_aload_n hx hb d_cSv_emitOp_12 rfl (lv_at hl 0 rfl) ?_
  refine lv_aload_n hx hb d_cSv_emitOp_13 rfl (lv_at hl 1 rfl) ?_
  refine va_get (D := D) (ci := 3) (v := .int (o_4.i 3 2 x1)) (C := R_Op) (T := F_Op) (N := 15) hx hb hts i_Op hown hK hP (cPos N 3 x1) (cw_obj (k := 3) (by decide) hl_x1_3) rfl 2 (by decide) (hts _ kw_63) (fun _ h9 => h9) rfl d_cSv_emitOp_14 ?_
  refine lv_aload_n hx hb d_cSv_emitOp_17 rfl (lv_at hl 1 rfl) ?_
  refine va_get (D := D) (ci := 3) (v := .int (o_4.i 3 5 x1)) (C := R_Op) (T := F_Op) (N := 15) hx hb hts i_Op hown hK hP (cPos N 3 x1) (cw_obj (k := 3) (by decide) hl_x1_3) rfl 5 (by decide) (hts _ kw_70) (fun _ h9 => h9) rfl d_cSv_emitOp_18 ?_
  refine lv_if_eq (tgt := 29) hx hb d_cSv_emitOp_21 (by decide) (fun c_6 => ?_) (fun c_6 => ?_)
  · replace Heq := (if_pos c_6).symm.trans Heq
    refine lv_iconst (v := 0) hx hb d_cSv_emitOp_29 (by decide) ?_
    exact w_cSv_emitOp_J30 hC Heq Kr _ _ _ hP hD hS (lv_sub hl [0, 1] rfl)
  · replace Heq := (if_neg c_6).symm.trans Heq
    refine lv_bipush (v := 16) hx hb d_cSv_emitOp_24 (by decide) ?_
    refine lv_goto (tgt := 30) hx hb d_cSv_emitOp_26 (by decide) ?_
    exact w_cSv_emitOp_J30 hC Heq Kr _ _ _ hP hD hS (lv_sub hl [0, 1] rfl)
def m_cSv_emitOp (N : Nat → Nat) (x0 : Nat) (S : CS) (x1 : Nat) : Option CS := m_cSv_emitOp_J0 N x0 S x1
set_option maxHeartbeats 4000000 in
theorem g_cSv_emitOp (l : Launch) (D : va_G) (sz : Nat) {ad : Nat → Nat → Nat} {cc : Nat → ClassId} {sad sav : Nat → Nat} {N : Nat → Nat} {x0 : Nat} {S : CS} {x1 : Nat} {o : CS} (Heq : m_cSv_emitOp N x0 S x1 = some o) : Met l ⟨"JoinedTrees$Saver", "emitOp", "(LJoinedTrees$Op;)V"⟩ (Cond.code ⟨"JoinedTrees$Saver", "emitOp", "(LJoinedTrees$Op;)V"⟩ prog_8_method_9_code 4 none :: gb) ({ frames := 3, cells := 0, slots := 0, locals := 67 }) (cPc sad sav D (cw ad cc N S) (cty cc) sz [.ref (ad 6 x0), .ref (ad 3 x1)]) (va_Qv (fun _ : Unit => True) (fun _ t => gO D (cw ad cc N o) (cty cc) (va_A (cw ad cc N S) sz) t) (va_A (cw ad cc N S) sz)) 0 0 (va_A (cw ad cc N S) sz) := by
  refine Met.ofW (cc := prog_8_method_9_code) (maxL := 4) (ret := none) (by decide) rfl ?_
  intro p e s m args below meth c s₁ B hml hv
  obtain ⟨rfl, hsz, hP, hK, hD0, hev, hE, hN⟩ := hv
  have hx := B.exec
  have hb := B.bytes
  have hr := B.returns
  have hts : ∀ w9 ∈ gb, w9.before [.ref (ad 6 x0), .ref (ad 3 x1)].toArray s = true := fun w9 h => atoms_spec (ws := Cond.code ⟨"JoinedTrees$Saver", "emitOp", "(LJoinedTrees$Op;)V"⟩ prog_8_method_9_code 4 none :: gb) B.pre w9 (List.mem_cons_of_mem _ h)
  have hown : s.vm.findClass "JoinedTrees$Saver" = some m.cls := findClass_of_methodNamed B.named
  have hlocks := B.notSynchronized
  have hNS := ns_of hP
  subst hsz
  have hD := hD0.self (sz := s.heap.size)
  generalize hAe : va_A (cw ad cc N S) s.heap.size = A at hD hev hE hNS ⊢
  have hA : ∀ q : Nat, s.heap.size ≤ q → A q := fun q h => by rw [← hAe]; exact Or.inr h
  have hS : va_S A s.heap s.heap [] := va_S.rf
  obtain ⟨ls, hl, hle⟩ : ∃ ls : Array Slot, lv_has ls 4 [(0, .ref (ad 6 x0)), (1, .ref (ad 3 x1))] ∧ entryFrame m ([.ref (ad 6 x0), .ref (ad 3 x1)] : List Value).toArray 4 = F0 m 0 ls [] := by
    exact ⟨_, lv_entry (n := 4) _ (Nat.le_of_ble_eq_true rfl), lg_entry_eq ..⟩
  rw [hle]
  refine w_cSv_emitOp_J0 ⟨hx, hb, hr, hml, hown, hts, hK, hA, hev, hE, hN, hNS⟩ Heq (fun r h pc H locs ls hd hP hD hS => ?_) _ _ _ hP hD hS (lv_sub hl [0, 1] rfl)
  subst h
  exact W.vret hx hb hr (fun t ht hW => ⟨⟨(), rfl, trivial, by rw [ht]; exact hP, va_K.moved hW.alike hK, hD⟩, hS.F ht⟩) hS.2.2 hd
