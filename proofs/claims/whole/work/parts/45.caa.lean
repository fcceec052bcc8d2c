def m_cOp_init_J42 (N : Nat → Nat) (x0 : Nat) (S : CS) (t0 : Int64) (t1 : Option Nat) : Option CS := gn t1 (N 3) (fun j_1 => some (S.setL 3 3 j_1 t0))
theorem d_cOp_init_0 : decode prog_5_method_1_code 0 = .ok (.aload_n 0, 1) := by decide +kernel
theorem d_cOp_init_1 : decode prog_5_method_1_code 1 = .ok (.invokespecial 3, 3) := by decide +kernel
theorem d_cOp_init_4 : decode prog_5_method_1_code 4 = .ok (.aload_n 0, 1) := by decide +kernel
theorem d_cOp_init_5 : decode prog_5_method_1_code 5 = .ok (.iload_n 1, 1) := by decide +kernel
theorem d_cOp_init_6 : decode prog_5_method_1_code 6 = .ok (.putfield 9, 3) := by decide +kernel
theorem d_cOp_init_9 : decode prog_5_method_1_code 9 = .ok (.aload_n 0, 1) := by decide +kernel
theorem d_cOp_init_10 : decode prog_5_method_1_code 10 = .ok (.aload_n 2, 1) := by decide +kernel
theorem d_cOp_init_11 : decode prog_5_method_1_code 11 = .ok (.putfield 15, 3) := by decide +kernel
theorem d_cOp_init_14 : decode prog_5_method_1_code 14 = .ok (.aload_n 0, 1) := by decide +kernel
theorem d_cOp_init_15 : decode prog_5_method_1_code 15 = .ok (.iload_n 3, 1) := by decide +kernel
theorem d_cOp_init_16 : decode prog_5_method_1_code 16 = .ok (.putfield 19, 3) := by decide +kernel
theorem d_cOp_init_19 : decode prog_5_method_1_code 19 = .ok (.aload_n 0, 1) := by decide +kernel
theorem d_cOp_init_20 : decode prog_5_method_1_code 20 = .ok (.iload_n 3, 1) := by decide +kernel
theorem d_cOp_init_21 : decode prog_5_method_1_code 21 = .ok (.iconst 3, 1) := by decide +kernel
theorem d_cOp_init_22 : decode prog_5_method_1_code 22 = .ok (.if_icmp .eq 14, 3) := by decide +kernel
theorem d_cOp_init_36 : decode prog_5_method_1_code 36 = .ok (.lload 4, 2) := by decide +kernel
theorem d_cOp_init_38 : decode prog_5_method_1_code 38 = .ok (.goto 4, 3) := by decide +kernel
theorem d_cOp_init_42 : decode prog_5_method_1_code 42 = .ok (.putfield 22, 3) := by decide +kernel
theorem d_cOp_init_45 : decode prog_5_method_1_code 45 = .ok (.return_, 1) := by decide +kernel
set_option maxHeartbeats 4000000 in
set_option maxRecDepth 100000 in
theorem w_cOp_init_J42 {p : Program} {l : Launch} {e : Env} {s : State} {m : MethodId} {args : Array Value} {below : List Frame} {meth : Method} {c : Code} {A : Nat → Prop} {D : va_G} {ad : Nat → Nat → Nat} {cc : Nat → ClassId} {sad sav : Nat → Nat} {Q : State → Prop} (hin : meth.name = "<init>") (hC : MCc sad sav "JoinedTrees$Op" prog_5_method_1_code 6 none p s m args meth c A D cc) {N : Nat → Nat} {x0 : Nat} {S : CS} {t0 : Int64} {t1 : Option Nat} {o : CS} (Heq : m_cOp_init_J42 N x0 S t0 t1 = some o) (Kr : ∀ r : CS, o = r → ∀ (pc : Nat) (H : Heap) (locs : List Loc) (ls : Array Slot), decode prog_5_method_1_code pc = .ok (.return_, 1) → va_P D cls (cw ad cc N r) H → va_D A (cw ad cc N r) → va_S A s.heap H locs → W p l e ({ frames := 1, cells := 0, slots := 0, locals := 24 }) s m args below meth c H locs 0 0 Q (F0 m pc ls [])) : ∀ (H : Heap) (locs : List Loc) (ls : Array Slot), va_P D cls (cw ad cc N S) H → va_D A (cw ad cc N S) → va_S A s.heap H locs → lv_has ls 6 [(0, .ref (ad 3 x0))] → W p l e ({ frames := 1, cells := 0, slots := 0, locals := 24 }) s m args below meth c H locs 0 0 Q (F0 m 42 ls [.long t0, rv ad 3 t1]) := by
  intro H locs ls hP hD hS hl
  obtain ⟨hx, hb, hr, hml, hown, hts, hK, hA, hev, hE, hN, hNS⟩ := id hC
  unfold m_cOp_init_J42 at Heq
  obtain ⟨j_1, hj_2, hl_3, Heq⟩ := gn_some Heq
  refine w_s (st' := [.long t0, .ref (ad 3 j_1)]) (congrArg (fun z9 : Option Nat => [.long t0, rv ad 3 z9]) hj_2) ?_
  refine va_putF (D := D) (ci := 3) (v := .long t0) (ty := .long) (C := R_Op) (T := F_Op) (N := 15) hx hb hts i_Op t_Op t_Op_ok n_Op hown hK hP hD hS (cPos N 3 j_1) (cw_obj (k := 3) (by decide) hl_3) rfl 3 (by decide) (hts _ kw_64) (fun _ h9 => h9) rfl hin rfl (by decide +kernel) rfl rfl (Nat.le_of_ble_eq_true rfl) d_cOp_init_42 (fun H locs hP hD hS => ?_)
  have hD := (congrArg (fun w9 => va_D A w9) (cw_setL (ad := ad) (cc := cc) (S := S) (k := 3) (f := 3) (v := t0) (by decide) rfl hl_3)).mp hD
  have hP := (congrArg (fun w9 => va_P D cls w9 H) (cw_setL (ad := ad) (cc := cc) (S := S) (k := 3) (f := 3) (v := t0) (by decide) rfl hl_3)).mp hP
  exact Kr _ (Option.some.inj Heq).symm 45 _ _ _ d_cOp_init_45 hP hD hS
def m_cOp_init_J36 (N : Nat → Nat) (x0 : Nat) (S : CS) (x4 : Int64) (t0 : Option Nat) : Option CS := m_cOp_init_J42 N x0 S x4 t0
set_option maxHeartbeats 4000000 in
set_option maxRecDepth 100000 in
theorem w_cOp_init_J36 {p : Program} {l : Launch} {e : Env} {s : State} {m : MethodId} {args : Array Value} {below : List Frame} {meth : Method} {c : Code} {A : Nat → Prop} {D : va_G} {ad : Nat → Nat → Nat} {cc : Nat → ClassId} {sad sav : Nat → Nat} {Q : State → Prop} (hin : meth.name = "<init>") (hC : MCc sad sav "JoinedTrees$Op" prog_5_method_1_code 6 none p s m args meth c A D cc) {N : Nat → Nat} {x0 : Nat} {S : CS} {x4 : Int64} {t0 : Option Nat} {o : CS} (Heq : m_cOp_init_J36 N x0 S x4 t0 = some o) (Kr : ∀ r : CS, o = r → ∀ (pc : Nat) (H : Heap) (locs : List Loc) (ls : Array Slot), decode prog_5_method_1_code pc = .ok (.return_, 1) → va_P D cls (cw ad cc N r) H → va_D A (cw ad cc N r) → va_S A s.heap H locs → W p l e ({ frames := 1, cells := 0, slots := 0, locals := 24 }) s m args below meth c H locs 0 0 Q (F0 m pc ls [])) : ∀ (H : Heap) (locs : List Loc) (ls : Array Slot), va_P D cls (cw ad cc N S) H → va_D A (cw ad cc N S) → va_S A s.heap H locs → lv_has ls 6 [(0, .ref (ad 3 x0)), (4, .long x4)] → W p l e ({ frames := 1, cells := 0, slots := 0, locals := 24 }) s m args below meth c H locs 0 0 Q (F0 m 36 ls [rv ad 3 t0]) := by
  intro H locs ls hP hD hS hl
  obtain ⟨hx, hb, hr, hml, hown, hts, hK, hA, hev, hE, hN, hNS⟩ := id hC
  unfold m_cOp_init_J36 at Heq
  refine lv_lload hx hb d_cOp_init_36 (lv_at hl 1 rfl) ?_
  refine lv_goto (tgt := 42) hx hb d_cOp_init_38 (by decide) ?_
  exact w_cOp_init_J42 hin hC Heq Kr _ _ _ hP hD hS (lv_sub hl [0] rfl)
def m_cOp_init_J0 (N : Nat → Nat) (x0 : Nat) (S : CS) (x1 : Int32) (x2 : Option Nat) (x3 : Int32) (x4 : Int64) : Option CS := gl x0 (N 3) ((if x3 = 3 then m_cOp_init_J36 N x0 (((S.setI 3 0 x0 x1).setR 3 1 x0 x2).setI 3 2 x0 x3) x4 (some x0) else (if x3 = 5 then m_cOp_init_J36 N x0 (((S.setI 3 0 x0 x1).setR 3 1 x0 x2).setI 3 2 x0 x3) x4 (some x0) else (if x3 = 10 then m_cOp_init_J36 N x0 (((S.setI 3 0 x0 x1).setR 3 1 x0 x2).setI 3 2 x0 x3) x4 (some x0) else m_cOp_init_J42 N x0 (((S.setI 3 0 x0 x1).setR 3 1 x0 x2).setI 3 2 x0 x3) 0 (some x0)))))
theorem d_cOp_init_25 : decode prog_5_method_1_code 25 = .ok (.iload_n 3, 1) := by decide +kernel
theorem d_cOp_init_26 : decode prog_5_method_1_code 26 = .ok (.iconst 5, 1) := by decide +kernel
theorem d_cOp_init_27 : decode prog_5_method_1_code 27 = .ok (.if_icmp .eq 9, 3) := by decide +kernel
theorem d_cOp_init_30 : decode prog_5_method_1_code 30 = .ok (.iload_n 3, 1) := by decide +kernel
theorem d_cOp_init_31 : decode prog_5_method_1_code 31 = .ok (.bipush 10, 2) := by decide +kernel
theorem d_cOp_init_33 : decode prog_5_method_1_code 33 = .ok (.if_icmp .ne 8, 3) := by decide +kernel
theorem d_cOp_init_41 : decode prog_5_method_1_code 41 = .ok (.lconst 0, 1) := by decide +kernel
set_option maxHeartbeats 4000000 in
set_option maxRecDepth 100000 in
theorem w_cOp_init_J0 {p : Program} {l : Launch} {e : Env} {s : State} {m : MethodId} {args : Array Value} {below : List Frame} {meth : Method} {c : Code} {A : Nat → Prop} {D : va_G} {ad : Nat → Nat → Nat} {cc : Nat → ClassId} {sad sav : Nat → Nat} {Q : State → Prop} (hin : meth.name = "<init>") (hC : MCc sad sav "JoinedTrees$Op" prog_5_method_1_code 6 none p s m args meth c A D cc) {N : Nat → Nat} {x0 : Nat} {S : CS} {x1 : Int32} {x2 : Option Nat} {x3 : Int32} {x4 : Int64} {o : CS} (Heq : m_cOp_init_J0 N x0 S x1 x2 x3 x4 = some o) (Kr : ∀ r : CS, o = r → ∀ (pc : Nat) (H : Heap) (locs : List Loc) (ls : Array Slot), decode prog_5_method_1_code pc = .ok (.return_, 1) → va_P D cls (cw ad cc N r) H → va_D A (cw ad cc N r) → va_S A s.heap H locs → W p l e ({ frames := 1, cells := 0, slots := 0, locals := 24 }) s m args below meth c H locs 0 0 Q (F0 m pc ls [])) : ∀ (H : Heap) (locs : List Loc) (ls : Array Slot), va_P D cls (cw ad cc N S) H → va_D A (cw ad cc N S) → va_S A s.heap H locs → lv_has ls 6 [(0, .ref (ad 3 x0)), (1, .int x1), (2, rv ad 3 x2), (3, .int x3), (4, .long x4)] → W p l e ({ frames := 1, cells := 0, slots := 0, locals := 24 }) s m args below meth c H locs 0 0 Q (F0 m 0 ls []) := by
  intro H locs ls hP hD hS hl
  obtain ⟨hx, hb, hr, hml, hown, hts, hK, hA, hev, hE, hN, hNS⟩ := id hC
  unfold m_cOp_init_J0 at Heq
  refine lv_aload_n hx hb d_cOp_init_0 rfl (lv_at hl 0 rfl) ?_
  refine W.objInit hx hb hown (hts _ kw_47) (hts _ kw_34) (hts _ kw_35) rfl (by rw [hml]; exact hl.1) rfl d_cOp_init_1 (Nat.le_of_ble_eq_true rfl) (Nat.le_of_ble_eq_true rfl) ?_
  refine W.eq (g2 := F0 m 4 ls []) rfl ?_
  refine lv_aload_n hx hb d_cOp_init_4 rfl (lv_at hl 0 rfl) ?_
  refine lv_iload_n hx hb d_cOp_init_5 rfl (lv_at hl 1 rfl) ?_
  obtain ⟨hl_x0_3, Heq⟩ := gl_some Heq
  refine va_putF (D := D) (ci := 3) (v := .int x1) (ty := .int) (C := R_Op) (T := F_Op) (N := 15) hx hb hts i_Op t_Op t_Op_ok n_Op hown hK hP hD hS (cPos N 3 x0) (cw_obj (k := 3) (by decide) hl_x0_3) rfl 0 (by decide) (hts _ kw_48) (fun _ h9 => h9) rfl hin rfl (by decide +kernel) rfl rfl (Nat.le_of_ble_eq_true rfl) d_cOp_init_6 (fun H locs hP hD hS => ?_)
  have hD := (congrArg (fun w9 => va_D A w9) (cw_setI (ad := ad) (cc := cc) (S := S) (k := 3) (f := 0) (v := x1) (by decide) rfl hl_x0_3)).mp hD
  have hP := (congrArg (fun w9 => va_P D cls w9 H) (cw_setI (ad := ad) (cc := cc) (S := S) (k := 3) (f := 0) (v := x1) (by decide) rfl hl_x0_3)).mp hP
  refine lv_aload_n hx hb d_cOp_init_9 rfl (lv_at hl 0 rfl) ?_
  refine tx_aload_n (x := x2.map (ad 3)) hx hb d_cOp_init_10 rfl (lv_at hl 2 rfl) ?_
  refine w_v (y := rv ad 3 x2) rfl ?_
  refine w_v (y := rv ad 3 x2) rfl ?_
  refine va_putF (D := D) (ci := 3) (v := rv ad 3 x2) (ty := .object "JoinedTrees$Op") (C := R_Op) (T := F_Op) (N := 15) hx hb hts i_Op t_Op t_Op_ok n_Op hown hK hP hD hS (cPos N 3 x0) (cw_obj (k := 3) (by decide) hl_x0_3) rfl 1 (by decide) (hts _ kw_54) (fun _ h9 => h9) rfl hin rfl (by decide +kernel) (rv_nar (Or.inl ⟨_, rfl⟩)) (rv_fit (Or.inl ⟨_, rfl⟩)) (Nat.le_of_ble_eq_true rfl) d_cOp_init_11 (fun H locs hP hD hS => ?_)
  have hD := (congrArg (fun w9 => va_D A w9) (cw_setR (ad := ad) (cc := cc) (S := (S.setI 3 0 x0 x1)) (k := 3) (f := 1) (t := 3) (v := x2) (by decide) rfl hl_x0_3)).mp hD
  have hP := (congrArg (fun w9 => va_P D cls w9 H) (cw_setR (ad := ad) (cc := cc) (S := (S.setI 3 0 x0 x1)) (k := 3) (f := 1) (t := 3) (v := x2) (by decide) rfl hl_x0_3)).mp hP
  refine lv_aload_n hx hb d_cOp_init_14 rfl (lv_at hl 0 rfl) ?_
  refine lv_iload_n hx hb d_cOp_init_15 rfl (lv_at hl 3 rfl) ?_
  refine va_putF (D := D) (ci := 3) (v := .int x3) (ty := .int) (C := R_Op) (T := F_Op) (N := 15) hx hb hts i_Op t_Op t_Op_ok n_Op hown hK hP hD hS (cPos N 3 x0) (cw_obj (k := 3) (by decide) hl_x0_3) rfl 2 (by decide) (hts _ kw_59) (fun _ h9 => h9) rfl hin rfl (by decide +kernel) rfl rfl (Nat.le_of_ble_eq_true rfl) d_cOp_init_16 (fun H locs hP hD hS => ?_)
  have hD := (congrArg (fun w9 => va_D A w9) (cw_setI (ad := ad) (cc := cc) (S := ((S.setI 3 0 x0 x1).setR 3 1 x0 x2)) (k := 3) (f := 2) (v := x3) (by decide) rfl hl_x0_3)).mp hD
  have hP := (congrArg (fun w9 => va_P D cls w9 H) (cw_setI (ad := ad) (cc := cc) (S := ((S.setI 3 0 x0 x1).setR 3 1 x0 x2)) (k := 3) (f := 2) (v := x3) (by decide) rfl hl_x0_3)).mp hP
  refine lv_aload_n hx hb d_cOp_init_19 rfl (lv_at hl 0 rfl) ?_
  refine lv_iload_n hx hb d_cOp_init_20 rfl (lv_at hl 3 rfl) ?_
  refine lv_iconst (v := 3) hx hb d_cOp_init_21 (by decide) ?_
  refine lv_icmp_eq (tgt := 36) hx hb d_cOp_init_22 (by decide) (fun c_1 => ?_) (fun c_1 => ?_)
  · replace Heq := (if_pos c_1).symm.trans Heq
    exact w_cOp_init_J36 hin hC Heq Kr _ _ _ hP hD hS (lv_sub hl [0, 4] rfl)
  · replace Heq := (if_neg c_1).symm.trans Heq
    refine lv_iload_n hx hb d_cOp_init_25 rfl (lv_at hl 3 rfl) ?_
    refine lv_iconst (v := 5) hx hb d_cOp_init_26 (by decide) ?_
    refine lv_icmp_eq (tgt := 36) hx hb d_cOp_init_27 (by decide) (fun c_2 => ?_) (fun c_2 => ?_)
    · replace Heq := (if_pos c_2).symm.trans Heq
      exact w_cOp_init_J36 hin hC Heq Kr _ _ _ hP hD hS (lv_sub hl [0, 4] rfl)
    · replace Heq := (if_neg c_2).symm.trans Heq
      refine lv_iload_n hx hb d_cOp_init_30 rfl (lv_at hl 3 rfl) ?_
      refine lv_bipush (v := 10) hx hb d_cOp_init_31 (by decide) ?_
      refine lv_icmp_ne (tgt := 41) hx hb d_cOp_init_33 (by decide) (fun c_3 => ?_) (fun c_3 => ?_)
      · replace Heq := (if_neg c_3).symm.trans Heq
        refine lv_lconst (v := 0) hx hb d_cOp_init_41 (by decide) ?_
        exact w_cOp_init_J42 hin hC Heq Kr _ _ _ hP hD hS (lv_sub hl [0] rfl)
      · replace Heq := (if_pos c_3).symm.trans Heq
        exact w_cOp_init_J36 hin hC Heq Kr _ _ _ hP hD hS (lv_sub hl [0, 4] rfl)
def m_cOp_init (N : Nat → Nat) (x0 : Nat) (S : CS) (x1 : Int32) (x2 : Option Nat) (x3 : Int32) (x4 : Int64) : Option CS := m_cOp_init_J0 N x0 S x1 x2 x3 x4
set_option maxHeartbeats 4000000 in
theorem g_cOp_init (l : Launch) (D : va_G) (sz : Nat) {ad : Nat → Nat → Nat} {cc : Nat → ClassId} {sad sav : Nat → Nat} {N : Nat → Nat} {x0 : Nat} {S : CS} {x1 : Int32} {x2 : Option Nat} {x3 : Int32} {x4 : Int64} {o : CS} (Heq : m_cOp_init N x0 S x1 x2 x3 x4 = some o) : Met l ⟨"JoinedTrees$Op", "<init>", "(ILJoinedTrees$Op;IJ)V"⟩ (Cond.code ⟨"JoinedTrees$Op", "<init>", "(ILJoinedTrees$Op;IJ)V"⟩ prog_5_method_1_code 6 none :: gb) ({ frames := 1, cells := 0, slots := 0, locals := 24 }) (cPc sad sav D (cw ad cc N S) (cty cc) sz [.ref (ad 3 x0), .int x1, rv ad 3 x2, .int x3, .long x4]) (va_Qv (fun _ : Unit => True) (fun _ t => gO D (cw ad cc N o) (cty cc) (va_A (cw ad cc N S) sz) t) (va_A (cw ad cc N S) sz)) 0 0 (va_A (cw ad cc N S) sz) := by
  refine Met.ofW (cc := prog_5_method_1_code) (maxL := 6) (ret := none) (by decide) rfl ?_
  intro p e s m args below meth c s₁ B hml hv
  obtain ⟨rfl, hsz, hP, hK, hD0, hev, hE, hN⟩ := hv
  have hx := B.exec
  have hb := B.bytes
  have hr := B.returns
  have hts : ∀ w9 ∈ gb, w9.before [.ref (ad 3 x0), .int x1, rv ad 3 x2, .int x3, .long x4].toArray s = true := fun w9 h => atoms_spec (ws := Cond.code ⟨"JoinedTrees$Op", "<init>", "(ILJoinedTrees$Op;IJ)V"⟩ prog_5_method_1_code 6 none :: gb) B.pre w9 (List.mem_cons_of_mem _ h)
  have hown : s.vm.findClass "JoinedTrees$Op" = some m.cls := findClass_of_methodNamed B.named
  have hlocks := B.notSynchronized
  have hNS := ns_of hP
  subst hsz
  have hD := hD0.self (sz := s.heap.size)
  generalize hAe : va_A (cw ad cc N S) s.heap.size = A at hD hev hE hNS ⊢
  have hA : ∀ q : Nat, s.heap.size ≤ q → A q := fun q h => by rw [← hAe]; exact Or.inr h
  have hS : va_S A s.heap s.heap [] := va_S.rf
  obtain ⟨ls, hl, hle⟩ : ∃ ls : Array Slot, lv_has ls 6 [(0, .ref (ad 3 x0)), (1, .int x1), (2, rv ad 3 x2), (3, .int x3), (4, .long x4)] ∧ entryFrame m ([.ref (ad 3 x0), .int x1, rv ad 3 x2, .int x3, .long x4] : List Value).toArray 6 = F0 m 0 ls [] := by
    rcases x2 with _ | x2
    all_goals exact ⟨_, lv_entry (n := 6) _ (Nat.le_of_ble_eq_true rfl), lg_entry_eq ..⟩
  rw [hle]
  have hin : meth.name = "<init>" := (name_of_methodNamed B.named B.method).1
  refine w_cOp_init_J0 hin ⟨hx, hb, hr, hml, hown, hts, hK, hA, hev, hE, hN, hNS⟩ Heq (fun r h pc H locs ls hd hP hD hS => ?_) _ _ _ hP hD hS (lv_sub hl [0, 1, 2, 3, 4] rfl)
  subst h
  exact W.vret hx hb hr (fun t ht hW => ⟨⟨(), rfl, trivial, by rw [ht]; exact hP, va_K.moved hW.alike hK, hD⟩, hS.F ht⟩) hS.2.2 hd
def m_cVa_init_J0 (N : Nat → Nat) (x0 : Nat) (S : CS) : Option CS := some S
theorem d_cVa_init_0 : decode prog_11_method_1_code 0 = .ok (.aload_n 0, 1) := by decide +kernel
theorem d_cVa_init_1 : decode prog_11_method_1_code 1 = .ok (.invokespecial 1, 3) := by decide +kernel
theorem d_cVa_init_4 : decode prog_11_method_1_code 4 = .ok (.return_, 1) := by decide +kernel
set_option maxHeartbeats 4000000 in
set_option maxRecDepth 100000 in
theorem w_cVa_init_J0 {p : Program} {l : Launch} {e : Env} {s : State} {m : MethodId} {args : Array Value} {below : List Frame} {meth : Method} {c : Code} {A : Nat → Prop} {D : va_G} {ad : Nat → Nat → Nat} {cc : Nat → ClassId} {sad sav : Nat → Nat} {Q : State → Prop} (hin : meth.name = "<init>") (hC : MCc sad sav "JoinedTrees$Value" prog_11_method_1_code 1 none p s m args meth c A D cc) {N : Nat → Nat} {x0 : Nat} {S : CS} {o : CS} (Heq : m_cVa_init_J0 N x0 S = some o) (Kr : ∀ r : CS, o = r → ∀ (pc : Nat) (H : Heap) (locs : List Loc) (ls : Array Slot), decode prog_11_method_1_code pc = .ok (.return_, 1) → va_P D cls (cw ad cc N r) H → va_D A (cw ad cc N r) → va_S A s.heap H locs → W p l e ({ frames := 1, cells := 0, slots := 0, locals := 24 }) s m args below meth c H locs 0 0 Q (F0 m pc ls [])) : ∀ (H : Heap) (locs : List Loc) (ls : Array Slot), va_P D cls (cw ad cc N S) H → va_D A (cw ad cc N S) → va_S A s.heap H locs → lv_has ls 1 [(0, .ref (ad 9 x0))] → W p l e ({ frames := 1, cells := 0, slots := 0, locals := 24 }) s m args below meth c H locs 0 0 Q (F0 m 0 ls []) := by
  intro H locs ls hP hD hS hl
  obtain ⟨hx, hb, hr, hml, hown, hts, hK, hA, hev, hE, hN, hNS⟩ := id hC
  unfold m_cVa_init_J0 at Heq
  refine lv_aload_n hx hb d_cVa_init_0 rfl (lv_at hl 0 rfl) ?_
  refine W.objInit hx hb hown (hts _ kw_294) (hts _ kw_34) (hts _ kw_35) rfl (by rw [hml]; exact hl.1) rfl d_cVa_init_1 (Nat.le_of_ble_eq_true rfl) (Nat.le_of_ble_eq_true rfl) ?_
  refine W.eq (g2 := F0 m 4 ls []) rfl ?_
  exact Kr _ (Option.some.inj Heq).symm 4 _ _ _ d_cVa_init_4 hP hD hS
def m_cVa_init (N : Nat → Nat) (x0 : Nat) (S : CS) : Option CS := m_cVa_init_J0 N x0 S
set_option maxHeartbeats 4000000 in
theorem g_cVa_init (l : Launch) (D : va_G) (sz : Nat) {ad : Nat → Nat → Nat} {cc : Nat → ClassId} {sad sav : Nat → Nat} {N : Nat → Nat} {x0 : Nat} {S : CS} {o : CS} (Heq : m_cVa_init N x0 S = some o) : Met l ⟨"JoinedTrees$Value", "<init>", "()V"⟩ (Cond.code ⟨"JoinedTrees$Value", "<init>", "()V"⟩ prog_11_method_1_code 1 none :: gb) ({ frames := 1, cells := 0, slots := 0, locals := 24 }) (cPc sad sav D (cw ad cc N S) (cty cc) sz [.ref (ad 9 x0)]) (va_Qv (fun _ : Unit => True) (fun _ t => gO D (cw ad cc N o) (cty cc) (va_A (cw ad cc N S) sz) t) (va_A (cw ad cc N S) sz)) 0 0 (va_A (cw ad cc N S) sz) := by
  refine Met.ofW (cc := prog_11_method_1_code) (maxL := 1) (ret := none) (by decide) rfl ?_
  intro p e s m args below meth c s₁ B hml hv
  obtain ⟨rfl, hsz, hP, hK, hD0, hev, hE, hN⟩ := hv
  have hx := B.exec
  have hb := B.bytes
  have hr := B.returns
  have hts : ∀ w9 ∈ gb, w9.before [.ref (ad 9 x0)].toArray s = true := fun w9 h => atoms_spec (ws := Cond.code ⟨"JoinedTrees$Value", "<init>", "()V"⟩ prog_11_method_1_code 1 none :: gb) B.pre w9 (List.mem_cons_of_mem _ h)
  have hown : s.vm.findClass "JoinedTrees$Value" = some m.cls := findClass_of_methodNamed B.named
  have hlocks := B.notSynchronized
  have hNS := ns_of hP
  subst hsz
  have hD := hD0.self (sz := s.heap.size)
  generalize hAe : va_A (cw ad cc N S) s.heap.size = A at hD hev hE hNS ⊢
  have hA : ∀ q : Nat, s.heap.size ≤ q → A q := fun q h => by rw [← hAe]; exact Or.inr h
  have hS : va_S A s.heap s.heap [] := va_S.rf
  obtain ⟨ls, hl, hle⟩ : ∃ ls : Array Slot, lv_has ls 1 [(0, .ref (ad 9 x0))] ∧ entryFrame m ([.ref (ad 9 x0)] : List Value).toArray 1 = F0 m 0 ls [] := by
    exact ⟨_, lv_entry (n := 1) _ (Nat.le_of_ble_eq_true rfl), lg_entry_eq ..⟩
  rw [hle]
  have hin : meth.name = "<init>" := (name_of_methodNamed B.named B.method).1
  refine w_cVa_init_J0 hin ⟨hx, hb, hr, hml, hown, hts, hK, hA, hev, hE, hN, hNS⟩ Heq (fun r h pc H locs ls hd hP hD hS => ?_) _ _ _ hP hD hS (lv_sub hl [0] rfl)
  subst h
  exact W.vret hx hb hr (fun t ht hW => ⟨⟨(), rfl, trivial, by rw [ht]; exact hP, va_K.moved hW.alike hK, hD⟩, hS.F ht⟩) hS.2.2 hd
def m_cSp_init_J0 (N : Nat → Nat) (x0 : Nat) (S : CS) (x1 : Nat) : Option CS := gl x0 (N 7) (some (S.setR 7 0 x0 (some x1)))
theorem d_cSp_init_0 : decode prog_9_method_1_code 0 = .ok (.aload_n 0, 1) := by decide +kernel
theorem d_cSp_init_1 : decode prog_9_method_1_code 1 = .ok (.invokespecial 1, 3) := by decide +kernel
theorem d_cSp_init_4 : decode prog_9_method_1_code 4 = .ok (.aload_n 0, 1) := by decide +kernel
theorem d_cSp_init_5 : decode prog_9_method_1_code 5 = .ok (.aload_n 1, 1) := by decide +kernel
theorem d_cSp_init_6 : decode prog_9_method_1_code 6 = .ok (.putfield 7, 3) := by decide +kernel
theorem d_cSp_init_9 : decode prog_9_method_1_code 9 = .ok (.return_, 1) := by decide +kernel
set_option maxHeartbeats 4000000 in
set_option maxRecDepth 100000 in
theorem w_cSp_init_J0 {p : Program} {l : Launch} {e : Env} {s : State} {m : MethodId} {args : Array Value} {below : List Frame} {meth : Method} {c : Code} {A : Nat → Prop} {D : va_G} {ad : Nat → Nat → Nat} {cc : Nat → ClassId} {sad sav : Nat → Nat} {Q : State → Prop} (hin : meth.name = "<init>") (hC : MCc sad sav "JoinedTrees$Spot" prog_9_method_1_code 2 none p s m args meth c A D cc) {N : Nat → Nat} {x0 : Nat} {S : CS} {x1 : Nat} {o : CS} (Heq : m_cSp_init_J0 N x0 S x1 = some o) (Kr : ∀ r : CS, o = r → ∀ (pc : Nat) (H : Heap) (locs : List Loc) (ls : Array Slot), decode prog_9_method_1_code pc = .ok (.return_, 1) → va_P D cls (cw ad cc N r) H → va_D A (cw ad cc N r) → va_S A s.heap H locs → W p l e ({ frames := 1, cells := 0, slots := 0, locals := 24 }) s m args below meth c H locs 0 0 Q (F0 m pc ls [])) : ∀ (H : Heap) (locs : List Loc) (ls : Array Slot), va_P D cls (cw ad cc N S) H → va_D A (cw ad cc N S) → va_S A s.heap H locs → lv_has ls 2 [(0, .ref (ad 7 x0)), (1, .ref (ad 3 x1))] → W p l e ({ frames := 1, cells := 0, slots := 0, locals := 24 }) s m args below meth c H locs 0 0 Q (F0 m 0 ls []) := by
  intro H locs ls hP hD hS hl
  obtain ⟨hx, hb, hr, hml, hown, hts, hK, hA, hev, hE, hN, hNS⟩ := id hC
  unfold m_cSp_init_J0 at Heq
  refine lv_aload_n hx hb d_cSp_init_0 rfl (lv_at hl 0 rfl) ?_
  refine W.objInit hx hb hown (hts _ kw_739) (hts _ kw_34) (hts _ kw_35) rfl (by rw [hml]; exact hl.1) rfl d_cSp_init_1 (Nat.le_of_ble_eq_true rfl) (Nat.le_of_ble_eq_true rfl) ?_
  refine W.eq (g2 := F0 m 4 ls []) rfl ?_
  refine lv_aload_n hx hb d_cSp_init_4 rfl (lv_at hl 0 rfl) ?_
  refine lv_aload_n hx hb d_cSp_init_5 rfl (lv_at hl 1 rfl) ?_
  obtain ⟨hl_x0_7, Heq⟩ := gl_some Heq
  refine w_v (y := rv ad 3 (some x1)) rfl ?_
  refine va_putF (D := D) (ci := 7) (v := rv ad 3 (some x1)) (ty := .object "JoinedTrees$Op") (C := R_Sp) (T := F_Sp) (N := 3) hx hb hts i_Sp t_Sp t_Sp_ok n_Sp hown hK hP hD hS (cPos N 7 x0) (cw_obj (k := 7) (by decide) hl_x0_7) rfl 0 (by decide) (hts _ kw_740) (fun _ h9 => h9) rfl hin rfl (by decide +kernel) (rv_nar (Or.inl ⟨_, rfl⟩)) (rv_fit (Or.inl ⟨_, rfl⟩)) (Nat.le_of_ble_eq_true rfl) d_cSp_init_6 (fun H locs hP hD hS => ?_)
  have hD := (congrArg (fun w9 => va_D A w9) (cw_setR (ad := ad) (cc := cc) (S := S) (k := 7) (f := 0) (t := 3) (v := (some x1)) (by decide) rfl hl_x0_7)).mp hD
  have hP := (congrArg (fun w9 => va_P D cls w9 H) (cw_setR (ad := ad) (cc := cc) (S := S) (k := 7) (f := 0) (t := 3) (v := (some x1)) (by decide) rfl hl_x0_7)).mp hP
  exact Kr _ (Option.some.inj Heq).symm 9 _ _ _ d_cSp_init_9 hP hD hS
def m_cSp_init (N : Nat → Nat) (x0 : Nat) (S : CS) (x1 : Nat) : Option CS := m_cSp_init_J0 N x0 S x1
set_option maxHeartbeats 4000000 in
theorem g_cSp_init (l : Launch) (D : va_G) (sz : Nat) {ad : Nat → Nat → Nat} {cc : Nat → ClassId} {sad sav : Nat → Nat} {N : Nat → Nat} {x0 : Nat} {S : CS} {x1 : Nat} {o : CS} (Heq : m_cSp_init N x0 S x1 = some o) : Met l ⟨"JoinedTrees$Spot", "<init>", "(LJoinedTrees$Op;)V"⟩ (Cond.code ⟨"JoinedTrees$Spot", "<init>", "(LJoinedTrees$Op;)V"⟩ prog_9_method_1_code 2 none :: gb) ({ frames := 1, cells := 0, slots := 0, locals := 24 }) (cPc sad sav D (cw ad cc N S) (cty cc) sz [.ref (ad 7 x0), .ref (ad 3 x1)]) (va_Qv (fun _ : Unit => True) (fun _ t => gO D (cw ad cc N o) (cty cc) (va_A (cw ad cc N S) sz) t) (va_A (cw ad cc N S) sz)) 0 0 (va_A (cw ad cc N S) sz) := by
  refine Met.ofW (cc := prog_9_method_1_code) (maxL := 2) (ret := none) (by decide) rfl ?_
  intro p e s m args below meth c s₁ B hml hv
  obtain ⟨rfl, hsz, hP, hK, hD0, hev, hE, hN⟩ := hv
  have hx := B.exec
  have hb := B.bytes
  have hr := B.returns
  have hts : ∀ w9 ∈ gb, w9.before [.ref (ad 7 x0), .ref (ad 3 x1)].toArray s = true := fun w9 h => atoms_spec (ws := Cond.code ⟨"JoinedTrees$Spot", "<init>", "(LJoinedTrees$Op;)V"⟩ prog_9_method_1_code 2 none :: gb) B.pre w9 (List.mem_cons_of_mem _ h)
  have hown : s.vm.findClass "JoinedTrees$Spot" = some m.cls := findClass_of_methodNamed B.named
  have hlocks := B.notSynchronized
  have hNS := ns_of hP
  subst hsz
  have hD := hD0.self (sz := s.heap.size)
  generalize hAe : va_A (cw ad cc N S) s.heap.size = A at hD hev hE hNS ⊢
  have hA : ∀ q : Nat, s.heap.size ≤ q → A q := fun q h => by rw [← hAe]; exact Or.inr h
  have hS : va_S A s.heap s.heap [] := va_S.rf
  obtain ⟨ls, hl, hle⟩ : ∃ ls : Array Slot, lv_has ls 2 [(0, .ref (ad 7 x0)), (1, .ref (ad 3 x1))] ∧ entryFrame m ([.ref (ad 7 x0), .ref (ad 3 x1)] : List Value).toArray 2 = F0 m 0 ls [] := by
    exact ⟨_, lv_entry (n := 2) _ (Nat.le_of_ble_eq_true rfl), lg_entry_eq ..⟩
  rw [hle]
  have hin : meth.name = "<init>" := (name_of_methodNamed B.named B.method).1
  refine w_cSp_init_J0 hin ⟨hx, hb, hr, hml, hown, hts, hK, hA, hev, hE, hN, hNS⟩ Heq (fun r h pc H locs ls hd hP hD hS => ?_) _ _ _ hP hD hS (lv_sub hl [0, 1] rfl)
  subst h
  exact W.vret hx hb hr (fun t ht hW => ⟨⟨(), rfl, trivial, by rw [ht]; exact hP, va_K.moved hW.alike hK, hD⟩, hS.F ht⟩) hS.2.2 hd
def m_cCh_init_J0 (N : Nat → Nat) (x0 : Nat) (S : CS) (x1 : Nat) (x2 : Int32) (x3 : Nat) : Option CS := gl x1 (N 4) (gl x0 (N 0) (gn (S.r 4 1 x1) (N 12) (fun j_1 => gd (S.i 4 0 x1) (S.z 12 j_1) (some ((((((S.setI 0 0 x0 (S.i 4 0 x1)).setI 0 1 x0 ((S.a 12 j_1 ((S.i 4 0 x1).toNatClampNeg)) + 1)).setI 0 2 x0 x2).setI 0 3 x0 (((S.i 4 8 x1) - (S.i 4 9 x1)) + 1)).setI 0 4 x0 (S.i 4 9 x1)).setR 0 5 x0 (some x3))))))
theorem d_cCh_init_0 : decode prog_2_method_1_code 0 = .ok (.aload_n 0, 1) := by decide +kernel
theorem d_cCh_init_1 : decode prog_2_method_1_code 1 = .ok (.invokespecial 1, 3) := by decide +kernel
theorem d_cCh_init_4 : decode prog_2_method_1_code 4 = .ok (.aload_n 0, 1) := by decide +kernel
theorem d_cCh_init_5 : decode prog_2_method_1_code 5 = .ok (.aload_n 1, 1) := by decide +kernel
theorem d_cCh_init_6 : decode prog_2_method_1_code 6 = .ok (.getfield 7, 3) := by decide +kernel
theorem d_cCh_init_9 : decode prog_2_method_1_code 9 = .ok (.putfield 13, 3) := by decide +kernel
theorem d_cCh_init_12 : decode prog_2_method_1_code 12 = .ok (.aload_n 0, 1) := by decide +kernel
theorem d_cCh_init_13 : decode prog_2_method_1_code 13 = .ok (.aload_n 1, 1) := by decide +kernel
theorem d_cCh_init_14 : decode prog_2_method_1_code 14 = .ok (.getfield 16, 3) := by decide +kernel
theorem d_cCh_init_17 : decode prog_2_method_1_code 17 = .ok (.aload_n 1, 1) := by decide +kernel
theorem d_cCh_init_18 : decode prog_2_method_1_code 18 = .ok (.getfield 7, 3) := by decide +kernel
theorem d_cCh_init_21 : decode prog_2_method_1_code 21 = .ok (.iaload, 1) := by decide +kernel
theorem d_cCh_init_22 : decode prog_2_method_1_code 22 = .ok (.iconst 1, 1) := by decide +kernel
theorem d_cCh_init_23 : decode prog_2_method_1_code 23 = .ok (.iadd, 1) := by decide +kernel
theorem d_cCh_init_24 : decode prog_2_method_1_code 24 = .ok (.putfield 20, 3) := by decide +kernel
theorem d_cCh_init_27 : decode prog_2_method_1_code 27 = .ok (.aload_n 0, 1) := by decide +kernel
theorem d_cCh_init_28 : decode prog_2_method_1_code 28 = .ok (.iload_n 2, 1) := by decide +kernel
theorem d_cCh_init_29 : decode prog_2_method_1_code 29 = .ok (.putfield 23, 3) := by decide +kernel
theorem d_cCh_init_32 : decode prog_2_method_1_code 32 = .ok (.aload_n 0, 1) := by decide +kernel
theorem d_cCh_init_33 : decode prog_2_method_1_code 33 = .ok (.aload_n 1, 1) := by decide +kernel
theorem d_cCh_init_34 : decode prog_2_method_1_code 34 = .ok (.getfield 26, 3) := by decide +kernel
theorem d_cCh_init_37 : decode prog_2_method_1_code 37 = .ok (.aload_n 1, 1) := by decide +kernel
theorem d_cCh_init_38 : decode prog_2_method_1_code 38 = .ok (.getfield 29, 3) := by decide +kernel
theorem d_cCh_init_41 : decode prog_2_method_1_code 41 = .ok (.isub, 1) := by decide +kernel
theorem d_cCh_init_42 : decode prog_2_method_1_code 42 = .ok (.iconst 1, 1) := by decide +kernel
theorem d_cCh_init_43 : decode prog_2_method_1_code 43 = .ok (.iadd, 1) := by decide +kernel
theorem d_cCh_init_44 : decode prog_2_method_1_code 44 = .ok (.putfield 32, 3) := by decide +kernel
theorem d_cCh_init_47 : decode prog_2_method_1_code 47 = .ok (.aload_n 0, 1) := by decide +kernel
theorem d_cCh_init_48 : decode prog_2_method_1_code 48 = .ok (.aload_n 1, 1) := by decide +kernel
theorem d_cCh_init_49 : decode prog_2_method_1_code 49 = .ok (.getfield 29, 3) := by decide +kernel
theorem d_cCh_init_52 : decode prog_2_method_1_code 52 = .ok (.putfield 35, 3) := by decide +kernel
theorem d_cCh_init_55 : decode prog_2_method_1_code 55 = .ok (.aload_n 0, 1) := by decide +kernel
theorem d_cCh_init_56 : decode prog_2_method_1_code 56 = .ok (.aload_n 3, 1) := by decide +kernel
theorem d_cCh_init_57 : decode prog_2_method_1_code 57 = .ok (.putfield 38, 3) := by decide +kernel
theorem d_cCh_init_60 : decode prog_2_method_1_code 60 = .ok (.return_, 1) := by decide +kernel
set_option maxHeartbeats 4000000 in
set_option maxRecDepth 100000 in
theorem w_cCh_init_J0 {p : Program} {l : Launch} {e : Env} {s : State} {m : MethodId} {args : Array Value} {below : List Frame} {meth : Method} {c : Code} {A : Nat → Prop} {D : va_G} {ad : Nat → Nat → Nat} {cc : Nat → ClassId} {sad sav : Nat → Nat} {Q : State → Prop} (hin : meth.name = "<init>") (hC : MCc sad sav "JoinedTrees$Change" prog_2_method_1_code 4 none p s m args meth c A D cc) {N : Nat → Nat} {x0 : Nat} {S : CS} {x1 : Nat} {x2 : Int32} {x3 : Nat} {o : CS} (Heq : m_cCh_init_J0 N x0 S x1 x2 x3 = some o) (Kr : ∀ r : CS, o = r → ∀ (pc : Nat) (H : Heap) (locs : List Loc) (ls : Array Slot), decode prog_2_method_1_code pc = .ok (.return_, 1) → va_P D cls (cw ad cc N r) H → va_D A (cw ad cc N r) → va_S A s.heap H locs → W p l e ({ frames := 1, cells := 0, slots := 0, locals := 24 }) s m args below meth c H locs 0 0 Q (F0 m pc ls [])) : ∀ (H : Heap) (locs : List Loc) (ls : Array Slot), va_P D cls (cw ad cc N S) H → va_D A (cw ad cc N S) → va_S A s.heap H locs → lv_has ls 4 [(0, .ref (ad 0 x0)), (1, .ref (ad 4 x1)), (2, .int x2), (3, .ref (ad 16 x3))] → W p l e ({ frames := 1, cells := 0, slots := 0, locals := 24 }) s m args below meth c H locs 0 0 Q (F0 m 0 ls []) := by
  intro H locs ls hP hD hS hl
  obtain ⟨hx, hb, hr, hml, hown, hts, hK, hA, hev, hE, hN, hNS⟩ := id hC
  unfold m_cCh_init_J0 at Heq
  refine lv_aload_n hx hb d_cCh_init_0 rfl (lv_at hl 0 rfl) ?_
  refine W.objInit hx hb hown (hts _ kw_1007) (hts _ kw_34) (hts _ kw_35) rfl (by rw [hml]; exact hl.1) rfl d_cCh_init_1 (Nat.le_of_ble_eq_true rfl) (Nat.le_of_ble_eq_true rfl) ?_
  refine W.eq (g2 := F0 m 4 ls []) rfl ?_
  refine lv_aload_n hx hb d_cCh_init_4 rfl (lv_at hl 0 rfl) ?_
  refine lv_aload_n hx hb d_cCh_init_5 rfl (lv_at hl 1 rfl) ?_
  obtain ⟨hl_x1_4, Heq⟩ := gl_some Heq
  refine va_get (D := D) (ci := 4) (v := .int (S.i 4 0 x1)) (C := R_Rp) (T := F_Rp) (N := 10) hx hb hts i_Rp hown hK hP (cPos N 4 x1) (cw_obj (k := 4) (by decide) hl_x1_4) rfl 0 (by decide) (hts _ kw_200) (fun _ h9 => h9) rfl d_cCh_init_6 ?_
  obtain ⟨hl_x0_0, Heq⟩ := gl_some Heq
  refine va_putF (D := D) (ci := 0) (v := .int (S.i 4 0 x1)) (ty := .int) (C := R_Ch) (T := F_Ch) (N := 7) hx hb hts i_Ch t_Ch t_Ch_ok n_Ch hown hK hP hD hS (cPos N 0 x0) (cw_obj (k := 0) (by decide) hl_x0_0) rfl 0 (by decide) (hts _ kw_1008) (fun _ h9 => h9) rfl hin rfl (by decide +kernel) rfl rfl (Nat.le_of_ble_eq_true rfl) d_cCh_init_9 (fun H locs hP hD hS => ?_)
  have hD := (congrArg (fun w9 => va_D A w9) (cw_setI (ad := ad) (cc := cc) (S := S) (k := 0) (f := 0) (v := S.i 4 0 x1) (by decide) rfl hl_x0_0)).mp hD
  have hP := (congrArg (fun w9 => va_P D cls w9 H) (cw_setI (ad := ad) (cc := cc) (S := S) (k := 0) (f := 0) (v := S.i 4 0 x1) (by decide) rfl hl_x0_0)).mp hP
  refine lv_aload_n hx hb d_cCh_init_12 rfl (lv_at hl 0 rfl) ?_
  refine lv_aload_n hx hb d_cCh_init_13 rfl (lv_at hl 1 rfl) ?_
  refine va_get (D := D) (ci := 4) (v := rv ad 12 ((S.setI 0 0 x0 (S.i 4 0 x1)).r 4 1 x1)) (C := R_Rp) (T := F_Rp) (N := 10) hx hb hts i_Rp hown hK hP (cPos N 4 x1) (cw_obj (k := 4) (by decide) hl_x1_4) rfl 1 (by decide) (hts _ kw_206) (fun _ h9 => h9) rfl d_cCh_init_14 ?_
  refine w_v (y := rv ad 12 (S.r 4 1 x1)) (congrArg (rv ad 12) rfl) ?_
  refine lv_aload_n hx hb d_cCh_init_17 rfl (lv_at hl 1 rfl) ?_
  refine va_get (D := D) (ci := 4) (v := .int ((S.setI 0 0 x0 (S.i 4 0 x1)).i 4 0 x1)) (C := R_Rp) (T := F_Rp) (N := 10) hx hb hts i_Rp hown hK hP (cPos N 4 x1) (cw_obj (k := 4) (by decide) hl_x1_4) rfl 0 (by decide) (hts _ kw_200) (fun _ h9 => h9) rfl d_cCh_init_18 ?_
  refine w_i (y := S.i 4 0 x1) rfl ?_
  obtain ⟨j_1, hj_2, hl_3, Heq⟩ := gn_some Heq
  refine w_s (st' := [.int (S.i 4 0 x1), .ref (ad 12 j_1), .ref (ad 0 x0)]) (congrArg (fun z9 : Option Nat => [.int (S.i 4 0 x1), rv ad 12 z9, .ref (ad 0 x0)]) hj_2) ?_
  obtain ⟨hi_4, Heq⟩ := gd_some Heq
  refine va_iald hx hb hK hP (cPos N 12 j_1) 0 (cw_arr (k := 12) (by decide) hl_3) rfl (i := S.i 4 0 x1) hi_4 d_cCh_init_21 ?_
  refine w_i (y := S.a 12 j_1 ((S.i 4 0 x1).toNatClampNeg)) rfl ?_
  refine lv_iconst (v := 1) hx hb d_cCh_init_22 (by decide) ?_
  refine lv_iadd hx hb d_cCh_init_23 ?_
  refine w_i (y := (S.a 12 j_1 ((S.i 4 0 x1).toNatClampNeg)) + 1) rfl ?_
  refine va_putF (D := D) (ci := 0) (v := .int ((S.a 12 j_1 ((S.i 4 0 x1).toNatClampNeg)) + 1)) (ty := .int) (C := R_Ch) (T := F_Ch) (N := 7) hx hb hts i_Ch t_Ch t_Ch_ok n_Ch hown hK hP hD hS (cPos N 0 x0) (cw_obj (k := 0) (by decide) hl_x0_0) rfl 1 (by decide) (hts _ kw_1013) (fun _ h9 => h9) rfl hin rfl (by decide +kernel) rfl rfl (Nat.le_of_ble_eq_true rfl) d_cCh_init_24 (fun H locs hP hD hS => ?_)
  have hD := (congrArg (fun w9 => va_D A w9) (cw_setI (ad := ad) (cc := cc) (S := (S.setI 0 0 x0 (S.i 4 0 x1))) (k := 0) (f := 1) (v := (S.a 12 j_1 ((S.i 4 0 x1).toNatClampNeg)) + 1) (by decide) rfl hl_x0_0)).mp hD
  have hP := (congrArg (fun w9 => va_P D cls w9 H) (cw_setI (ad := ad) (cc := cc) (S := (S.setI 0 0 x0 (S.i 4 0 x1))) (k := 0) (f := 1) (v := (S.a 12 j_1 ((S.i 4 0 x1).toNatClampNeg)) + 1) (by decide) rfl hl_x0_0)).mp hP
  refine lv_aload_n hx hb d_cCh_init_27 rfl (lv_at hl 0 rfl) ?_
  refine lv_iload_n hx hb d_cCh_init_28 rfl (lv_at hl 2 rfl) ?_
  refine va_putF (D := D) (ci := 0) (v := .int x2) (ty := .int) (C := R_Ch) (T := F_Ch) (N := 7) hx hb hts i_Ch t_Ch t_Ch_ok n_Ch hown hK hP hD hS (cPos N 0 x0) (cw_obj (k := 0) (by decide) hl_x0_0) rfl 2 (by decide) (hts _ kw_1018) (fun _ h9 => h9) rfl hin rfl (by decide +kernel) rfl rfl (Nat.le_of_ble_eq_true rfl) d_cCh_init_29 (fun H locs hP hD hS => ?_)
  have hD := (congrArg (fun w9 => va_D A w9) (cw_setI (ad := ad) (cc := cc) (S := ((S.setI 0 0 x0 (S.i 4 0 x1)).setI 0 1 x0 ((S.a 12 j_1 ((S.i 4 0 x1).toNatClampNeg)) + 1))) (k := 0) (f := 2) (v := x2) (by decide) rfl hl_x0_0)).mp hD
  have hP := (congrArg (fun w9 => va_P D cls w9 H) (cw_setI (ad := ad) (cc := cc) (S := ((S.setI 0 0 x0 (S.i 4 0 x1)).setI 0 1 x0 ((S.a 12 j_1 ((S.i 4 0 x1).toNatClampNeg)) + 1))) (k := 0) (f := 2) (v := x2) (by decide) rfl hl_x0_0)).mp hP
  refine lv_aload_n hx hb d_cCh_init_32 rfl (lv_at hl 0 rfl) ?_
  refine lv_aload_n hx hb d_cCh_init_33 rfl (lv_at hl 1 rfl) ?_
  refine va_get (D := D) (ci := 4) (v := .int ((((S.setI 0 0 x0 (S.i 4 0 x1)).setI 0 1 x0 ((S.a 12 j_1 ((S.i 4 0 x1).toNatClampNeg)) + 1)).setI 0 2 x0 x2).i 4 8 x1)) (C := R_Rp) (T := F_Rp) (N := 10) hx hb hts i_Rp hown hK hP (cPos N 4 x1) (cw_obj (k := 4) (by decide) hl_x1_4) rfl 8 (by decide) (hts _ kw_225) (fun _ h9 => h9) rfl d_cCh_init_34 ?_
  refine w_i (y := S.i 4 8 x1) rfl ?_
  refine lv_aload_n hx hb d_cCh_init_37 rfl (lv_at hl 1 rfl) ?_
  refine va_get (D := D) (ci := 4) (v := .int ((((S.setI 0 0 x0 (S.i 4 0 x1)).setI 0 1 x0 ((S.a 12 j_1 ((S.i 4 0 x1).toNatClampNeg)) + 1)).setI 0 2 x0 x2).i 4 9 x1)) (C := R_Rp) (T := F_Rp) (N := 10) hx hb hts i_Rp hown hK hP (cPos N 4 x1) (cw_obj (k := 4) (by decide) hl_x1_4) rfl 9 (by decide) (hts _ kw_228) (fun _ h9 => h9) rfl d_cCh_init_38 ?_
  refine w_i (y := S.i 4 9 x1) rfl ?_
  refine lv_isub hx hb d_cCh_init_41 ?_
  refine w_i (y := (S.i 4 8 x1) - (S.i 4 9 x1)) rfl ?_
  refine lv_iconst (v := 1) hx hb d_cCh_init_42 (by decide) ?_
  refine lv_iadd hx hb d_cCh_init_43 ?_
  refine w_i (y := ((S.i 4 8 x1) - (S.i 4 9 x1)) + 1) rfl ?_
  refine va_putF (D := D) (ci := 0) (v := .int (((S.i 4 8 x1) - (S.i 4 9 x1)) + 1)) (ty := .int) (C := R_Ch) (T := F_Ch) (N := 7) hx hb hts i_Ch t_Ch t_Ch_ok n_Ch hown hK hP hD hS (cPos N 0 x0) (cw_obj (k := 0) (by decide) hl_x0_0) rfl 3 (by decide) (hts _ kw_1020) (fun _ h9 => h9) rfl hin rfl (by decide +kernel) rfl rfl (Nat.le_of_ble_eq_true rfl) d_cCh_init_44 (fun H locs hP hD hS => ?_)
  have hD := (congrArg (fun w9 => va_D A w9) (cw_setI (ad := ad) (cc := cc) (S := (((S.setI 0 0 x0 (S.i 4 0 x1)).setI 0 1 x0 ((S.a 12 j_1 ((S.i 4 0 x1).toNatClampNeg)) + 1)).setI 0 2 x0 x2)) (k := 0) (f := 3) (v := ((S.i 4 8 x1) - (S.i 4 9 x1)) + 1) (by decide) rfl hl_x0_0)).mp hD
  have hP := (congrArg (fun w9 => va_P D cls w9 H) (cw_setI (ad := ad) (cc := cc) (S := (((S.setI 0 0 x0 (S.i 4 0 x1)).setI 0 1 x0 ((S.a 12 j_1 ((S.i 4 0 x1).toNatClampNeg)) + 1)).setI 0 2 x0 x2)) (k := 0) (f := 3) (v := ((S.i 4 8 x1) - (S.i 4 9 x1)) + 1) (by decide) rfl hl_x0_0)).mp hP
  refine lv_aload_n hx hb d_cCh_init_47 rfl (lv_at hl 0 rfl) ?_
  refine lv_aload_n hx hb d_cCh_init_48 rfl (lv_at hl 1 rfl) ?_
  refine va_get (D := D) (ci := 4) (v := .int (((((S.setI 0 0 x0 (S.i 4 0 x1)).setI 0 1 x0 ((S.a 12 j_1 ((S.i 4 0 x1).toNatClampNeg)) + 1)).setI 0 2 x0 x2).setI 0 3 x0 (((S.i 4 8 x1) - (S.i 4 9 x1)) + 1)).i 4 9 x1)) (C := R_Rp) (T := F_Rp) (N := 10) hx hb hts i_Rp hown hK hP (cPos N 4 x1) (cw_obj (k := 4) (by decide) hl_x1_4) rfl 9 (by decide) (hts _ kw_228) (fun _ h9 => h9) rfl d_cCh_init_49 ?_
  refine w_i (y := S.i 4 9 x1) rfl ?_
  refine va_putF (D := D) (ci := 0) (v := .int (S.i 4 9 x1)) (ty := .int) (C := R_Ch) (T := F_Ch) (N := 7) hx hb hts i_Ch t_Ch t_Ch_ok n_Ch hown hK hP hD hS (cPos N 0 x0) (cw_obj (k := 0) (by decide) hl_x0_0) rfl 4 (by decide) (hts _ kw_1023) (fun _ h9 => h9) rfl hin rfl (by decide +kernel) rfl rfl (Nat.le_of_ble_eq_true rfl) d_cCh_init_52 (fun H locs hP hD hS => ?_)
  have hD := (congrArg (fun w9 => va_D A w9) (cw_setI (ad := ad) (cc := cc) (S := ((((S.setI 0 0 x0 (S.i 4 0 x1)).setI 0 1 x0 ((S.a 12 j_1 ((S.i 4 0 x1).toNatClampNeg)) + 1)).setI 0 2 x0 x2).setI 0 3 x0 (((S.i 4 8 x1) - (S.i 4 9 x1)) + 1))) (k := 0) (f := 4) (v := S.i 4 9 x1) (by decide) rfl hl_x0_0)).mp hD
  have hP := (congrArg (fun w9 => va_P D cls w9 H) (cw_setI (ad := ad) (cc := cc) (S := ((((S.setI 0 0 x0 (S.i 4 0 x1)).setI 0 1 x0 ((S.a 12 j_1 ((S.i 4 0 x1).toNatClampNeg)) + 1)).setI 0 2 x0 x2).setI 0 3 x0 (((S.i 4 8 x1) - (S.i 4 9 x1)) + 1))) (k := 0) (f := 4) (v := S.i 4 9 x1) (by decide) rfl hl_x0_0)).mp hP
  refine lv_aload_n hx hb d_cCh_init_55 rfl (lv_at hl 0 rfl) ?_
  refine lv_aload_n hx hb d_cCh_init_56 rfl (lv_at hl 3 rfl) ?_
  refine w_v (y := rv ad 16 (some x3)) rfl ?_
  refine va_putF (D := D) (ci := 0) (v := rv ad 16 (some x3)) (ty := .array (.object "JoinedTrees$Change")) (C := R_Ch) (T := F_Ch) (N := 7) hx hb hts i_Ch t_Ch t_Ch_ok n_Ch hown hK hP hD hS (cPos N 0 x0) (cw_obj (k := 0) (by decide) hl_x0_0) rfl 5 (by decide) (hts _ kw_1026) (fun _ h9 => h9) rfl hin rfl (by decide +kernel) (rv_nar (Or.inr ⟨_, rfl⟩)) (rv_fit (Or.inr ⟨_, rfl⟩)) (Nat.le_of_ble_eq_true rfl) d_cCh_init_57 (fun H locs hP hD hS => ?_)
  have hD := (congrArg (fun w9 => va_D A w9) (cw_setR (ad := ad) (cc := cc) (S := (((((S.setI 0 0 x0 (S.i 4 0 x1)).setI 0 1 x0 ((S.a 12 j_1 ((S.i 4 0 x1).toNatClampNeg)) + 1)).setI 0 2 x0 x2).setI 0 3 x0 (((S.i 4 8 x1) - (S.i 4 9 x1)) + 1)).setI 0 4 x0 (S.i 4 9 x1))) (k := 0) (f := 5) (t := 16) (v := (some x3)) (by decide) rfl hl_x0_0)).mp hD
  have hP := (congrArg (fun w9 => va_P D cls w9 H) (cw_setR (ad := ad) (cc := cc) (S := (((((S.setI 0 0 x0 (S.i 4 0 x1)).setI 0 1 x0 ((S.a 12 j_1 ((S.i 4 0 x1).toNatClampNeg)) + 1)).setI 0 2 x0 x2).setI 0 3 x0 (((S.i 4 8 x1) - (S.i 4 9 x1)) + 1)).setI 0 4 x0 (S.i 4 9 x1))) (k := 0) (f := 5) (t := 16) (v := (some x3)) (by decide) rfl hl_x0_0)).mp hP
  exact Kr _ (Option.some.inj Heq).symm 60 _ _ _ d_cCh_init_60 hP hD hS
def m_cCh_init (N : Nat → Nat) (x0 : Nat) (S : CS) (x1 : Nat) (x2 : Int32) (x3 : Nat) : Option CS := m_cCh_init_J0 N x0 S x1 x2 x3
set_option maxHeartbeats 4000000 in
theorem g_cCh_init (l : Launch) (D : va_G) (sz : Nat) {ad : Nat → Nat → Nat} {cc : Nat → ClassId} {sad sav : Nat → Nat} {N : Nat → Nat} {x0 : Nat} {S : CS} {x1 : Nat} {x2 : Int32} {x3 : Nat} {o : CS} (Heq : m_cCh_init N x0 S x1 x2 x3 = some o) : Met l ⟨"JoinedTrees$Change", "<init>", "(LJoinedTrees$Replica;I[LJoinedTrees$Change;)V"⟩ (Cond.code ⟨"JoinedTrees$Change", "<init>", "(LJoinedTrees$Replica;I[LJoinedTrees$Change;)V"⟩ prog_2_method_1_code 4 none :: gb) ({ frames := 1, cells := 0, slots := 0, locals := 24 }) (cPc sad sav D (cw ad cc N S) (cty cc) sz [.ref (ad 0 x0), .ref (ad 4 x1), .int x2, .ref (ad 16 x3)]) (va_Qv (fun _ : Unit => True) (fun _ t => gO D (cw ad cc N o) (cty cc) (va_A (cw ad cc N S) sz) t) (va_A (cw ad cc N S) sz)) 0 0 (va_A (cw ad cc N S) sz) := by
  refine Met.ofW (cc := prog_2_method_1_code) (maxL := 4) (ret := none) (by decide) rfl ?_
  intro p e s m args below meth c s₁ B hml hv
  obtain ⟨rfl, hsz, hP, hK, hD0, hev, hE, hN⟩ := hv
  have hx := B.exec
  have hb := B.bytes
  have hr := B.returns
  have hts : ∀ w9 ∈ gb, w9.before [.ref (ad 0 x0), .ref (ad 4 x1), .int x2, .ref (ad 16 x3)].toArray s = true := fun w9 h => atoms_spec (ws := Cond.code ⟨"JoinedTrees$Change", "<init>", "(LJoinedTrees$Replica;I[LJoinedTrees$Change;)V"⟩ prog_2_method_1_code 4 none :: gb) B.pre w9 (List.mem_cons_of_mem _ h)
  have hown : s.vm.findClass "JoinedTrees$Change" = some m.cls := findClass_of_methodNamed B.named
  have hlocks := B.notSynchronized
  have hNS := ns_of hP
  subst hsz
  have hD := hD0.self (sz := s.heap.size)
  generalize hAe : va_A (cw ad cc N S) s.heap.size = A at hD hev hE hNS ⊢
  have hA : ∀ q : Nat, s.heap.size ≤ q → A q := fun q h => by rw [← hAe]; exact Or.inr h
  have hS : va_S A s.heap s.heap [] := va_S.rf
  obtain ⟨ls, hl, hle⟩ : ∃ ls : Array Slot, lv_has ls 4 [(0, .ref (ad 0 x0)), (1, .ref (ad 4 x1)), (2, .int x2), (3, .ref (ad 16 x3))] ∧ entryFrame m ([.ref (ad 0 x0), .ref (ad 4 x1), .int x2, .ref (ad 16 x3)] : List Value).toArray 4 = F0 m 0 ls [] := by
    exact ⟨_, lv_entry (n := 4) _ (Nat.le_of_ble_eq_true rfl), lg_entry_eq ..⟩
  rw [hle]
  have hin : meth.name = "<init>" := (name_of_methodNamed B.named B.method).1
  refine w_cCh_init_J0 hin ⟨hx, hb, hr, hml, hown, hts, hK, hA, hev, hE, hN, hNS⟩ Heq (fun r h pc H locs ls hd hP hD hS => ?_) _ _ _ hP hD hS (lv_sub hl [0, 1, 2, 3] rfl)
  subst h
  exact W.vret hx hb hr (fun t ht hW => ⟨⟨(), rfl, trivial, by rw [ht]; exact hP, va_K.moved hW.alike hK, hD⟩, hS.F ht⟩) hS.2.2 hd
