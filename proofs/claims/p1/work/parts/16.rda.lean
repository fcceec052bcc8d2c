theorem d_rdI_30 : decode prog_3_method_1_code 30 = .ok (.iload_n 1, 1) := by decide +kernel
theorem d_rdI_31 : decode prog_3_method_1_code 31 = .ok (.sipush 500, 3) := by decide +kernel
theorem d_rdI_34 : decode prog_3_method_1_code 34 = .ok (.if_icmp .ge 22, 3) := by decide +kernel
theorem d_rdI_37 : decode prog_3_method_1_code 37 = .ok (.aload_n 0, 1) := by decide +kernel
theorem d_rdI_38 : decode prog_3_method_1_code 38 = .ok (.getfield 11, 3) := by decide +kernel
theorem d_rdI_41 : decode prog_3_method_1_code 41 = .ok (.iload_n 1, 1) := by decide +kernel
theorem d_rdI_42 : decode prog_3_method_1_code 42 = .ok (.new 9, 3) := by decide +kernel
theorem d_rdI_45 : decode prog_3_method_1_code 45 = .ok (.dup, 1) := by decide +kernel
theorem d_rdI_46 : decode prog_3_method_1_code 46 = .ok (.invokespecial 26, 3) := by decide +kernel
theorem d_rdI_49 : decode prog_3_method_1_code 49 = .ok (.aastore, 1) := by decide +kernel
theorem d_rdI_50 : decode prog_3_method_1_code 50 = .ok (.iinc 1 1, 3) := by decide +kernel
theorem d_rdI_53 : decode prog_3_method_1_code 53 = .ok (.goto (-23), 3) := by decide +kernel
set_option maxHeartbeats 4000000 in
set_option maxRecDepth 100000 in
/-- the reader's loop: 500 Values -/
theorem rd_loop {p : Program} {l : Launch} {e : Env} {R : Room} {s : State} {m : MethodId} {args : Array Value} {below : List Frame} {meth : Method} {c : Code} {Q : State → Prop} {A : Nat → Prop} {D : va_G} {h0 v0 : Nat} {cA : ClassId} {fs : List Value} {c0 s0 : Nat}
    (hx : p.tables.exec = Jvm.exec) (hb : c.code = prog_3_method_1_code) (hml : c.maxLocals = 2) (hown : s.vm.findClass "JoinedTrees$JsonReader" = some m.cls) (hts : ∀ w9 ∈ gb, w9.before args s = true) (hev : ev_v s) (hA : ∀ q, s.heap.size ≤ q → A q) (hK : va_K D cls [(cA, .object "JoinedTrees$Value")] s) (hv0 : fs[0]? = some (.ref v0))
    (hc : c0 + 500 ≤ R.cells) (hs : s0 + 5000 ≤ R.slots) (hf : 1 + 1 ≤ R.frames) (hlo : 8 + (1 + 11) + 24 ≤ R.locals)
    (kend : ∀ (H : Heap) (locs : List Loc) (ls : Array Slot), va_S A s.heap H locs → W p l e R s m args below meth c H locs (c0 + 500) (s0 + 5000) Q (F0 m 56 ls [])) :
    ∀ (n i : Nat) (f : Nat → Option Nat) (H : Heap) (locs : List Loc) (ls : Array Slot), i + n = 500 → va_P D cls [(h0, .inr (1, fs)), (v0, .inl (cA, 500, .inr (.inr (.inr (.inr f)))))] H → va_D A [(h0, .inr (1, fs)), (v0, .inl (cA, 500, .inr (.inr (.inr (.inr f)))))] → va_S A s.heap H locs → lv_has ls 2 [(1, .int (nI i)), (0, .ref h0)] → W p l e R s m args below meth c H locs (c0 + i) (s0 + 10 * i) Q (F0 m 30 ls []) := by
  intro n
  induction n with
  | zero =>
    intro i f H locs ls hi hP hD hS hl
    have hi : i = 500 := by omega
    subst hi
    refine lv_iload_n hx hb d_rdI_30 rfl (lv_at hl 0 rfl) ?_
    refine lv_sipush (v := 500) hx hb d_rdI_31 (by decide) ?_
    refine lv_icmp_ge (tgt := 56) hx hb d_rdI_34 (by decide) (fun _ => ?_) (fun h => absurd (by decide) h)
    exact kend H locs ls hS
  | succ n ih =>
    intro i f H locs ls hi hP hD hS hl
    refine lv_iload_n hx hb d_rdI_30 rfl (lv_at hl 0 rfl) ?_
    refine lv_sipush (v := 500) hx hb d_rdI_31 (by decide) ?_
    refine lv_icmp_ge (tgt := 56) hx hb d_rdI_34 (by decide) (fun h => absurd h (nI_ge (b := 500) (by omega) (by decide))) (fun _ => ?_)
    refine lv_aload_n hx hb d_rdI_37 rfl (lv_at hl 1 rfl) ?_
    refine va_get (D := D) (ci := 1) (v := .ref v0) (C := R_Rd) (T := F_Rd) (N := 10) hx hb hts i_Rd hown hK hP 0 rfl rfl 0 (by decide) (hts _ kw_342) (fun _ h9 => h9) hv0 d_rdI_38 ?_
    refine lv_iload_n hx hb d_rdI_41 rfl (lv_at hl 0 rfl) ?_
    refine va_new (D := D) (ci := 9) (fs := [.int 0, .long 0, .null, .int 0, .int 0, .int 0, .int 0, .int 0, .null, .null]) (C := R_Va) (T := F_Va) (N := 10) hx hb hts i_Va t_Va t_Va_ok hown (hts _ kw_286) (hts _ kw_290) (hts _ kw_8) hK hP hD hS hA rfl (by decide +kernel) (by omega) (by omega) d_rdI_42 (fun qv H hP hD hS => ?_)
    have hP : va_P D cls [(h0, .inr (1, fs)), (v0, .inl (cA, 500, .inr (.inr (.inr (.inr f))))), (qv, .inr (9, [.int 0, .long 0, .null, .int 0, .int 0, .int 0, .int 0, .int 0, .null, .null]))] H := hP
    have hD : va_D A [(h0, .inr (1, fs)), (v0, .inl (cA, 500, .inr (.inr (.inr (.inr f))))), (qv, .inr (9, [.int 0, .long 0, .null, .int 0, .int 0, .int 0, .int 0, .int 0, .null, .null]))] := hD
    refine lv_dup hx hb d_rdI_45 rfl ?_
    have hPc := hP.sub (ws' := [(qv, .inr (9, [.int 0, .long 0, .null, .int 0, .int 0, .int 0, .int 0, .int 0, .null, .null]))]) [2] rfl
    have hDc := hD.sub (ws' := [(qv, .inr (9, [.int 0, .long 0, .null, .int 0, .int 0, .int 0, .int 0, .int 0, .null, .null]))]) [2] (by decide) rfl
    have hKc := hK.sub (tys' := []) [] rfl
    have hFc := va_free (wc := [(qv, .inr (9, [.int 0, .long 0, .null, .int 0, .int 0, .int 0, .int 0, .int 0, .null, .null]))]) hD hS hA [2] rfl
    refine va_callv (va_runIN (As := []) (rest := [.ref qv, .int (nI i), .ref v0]) ⟨hx, hb, hml, hown, hts⟩ (g_vaI l D H.size qv) ⟨cw_n 0 hts kw_293 hev.2.2.1.2 kw_8 rfl rfl (by decide +kernel) ⟨hf, hlo⟩, rfl, hts _ kw_292⟩ ⟨g_blind, fun U hU hW => g_pre hU hW hPc hKc hDc⟩ rfl rfl hl.1 rfl (lv_room (Nat.le_of_ble_eq_true rfl)) d_rdI_46 ⟨by omega, by omega⟩) hS (fun q _ h => hFc q h) hFc (fun u t H1 locs ht hvm hw hB hz1 hk1 hS => ?_)
    obtain ⟨hP1, hK1, hD1⟩ := hB
    rw [ht] at hP1
    obtain ⟨hP, hD⟩ := va_join (wr := [(h0, .inr (1, fs)), (v0, .inl (cA, 500, .inr (.inr (.inr (.inr f)))))]) (w1 := [(qv, .inr (9, [.int 0, .long 0, .null, .int 0, .int 0, .int 0, .int 0, .int 0, .null, .null]))]) hP hD [2] [0, 1] rfl rfl (by decide) (by decide) hk1 hFc hP1 hD1
    generalize H1 = H at hP hS ⊢
    have hP : va_P D cls [(h0, .inr (1, fs)), (v0, .inl (cA, 500, .inr (.inr (.inr (.inr f))))), (qv, .inr (9, [.int 0, .long 0, .null, .int 0, .int 0, .int 0, .int 0, .int 0, .null, .null]))] H := hP
    have hD : va_D A [(h0, .inr (1, fs)), (v0, .inl (cA, 500, .inr (.inr (.inr (.inr f))))), (qv, .inr (9, [.int 0, .long 0, .null, .int 0, .int 0, .int 0, .int 0, .int 0, .null, .null]))] := hD
    refine va_astq hx hb hK hP hD hS 1 0 2 9 rfl rfl rfl rfl (i := nI i) (vp_in_nI (by omega) (by decide)) d_rdI_49 (fun H locs hP hD hS => ?_)
    refine lv_iinc (v := nI (i + 1)) (lv' := [(1, .int (nI (i + 1))), (0, .ref h0)]) hx hb d_rdI_50 hl (k := 0) rfl (nI_1 i) (by decide) rfl (fun ls hl => ?_)
    refine lv_goto (tgt := 30) hx hb d_rdI_53 (by decide) ?_
    refine W.cs (cells' := c0 + (i + 1)) (slots' := s0 + 10 * (i + 1)) (by omega) (by omega) ?_
    exact ih (i + 1) _ H locs ls (by omega) (hP.sub [0, 1] rfl) (hD.sub [0, 1] (by decide) rfl) hS hl
theorem d_rdI_0 : decode prog_3_method_1_code 0 = .ok (.aload_n 0, 1) := by decide +kernel
theorem d_rdI_1 : decode prog_3_method_1_code 1 = .ok (.invokespecial 3, 3) := by decide +kernel
theorem d_rdI_4 : decode prog_3_method_1_code 4 = .ok (.aload_n 0, 1) := by decide +kernel
theorem d_rdI_5 : decode prog_3_method_1_code 5 = .ok (.sipush 500, 3) := by decide +kernel
theorem d_rdI_8 : decode prog_3_method_1_code 8 = .ok (.anewarray 9, 3) := by decide +kernel
theorem d_rdI_11 : decode prog_3_method_1_code 11 = .ok (.putfield 11, 3) := by decide +kernel
theorem d_rdI_14 : decode prog_3_method_1_code 14 = .ok (.aload_n 0, 1) := by decide +kernel
theorem d_rdI_15 : decode prog_3_method_1_code 15 = .ok (.new 17, 3) := by decide +kernel
theorem d_rdI_18 : decode prog_3_method_1_code 18 = .ok (.dup, 1) := by decide +kernel
theorem d_rdI_19 : decode prog_3_method_1_code 19 = .ok (.sipush 8192, 3) := by decide +kernel
theorem d_rdI_22 : decode prog_3_method_1_code 22 = .ok (.invokespecial 19, 3) := by decide +kernel
theorem d_rdI_25 : decode prog_3_method_1_code 25 = .ok (.putfield 22, 3) := by decide +kernel
theorem d_rdI_28 : decode prog_3_method_1_code 28 = .ok (.iconst 0, 1) := by decide +kernel
theorem d_rdI_29 : decode prog_3_method_1_code 29 = .ok (.istore_n 1, 1) := by decide +kernel
theorem d_rdI_56 : decode prog_3_method_1_code 56 = .ok (.return_, 1) := by decide +kernel
set_option maxHeartbeats 4000000 in
set_option maxRecDepth 100000 in
theorem g_rdI (l : Launch) (D : va_G) (sz : Nat) (h0 : Nat) : Met l ⟨"JoinedTrees$JsonReader", "<init>", "()V"⟩ (Cond.code ⟨"JoinedTrees$JsonReader", "<init>", "()V"⟩ prog_3_method_1_code 2 none :: gb) ({ frames := 2, cells := 503, slots := 13695, locals := 45 }) (gPv D [(h0, .inr (1, [.null, .null, .null, .int 0, .int 0, .int 0, .null, .int 0, .int 0, .int 0]))] [] sz [.ref h0]) (va_Qv (fun u : Unit => True) (fun _ _ => True) (va_A [(h0, .inr (1, [.null, .null, .null, .int 0, .int 0, .int 0, .null, .int 0, .int 0, .int 0]))] sz)) 503 13695 (va_A [(h0, .inr (1, [.null, .null, .null, .int 0, .int 0, .int 0, .null, .int 0, .int 0, .int 0]))] sz) := by
  refine Met.ofW (cc := prog_3_method_1_code) (maxL := 2) (ret := none) (by decide) rfl ?_
  intro p e s m args below meth c s₁ B hml hv
  obtain ⟨rfl, hsz, hP, hK, hD0, hev⟩ := hv
  have hx := B.exec
  have hb := B.bytes
  have hr := B.returns
  have hts : ∀ w9 ∈ gb, w9.before [.ref h0].toArray s = true := fun w9 h => atoms_spec (ws := Cond.code ⟨"JoinedTrees$JsonReader", "<init>", "()V"⟩ prog_3_method_1_code 2 none :: gb) B.pre w9 (List.mem_cons_of_mem _ h)
  have hown : s.vm.findClass "JoinedTrees$JsonReader" = some m.cls := findClass_of_methodNamed B.named
  have hlocks := B.notSynchronized
  have hin : meth.name = "<init>" := (name_of_methodNamed B.named B.method).1
  subst hsz
  have hD := hD0.self (sz := s.heap.size)
  generalize hAe : va_A [(h0, .inr (1, [.null, .null, .null, .int 0, .int 0, .int 0, .null, .int 0, .int 0, .int 0]))] s.heap.size = A at hD ⊢
  have hA : ∀ q : Nat, s.heap.size ≤ q → A q := fun q h => by rw [← hAe]; exact Or.inr h
  have hS : va_S A s.heap s.heap [] := va_S.rf
  have hP : va_P D cls [(h0, .inr (1, [.null, .null, .null, .int 0, .int 0, .int 0, .null, .int 0, .int 0, .int 0]))] s.heap := hP
  have hl := lv_entry ([.ref h0]) (n := 2) (Nat.le_of_ble_eq_true rfl)
  rw [lg_entry_eq]
  generalize (lg_sl ([.ref h0]) ++ List.replicate (2 - (lg_sl ([.ref h0])).length) Slot.unset).toArray = ls at hl ⊢
  have hl : lv_has ls 2 [(0, .ref h0)] := hl
  refine lv_aload_n hx hb d_rdI_0 rfl (lv_at hl 0 rfl) ?_
  refine W.objInit hx hb hown (hts _ kw_285) (hts _ kw_34) (hts _ kw_35) rfl (by rw [hml]; exact hl.1) rfl d_rdI_1 (Nat.le_of_ble_eq_true rfl) (Nat.le_of_ble_eq_true rfl) ?_
  refine W.eq (g2 := F0 m 4 ls []) rfl ?_
  refine lv_aload_n hx hb d_rdI_4 rfl (lv_at hl 0 rfl) ?_
  refine lv_sipush (v := 500) hx hb d_rdI_5 (by decide) ?_
  refine va_newq (C := "JoinedTrees$Value") (N' := 500) hx hb hown (hts _ kw_286) hev.1.2.2.2.1 hK hP hD hS hA (by decide) (by decide) (by decide) (Nat.le_of_ble_eq_true rfl) (Nat.le_of_ble_eq_true rfl) d_rdI_8 (fun q_1 cA_2 H hK hP hD hS => ?_)
  have hK : va_K D cls [(cA_2, .object "JoinedTrees$Value")] s := hK
  have hP : va_P D cls [(h0, .inr (1, [.null, .null, .null, .int 0, .int 0, .int 0, .null, .int 0, .int 0, .int 0])), (q_1, .inl (cA_2, 500, .inr (.inr (.inr (.inr (fun _ => none))))))] H := hP
  have hD : va_D A [(h0, .inr (1, [.null, .null, .null, .int 0, .int 0, .int 0, .null, .int 0, .int 0, .int 0])), (q_1, .inl (cA_2, 500, .inr (.inr (.inr (.inr (fun _ => none))))))] := hD
  refine W.cs (cells' := 1) (slots' := 500) rfl rfl ?_
  refine va_putF (D := D) (ci := 1) (v := .ref q_1) (ty := .array (.object "JoinedTrees$Value")) (C := R_Rd) (T := F_Rd) (N := 10) hx hb hts i_Rd t_Rd t_Rd_ok n_Rd hown hK hP hD hS 0 rfl rfl 0 (by decide) (hts _ kw_342) (fun _ h9 => h9) rfl hin rfl (by decide +kernel) rfl rfl (Nat.le_of_ble_eq_true rfl) d_rdI_11 (fun H locs hP hD hS => ?_)
  have hP : va_P D cls [(h0, .inr (1, [.ref q_1, .null, .null, .int 0, .int 0, .int 0, .null, .int 0, .int 0, .int 0])), (q_1, .inl (cA_2, 500, .inr (.inr (.inr (.inr (fun _ => none))))))] H := hP
  have hD : va_D A [(h0, .inr (1, [.ref q_1, .null, .null, .int 0, .int 0, .int 0, .null, .int 0, .int 0, .int 0])), (q_1, .inl (cA_2, 500, .inr (.inr (.inr (.inr (fun _ => none))))))] := hD
  refine lv_aload_n hx hb d_rdI_14 rfl (lv_at hl 0 rfl) ?_
  refine va_new (D := D) (ci := 5) (fs := [.null, .int 0, .int 0]) (C := R_Rw) (T := F_Rw) (N := 3) hx hb hts i_Rw t_Rw t_Rw_ok hown (hts _ kw_288) (hts _ kw_135) (hts _ kw_4) hK hP hD hS hA rfl (by decide +kernel) (Nat.le_of_ble_eq_true rfl) (Nat.le_of_ble_eq_true rfl) d_rdI_15 (fun q_3 H hP hD hS => ?_)
  have hP : va_P D cls [(h0, .inr (1, [.ref q_1, .null, .null, .int 0, .int 0, .int 0, .null, .int 0, .int 0, .int 0])), (q_1, .inl (cA_2, 500, .inr (.inr (.inr (.inr (fun _ => none)))))), (q_3, .inr (5, [.null, .int 0, .int 0]))] H := hP
  have hD : va_D A [(h0, .inr (1, [.ref q_1, .null, .null, .int 0, .int 0, .int 0, .null, .int 0, .int 0, .int 0])), (q_1, .inl (cA_2, 500, .inr (.inr (.inr (.inr (fun _ => none)))))), (q_3, .inr (5, [.null, .int 0, .int 0]))] := hD
  refine W.cs (cells' := 2) (slots' := 503) rfl rfl ?_
  refine lv_dup hx hb d_rdI_18 rfl ?_
  refine lv_sipush (v := 8192) hx hb d_rdI_19 (by decide) ?_
  have hPc := hP.sub (ws' := [(q_3, .inr (5, [.null, .int 0, .int 0]))]) [2] rfl
  have hDc := hD.sub (ws' := [(q_3, .inr (5, [.null, .int 0, .int 0]))]) [2] (by decide) rfl
  have hKc := hK.sub (tys' := []) [] rfl
  have hFc := va_free (wc := [(q_3, .inr (5, [.null, .int 0, .int 0]))]) hD hS hA [2] rfl
  refine va_callv (va_runI (As := [.int 8192]) (rest := [.ref q_3, .ref h0]) ⟨hx, hb, hml, hown, hts⟩ (g_rowI l D H.size q_3 8192 (by decide)) (cw_i 1 hts kw_138 kw_289 kw_137 kw_4 rfl rfl rfl (by decide +kernel) ⟨Nat.le_of_ble_eq_true rfl, Nat.le_of_ble_eq_true rfl⟩) ⟨g_blind, fun U hU hW => g_pre hU hW hPc hKc hDc⟩ rfl rfl hl.1 rfl (lv_room (Nat.le_of_ble_eq_true rfl)) d_rdI_22 ⟨Nat.le_of_ble_eq_true rfl, Nat.le_of_ble_eq_true rfl⟩) hS (fun q _ h => hFc q h) hFc (fun u_5 t H1 locs ht hvm hw hB hz1 hk1 hS => ?_)
  obtain ⟨b_6, cB_7⟩ := u_5
  obtain ⟨hP1, hK1, hD1⟩ := hB
  rw [ht] at hP1
  have hK1 := va_K.moved hvm.symm hK1
  obtain ⟨hP, hD⟩ := va_join (wr := [(h0, .inr (1, [.ref q_1, .null, .null, .int 0, .int 0, .int 0, .null, .int 0, .int 0, .int 0])), (q_1, .inl (cA_2, 500, .inr (.inr (.inr (.inr (fun _ => none))))))]) (w1 := [(q_3, .inr (5, [.ref b_6, .int 0, .int 0])), (b_6, .inl (cB_7, 8192, .inl (fun _ => 0)))]) hP hD [2] [0, 1] rfl rfl (by decide) (by decide) hk1 hFc hP1 hD1
  have hK := (hK.sub (tys' := [(cA_2, .object "JoinedTrees$Value")]) [0] rfl).app hK1
  have hK : va_K D cls [(cA_2, .object "JoinedTrees$Value"), (cB_7, .byte)] s := hK
  generalize H1 = H at hP hS ⊢
  have hP : va_P D cls [(h0, .inr (1, [.ref q_1, .null, .null, .int 0, .int 0, .int 0, .null, .int 0, .int 0, .int 0])), (q_1, .inl (cA_2, 500, .inr (.inr (.inr (.inr (fun _ => none)))))), (q_3, .inr (5, [.ref b_6, .int 0, .int 0])), (b_6, .inl (cB_7, 8192, .inl (fun _ => 0)))] H := hP
  have hD : va_D A [(h0, .inr (1, [.ref q_1, .null, .null, .int 0, .int 0, .int 0, .null, .int 0, .int 0, .int 0])), (q_1, .inl (cA_2, 500, .inr (.inr (.inr (.inr (fun _ => none)))))), (q_3, .inr (5, [.ref b_6, .int 0, .int 0])), (b_6, .inl (cB_7, 8192, .inl (fun _ => 0)))] := hD
  refine W.cs (cells' := 3) (slots' := 8695) rfl rfl ?_
  refine va_putF (D := D) (ci := 1) (v := .ref q_3) (ty := .object "JoinedTrees$Row") (C := R_Rd) (T := F_Rd) (N := 10) hx hb hts i_Rd t_Rd t_Rd_ok n_Rd hown hK hP hD hS 0 rfl rfl 1 (by decide) (hts _ kw_344) (fun _ h9 => h9) rfl hin rfl (by decide +kernel) rfl rfl (Nat.le_of_ble_eq_true rfl) d_rdI_25 (fun H locs hP hD hS => ?_)
  have hP : va_P D cls [(h0, .inr (1, [.ref q_1, .ref q_3, .null, .int 0, .int 0, .int 0, .null, .int 0, .int 0, .int 0])), (q_1, .inl (cA_2, 500, .inr (.inr (.inr (.inr (fun _ => none)))))), (q_3, .inr (5, [.ref b_6, .int 0, .int 0])), (b_6, .inl (cB_7, 8192, .inl (fun _ => 0)))] H := hP
  have hD : va_D A [(h0, .inr (1, [.ref q_1, .ref q_3, .null, .int 0, .int 0, .int 0, .null, .int 0, .int 0, .int 0])), (q_1, .inl (cA_2, 500, .inr (.inr (.inr (.inr (fun _ => none)))))), (q_3, .inr (5, [.ref b_6, .int 0, .int 0])), (b_6, .inl (cB_7, 8192, .inl (fun _ => 0)))] := hD
  refine lv_iconst (v := 0) hx hb d_rdI_28 (by decide) ?_
  refine lv_istore_n (lv' := [(1, .int 0), (0, .ref h0)]) hx hb d_rdI_29 rfl hl (by decide) rfl (fun ls hl => ?_)
  have hP := hP.sub (ws' := [(h0, .inr (1, [.ref q_1, .ref q_3, .null, .int 0, .int 0, .int 0, .null, .int 0, .int 0, .int 0])), (q_1, .inl (cA_2, 500, .inr (.inr (.inr (.inr (fun _ => none))))))]) [0, 1] rfl
  have hD := hD.sub (ws' := [(h0, .inr (1, [.ref q_1, .ref q_3, .null, .int 0, .int 0, .int 0, .null, .int 0, .int 0, .int 0])), (q_1, .inl (cA_2, 500, .inr (.inr (.inr (.inr (fun _ => none))))))]) [0, 1] (by decide) rfl
  have hK := hK.sub (tys' := [(cA_2, .object "JoinedTrees$Value")]) [0] rfl
  refine rd_loop (c0 := 3) (s0 := 8695) hx hb hml hown hts hev hA hK rfl (Nat.le_of_ble_eq_true rfl) (Nat.le_of_ble_eq_true rfl) (Nat.le_of_ble_eq_true rfl) (Nat.le_of_ble_eq_true rfl) (fun H locs ls hS => ?_) 500 0 _ _ _ _ rfl hP hD hS hl
  exact W.vret hx hb hr (fun t ht hW => ⟨⟨(), rfl, trivial, trivial⟩, hS.F ht⟩) hS.2.2 d_rdI_56
