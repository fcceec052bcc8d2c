def m_cRd_parse_J97 (N : Nat → Nat) (x0 : Nat) (S : CS) (x3 : Int32) (t0 : Int32) : Option ((CS × Int32 × Int32) ⊕ (CS × Int32)) := some (.inl (S, t0, (x3 + 1)))
theorem d_cRd_parse_0 : decode prog_3_method_2_code 0 = .ok (.aload_n 0, 1) := by decide +kernel
theorem d_cRd_parse_1 : decode prog_3_method_2_code 1 = .ok (.aload_n 1, 1) := by decide +kernel
theorem d_cRd_parse_2 : decode prog_3_method_2_code 2 = .ok (.putfield 27, 3) := by decide +kernel
theorem d_cRd_parse_5 : decode prog_3_method_2_code 5 = .ok (.aload_n 0, 1) := by decide +kernel
theorem d_cRd_parse_6 : decode prog_3_method_2_code 6 = .ok (.iconst 0, 1) := by decide +kernel
theorem d_cRd_parse_7 : decode prog_3_method_2_code 7 = .ok (.putfield 30, 3) := by decide +kernel
theorem d_cRd_parse_10 : decode prog_3_method_2_code 10 = .ok (.aload_n 0, 1) := by decide +kernel
theorem d_cRd_parse_11 : decode prog_3_method_2_code 11 = .ok (.iconst 0, 1) := by decide +kernel
theorem d_cRd_parse_12 : decode prog_3_method_2_code 12 = .ok (.putfield 34, 3) := by decide +kernel
theorem d_cRd_parse_15 : decode prog_3_method_2_code 15 = .ok (.aload_n 0, 1) := by decide +kernel
theorem d_cRd_parse_16 : decode prog_3_method_2_code 16 = .ok (.iconst 0, 1) := by decide +kernel
theorem d_cRd_parse_17 : decode prog_3_method_2_code 17 = .ok (.putfield 37, 3) := by decide +kernel
theorem d_cRd_parse_20 : decode prog_3_method_2_code 20 = .ok (.aload_n 0, 1) := by decide +kernel
theorem d_cRd_parse_21 : decode prog_3_method_2_code 21 = .ok (.aconst_null, 1) := by decide +kernel
theorem d_cRd_parse_22 : decode prog_3_method_2_code 22 = .ok (.putfield 40, 3) := by decide +kernel
theorem d_cRd_parse_25 : decode prog_3_method_2_code 25 = .ok (.aload_n 0, 1) := by decide +kernel
theorem d_cRd_parse_26 : decode prog_3_method_2_code 26 = .ok (.iconst 0, 1) := by decide +kernel
theorem d_cRd_parse_27 : decode prog_3_method_2_code 27 = .ok (.putfield 44, 3) := by decide +kernel
theorem d_cRd_parse_30 : decode prog_3_method_2_code 30 = .ok (.aload_n 0, 1) := by decide +kernel
theorem d_cRd_parse_31 : decode prog_3_method_2_code 31 = .ok (.iconst 0, 1) := by decide +kernel
theorem d_cRd_parse_32 : decode prog_3_method_2_code 32 = .ok (.putfield 47, 3) := by decide +kernel
theorem d_cRd_parse_35 : decode prog_3_method_2_code 35 = .ok (.aload_n 0, 1) := by decide +kernel
theorem d_cRd_parse_36 : decode prog_3_method_2_code 36 = .ok (.getfield 22, 3) := by decide +kernel
theorem d_cRd_parse_39 : decode prog_3_method_2_code 39 = .ok (.invokevirtual 50, 3) := by decide +kernel
theorem d_cRd_parse_42 : decode prog_3_method_2_code 42 = .ok (.aload_n 0, 1) := by decide +kernel
theorem d_cRd_parse_43 : decode prog_3_method_2_code 43 = .ok (.invokevirtual 53, 3) := by decide +kernel
theorem d_cRd_parse_46 : decode prog_3_method_2_code 46 = .ok (.aload_n 0, 1) := by decide +kernel
theorem d_cRd_parse_47 : decode prog_3_method_2_code 47 = .ok (.invokevirtual 56, 3) := by decide +kernel
theorem d_cRd_parse_50 : decode prog_3_method_2_code 50 = .ok (.istore_n 2, 1) := by decide +kernel
theorem d_cRd_parse_51 : decode prog_3_method_2_code 51 = .ok (.iconst 0, 1) := by decide +kernel
theorem d_cRd_parse_52 : decode prog_3_method_2_code 52 = .ok (.istore_n 3, 1) := by decide +kernel
theorem d_cRd_parse_53 : decode prog_3_method_2_code 53 = .ok (.iload_n 3, 1) := by decide +kernel
theorem d_cRd_parse_54 : decode prog_3_method_2_code 54 = .ok (.sipush 8192, 3) := by decide +kernel
theorem d_cRd_parse_57 : decode prog_3_method_2_code 57 = .ok (.if_icmp .gt 47, 3) := by decide +kernel
theorem d_cRd_parse_60 : decode prog_3_method_2_code 60 = .ok (.iload_n 2, 1) := by decide +kernel
theorem d_cRd_parse_61 : decode prog_3_method_2_code 61 = .ok (.ifCond .eq 43, 3) := by decide +kernel
theorem d_cRd_parse_64 : decode prog_3_method_2_code 64 = .ok (.aload_n 0, 1) := by decide +kernel
theorem d_cRd_parse_65 : decode prog_3_method_2_code 65 = .ok (.getfield 40, 3) := by decide +kernel
theorem d_cRd_parse_68 : decode prog_3_method_2_code 68 = .ok (.ifnull 36, 3) := by decide +kernel
theorem d_cRd_parse_71 : decode prog_3_method_2_code 71 = .ok (.aload_n 0, 1) := by decide +kernel
theorem d_cRd_parse_72 : decode prog_3_method_2_code 72 = .ok (.invokevirtual 60, 3) := by decide +kernel
theorem d_cRd_parse_75 : decode prog_3_method_2_code 75 = .ok (.ifCond .eq 21, 3) := by decide +kernel
theorem d_cRd_parse_96 : decode prog_3_method_2_code 96 = .ok (.iconst 0, 1) := by decide +kernel
theorem d_cRd_parse_97 : decode prog_3_method_2_code 97 = .ok (.istore_n 2, 1) := by decide +kernel
theorem d_cRd_parse_98 : decode prog_3_method_2_code 98 = .ok (.iinc 3 1, 3) := by decide +kernel
theorem d_cRd_parse_101 : decode prog_3_method_2_code 101 = .ok (.goto (-48), 3) := by decide +kernel
set_option maxHeartbeats 4000000 in
set_option maxRecDepth 100000 in
theorem w_cRd_parse_J97 {p : Program} {l : Launch} {e : Env} {s : State} {m : MethodId} {args : Array Value} {below : List Frame} {meth : Method} {c : Code} {A : Nat → Prop} {D : va_G} {ad : Nat → Nat → Nat} {cc : Nat → ClassId} {sad sav : Nat → Nat} {Q : State → Prop} (hC : MCc sad sav "JoinedTrees$JsonReader" prog_3_method_2_code 4 (some .boolean) p s m args meth c A D cc) {N : Nat → Nat} {x0 : Nat} {S : CS} {x3 : Int32} {t0 : Int32} {o : ((CS × Int32 × Int32) ⊕ (CS × Int32))} (Heq : m_cRd_parse_J97 N x0 S x3 t0 = some o) (Ka : ∀ b : CS × Int32 × Int32, o = .inl b → ∀ (H : Heap) (locs : List Loc) (ls : Array Slot), va_P D cls (cw ad cc N b.1) H → va_D A (cw ad cc N b.1) → va_S A s.heap H locs → lv_has ls 4 [(0, .ref (ad 1 x0)), (2, .int b.2.1), (3, .int b.2.2)] → W p l e ({ frames := 6, cells := 0, slots := 0, locals := 156 }) s m args below meth c H locs 0 0 Q (F0 m 53 ls [])) (K0 : ∀ b : CS × Int32, o = .inr b → ∀ (H : Heap) (locs : List Loc) (ls : Array Slot), va_P D cls (cw ad cc N b.1) H → va_D A (cw ad cc N b.1) → va_S A s.heap H locs → lv_has ls 4 [(0, .ref (ad 1 x0)), (2, .int b.2)] → W p l e ({ frames := 6, cells := 0, slots := 0, locals := 156 }) s m args below meth c H locs 0 0 Q (F0 m 104 ls [])) : ∀ (H : Heap) (locs : List Loc) (ls : Array Slot), va_P D cls (cw ad cc N S) H → va_D A (cw ad cc N S) → va_S A s.heap H locs → lv_has ls 4 [(0, .ref (ad 1 x0)), (3, .int x3)] → W p l e ({ frames := 6, cells := 0, slots := 0, locals := 156 }) s m args below meth c H locs 0 0 Q (F0 m 97 ls [.int t0]) := by
  intro H locs ls hP hD hS hl
  obtain ⟨hx, hb, hr, hml, hown, hts, hK, hA, hev, hE, hN, hNS⟩ := id hC
  unfold m_cRd_parse_J97 at Heq
  refine lv_istore_n (lv' := [(2, .int t0), (0, .ref (ad 1 x0)), (3, .int x3)]) hx hb d_cRd_parse_97 rfl hl (by decide) rfl (fun ls hl => ?_)
  refine lv_iinc (v := x3 + 1) (lv' := [(3, .int (x3 + 1)), (2, .int t0), (0, .ref (ad 1 x0))]) hx hb d_cRd_parse_98 hl (k := 2) rfl rfl (by decide) rfl (fun ls hl => ?_)
  refine lv_goto (tgt := 53) hx hb d_cRd_parse_101 (by decide) ?_
  exact Ka _ (Option.some.inj Heq).symm _ _ _ hP hD hS (lv_sub hl [2, 1, 0] rfl)
def m_cRd_parse_J96 (N : Nat → Nat) (x0 : Nat) (S : CS) (x3 : Int32) : Option ((CS × Int32 × Int32) ⊕ (CS × Int32)) := m_cRd_parse_J97 N x0 S x3 0
set_option maxHeartbeats 4000000 in
set_option maxRecDepth 100000 in
theorem w_cRd_parse_J96 {p : Program} {l : Launch} {e : Env} {s : State} {m : MethodId} {args : Array Value} {below : List Frame} {meth : Method} {c : Code} {A : Nat → Prop} {D : va_G} {ad : Nat → Nat → Nat} {cc : Nat → ClassId} {sad sav : Nat → Nat} {Q : State → Prop} (hC : MCc sad sav "JoinedTrees$JsonReader" prog_3_method_2_code 4 (some .boolean) p s m args meth c A D cc) {N : Nat → Nat} {x0 : Nat} {S : CS} {x3 : Int32} {o : ((CS × Int32 × Int32) ⊕ (CS × Int32))} (Heq : m_cRd_parse_J96 N x0 S x3 = some o) (Ka : ∀ b : CS × Int32 × Int32, o = .inl b → ∀ (H : Heap) (locs : List Loc) (ls : Array Slot), va_P D cls (cw ad cc N b.1) H → va_D A (cw ad cc N b.1) → va_S A s.heap H locs → lv_has ls 4 [(0, .ref (ad 1 x0)), (2, .int b.2.1), (3, .int b.2.2)] → W p l e ({ frames := 6, cells := 0, slots := 0, locals := 156 }) s m args below meth c H locs 0 0 Q (F0 m 53 ls [])) (K0 : ∀ b : CS × Int32, o = .inr b → ∀ (H : Heap) (locs : List Loc) (ls : Array Slot), va_P D cls (cw ad cc N b.1) H → va_D A (cw ad cc N b.1) → va_S A s.heap H locs → lv_has ls 4 [(0, .ref (ad 1 x0)), (2, .int b.2)] → W p l e ({ frames := 6, cells := 0, slots := 0, locals := 156 }) s m args below meth c H locs 0 0 Q (F0 m 104 ls [])) : ∀ (H : Heap) (locs : List Loc) (ls : Array Slot), va_P D cls (cw ad cc N S) H → va_D A (cw ad cc N S) → va_S A s.heap H locs → lv_has ls 4 [(0, .ref (ad 1 x0)), (3, .int x3)] → W p l e ({ frames := 6, cells := 0, slots := 0, locals := 156 }) s m args below meth c H locs 0 0 Q (F0 m 96 ls []) := by
  intro H locs ls hP hD hS hl
  obtain ⟨hx, hb, hr, hml, hown, hts, hK, hA, hev, hE, hN, hNS⟩ := id hC
  unfold m_cRd_parse_J96 at Heq
  refine lv_iconst (v := 0) hx hb d_cRd_parse_96 (by decide) ?_
  exact w_cRd_parse_J97 hC Heq Ka K0 _ _ _ hP hD hS (lv_sub hl [0, 1] rfl)
def m_cRd_parse_J92 (N : Nat → Nat) (x0 : Nat) (S : CS) (x3 : Int32) : Option ((CS × Int32 × Int32) ⊕ (CS × Int32)) := m_cRd_parse_J97 N x0 S x3 1
theorem d_cRd_parse_78 : decode prog_3_method_2_code 78 = .ok (.aload_n 0, 1) := by decide +kernel
theorem d_cRd_parse_79 : decode prog_3_method_2_code 79 = .ok (.getfield 63, 3) := by decide +kernel
theorem d_cRd_parse_82 : decode prog_3_method_2_code 82 = .ok (.ifCond .eq 10, 3) := by decide +kernel
theorem d_cRd_parse_92 : decode prog_3_method_2_code 92 = .ok (.iconst 1, 1) := by decide +kernel
theorem d_cRd_parse_93 : decode prog_3_method_2_code 93 = .ok (.goto 4, 3) := by decide +kernel
set_option maxHeartbeats 4000000 in
set_option maxRecDepth 100000 in
theorem w_cRd_parse_J92 {p : Program} {l : Launch} {e : Env} {s : State} {m : MethodId} {args : Array Value} {below : List Frame} {meth : Method} {c : Code} {A : Nat → Prop} {D : va_G} {ad : Nat → Nat → Nat} {cc : Nat → ClassId} {sad sav : Nat → Nat} {Q : State → Prop} (hC : MCc sad sav "JoinedTrees$JsonReader" prog_3_method_2_code 4 (some .boolean) p s m args meth c A D cc) {N : Nat → Nat} {x0 : Nat} {S : CS} {x3 : Int32} {o : ((CS × Int32 × Int32) ⊕ (CS × Int32))} (Heq : m_cRd_parse_J92 N x0 S x3 = some o) (Ka : ∀ b : CS × Int32 × Int32, o = .inl b → ∀ (H : Heap) (locs : List Loc) (ls : Array Slot), va_P D cls (cw ad cc N b.1) H → va_D A (cw ad cc N b.1) → va_S A s.heap H locs → lv_has ls 4 [(0, .ref (ad 1 x0)), (2, .int b.2.1), (3, .int b.2.2)] → W p l e ({ frames := 6, cells := 0, slots := 0, locals := 156 }) s m args below meth c H locs 0 0 Q (F0 m 53 ls [])) (K0 : ∀ b : CS × Int32, o = .inr b → ∀ (H : Heap) (locs : List Loc) (ls : Array Slot), va_P D cls (cw ad cc N b.1) H → va_D A (cw ad cc N b.1) → va_S A s.heap H locs → lv_has ls 4 [(0, .ref (ad 1 x0)), (2, .int b.2)] → W p l e ({ frames := 6, cells := 0, slots := 0, locals := 156 }) s m args below meth c H locs 0 0 Q (F0 m 104 ls [])) : ∀ (H : Heap) (locs : List Loc) (ls : Array Slot), va_P D cls (cw ad cc N S) H → va_D A (cw ad cc N S) → va_S A s.heap H locs → lv_has ls 4 [(0, .ref (ad 1 x0)), (3, .int x3)] → W p l e ({ frames := 6, cells := 0, slots := 0, locals := 156 }) s m args below meth c H locs 0 0 Q (F0 m 92 ls []) := by
  intro H locs ls hP hD hS hl
  obtain ⟨hx, hb, hr, hml, hown, hts, hK, hA, hev, hE, hN, hNS⟩ := id hC
  unfold m_cRd_parse_J92 at Heq
  refine lv_iconst (v := 1) hx hb d_cRd_parse_92 (by decide) ?_
  refine lv_goto (tgt := 97) hx hb d_cRd_parse_93 (by decide) ?_
  exact w_cRd_parse_J97 hC Heq Ka K0 _ _ _ hP hD hS (lv_sub hl [0, 1] rfl)
def m_cRd_parse_B53 (N : Nat → Nat) (x0 : Nat) (S : CS) (x2 : Int32) (x3 : Int32) : Option ((CS × Int32 × Int32) ⊕ (CS × Int32)) := (if 8192 < x3 then some (.inr (S, x2)) else (if x2 = 0 then some (.inr (S, x2)) else gl x0 (N 1) (on (S.r 1 6 x0) (some (.inr (S, x2))) (fun j_3 => ob (m_cRd_readInside N x0 S) (fun o_5 => (if o_5.2 = 0 then m_cRd_parse_J96 N x0 o_5.1 x3 else (if o_5.1.i 1 7 x0 = 0 then m_cRd_parse_J92 N x0 o_5.1 x3 else ob (m_cRd_readValue N x0 o_5.1) (fun o_9 => (if o_9.2 = 0 then m_cRd_parse_J96 N x0 o_9.1 x3 else m_cRd_parse_J92 N x0 o_9.1 x3)))))))))
theorem d_cRd_parse_85 : decode prog_3_method_2_code 85 = .ok (.aload_n 0, 1) := by decide +kernel
theorem d_cRd_parse_86 : decode prog_3_method_2_code 86 = .ok (.invokevirtual 56, 3) := by decide +kernel
theorem d_cRd_parse_89 : decode prog_3_method_2_code 89 = .ok (.ifCond .eq 7, 3) := by decide +kernel
set_option maxHeartbeats 4000000 in
set_option maxRecDepth 100000 in
theorem w_cRd_parse_B53 {p : Program} {l : Launch} {e : Env} {s : State} {m : MethodId} {args : Array Value} {below : List Frame} {meth : Method} {c : Code} {A : Nat → Prop} {D : va_G} {ad : Nat → Nat → Nat} {cc : Nat → ClassId} {sad sav : Nat → Nat} {Q : State → Prop} (hC : MCc sad sav "JoinedTrees$JsonReader" prog_3_method_2_code 4 (some .boolean) p s m args meth c A D cc) {N : Nat → Nat} {x0 : Nat} {S : CS} {x2 : Int32} {x3 : Int32} {o : ((CS × Int32 × Int32) ⊕ (CS × Int32))} (Heq : m_cRd_parse_B53 N x0 S x2 x3 = some o) (Ka : ∀ b : CS × Int32 × Int32, o = .inl b → ∀ (H : Heap) (locs : List Loc) (ls : Array Slot), va_P D cls (cw ad cc N b.1) H → va_D A (cw ad cc N b.1) → va_S A s.heap H locs → lv_has ls 4 [(0, .ref (ad 1 x0)), (2, .int b.2.1), (3, .int b.2.2)] → W p l e ({ frames := 6, cells := 0, slots := 0, locals := 156 }) s m args below meth c H locs 0 0 Q (F0 m 53 ls [])) (K0 : ∀ b : CS × Int32, o = .inr b → ∀ (H : Heap) (locs : List Loc) (ls : Array Slot), va_P D cls (cw ad cc N b.1) H → va_D A (cw ad cc N b.1) → va_S A s.heap H locs → lv_has ls 4 [(0, .ref (ad 1 x0)), (2, .int b.2)] → W p l e ({ frames := 6, cells := 0, slots := 0, locals := 156 }) s m args below meth c H locs 0 0 Q (F0 m 104 ls [])) : ∀ (H : Heap) (locs : List Loc) (ls : Array Slot), va_P D cls (cw ad cc N S) H → va_D A (cw ad cc N S) → va_S A s.heap H locs → lv_has ls 4 [(0, .ref (ad 1 x0)), (2, .int x2), (3, .int x3)] → W p l e ({ frames := 6, cells := 0, slots := 0, locals := 156 }) s m args below meth c H locs 0 0 Q (F0 m 53 ls []) := by
  intro H locs ls hP hD hS hl
  obtain ⟨hx, hb, hr, hml, hown, hts, hK, hA, hev, hE, hN, hNS⟩ := id hC
  unfold m_cRd_parse_B53 at Heq
  refine lv_iload_n hx hb d_cRd_parse_53 rfl (lv_at hl 2 rfl) ?_
  refine lv_sipush (v := 8192) hx hb d_cRd_parse_54 (by decide) ?_
  refine lv_icmp_gt (tgt := 104) hx hb d_cRd_parse_57 (by decide) (fun c_1 => ?_) (fun c_1 => ?_)
  · replace Heq := (if_pos c_1).symm.trans Heq
    exact K0 _ (Option.some.inj Heq).symm _ _ _ hP hD hS (lv_sub hl [0, 1] rfl)
  · replace Heq := (if_neg c_1).symm.trans Heq
    refine lv_iload_n hx hb d_cRd_parse_60 rfl (lv_at hl 1 rfl) ?_
    refine lv_if_eq (tgt := 104) hx hb d_cRd_parse_61 (by decide) (fun c_2 => ?_) (fun c_2 => ?_)
    · replace Heq := (if_pos c_2).symm.trans Heq
      exact K0 _ (Option.some.inj Heq).symm _ _ _ hP hD hS (lv_sub hl [0, 1] rfl)
    · replace Heq := (if_neg c_2).symm.trans Heq
      refine lv_aload_n hx hb d_cRd_parse_64 rfl (lv_at hl 0 rfl) ?_
      obtain ⟨hl_x0_1, Heq⟩ := gl_some Heq
      refine va_get (D := D) (ci := 1) (v := rv ad 9 (S.r 1 6 x0)) (C := R_Rd) (T := F_Rd) (N := 10) hx hb hts i_Rd hown hK hP (cPos N 1 x0) (cw_obj (k := 1) (by decide) hl_x0_1) rfl 6 (by decide) (hts _ kw_352) (fun _ h9 => h9) rfl d_cRd_parse_65 ?_
      rcases on_some Heq with ⟨hj_4, Heq⟩ | ⟨j_3, hj_4, Heq⟩
      · refine w_s (st' := [.null]) (congrArg (fun z9 : Option Nat => [rv ad 9 z9]) hj_4) ?_
        refine lv_ifnullN (tgt := 104) hx hb d_cRd_parse_68 (by decide) ?_
        exact K0 _ (Option.some.inj Heq).symm _ _ _ hP hD hS (lv_sub hl [0, 1] rfl)
      · refine w_s (st' := [.ref (ad 9 j_3)]) (congrArg (fun z9 : Option Nat => [rv ad 9 z9]) hj_4) ?_
        refine lv_ifnull hx hb d_cRd_parse_68 ?_
        refine lv_aload_n hx hb d_cRd_parse_71 rfl (lv_at hl 0 rfl) ?_
        obtain ⟨o_5, h_6, Heq⟩ := ob_some Heq
        have hFc := fr_all hD hS hA
        refine va_calli (va_runV (As := []) (rest := []) ⟨hx, hb, hml, hown, hts⟩ (g_cRd_readInside l D H.size (ad := ad) (cc := cc) (sad := sad) (sav := sav) h_6) (cw_v 0 hts kw_970 kw_967 kw_968 kw_969 kw_7 rfl rfl (by decide +kernel) ⟨Nat.le_of_ble_eq_true rfl, Nat.le_of_ble_eq_true rfl⟩) ⟨c_blind, va_recv hK hP (ci := 1) (q0 := cPos N 1 x0) rfl (cw_obj (k := 1) (by decide) hl_x0_1), fun U hU hW => c_pre hU hW hP hK hD hev hE hN hNS hS hFc⟩ rfl rfl hl.1 rfl (lv_room (Nat.le_of_ble_eq_true rfl)) d_cRd_parse_72 ⟨Nat.le_of_ble_eq_true rfl, Nat.le_of_ble_eq_true rfl⟩) hS (fun q _ h => hFc q h) hFc (fun rz u t H1 locs ht hvm hw hB hz1 hk1 hS => ?_)
        obtain ⟨hP, -, hD1⟩ := hB
        rw [ht] at hP
        have hD := hD1.weaken (fun _ q _ h => hFc q.1 h)
        generalize H1 = H at hP hS ⊢
        refine W.cs (cells' := 0) (slots' := 0) rfl rfl ?_
        subst hw
        refine lv_if_eq (tgt := 96) hx hb d_cRd_parse_75 (by decide) (fun c_7 => ?_) (fun c_7 => ?_)
        · replace Heq := (if_pos c_7).symm.trans Heq
          exact w_cRd_parse_J96 hC Heq Ka K0 _ _ _ hP hD hS (lv_sub hl [0, 2] rfl)
        · replace Heq := (if_neg c_7).symm.trans Heq
          refine lv_aload_n hx hb d_cRd_parse_78 rfl (lv_at hl 0 rfl) ?_
          refine va_get (D := D) (ci := 1) (v := .int (o_5.1.i 1 7 x0)) (C := R_Rd) (T := F_Rd) (N := 10) hx hb hts i_Rd hown hK hP (cPos N 1 x0) (cw_obj (k := 1) (by decide) hl_x0_1) rfl 7 (by decide) (hts _ kw_353) (fun _ h9 => h9) rfl d_cRd_parse_79 ?_
          refine lv_if_eq (tgt := 92) hx hb d_cRd_parse_82 (by decide) (fun c_8 => ?_) (fun c_8 => ?_)
          · replace Heq := (if_pos c_8).symm.trans Heq
            exact w_cRd_parse_J92 hC Heq Ka K0 _ _ _ hP hD hS (lv_sub hl [0, 2] rfl)
          · replace Heq := (if_neg c_8).symm.trans Heq
            refine lv_aload_n hx hb d_cRd_parse_85 rfl (lv_at hl 0 rfl) ?_
            obtain ⟨o_9, h_10, Heq⟩ := ob_some Heq
            have hFc := fr_all hD hS hA
            refine va_calli (va_runV (As := []) (rest := []) ⟨hx, hb, hml, hown, hts⟩ (g_cRd_readValue l D H.size (ad := ad) (cc := cc) (sad := sad) (sav := sav) h_10) (cw_v 0 hts kw_878 kw_875 kw_876 kw_877 kw_7 rfl rfl (by decide +kernel) ⟨Nat.le_of_ble_eq_true rfl, Nat.le_of_ble_eq_true rfl⟩) ⟨c_blind, va_recv hK hP (ci := 1) (q0 := cPos N 1 x0) rfl (cw_obj (k := 1) (by decide) hl_x0_1), fun U hU hW => c_pre hU hW hP hK hD hev hE hN hNS hS hFc⟩ rfl rfl hl.1 rfl (lv_room (Nat.le_of_ble_eq_true rfl)) d_cRd_parse_86 ⟨Nat.le_of_ble_eq_true rfl, Nat.le_of_ble_eq_true rfl⟩) hS (fun q _ h => hFc q h) hFc (fun rz u t H1 locs ht hvm hw hB hz1 hk1 hS => ?_)
            obtain ⟨hP, -, hD1⟩ := hB
            rw [ht] at hP
            have hD := hD1.weaken (fun _ q _ h => hFc q.1 h)
            generalize H1 = H at hP hS ⊢
            refine W.cs (cells' := 0) (slots' := 0) rfl rfl ?_
            subst hw
            refine lv_if_eq (tgt := 96) hx hb d_cRd_parse_89 (by decide) (fun c_11 => ?_) (fun c_11 => ?_)
            · replace Heq := (if_pos c_11).symm.trans Heq
              exact w_cRd_parse_J96 hC Heq Ka K0 _ _ _ hP hD hS (lv_sub hl [0, 2] rfl)
            · replace Heq := (if_neg c_11).symm.trans Heq
              exact w_cRd_parse_J92 hC Heq Ka K0 _ _ _ hP hD hS (lv_sub hl [0, 2] rfl)
def m_cRd_parse_L53 (N : Nat → Nat) (x0 : Nat) (S : CS) (x2 : Int32) (x3 : Int32) : Option (CS × Int32) := lp (fun a : CS × Int32 × Int32 => m_cRd_parse_B53 N x0 a.1 a.2.1 a.2.2) FU (S, x2, x3)
theorem w_cRd_parse_L53 {p : Program} {l : Launch} {e : Env} {s : State} {m : MethodId} {args : Array Value} {below : List Frame} {meth : Method} {c : Code} {A : Nat → Prop} {D : va_G} {ad : Nat → Nat → Nat} {cc : Nat → ClassId} {sad sav : Nat → Nat} {Q : State → Prop} (hC : MCc sad sav "JoinedTrees$JsonReader" prog_3_method_2_code 4 (some .boolean) p s m args meth c A D cc) {N : Nat → Nat} {x0 : Nat} {S : CS} {x2 : Int32} {x3 : Int32} {o : CS × Int32} (Heq : m_cRd_parse_L53 N x0 S x2 x3 = some o) (K0 : ∀ b : CS × Int32, o = b → ∀ (H : Heap) (locs : List Loc) (ls : Array Slot), va_P D cls (cw ad cc N b.1) H → va_D A (cw ad cc N b.1) → va_S A s.heap H locs → lv_has ls 4 [(0, .ref (ad 1 x0)), (2, .int b.2)] → W p l e ({ frames := 6, cells := 0, slots := 0, locals := 156 }) s m args below meth c H locs 0 0 Q (F0 m 104 ls [])) : ∀ (H : Heap) (locs : List Loc) (ls : Array Slot), va_P D cls (cw ad cc N S) H → va_D A (cw ad cc N S) → va_S A s.heap H locs → lv_has ls 4 [(0, .ref (ad 1 x0)), (2, .int x2), (3, .int x3)] → W p l e ({ frames := 6, cells := 0, slots := 0, locals := 156 }) s m args below meth c H locs 0 0 Q (F0 m 53 ls []) := by
  refine lp_w (G := fun a : CS × Int32 × Int32 => ∀ (H : Heap) (locs : List Loc) (ls : Array Slot), va_P D cls (cw ad cc N a.1) H → va_D A (cw ad cc N a.1) → va_S A s.heap H locs → lv_has ls 4 [(0, .ref (ad 1 x0)), (2, .int a.2.1), (3, .int a.2.2)] → W p l e ({ frames := 6, cells := 0, slots := 0, locals := 156 }) s m args below meth c H locs 0 0 Q (F0 m 53 ls [])) ?_ FU (S, x2, x3) Heq
  intro a o1 ho Ka Ke
  exact w_cRd_parse_B53 hC ho (fun b h => Ka b h) (fun b h => K0 b (Ke _ h).symm)
def m_cRd_parse_J135 (N : Nat → Nat) (x0 : Nat) (S : CS) (t0 : Int32) : Option (CS × Int32) := (if t0 = 0 ∨ t0 = 1 then some (S, t0) else none)
theorem d_cRd_parse_104 : decode prog_3_method_2_code 104 = .ok (.iload_n 2, 1) := by decide +kernel
theorem d_cRd_parse_105 : decode prog_3_method_2_code 105 = .ok (.ifCond .eq 7, 3) := by decide +kernel
theorem d_cRd_parse_112 : decode prog_3_method_2_code 112 = .ok (.iload_n 2, 1) := by decide +kernel
theorem d_cRd_parse_113 : decode prog_3_method_2_code 113 = .ok (.ifCond .eq 21, 3) := by decide +kernel
theorem d_cRd_parse_134 : decode prog_3_method_2_code 134 = .ok (.iconst 0, 1) := by decide +kernel
theorem d_cRd_parse_135 : decode prog_3_method_2_code 135 = .ok (.ireturn, 1) := by decide +kernel
set_option maxHeartbeats 4000000 in
set_option maxRecDepth 100000 in
theorem w_cRd_parse_J135 {p : Program} {l : Launch} {e : Env} {s : State} {m : MethodId} {args : Array Value} {below : List Frame} {meth : Method} {c : Code} {A : Nat → Prop} {D : va_G} {ad : Nat → Nat → Nat} {cc : Nat → ClassId} {sad sav : Nat → Nat} {Q : State → Prop} (hC : MCc sad sav "JoinedTrees$JsonReader" prog_3_method_2_code 4 (some .boolean) p s m args meth c A D cc) {N : Nat → Nat} {x0 : Nat} {S : CS} {t0 : Int32} {o : CS × Int32} (Heq : m_cRd_parse_J135 N x0 S t0 = some o) (Kr : ∀ r : CS × Int32, o = r → ∀ (pc : Nat) (H : Heap) (locs : List Loc) (ls : Array Slot), decode prog_3_method_2_code pc = .ok (.ireturn, 1) → (r.2 = 0 ∨ r.2 = 1) → va_P D cls (cw ad cc N r.1) H → va_D A (cw ad cc N r.1) → va_S A s.heap H locs → W p l e ({ frames := 6, cells := 0, slots := 0, locals := 156 }) s m args below meth c H locs 0 0 Q (F0 m pc ls [.int r.2])) : ∀ (H : Heap) (locs : List Loc) (ls : Array Slot), va_P D cls (cw ad cc N S) H → va_D A (cw ad cc N S) → va_S A s.heap H locs → lv_has ls 4 [(0, .ref (ad 1 x0))] → W p l e ({ frames := 6, cells := 0, slots := 0, locals := 156 }) s m args below meth c H locs 0 0 Q (F0 m 135 ls [.int t0]) := by
  intro H locs ls hP hD hS hl
  obtain ⟨hx, hb, hr, hml, hown, hts, hK, hA, hev, hE, hN, hNS⟩ := id hC
  unfold m_cRd_parse_J135 at Heq
  by_cases hz_1 : t0 = 0 ∨ t0 = 1
  case neg => rw [if_neg hz_1] at Heq; cases Heq
  replace Heq := (if_pos hz_1).symm.trans Heq
  exact Kr _ (Option.some.inj Heq).symm 135 _ _ _ d_cRd_parse_135 hz_1 hP hD hS
def m_cRd_parse_J134 (N : Nat → Nat) (x0 : Nat) (S : CS) : Option (CS × Int32) := m_cRd_parse_J135 N x0 S 0
set_option maxHeartbeats 4000000 in
set_option maxRecDepth 100000 in
theorem w_cRd_parse_J134 {p : Program} {l : Launch} {e : Env} {s : State} {m : MethodId} {args : Array Value} {below : List Frame} {meth : Method} {c : Code} {A : Nat → Prop} {D : va_G} {ad : Nat → Nat → Nat} {cc : Nat → ClassId} {sad sav : Nat → Nat} {Q : State → Prop} (hC : MCc sad sav "JoinedTrees$JsonReader" prog_3_method_2_code 4 (some .boolean) p s m args meth c A D cc) {N : Nat → Nat} {x0 : Nat} {S : CS} {o : CS × Int32} (Heq : m_cRd_parse_J134 N x0 S = some o) (Kr : ∀ r : CS × Int32, o = r → ∀ (pc : Nat) (H : Heap) (locs : List Loc) (ls : Array Slot), decode prog_3_method_2_code pc = .ok (.ireturn, 1) → (r.2 = 0 ∨ r.2 = 1) → va_P D cls (cw ad cc N r.1) H → va_D A (cw ad cc N r.1) → va_S A s.heap H locs → W p l e ({ frames := 6, cells := 0, slots := 0, locals := 156 }) s m args below meth c H locs 0 0 Q (F0 m pc ls [.int r.2])) : ∀ (H : Heap) (locs : List Loc) (ls : Array Slot), va_P D cls (cw ad cc N S) H → va_D A (cw ad cc N S) → va_S A s.heap H locs → lv_has ls 4 [(0, .ref (ad 1 x0))] → W p l e ({ frames := 6, cells := 0, slots := 0, locals := 156 }) s m args below meth c H locs 0 0 Q (F0 m 134 ls []) := by
  intro H locs ls hP hD hS hl
  obtain ⟨hx, hb, hr, hml, hown, hts, hK, hA, hev, hE, hN, hNS⟩ := id hC
  unfold m_cRd_parse_J134 at Heq
  refine lv_iconst (v := 0) hx hb d_cRd_parse_134 (by decide) ?_
  exact w_cRd_parse_J135 hC Heq Kr _ _ _ hP hD hS (lv_sub hl [0] rfl)
def m_cRd_parse_J112 (N : Nat → Nat) (x0 : Nat) (S : CS) (x2 : Int32) : Option (CS × Int32) := (if x2 = 0 then m_cRd_parse_J134 N x0 S else gl x0 (N 1) (gn (S.r 1 2 x0) (N 5) (fun j_2 => (if S.i 1 4 x0 = S.i 5 1 j_2 then m_cRd_parse_J135 N x0 S 1 else m_cRd_parse_J134 N x0 S))))
theorem d_cRd_parse_116 : decode prog_3_method_2_code 116 = .ok (.aload_n 0, 1) := by decide +kernel
theorem d_cRd_parse_117 : decode prog_3_method_2_code 117 = .ok (.getfield 34, 3) := by decide +kernel
theorem d_cRd_parse_120 : decode prog_3_method_2_code 120 = .ok (.aload_n 0, 1) := by decide +kernel
theorem d_cRd_parse_121 : decode prog_3_method_2_code 121 = .ok (.getfield 27, 3) := by decide +kernel
theorem d_cRd_parse_124 : decode prog_3_method_2_code 124 = .ok (.getfield 67, 3) := by decide +kernel
theorem d_cRd_parse_127 : decode prog_3_method_2_code 127 = .ok (.if_icmp .ne 7, 3) := by decide +kernel
theorem d_cRd_parse_130 : decode prog_3_method_2_code 130 = .ok (.iconst 1, 1) := by decide +kernel
theorem d_cRd_parse_131 : decode prog_3_method_2_code 131 = .ok (.goto 4, 3) := by decide +kernel
set_option maxHeartbeats 4000000 in
set_option maxRecDepth 100000 in
theorem w_cRd_parse_J112 {p : Program} {l : Launch} {e : Env} {s : State} {m : MethodId} {args : Array Value} {below : List Frame} {meth : Method} {c : Code} {A : Nat → Prop} {D : va_G} {ad : Nat → Nat → Nat} {cc : Nat → ClassId} {sad sav : Nat → Nat} {Q : State → Prop} (hC : MCc sad sav "JoinedTrees$JsonReader" prog_3_method_2_code 4 (some .boolean) p s m args meth c A D cc) {N : Nat → Nat} {x0 : Nat} {S : CS} {x2 : Int32} {o : CS × Int32} (Heq : m_cRd_parse_J112 N x0 S x2 = some o) (Kr : ∀ r : CS × Int32, o = r → ∀ (pc : Nat) (H : Heap) (locs : List Loc) (ls : Array Slot), decode prog_3_method_2_code pc = .ok (.ireturn, 1) → (r.2 = 0 ∨ r.2 = 1) → va_P D cls (cw ad cc N r.1) H → va_D A (cw ad cc N r.1) → va_S A s.heap H locs → W p l e ({ frames := 6, cells := 0, slots := 0, locals := 156 }) s m args below meth c H locs 0 0 Q (F0 m pc ls [.int r.2])) : ∀ (H : Heap) (locs : List Loc) (ls : Array Slot), va_P D cls (cw ad cc N S) H → va_D A (cw ad cc N S) → va_S A s.heap H locs → lv_has ls 4 [(0, .ref (ad 1 x0)), (2, .int x2)] → W p l e ({ frames := 6, cells := 0, slots := 0, locals := 156 }) s m args below meth c H locs 0 0 Q (F0 m 112 ls []) := by
  intro H locs ls hP hD hS hl
  obtain ⟨hx, hb, hr, hml, hown, hts, hK, hA, hev, hE, hN, hNS⟩ := id hC
  unfold m_cRd_parse_J112 at Heq
  refine lv_iload_n hx hb d_cRd_parse_112 rfl (lv_at hl 1 rfl) ?_
  refine lv_if_eq (tgt := 134) hx hb d_cRd_parse_113 (by decide) (fun c_1 => ?_) (fun c_1 => ?_)
  · replace Heq := (if_pos c_1).symm.trans Heq
    exact w_cRd_parse_J134 hC Heq Kr _ _ _ hP hD hS (lv_sub hl [0] rfl)
  · replace Heq := (if_neg c_1).symm.trans Heq
    refine lv_aload_n hx hb d_cRd_parse_116 rfl (lv_at hl 0 rfl) ?_
    obtain ⟨hl_x0_1, Heq⟩ := gl_some Heq
    refine va_get (D := D) (ci := 1) (v := .int (S.i 1 4 x0)) (C := R_Rd) (T := F_Rd) (N := 10) hx hb hts i_Rd hown hK hP (cPos N 1 x0) (cw_obj (k := 1) (by decide) hl_x0_1) rfl 4 (by decide) (hts _ kw_349) (fun _ h9 => h9) rfl d_cRd_parse_117 ?_
    refine lv_aload_n hx hb d_cRd_parse_120 rfl (lv_at hl 0 rfl) ?_
    refine va_get (D := D) (ci := 1) (v := rv ad 5 (S.r 1 2 x0)) (C := R_Rd) (T := F_Rd) (N := 10) hx hb hts i_Rd hown hK hP (cPos N 1 x0) (cw_obj (k := 1) (by decide) hl_x0_1) rfl 2 (by decide) (hts _ kw_346) (fun _ h9 => h9) rfl d_cRd_parse_121 ?_
    obtain ⟨j_2, hj_3, hl_4, Heq⟩ := gn_some Heq
    refine w_s (st' := [.ref (ad 5 j_2), .int (S.i 1 4 x0)]) (congrArg (fun z9 : Option Nat => [rv ad 5 z9, .int (S.i 1 4 x0)]) hj_3) ?_
    refine va_get (D := D) (ci := 5) (v := .int (S.i 5 1 j_2)) (C := R_Rw) (T := F_Rw) (N := 3) hx hb hts i_Rw hown hK hP (cPos N 5 j_2) (cw_obj (k := 5) (by decide) hl_4) rfl 1 (by decide) (hts _ kw_146) (fun _ h9 => h9) rfl d_cRd_parse_124 ?_
    refine lv_icmp_ne (tgt := 134) hx hb d_cRd_parse_127 (by decide) (fun c_5 => ?_) (fun c_5 => ?_)
    · replace Heq := (if_neg c_5).symm.trans Heq
      exact w_cRd_parse_J134 hC Heq Kr _ _ _ hP hD hS (lv_sub hl [0] rfl)
    · replace Heq := (if_pos c_5).symm.trans Heq
      refine lv_iconst (v := 1) hx hb d_cRd_parse_130 (by decide) ?_
      refine lv_goto (tgt := 135) hx hb d_cRd_parse_131 (by decide) ?_
      exact w_cRd_parse_J135 hC Heq Kr _ _ _ hP hD hS (lv_sub hl [0] rfl)
def m_cRd_parse_J104 (N : Nat → Nat) (x0 : Nat) (S : CS) (x2 : Int32) : Option (CS × Int32) := (if x2 = 0 then m_cRd_parse_J112 N x0 S x2 else gl x0 (N 1) (ob (m_cRd_skipBlanks N x0 S) (fun o_2 => m_cRd_parse_J112 N x0 o_2 x2)))
theorem d_cRd_parse_108 : decode prog_3_method_2_code 108 = .ok (.aload_n 0, 1) := by decide +kernel
theorem d_cRd_parse_109 : decode prog_3_method_2_code 109 = .ok (.invokevirtual 53, 3) := by decide +kernel
set_option maxHeartbeats 4000000 in
set_option maxRecDepth 100000 in
theorem w_cRd_parse_J104 {p : Program} {l : Launch} {e : Env} {s : State} {m : MethodId} {args : Array Value} {below : List Frame} {meth : Method} {c : Code} {A : Nat → Prop} {D : va_G} {ad : Nat → Nat → Nat} {cc : Nat → ClassId} {sad sav : Nat → Nat} {Q : State → Prop} (hC : MCc sad sav "JoinedTrees$JsonReader" prog_3_method_2_code 4 (some .boolean) p s m args meth c A D cc) {N : Nat → Nat} {x0 : Nat} {S : CS} {x2 : Int32} {o : CS × Int32} (Heq : m_cRd_parse_J104 N x0 S x2 = some o) (Kr : ∀ r : CS × Int32, o = r → ∀ (pc : Nat) (H : Heap) (locs : List Loc) (ls : Array Slot), decode prog_3_method_2_code pc = .ok (.ireturn, 1) → (r.2 = 0 ∨ r.2 = 1) → va_P D cls (cw ad cc N r.1) H → va_D A (cw ad cc N r.1) → va_S A s.heap H locs → W p l e ({ frames := 6, cells := 0, slots := 0, locals := 156 }) s m args below meth c H locs 0 0 Q (F0 m pc ls [.int r.2])) : ∀ (H : Heap) (locs : List Loc) (ls : Array Slot), va_P D cls (cw ad cc N S) H → va_D A (cw ad cc N S) → va_S A s.heap H locs → lv_has ls 4 [(0, .ref (ad 1 x0)), (2, .int x2)] → W p l e ({ frames := 6, cells := 0, slots := 0, locals := 156 }) s m args below meth c H locs 0 0 Q (F0 m 104 ls []) := by
  intro H locs ls hP hD hS hl
  obtain ⟨hx, hb, hr, hml, hown, hts, hK, hA, hev, hE, hN, hNS⟩ := id hC
  unfold m_cRd_parse_J104 at Heq
  refine lv_iload_n hx hb d_cRd_parse_104 rfl (lv_at hl 1 rfl) ?_
  refine lv_if_eq (tgt := 112) hx hb d_cRd_parse_105 (by decide) (fun c_1 => ?_) (fun c_1 => ?_)
  · replace Heq := (if_pos c_1).symm.trans Heq
    exact w_cRd_parse_J112 hC Heq Kr _ _ _ hP hD hS (lv_sub hl [0, 1] rfl)
  · replace Heq := (if_neg c_1).symm.trans Heq
    refine lv_aload_n hx hb d_cRd_parse_108 rfl (lv_at hl 0 rfl) ?_
    obtain ⟨hl_x0_1, Heq⟩ := gl_some Heq
    obtain ⟨o_2, h_3, Heq⟩ := ob_some Heq
    have hFc := fr_all hD hS hA
    refine va_callv (va_runV (As := []) (rest := []) ⟨hx, hb, hml, hown, hts⟩ (g_cRd_skipBlanks l D H.size (ad := ad) (cc := cc) (sad := sad) (sav := sav) h_3) (cw_v 0 hts kw_870 kw_867 kw_868 kw_869 kw_7 rfl rfl (by decide +kernel) ⟨Nat.le_of_ble_eq_true rfl, Nat.le_of_ble_eq_true rfl⟩) ⟨c_blind, va_recv hK hP (ci := 1) (q0 := cPos N 1 x0) rfl (cw_obj (k := 1) (by decide) hl_x0_1), fun U hU hW => c_pre hU hW hP hK hD hev hE hN hNS hS hFc⟩ rfl rfl hl.1 rfl (lv_room (Nat.le_of_ble_eq_true rfl)) d_cRd_parse_109 ⟨Nat.le_of_ble_eq_true rfl, Nat.le_of_ble_eq_true rfl⟩) hS (fun q _ h => hFc q h) hFc (fun u t H1 locs ht hvm hw hB hz1 hk1 hS => ?_)
    obtain ⟨hP, -, hD1⟩ := hB
    rw [ht] at hP
    have hD := hD1.weaken (fun _ q _ h => hFc q.1 h)
    generalize H1 = H at hP hS ⊢
    refine W.cs (cells' := 0) (slots' := 0) rfl rfl ?_
    exact w_cRd_parse_J112 hC Heq Kr _ _ _ hP hD hS (lv_sub hl [0, 1] rfl)
def m_cRd_parse_J0 (N : Nat → Nat) (x0 : Nat) (S : CS) (x1 : Nat) : Option (CS × Int32) := gl x0 (N 1) (gn (S.r 1 1 x0) (N 5) (fun j_1 => ob (m_cRw_clear N j_1 (((((((S.setR 1 2 x0 (some x1)).setI 1 3 x0 0).setI 1 4 x0 0).setI 1 5 x0 0).setR 1 6 x0 none).setI 1 8 x0 0).setI 1 9 x0 0)) (fun o_4 => ob (m_cRd_skipBlanks N x0 o_4) (fun o_6 => ob (m_cRd_readValue N x0 o_6) (fun o_8 => ob (m_cRd_parse_L53 N x0 o_8.1 o_8.2 0) (fun b_10 => m_cRd_parse_J104 N x0 b_10.1 b_10.2))))))
set_option maxHeartbeats 4000000 in
set_option maxRecDepth 100000 in
theorem w_cRd_parse_J0 {p : Program} {l : Launch} {e : Env} {s : State} {m : MethodId} {args : Array Value} {below : List Frame} {meth : Method} {c : Code} {A : Nat → Prop} {D : va_G} {ad : Nat → Nat → Nat} {cc : Nat → ClassId} {sad sav : Nat → Nat} {Q : State → Prop} (hC : MCc sad sav "JoinedTrees$JsonReader" prog_3_method_2_code 4 (some .boolean) p s m args meth c A D cc) {N : Nat → Nat} {x0 : Nat} {S : CS} {x1 : Nat} {o : CS × Int32} (Heq : m_cRd_parse_J0 N x0 S x1 = some o) (Kr : ∀ r : CS × Int32, o = r → ∀ (pc : Nat) (H : Heap) (locs : List Loc) (ls : Array Slot), decode prog_3_method_2_code pc = .ok (.ireturn, 1) → (r.2 = 0 ∨ r.2 = 1) → va_P D cls (cw ad cc N r.1) H → va_D A (cw ad cc N r.1) → va_S A s.heap H locs → W p l e ({ frames := 6, cells := 0, slots := 0, locals := 156 }) s m args below meth c H locs 0 0 Q (F0 m pc ls [.int r.2])) : ∀ (H : Heap) (locs : List Loc) (ls : Array Slot), va_P D cls (cw ad cc N S) H → va_D A (cw ad cc N S) → va_S A s.heap H locs → lv_has ls 4 [(0, .ref (ad 1 x0)), (1, .ref (ad 5 x1))] → W p l e ({ frames := 6, cells := 0, slots := 0, locals := 156 }) s m args below meth c H locs 0 0 Q (F0 m 0 ls []) := by
  intro H locs ls hP hD hS hl
  obtain ⟨hx, hb, hr, hml, hown, hts, hK, hA, hev, hE, hN, hNS⟩ := id hC
  unfold m_cRd_parse_J0 at Heq
  refine lv_aload_n hx hb d_cRd_parse_0 rfl (lv_at hl 0 rfl) ?_
  refine lv_aload_n hx hb d_cRd_parse_1 rfl (lv_at hl 1 rfl) ?_
  obtain ⟨hl_x0_1, Heq⟩ := gl_some Heq
  refine w_v (y := rv ad 5 (some x1)) rfl ?_
  refine va_put (D := D) (ci := 1) (v := rv ad 5 (some x1)) (ty := .object "JoinedTrees$Row") (C := R_Rd) (T := F_Rd) (N := 10) hx hb hts i_Rd t_Rd t_Rd_ok n_Rd hown hK hP hD hS (cPos N 1 x0) (cw_obj (k := 1) (by decide) hl_x0_1) rfl 2 (by decide) (hts _ kw_346) (fun _ h9 => h9) rfl (by decide +kernel) (rv_nar (Or.inl ⟨_, rfl⟩)) (rv_fit (Or.inl ⟨_, rfl⟩)) (Nat.le_of_ble_eq_true rfl) d_cRd_parse_2 (fun H locs hP hD hS => ?_)
  have hD := (congrArg (fun w9 => va_D A w9) (cw_setR (ad := ad) (cc := cc) (S := S) (k := 1) (f := 2) (t := 5) (v := (some x1)) (by decide) rfl hl_x0_1)).mp hD
  have hP := (congrArg (fun w9 => va_P D cls w9 H) (cw_setR (ad := ad) (cc := cc) (S := S) (k := 1) (f := 2) (t := 5) (v := (some x1)) (by decide) rfl hl_x0_1)).mp hP
  refine lv_aload_n hx hb d_cRd_parse_5 rfl (lv_at hl 0 rfl) ?_
  refine lv_iconst (v := 0) hx hb d_cRd_parse_6 (by decide) ?_
  refine va_put (D := D) (ci := 1) (v := .int 0) (ty := .int) (C := R_Rd) (T := F_Rd) (N := 10) hx hb hts i_Rd t_Rd t_Rd_ok n_Rd hown hK hP hD hS (cPos N 1 x0) (cw_obj (k := 1) (by decide) hl_x0_1) rfl 3 (by decide) (hts _ kw_347) (fun _ h9 => h9) rfl (by decide +kernel) rfl rfl (Nat.le_of_ble_eq_true rfl) d_cRd_parse_7 (fun H locs hP hD hS => ?_)
  have hD := (congrArg (fun w9 => va_D A w9) (cw_setI (ad := ad) (cc := cc) (S := (S.setR 1 2 x0 (some x1))) (k := 1) (f := 3) (v := 0) (by decide) rfl hl_x0_1)).mp hD
  have hP := (congrArg (fun w9 => va_P D cls w9 H) (cw_setI (ad := ad) (cc := cc) (S := (S.setR 1 2 x0 (some x1))) (k := 1) (f := 3) (v := 0) (by decide) rfl hl_x0_1)).mp hP
  refine lv_aload_n hx hb d_cRd_parse_10 rfl (lv_at hl 0 rfl) ?_
  refine lv_iconst (v := 0) hx hb d_cRd_parse_11 (by decide) ?_
  refine va_put (D := D) (ci := 1) (v := .int 0) (ty := .int) (C := R_Rd) (T := F_Rd) (N := 10) hx hb hts i_Rd t_Rd t_Rd_ok n_Rd hown hK hP hD hS (cPos N 1 x0) (cw_obj (k := 1) (by decide) hl_x0_1) rfl 4 (by decide) (hts _ kw_349) (fun _ h9 => h9) rfl (by decide +kernel) rfl rfl (Nat.le_of_ble_eq_true rfl) d_cRd_parse_12 (fun H locs hP hD hS => ?_)
  have hD := (congrArg (fun w9 => va_D A w9) (cw_setI (ad := ad) (cc := cc) (S := ((S.setR 1 2 x0 (some x1)).setI 1 3 x0 0)) (k := 1) (f := 4) (v := 0) (by decide) rfl hl_x0_1)).mp hD
  have hP := (congrArg (fun w9 => va_P D cls w9 H) (cw_setI (ad := ad) (cc := cc) (S := ((S.setR 1 2 x0 (some x1)).setI 1 3 x0 0)) (k := 1) (f := 4) (v := 0) (by decide) rfl hl_x0_1)).mp hP
  refine lv_aload_n hx hb d_cRd_parse_15 rfl (lv_at hl 0 rfl) ?_
  refine lv_iconst (v := 0) hx hb d_cRd_parse_16 (by decide) ?_
  refine va_put (D := D) (ci := 1) (v := .int 0) (ty := .int) (C := R_Rd) (T := F_Rd) (N := 10) hx hb hts i_Rd t_Rd t_Rd_ok n_Rd hown hK hP hD hS (cPos N 1 x0) (cw_obj (k := 1) (by decide) hl_x0_1) rfl 5 (by decide) (hts _ kw_351) (fun _ h9 => h9) rfl (by decide +kernel) rfl rfl (Nat.le_of_ble_eq_true rfl) d_cRd_parse_17 (fun H locs hP hD hS => ?_)
  have hD := (congrArg (fun w9 => va_D A w9) (cw_setI (ad := ad) (cc := cc) (S := (((S.setR 1 2 x0 (some x1)).setI 1 3 x0 0).setI 1 4 x0 0)) (k := 1) (f := 5) (v := 0) (by decide) rfl hl_x0_1)).mp hD
  have hP := (congrArg (fun w9 => va_P D cls w9 H) (cw_setI (ad := ad) (cc := cc) (S := (((S.setR 1 2 x0 (some x1)).setI 1 3 x0 0).setI 1 4 x0 0)) (k := 1) (f := 5) (v := 0) (by decide) rfl hl_x0_1)).mp hP
  refine lv_aload_n hx hb d_cRd_parse_20 rfl (lv_at hl 0 rfl) ?_
  refine lv_null hx hb d_cRd_parse_21 ?_
  refine w_v (y := rv ad 9 none) rfl ?_
  refine va_put (D := D) (ci := 1) (v := rv ad 9 none) (ty := .object "JoinedTrees$Value") (C := R_Rd) (T := F_Rd) (N := 10) hx hb hts i_Rd t_Rd t_Rd_ok n_Rd hown hK hP hD hS (cPos N 1 x0) (cw_obj (k := 1) (by decide) hl_x0_1) rfl 6 (by decide) (hts _ kw_352) (fun _ h9 => h9) rfl (by decide +kernel) (rv_nar (Or.inl ⟨_, rfl⟩)) (rv_fit (Or.inl ⟨_, rfl⟩)) (Nat.le_of_ble_eq_true rfl) d_cRd_parse_22 (fun H locs hP hD hS => ?_)
  have hD := (congrArg (fun w9 => va_D A w9) (cw_setR (ad := ad) (cc := cc) (S := ((((S.setR 1 2 x0 (some x1)).setI 1 3 x0 0).setI 1 4 x0 0).setI 1 5 x0 0)) (k := 1) (f := 6) (t := 9) (v := none) (by decide) rfl hl_x0_1)).mp hD
  have hP := (congrArg (fun w9 => va_P D cls w9 H) (cw_setR (ad := ad) (cc := cc) (S := ((((S.setR 1 2 x0 (some x1)).setI 1 3 x0 0).setI 1 4 x0 0).setI 1 5 x0 0)) (k := 1) (f := 6) (t := 9) (v := none) (by decide) rfl hl_x0_1)).mp hP
  refine lv_aload_n hx hb d_cRd_parse_25 rfl (lv_at hl 0 rfl) ?_
  refine lv_iconst (v := 0) hx hb d_cRd_parse_26 (by decide) ?_
  refine va_put (D := D) (ci := 1) (v := .int 0) (ty := .int) (C := R_Rd) (T := F_Rd) (N := 10) hx hb hts i_Rd t_Rd t_Rd_ok n_Rd hown hK hP hD hS (cPos N 1 x0) (cw_obj (k := 1) (by decide) hl_x0_1) rfl 8 (by decide) (hts _ kw_354) (fun _ h9 => h9) rfl (by decide +kernel) rfl rfl (Nat.le_of_ble_eq_true rfl) d_cRd_parse_27 (fun H locs hP hD hS => ?_)
  have hD := (congrArg (fun w9 => va_D A w9) (cw_setI (ad := ad) (cc := cc) (S := (((((S.setR 1 2 x0 (some x1)).setI 1 3 x0 0).setI 1 4 x0 0).setI 1 5 x0 0).setR 1 6 x0 none)) (k := 1) (f := 8) (v := 0) (by decide) rfl hl_x0_1)).mp hD
  have hP := (congrArg (fun w9 => va_P D cls w9 H) (cw_setI (ad := ad) (cc := cc) (S := (((((S.setR 1 2 x0 (some x1)).setI 1 3 x0 0).setI 1 4 x0 0).setI 1 5 x0 0).setR 1 6 x0 none)) (k := 1) (f := 8) (v := 0) (by decide) rfl hl_x0_1)).mp hP
  refine lv_aload_n hx hb d_cRd_parse_30 rfl (lv_at hl 0 rfl) ?_
  refine lv_iconst (v := 0) hx hb d_cRd_parse_31 (by decide) ?_
  refine va_put (D := D) (ci := 1) (v := .int 0) (ty := .int) (C := R_Rd) (T := F_Rd) (N := 10) hx hb hts i_Rd t_Rd t_Rd_ok n_Rd hown hK hP hD hS (cPos N 1 x0) (cw_obj (k := 1) (by decide) hl_x0_1) rfl 9 (by decide) (hts _ kw_355) (fun _ h9 => h9) rfl (by decide +kernel) rfl rfl (Nat.le_of_ble_eq_true rfl) d_cRd_parse_32 (fun H locs hP hD hS => ?_)
  have hD := (congrArg (fun w9 => va_D A w9) (cw_setI (ad := ad) (cc := cc) (S := ((((((S.setR 1 2 x0 (some x1)).setI 1 3 x0 0).setI 1 4 x0 0).setI 1 5 x0 0).setR 1 6 x0 none).setI 1 8 x0 0)) (k := 1) (f := 9) (v := 0) (by decide) rfl hl_x0_1)).mp hD
  have hP := (congrArg (fun w9 => va_P D cls w9 H) (cw_setI (ad := ad) (cc := cc) (S := ((((((S.setR 1 2 x0 (some x1)).setI 1 3 x0 0).setI 1 4 x0 0).setI 1 5 x0 0).setR 1 6 x0 none).setI 1 8 x0 0)) (k := 1) (f := 9) (v := 0) (by decide) rfl hl_x0_1)).mp hP
  refine lv_aload_n hx hb d_cRd_parse_35 rfl (lv_at hl 0 rfl) ?_
  refine va_get (D := D) (ci := 1) (v := rv ad 5 ((((((((S.setR 1 2 x0 (some x1)).setI 1 3 x0 0).setI 1 4 x0 0).setI 1 5 x0 0).setR 1 6 x0 none).setI 1 8 x0 0).setI 1 9 x0 0).r 1 1 x0)) (C := R_Rd) (T := F_Rd) (N := 10) hx hb hts i_Rd hown hK hP (cPos N 1 x0) (cw_obj (k := 1) (by decide) hl_x0_1) rfl 1 (by decide) (hts _ kw_344) (fun _ h9 => h9) rfl d_cRd_parse_36 ?_
  refine w_v (y := rv ad 5 (S.r 1 1 x0)) (congrArg (rv ad 5) rfl) ?_
  obtain ⟨j_1, hj_2, hl_3, Heq⟩ := gn_some Heq
  refine w_s (st' := [.ref (ad 5 j_1)]) (congrArg (fun z9 : Option Nat => [rv ad 5 z9]) hj_2) ?_
  obtain ⟨o_4, h_5, Heq⟩ := ob_some Heq
  have hFc := fr_all hD hS hA
  refine va_callv (va_runV (As := []) (rest := []) ⟨hx, hb, hml, hown, hts⟩ (g_cRw_clear l D H.size (ad := ad) (cc := cc) (sad := sad) (sav := sav) h_5) (cw_v 0 hts kw_576 kw_866 kw_574 kw_575 kw_4 rfl rfl (by decide +kernel) ⟨Nat.le_of_ble_eq_true rfl, Nat.le_of_ble_eq_true rfl⟩) ⟨c_blind, va_recv hK hP (ci := 5) (q0 := cPos N 5 j_1) rfl (cw_obj (k := 5) (by decide) hl_3), fun U hU hW => c_pre hU hW hP hK hD hev hE hN hNS hS hFc⟩ rfl rfl hl.1 rfl (lv_room (Nat.le_of_ble_eq_true rfl)) d_cRd_parse_39 ⟨Nat.le_of_ble_eq_true rfl, Nat.le_of_ble_eq_true rfl⟩) hS (fun q _ h => hFc q h) hFc (fun u t H1 locs ht hvm hw hB hz1 hk1 hS => ?_)
  obtain ⟨hP, -, hD1⟩ := hB
  rw [ht] at hP
  have hD := hD1.weaken (fun _ q _ h => hFc q.1 h)
  generalize H1 = H at hP hS ⊢
  refine W.cs (cells' := 0) (slots' := 0) rfl rfl ?_
  refine lv_aload_n hx hb d_cRd_parse_42 rfl (lv_at hl 0 rfl) ?_
  obtain ⟨o_6, h_7, Heq⟩ := ob_some Heq
  have hFc := fr_all hD hS hA
  refine va_callv (va_runV (As := []) (rest := []) ⟨hx, hb, hml, hown, hts⟩ (g_cRd_skipBlanks l D H.size (ad := ad) (cc := cc) (sad := sad) (sav := sav) h_7) (cw_v 0 hts kw_870 kw_867 kw_868 kw_869 kw_7 rfl rfl (by decide +kernel) ⟨Nat.le_of_ble_eq_true rfl, Nat.le_of_ble_eq_true rfl⟩) ⟨c_blind, va_recv hK hP (ci := 1) (q0 := cPos N 1 x0) rfl (cw_obj (k := 1) (by decide) hl_x0_1), fun U hU hW => c_pre hU hW hP hK hD hev hE hN hNS hS hFc⟩ rfl rfl hl.1 rfl (lv_room (Nat.le_of_ble_eq_true rfl)) d_cRd_parse_43 ⟨Nat.le_of_ble_eq_true rfl, Nat.le_of_ble_eq_true rfl⟩) hS (fun q _ h => hFc q h) hFc (fun u t H1 locs ht hvm hw hB hz1 hk1 hS => ?_)
  obtain ⟨hP, -, hD1⟩ := hB
  rw [ht] at hP
  have hD := hD1.weaken (fun _ q _ h => hFc q.1 h)
  generalize H1 = H at hP hS ⊢
  refine W.cs (cells' := 0) (slots' := 0) rfl rfl ?_
  refine lv_aload_n hx hb d_cRd_parse_46 rfl (lv_at hl 0 rfl) ?_
  obtain ⟨o_8, h_9, Heq⟩ := ob_some Heq
  have hFc := fr_all hD hS hA
  refine va_calli (va_runV (As := []) (rest := []) ⟨hx, hb, hml, hown, hts⟩ (g_cRd_readValue l D H.size (ad := ad) (cc := cc) (sad := sad) (sav := sav) h_9) (cw_v 0 hts kw_878 kw_875 kw_876 kw_877 kw_7 rfl rfl (by decide +kernel) ⟨Nat.le_of_ble_eq_true rfl, Nat.le_of_ble_eq_true rfl⟩) ⟨c_blind, va_recv hK hP (ci := 1) (q0 := cPos N 1 x0) rfl (cw_obj (k := 1) (by decide) hl_x0_1), fun U hU hW => c_pre hU hW hP hK hD hev hE hN hNS hS hFc⟩ rfl rfl hl.1 rfl (lv_room (Nat.le_of_ble_eq_true rfl)) d_cRd_parse_47 ⟨Nat.le_of_ble_eq_true rfl, Nat.le_of_ble_eq_true rfl⟩) hS (fun q _ h => hFc q h) hFc (fun rz u t H1 locs ht hvm hw hB hz1 hk1 hS => ?_)
  obtain ⟨hP, -, hD1⟩ := hB
  rw [ht] at hP
  have hD := hD1.weaken (fun _ q _ h => hFc q.1 h)
  generalize H1 = H at hP hS ⊢
  refine W.cs (cells' := 0) (slots' := 0) rfl rfl ?_
  subst hw
  refine lv_istore_n (lv' := [(2, .int o_8.2), (0, .ref (ad 1 x0)), (1, .ref (ad 5 x1))]) hx hb d_cRd_parse_50 rfl hl (by decide) rfl (fun ls hl => ?_)
  refine lv_iconst (v := 0) hx hb d_cRd_parse_51 (by decide) ?_
  refine lv_istore_n (lv' := [(3, .int 0), (2, .int o_8.2), (0, .ref (ad 1 x0)), (1, .ref (ad 5 x1))]) hx hb d_cRd_parse_52 rfl hl (by decide) rfl (fun ls hl => ?_)
  obtain ⟨b_10, h_11, Heq⟩ := ob_some Heq
  refine w_cRd_parse_L53 hC h_11 (fun b h => ?_) _ _ _ hP hD hS (lv_sub hl [2, 1, 0] rfl)
  subst h
  intro H locs ls hP hD hS hl
  exact w_cRd_parse_J104 hC Heq Kr _ _ _ hP hD hS (lv_sub hl [0, 1] rfl)
def m_cRd_parse (N : Nat → Nat) (x0 : Nat) (S : CS) (x1 : Nat) : Option (CS × Int32) := m_cRd_parse_J0 N x0 S x1
set_option maxHeartbeats 4000000 in
theorem g_cRd_parse (l : Launch) (D : va_G) (sz : Nat) {ad : Nat → Nat → Nat} {cc : Nat → ClassId} {sad sav : Nat → Nat} {N : Nat → Nat} {x0 : Nat} {S : CS} {x1 : Nat} {o : CS × Int32} (Heq : m_cRd_parse N x0 S x1 = some o) : Met l ⟨"JoinedTrees$JsonReader", "parse", "(LJoinedTrees$Row;)Z"⟩ (Cond.code ⟨"JoinedTrees$JsonReader", "parse", "(LJoinedTrees$Row;)Z"⟩ prog_3_method_2_code 4 (some .boolean) :: gb) ({ frames := 6, cells := 0, slots := 0, locals := 156 }) (cPc sad sav D (cw ad cc N S) (cty cc) sz [.ref (ad 1 x0), .ref (ad 5 x1)]) (va_Qi (fun (r : Int32) (_ : Unit) => r = o.2) (fun _ t => gO D (cw ad cc N o.1) (cty cc) (va_A (cw ad cc N S) sz) t) (va_A (cw ad cc N S) sz)) 0 0 (va_A (cw ad cc N S) sz) := by
  refine Met.ofW (cc := prog_3_method_2_code) (maxL := 4) (ret := (some .boolean)) (by decide) rfl ?_
  intro p e s m args below meth c s₁ B hml hv
  obtain ⟨rfl, hsz, hP, hK, hD0, hev, hE, hN⟩ := hv
  have hx := B.exec
  have hb := B.bytes
  have hr := B.returns
  have hts : ∀ w9 ∈ gb, w9.before [.ref (ad 1 x0), .ref (ad 5 x1)].toArray s = true := fun w9 h => atoms_spec (ws := Cond.code ⟨"JoinedTrees$JsonReader", "parse", "(LJoinedTrees$Row;)Z"⟩ prog_3_method_2_code 4 (some .boolean) :: gb) B.pre w9 (List.mem_cons_of_mem _ h)
  have hown : s.vm.findClass "JoinedTrees$JsonReader" = some m.cls := findClass_of_methodNamed B.named
  have hlocks := B.notSynchronized
  have hNS := ns_of hP
  subst hsz
  have hD := hD0.self (sz := s.heap.size)
  generalize hAe : va_A (cw ad cc N S) s.heap.size = A at hD hev hE hNS ⊢
  have hA : ∀ q : Nat, s.heap.size ≤ q → A q := fun q h => by rw [← hAe]; exact Or.inr h
  have hS : va_S A s.heap s.heap [] := va_S.rf
  obtain ⟨ls, hl, hle⟩ : ∃ ls : Array Slot, lv_has ls 4 [(0, .ref (ad 1 x0)), (1, .ref (ad 5 x1))] ∧ entryFrame m ([.ref (ad 1 x0), .ref (ad 5 x1)] : List Value).toArray 4 = F0 m 0 ls [] := by
    exact ⟨_, lv_entry (n := 4) _ (Nat.le_of_ble_eq_true rfl), lg_entry_eq ..⟩
  rw [hle]
  refine w_cRd_parse_J0 ⟨hx, hb, hr, hml, hown, hts, hK, hA, hev, hE, hN, hNS⟩ Heq (fun r h pc H locs ls hd hz hP hD hS => ?_) _ _ _ hP hD hS (lv_sub hl [0, 1] rfl)
  subst h
  exact W.zret (ty := .boolean) hx hb hr (by rcases hz with hz | hz <;> rw [hz] <;> rfl) (fun t ht hW => ⟨⟨_, (), rfl, rfl, by rw [ht]; exact hP, va_K.moved hW.alike hK, hD⟩, hS.F ht⟩) hS.2.2 hd
def m_cRp_headsNow_J22 (N : Nat → Nat) (x0 : Nat) (S : CS) (x1 : Int32) (x2 : Int32) : Option ((CS × Int32 × Int32) ⊕ (CS × Int32)) := some (.inl (S, x1, (x2 + 1)))
theorem d_cRp_headsNow_0 : decode prog_6_method_6_code 0 = .ok (.iconst 0, 1) := by decide +kernel
theorem d_cRp_headsNow_1 : decode prog_6_method_6_code 1 = .ok (.istore_n 1, 1) := by decide +kernel
theorem d_cRp_headsNow_2 : decode prog_6_method_6_code 2 = .ok (.iconst 0, 1) := by decide +kernel
theorem d_cRp_headsNow_3 : decode prog_6_method_6_code 3 = .ok (.istore_n 2, 1) := by decide +kernel
theorem d_cRp_headsNow_4 : decode prog_6_method_6_code 4 = .ok (.iload_n 2, 1) := by decide +kernel
theorem d_cRp_headsNow_5 : decode prog_6_method_6_code 5 = .ok (.bipush 8, 2) := by decide +kernel
theorem d_cRp_headsNow_7 : decode prog_6_method_6_code 7 = .ok (.if_icmp .ge 21, 3) := by decide +kernel
theorem d_cRp_headsNow_10 : decode prog_6_method_6_code 10 = .ok (.aload_n 0, 1) := by decide +kernel
theorem d_cRp_headsNow_11 : decode prog_6_method_6_code 11 = .ok (.getfield 21, 3) := by decide +kernel
theorem d_cRp_headsNow_14 : decode prog_6_method_6_code 14 = .ok (.iload_n 2, 1) := by decide +kernel
theorem d_cRp_headsNow_15 : decode prog_6_method_6_code 15 = .ok (.aaload, 1) := by decide +kernel
theorem d_cRp_headsNow_16 : decode prog_6_method_6_code 16 = .ok (.ifnull 6, 3) := by decide +kernel
theorem d_cRp_headsNow_22 : decode prog_6_method_6_code 22 = .ok (.iinc 2 1, 3) := by decide +kernel
theorem d_cRp_headsNow_25 : decode prog_6_method_6_code 25 = .ok (.goto (-21), 3) := by decide +kernel
set_option maxHeartbeats 4000000 in
set_option maxRecDepth 100000 in
theorem w_cRp_headsNow_J22 {p : Program} {l : Launch} {e : Env} {s : State} {m : MethodId} {args : Array Value} {below : List Frame} {meth : Method} {c : Code} {A : Nat → Prop} {D : va_G} {ad : Nat → Nat → Nat} {cc : Nat → ClassId} {sad sav : Nat → Nat} {Q : State → Prop} (hC : MCc sad sav "JoinedTrees$Replica" prog_6_method_6_code 3 (some .int) p s m args meth c A D cc) {N : Nat → Nat} {x0 : Nat} {S : CS} {x1 : Int32} {x2 : Int32} {o : ((CS × Int32 × Int32) ⊕ (CS × Int32))} (Heq : m_cRp_headsNow_J22 N x0 S x1 x2 = some o) (Ka : ∀ b : CS × Int32 × Int32, o = .inl b → ∀ (H : Heap) (locs : List Loc) (ls : Array Slot), va_P D cls (cw ad cc N b.1) H → va_D A (cw ad cc N b.1) → va_S A s.heap H locs → lv_has ls 3 [(0, .ref (ad 4 x0)), (1, .int b.2.1), (2, .int b.2.2)] → W p l e ({ frames := 0, cells := 0, slots := 0, locals := 0 }) s m args below meth c H locs 0 0 Q (F0 m 4 ls [])) (K0 : ∀ b : CS × Int32, o = .inr b → ∀ (H : Heap) (locs : List Loc) (ls : Array Slot), va_P D cls (cw ad cc N b.1) H → va_D A (cw ad cc N b.1) → va_S A s.heap H locs → lv_has ls 3 [(0, .ref (ad 4 x0)), (1, .int b.2)] → W p l e ({ frames := 0, cells := 0, slots := 0, locals := 0 }) s m args below meth c H locs 0 0 Q (F0 m 28 ls [])) : ∀ (H : Heap) (locs : List Loc) (ls : Array Slot), va_P D cls (cw ad cc N S) H → va_D A (cw ad cc N S) → va_S A s.heap H locs → lv_has ls 3 [(0, .ref (ad 4 x0)), (1, .int x1), (2, .int x2)] → W p l e ({ frames := 0, cells := 0, slots := 0, locals := 0 }) s m args below meth c H locs 0 0 Q (F0 m 22 ls []) := by
  intro H locs ls hP hD hS hl
  obtain ⟨hx, hb, hr, hml, hown, hts, hK, hA, hev, hE, hN, hNS⟩ := id hC
  unfold m_cRp_headsNow_J22 at Heq
  refine lv_iinc (v := x2 + 1) (lv' := [(2, .int (x2 + 1)), (0, .ref (ad 4 x0)), (1, .int x1)]) hx hb d_cRp_headsNow_22 hl (k := 2) rfl rfl (by decide) rfl (fun ls hl => ?_)
  refine lv_goto (tgt := 4) hx hb d_cRp_headsNow_25 (by decide) ?_
  exact Ka _ (Option.some.inj Heq).symm _ _ _ hP hD hS (lv_sub hl [1, 2, 0] rfl)
def m_cRp_headsNow_B4 (N : Nat → Nat) (x0 : Nat) (S : CS) (x1 : Int32) (x2 : Int32) : Option ((CS × Int32 × Int32) ⊕ (CS × Int32)) := (if 8 ≤ x2 then some (.inr (S, x1)) else gl x0 (N 4) (gn (S.r 4 3 x0) (N 16) (fun j_2 => gd x2 (S.z 16 j_2) (on (S.q 16 j_2 x2.toNatClampNeg) (m_cRp_headsNow_J22 N x0 S x1 x2) (fun j_6 => m_cRp_headsNow_J22 N x0 S (x1 + 1) x2)))))
theorem d_cRp_headsNow_19 : decode prog_6_method_6_code 19 = .ok (.iinc 1 1, 3) := by decide +kernel
set_option maxHeartbeats 4000000 in
set_option maxRecDepth 100000 in
theorem w_cRp_headsNow_B4 {p : Program} {l : Launch} {e : Env} {s : State} {m : MethodId} {args : Array Value} {below : List Frame} {meth : Method} {c : Code} {A : Nat → Prop} {D : va_G} {ad : Nat → Nat → Nat} {cc : Nat → ClassId} {sad sav : Nat → Nat} {Q : State → Prop} (hC : MCc sad sav "JoinedTrees$Replica" prog_6_method_6_code 3 (some .int) p s m args meth c A D cc) {N : Nat → Nat} {x0 : Nat} {S : CS} {x1 : Int32} {x2 : Int32} {o : ((CS × Int32 × Int32) ⊕ (CS × Int32))} (Heq : m_cRp_headsNow_B4 N x0 S x1 x2 = some o) (Ka : ∀ b : CS × Int32 × Int32, o = .inl b → ∀ (H : Heap) (locs : List Loc) (ls : Array Slot), va_P D cls (cw ad cc N b.1) H → va_D A (cw ad cc N b.1) → va_S A s.heap H locs → lv_has ls 3 [(0, .ref (ad 4 x0)), (1, .int b.2.1), (2, .int b.2.2)] → W p l e ({ frames := 0, cells := 0, slots := 0, locals := 0 }) s m args below meth c H locs 0 0 Q (F0 m 4 ls [])) (K0 : ∀ b : CS × Int32, o = .inr b → ∀ (H : Heap) (locs : List Loc) (ls : Array Slot), va_P D cls (cw ad cc N b.1) H → va_D A (cw ad cc N b.1) → va_S A s.heap H locs → lv_has ls 3 [(0, .ref (ad 4 x0)), (1, .int b.2)] → W p l e ({ frames := 0, cells := 0, slots := 0, locals := 0 }) s m args below meth c H locs 0 0 Q (F0 m 28 ls [])) : ∀ (H : Heap) (locs : List Loc) (ls : Array Slot), va_P D cls (cw ad cc N S) H → va_D A (cw ad cc N S) → va_S A s.heap H locs → lv_has ls 3 [(0, .ref (ad 4 x0)), (1, .int x1), (2, .int x2)] → W p l e ({ frames := 0, cells := 0, slots := 0, locals := 0 }) s m args below meth c H locs 0 0 Q (F0 m 4 ls []) := by
  intro H locs ls hP hD hS hl
  obtain ⟨hx, hb, hr, hml, hown, hts, hK, hA, hev, hE, hN, hNS⟩ := id hC
  unfold m_cRp_headsNow_B4 at Heq
  refine lv_iload_n hx hb d_cRp_headsNow_4 rfl (lv_at hl 2 rfl) ?_
  refine lv_bipush (v := 8) hx hb d_cRp_headsNow_5 (by decide) ?_
  refine lv_icmp_ge (tgt := 28) hx hb d_cRp_headsNow_7 (by decide) (fun c_1 => ?_) (fun c_1 => ?_)
  · replace Heq := (if_pos c_1).symm.trans Heq
    exact K0 _ (Option.some.inj Heq).symm _ _ _ hP hD hS (lv_sub hl [0, 1] rfl)
  · replace Heq := (if_neg c_1).symm.trans Heq
    refine lv_aload_n hx hb d_cRp_headsNow_10 rfl (lv_at hl 0 rfl) ?_
    obtain ⟨hl_x0_4, Heq⟩ := gl_some Heq
    refine va_get (D := D) (ci := 4) (v := rv ad 16 (S.r 4 3 x0)) (C := R_Rp) (T := F_Rp) (N := 10) hx hb hts i_Rp hown hK hP (cPos N 4 x0) (cw_obj (k := 4) (by decide) hl_x0_4) rfl 3 (by decide) (hts _ kw_213) (fun _ h9 => h9) rfl d_cRp_headsNow_11 ?_
    refine lv_iload_n hx hb d_cRp_headsNow_14 rfl (lv_at hl 2 rfl) ?_
    obtain ⟨j_2, hj_3, hl_4, Heq⟩ := gn_some Heq
    refine w_s (st' := [.int x2, .ref (ad 16 j_2)]) (congrArg (fun z9 : Option Nat => [.int x2, rv ad 16 z9]) hj_3) ?_
    obtain ⟨hi_5, Heq⟩ := gd_some Heq
    refine va_aldq hx hb hK hP (cPos N 16 j_2) 4 (cw_refs (k := 16) (by decide) hl_4) rfl (i := x2) hi_5 d_cRp_headsNow_15 ?_
    refine w_v (y := rv ad 0 (S.q 16 j_2 x2.toNatClampNeg)) (congrArg (rv ad 0) rfl) ?_
    rcases on_some Heq with ⟨hj_7, Heq⟩ | ⟨j_6, hj_7, Heq⟩
    · refine w_s (st' := [.null]) (congrArg (fun z9 : Option Nat => [rv ad 0 z9]) hj_7) ?_
      refine lv_ifnullN (tgt := 22) hx hb d_cRp_headsNow_16 (by decide) ?_
      exact w_cRp_headsNow_J22 hC Heq Ka K0 _ _ _ hP hD hS (lv_sub hl [0, 1, 2] rfl)
    · refine w_s (st' := [.ref (ad 0 j_6)]) (congrArg (fun z9 : Option Nat => [rv ad 0 z9]) hj_7) ?_
      refine lv_ifnull hx hb d_cRp_headsNow_16 ?_
      refine lv_iinc (v := x1 + 1) (lv' := [(1, .int (x1 + 1)), (0, .ref (ad 4 x0)), (2, .int x2)]) hx hb d_cRp_headsNow_19 hl (k := 1) rfl rfl (by decide) rfl (fun ls hl => ?_)
      exact w_cRp_headsNow_J22 hC Heq Ka K0 _ _ _ hP hD hS (lv_sub hl [1, 0, 2] rfl)
def m_cRp_headsNow_L4 (N : Nat → Nat) (x0 : Nat) (S : CS) (x1 : Int32) (x2 : Int32) : Option (CS × Int32) := lp (fun a : CS × Int32 × Int32 => m_cRp_headsNow_B4 N x0 a.1 a.2.1 a.2.2) FU (S, x1, x2)
theorem w_cRp_headsNow_L4 {p : Program} {l : Launch} {e : Env} {s : State} {m : MethodId} {args : Array Value} {below : List Frame} {meth : Method} {c : Code} {A : Nat → Prop} {D : va_G} {ad : Nat → Nat → Nat} {cc : Nat → ClassId} {sad sav : Nat → Nat} {Q : State → Prop} (hC : MCc sad sav "JoinedTrees$Replica" prog_6_method_6_code 3 (some .int) p s m args meth c A D cc) {N : Nat → Nat} {x0 : Nat} {S : CS} {x1 : Int32} {x2 : Int32} {o : CS × Int32} (Heq : m_cRp_headsNow_L4 N x0 S x1 x2 = some o) (K0 : ∀ b : CS × Int32, o = b → ∀ (H : Heap) (locs : List Loc) (ls : Array Slot), va_P D cls (cw ad cc N b.1) H → va_D A (cw ad cc N b.1) → va_S A s.heap H locs → lv_has ls 3 [(0, .ref (ad 4 x0)), (1, .int b.2)] → W p l e ({ frames := 0, cells := 0, slots := 0, locals := 0 }) s m args below meth c H locs 0 0 Q (F0 m 28 ls [])) : ∀ (H : Heap) (locs : List Loc) (ls : Array Slot), va_P D cls (cw ad cc N S) H → va_D A (cw ad cc N S) → va_S A s.heap H locs → lv_has ls 3 [(0, .ref (ad 4 x0)), (1, .int x1), (2, .int x2)] → W p l e ({ frames := 0, cells := 0, slots := 0, locals := 0 }) s m args below meth c H locs 0 0 Q (F0 m 4 ls []) := by
  refine lp_w (G := fun a : CS × Int32 × Int32 => ∀ (H : Heap) (locs : List Loc) (ls : Array Slot), va_P D cls (cw ad cc N a.1) H → va_D A (cw ad cc N a.1) → va_S A s.heap H locs → lv_has ls 3 [(0, .ref (ad 4 x0)), (1, .int a.2.1), (2, .int a.2.2)] → W p l e ({ frames := 0, cells := 0, slots := 0, locals := 0 }) s m args below meth c H locs 0 0 Q (F0 m 4 ls [])) ?_ FU (S, x1, x2) Heq
  intro a o1 ho Ka Ke
  exact w_cRp_headsNow_B4 hC ho (fun b h => Ka b h) (fun b h => K0 b (Ke _ h).symm)
def m_cRp_headsNow_J0 (N : Nat → Nat) (x0 : Nat) (S : CS) : Option (CS × Int32) := ob (m_cRp_headsNow_L4 N x0 S 0 0) (fun b_1 => some (b_1.1, b_1.2))
theorem d_cRp_headsNow_28 : decode prog_6_method_6_code 28 = .ok (.iload_n 1, 1) := by decide +kernel
theorem d_cRp_headsNow_29 : decode prog_6_method_6_code 29 = .ok (.ireturn, 1) := by decide +kernel
set_option maxHeartbeats 4000000 in
set_option maxRecDepth 100000 in
theorem w_cRp_headsNow_J0 {p : Program} {l : Launch} {e : Env} {s : State} {m : MethodId} {args : Array Value} {below : List Frame} {meth : Method} {c : Code} {A : Nat → Prop} {D : va_G} {ad : Nat → Nat → Nat} {cc : Nat → ClassId} {sad sav : Nat → Nat} {Q : State → Prop} (hC : MCc sad sav "JoinedTrees$Replica" prog_6_method_6_code 3 (some .int) p s m args meth c A D cc) {N : Nat → Nat} {x0 : Nat} {S : CS} {o : CS × Int32} (Heq : m_cRp_headsNow_J0 N x0 S = some o) (Kr : ∀ r : CS × Int32, o = r → ∀ (pc : Nat) (H : Heap) (locs : List Loc) (ls : Array Slot), decode prog_6_method_6_code pc = .ok (.ireturn, 1) → va_P D cls (cw ad cc N r.1) H → va_D A (cw ad cc N r.1) → va_S A s.heap H locs → W p l e ({ frames := 0, cells := 0, slots := 0, locals := 0 }) s m args below meth c H locs 0 0 Q (F0 m pc ls [.int r.2])) : ∀ (H : Heap) (locs : List Loc) (ls : Array Slot), va_P D cls (cw ad cc N S) H → va_D A (cw ad cc N S) → va_S A s.heap H locs → lv_has ls 3 [(0, .ref (ad 4 x0))] → W p l e ({ frames := 0, cells := 0, slots := 0, locals := 0 }) s m args below meth c H locs 0 0 Q (F0 m 0 ls []) := by
  intro H locs ls hP hD hS hl
  obtain ⟨hx, hb, hr, hml, hown, hts, hK, hA, hev, hE, hN, hNS⟩ := id hC
  unfold m_cRp_headsNow_J0 at Heq
  refine lv_iconst (v := 0) hx hb d_cRp_headsNow_0 (by decide) ?_
  refine lv_istore_n (lv' := [(1, .int 0), (0, .ref (ad 4 x0))]) hx hb d_cRp_headsNow_1 rfl hl (by decide) rfl (fun ls hl => ?_)
  refine lv_iconst (v := 0) hx hb d_cRp_headsNow_2 (by decide) ?_
  refine lv_istore_n (lv' := [(2, .int 0), (1, .int 0), (0, .ref (ad 4 x0))]) hx hb d_cRp_headsNow_3 rfl hl (by decide) rfl (fun ls hl => ?_)
  obtain ⟨b_1, h_2, Heq⟩ := ob_some Heq
  refine w_cRp_headsNow_L4 hC h_2 (fun b h => ?_) _ _ _ hP hD hS (lv_sub hl [2, 1, 0] rfl)
  subst h
  intro H locs ls hP hD hS hl
  refine lv_iload_n hx hb d_cRp_headsNow_28 rfl (lv_at hl 1 rfl) ?_
  exact Kr _ (Option.some.inj Heq).symm 29 _ _ _ d_cRp_headsNow_29 hP hD hS
def m_cRp_headsNow (N : Nat → Nat) (x0 : Nat) (S : CS) : Option (CS × Int32) := m_cRp_headsNow_J0 N x0 S
set_option maxHeartbeats 4000000 in
theorem g_cRp_headsNow (l : Launch) (D : va_G) (sz : Nat) {ad : Nat → Nat → Nat} {cc : Nat → ClassId} {sad sav : Nat → Nat} {N : Nat → Nat} {x0 : Nat} {S : CS} {o : CS × Int32} (Heq : m_cRp_headsNow N x0 S = some o) : Met l ⟨"JoinedTrees$Replica", "headsNow", "()I"⟩ (Cond.code ⟨"JoinedTrees$Replica", "headsNow", "()I"⟩ prog_6_method_6_code 3 (some .int) :: gb) ({ frames := 0, cells := 0, slots := 0, locals := 0 }) (cPc sad sav D (cw ad cc N S) (cty cc) sz [.ref (ad 4 x0)]) (va_Qi (fun (r : Int32) (_ : Unit) => r = o.2) (fun _ t => gO D (cw ad cc N o.1) (cty cc) (va_A (cw ad cc N S) sz) t) (va_A (cw ad cc N S) sz)) 0 0 (va_A (cw ad cc N S) sz) := by
  refine Met.ofW (cc := prog_6_method_6_code) (maxL := 3) (ret := (some .int)) (by decide) rfl ?_
  intro p e s m args below meth c s₁ B hml hv
  obtain ⟨rfl, hsz, hP, hK, hD0, hev, hE, hN⟩ := hv
  have hx := B.exec
  have hb := B.bytes
  have hr := B.returns
  have hts : ∀ w9 ∈ gb, w9.before [.ref (ad 4 x0)].toArray s = true := fun w9 h => atoms_spec (ws := Cond.code ⟨"JoinedTrees$Replica", "headsNow", "()I"⟩ prog_6_method_6_code 3 (some .int) :: gb) B.pre w9 (List.mem_cons_of_mem _ h)
  have hown : s.vm.findClass "JoinedTrees$Replica" = some m.cls := findClass_of_methodNamed B.named
  have hlocks := B.notSynchronized
  have hNS := ns_of hP
  subst hsz
  have hD := hD0.self (sz := s.heap.size)
  generalize hAe : va_A (cw ad cc N S) s.heap.size = A at hD hev hE hNS ⊢
  have hA : ∀ q : Nat, s.heap.size ≤ q → A q := fun q h => by rw [← hAe]; exact Or.inr h
  have hS : va_S A s.heap s.heap [] := va_S.rf
  obtain ⟨ls, hl, hle⟩ : ∃ ls : Array Slot, lv_has ls 3 [(0, .ref (ad 4 x0))] ∧ entryFrame m ([.ref (ad 4 x0)] : List Value).toArray 3 = F0 m 0 ls [] := by
    exact ⟨_, lv_entry (n := 3) _ (Nat.le_of_ble_eq_true rfl), lg_entry_eq ..⟩
  rw [hle]
  refine w_cRp_headsNow_J0 ⟨hx, hb, hr, hml, hown, hts, hK, hA, hev, hE, hN, hNS⟩ Heq (fun r h pc H locs ls hd hP hD hS => ?_) _ _ _ hP hD hS (lv_sub hl [0] rfl)
  subst h
  exact W.iret hx hb hr (fun t ht hW => ⟨⟨_, (), rfl, rfl, by rw [ht]; exact hP, va_K.moved hW.alike hK, hD⟩, hS.F ht⟩) hS.2.2 hd
def m_cRp_gain_J64 (N : Nat → Nat) (x0 : Nat) (S : CS) (x1 : Option Nat) (x2 : Int32) : Option ((CS × Option Nat × Int32) ⊕ (CS × Option Nat)) := some (.inl (S, x1, (x2 + 1)))
theorem d_cRp_gain_0 : decode prog_6_method_5_code 0 = .ok (.aload_n 0, 1) := by decide +kernel
theorem d_cRp_gain_1 : decode prog_6_method_5_code 1 = .ok (.getfield 9, 3) := by decide +kernel
theorem d_cRp_gain_4 : decode prog_6_method_5_code 4 = .ok (.aload_n 1, 1) := by decide +kernel
theorem d_cRp_gain_5 : decode prog_6_method_5_code 5 = .ok (.getfield 32, 3) := by decide +kernel
theorem d_cRp_gain_8 : decode prog_6_method_5_code 8 = .ok (.aload_n 1, 1) := by decide +kernel
theorem d_cRp_gain_9 : decode prog_6_method_5_code 9 = .ok (.getfield 29, 3) := by decide +kernel
theorem d_cRp_gain_12 : decode prog_6_method_5_code 12 = .ok (.iastore, 1) := by decide +kernel
theorem d_cRp_gain_13 : decode prog_6_method_5_code 13 = .ok (.aload_n 0, 1) := by decide +kernel
theorem d_cRp_gain_14 : decode prog_6_method_5_code 14 = .ok (.dup, 1) := by decide +kernel
theorem d_cRp_gain_15 : decode prog_6_method_5_code 15 = .ok (.getfield 46, 3) := by decide +kernel
theorem d_cRp_gain_18 : decode prog_6_method_5_code 18 = .ok (.iconst 1, 1) := by decide +kernel
theorem d_cRp_gain_19 : decode prog_6_method_5_code 19 = .ok (.iadd, 1) := by decide +kernel
theorem d_cRp_gain_20 : decode prog_6_method_5_code 20 = .ok (.putfield 46, 3) := by decide +kernel
theorem d_cRp_gain_23 : decode prog_6_method_5_code 23 = .ok (.iconst 0, 1) := by decide +kernel
theorem d_cRp_gain_24 : decode prog_6_method_5_code 24 = .ok (.istore_n 2, 1) := by decide +kernel
theorem d_cRp_gain_25 : decode prog_6_method_5_code 25 = .ok (.iload_n 2, 1) := by decide +kernel
theorem d_cRp_gain_26 : decode prog_6_method_5_code 26 = .ok (.aload_n 1, 1) := by decide +kernel
theorem d_cRp_gain_27 : decode prog_6_method_5_code 27 = .ok (.getfield 43, 3) := by decide +kernel
theorem d_cRp_gain_30 : decode prog_6_method_5_code 30 = .ok (.arraylength, 1) := by decide +kernel
theorem d_cRp_gain_31 : decode prog_6_method_5_code 31 = .ok (.if_icmp .ge 39, 3) := by decide +kernel
theorem d_cRp_gain_34 : decode prog_6_method_5_code 34 = .ok (.aload_n 1, 1) := by decide +kernel
theorem d_cRp_gain_35 : decode prog_6_method_5_code 35 = .ok (.getfield 43, 3) := by decide +kernel
theorem d_cRp_gain_38 : decode prog_6_method_5_code 38 = .ok (.iload_n 2, 1) := by decide +kernel
theorem d_cRp_gain_39 : decode prog_6_method_5_code 39 = .ok (.aaload, 1) := by decide +kernel
theorem d_cRp_gain_40 : decode prog_6_method_5_code 40 = .ok (.astore_n 3, 1) := by decide +kernel
theorem d_cRp_gain_41 : decode prog_6_method_5_code 41 = .ok (.aload_n 0, 1) := by decide +kernel
theorem d_cRp_gain_42 : decode prog_6_method_5_code 42 = .ok (.getfield 21, 3) := by decide +kernel
theorem d_cRp_gain_45 : decode prog_6_method_5_code 45 = .ok (.aload_n 3, 1) := by decide +kernel
theorem d_cRp_gain_46 : decode prog_6_method_5_code 46 = .ok (.getfield 32, 3) := by decide +kernel
theorem d_cRp_gain_49 : decode prog_6_method_5_code 49 = .ok (.aaload, 1) := by decide +kernel
theorem d_cRp_gain_50 : decode prog_6_method_5_code 50 = .ok (.aload_n 3, 1) := by decide +kernel
theorem d_cRp_gain_51 : decode prog_6_method_5_code 51 = .ok (.if_acmp .ne 13, 3) := by decide +kernel
theorem d_cRp_gain_64 : decode prog_6_method_5_code 64 = .ok (.iinc 2 1, 3) := by decide +kernel
theorem d_cRp_gain_67 : decode prog_6_method_5_code 67 = .ok (.goto (-42), 3) := by decide +kernel
set_option maxHeartbeats 4000000 in
set_option maxRecDepth 100000 in
theorem w_cRp_gain_J64 {p : Program} {l : Launch} {e : Env} {s : State} {m : MethodId} {args : Array Value} {below : List Frame} {meth : Method} {c : Code} {A : Nat → Prop} {D : va_G} {ad : Nat → Nat → Nat} {cc : Nat → ClassId} {sad sav : Nat → Nat} {Q : State → Prop} (hC : MCc sad sav "JoinedTrees$Replica" prog_6_method_5_code 4 none p s m args meth c A D cc) {N : Nat → Nat} {x0 : Nat} {S : CS} {x1 : Option Nat} {x2 : Int32} {o : ((CS × Option Nat × Int32) ⊕ (CS × Option Nat))} (Heq : m_cRp_gain_J64 N x0 S x1 x2 = some o) (Ka : ∀ b : CS × Option Nat × Int32, o = .inl b → ∀ (H : Heap) (locs : List Loc) (ls : Array Slot), va_P D cls (cw ad cc N b.1) H → va_D A (cw ad cc N b.1) → va_S A s.heap H locs → lv_has ls 4 [(0, .ref (ad 4 x0)), (1, rv ad 0 b.2.1), (2, .int b.2.2)] → W p l e ({ frames := 0, cells := 0, slots := 0, locals := 0 }) s m args below meth c H locs 0 0 Q (F0 m 25 ls [])) (K0 : ∀ b : CS × Option Nat, o = .inr b → ∀ (H : Heap) (locs : List Loc) (ls : Array Slot), va_P D cls (cw ad cc N b.1) H → va_D A (cw ad cc N b.1) → va_S A s.heap H locs → lv_has ls 4 [(0, .ref (ad 4 x0)), (1, rv ad 0 b.2)] → W p l e ({ frames := 0, cells := 0, slots := 0, locals := 0 }) s m args below meth c H locs 0 0 Q (F0 m 70 ls [])) : ∀ (H : Heap) (locs : List Loc) (ls : Array Slot), va_P D cls (cw ad cc N S) H → va_D A (cw ad cc N S) → va_S A s.heap H locs → lv_has ls 4 [(0, .ref (ad 4 x0)), (1, rv ad 0 x1), (2, .int x2)] → W p l e ({ frames := 0, cells := 0, slots := 0, locals := 0 }) s m args below meth c H locs 0 0 Q (F0 m 64 ls []) := by
  intro H locs ls hP hD hS hl
  obtain ⟨hx, hb, hr, hml, hown, hts, hK, hA, hev, hE, hN, hNS⟩ := id hC
  unfold m_cRp_gain_J64 at Heq
  refine lv_iinc (v := x2 + 1) (lv' := [(2, .int (x2 + 1)), (0, .ref (ad 4 x0)), (1, rv ad 0 x1)]) hx hb d_cRp_gain_64 hl (k := 2) rfl rfl (by decide) (by simp [rv, rf_cat]) (fun ls hl => ?_)
  refine lv_goto (tgt := 25) hx hb d_cRp_gain_67 (by decide) ?_
  exact Ka _ (Option.some.inj Heq).symm _ _ _ hP hD hS (lv_sub hl [1, 2, 0] rfl)
def m_cRp_gain_B25 (N : Nat → Nat) (x0 : Nat) (S : CS) (x1 : Option Nat) (x2 : Int32) : Option ((CS × Option Nat × Int32) ⊕ (CS × Option Nat)) := gn x1 (N 0) (fun j_1 => gn (S.r 0 5 j_1) (N 16) (fun j_4 => (if nI (S.z 16 j_4) ≤ x2 then some (.inr (S, x1)) else gd x2 (S.z 16 j_4) (gl x0 (N 4) (gn (S.q 16 j_4 x2.toNatClampNeg) (N 0) (fun j_9 => gn (S.r 4 3 x0) (N 16) (fun j_12 => gd (S.i 0 0 j_9) (S.z 16 j_12) (gv (S.q 16 j_12 ((S.i 0 0 j_9).toNatClampNeg)) (N 0) (gv (S.q 16 j_4 x2.toNatClampNeg) (N 0) ((if (S.q 16 j_12 ((S.i 0 0 j_9).toNatClampNeg)) = (S.q 16 j_4 x2.toNatClampNeg) then gd (S.i 0 0 j_9) (S.z 16 j_12) (m_cRp_gain_J64 N x0 (S.setQ 16 j_12 ((S.i 0 0 j_9).toNatClampNeg) none) x1 x2) else m_cRp_gain_J64 N x0 S x1 x2)))))))))))
theorem d_cRp_gain_54 : decode prog_6_method_5_code 54 = .ok (.aload_n 0, 1) := by decide +kernel
theorem d_cRp_gain_55 : decode prog_6_method_5_code 55 = .ok (.getfield 21, 3) := by decide +kernel
theorem d_cRp_gain_58 : decode prog_6_method_5_code 58 = .ok (.aload_n 3, 1) := by decide +kernel
theorem d_cRp_gain_59 : decode prog_6_method_5_code 59 = .ok (.getfield 32, 3) := by decide +kernel
theorem d_cRp_gain_62 : decode prog_6_method_5_code 62 = .ok (.aconst_null, 1) := by decide +kernel
theorem d_cRp_gain_63 : decode prog_6_method_5_code 63 = .ok (.aastore, 1) := by decide +kernel
set_option maxHeartbeats 4000000 in
set_option maxRecDepth 100000 in
theorem w_cRp_gain_B25 {p : Program} {l : Launch} {e : Env} {s : State} {m : MethodId} {args : Array Value} {below : List Frame} {meth : Method} {c : Code} {A : Nat → Prop} {D : va_G} {ad : Nat → Nat → Nat} {cc : Nat → ClassId} {sad sav : Nat → Nat} {Q : State → Prop} (hC : MCc sad sav "JoinedTrees$Replica" prog_6_method_5_code 4 none p s m args meth c A D cc) {N : Nat → Nat} {x0 : Nat} {S : CS} {x1 : Option Nat} {x2 : Int32} {o : ((CS × Option Nat × Int32) ⊕ (CS × Option Nat))} (Heq : m_cRp_gain_B25 N x0 S x1 x2 = some o) (Ka : ∀ b : CS × Option Nat × Int32, o = .inl b → ∀ (H : Heap) (locs : List Loc) (ls : Array Slot), va_P D cls (cw ad cc N b.1) H → va_D A (cw ad cc N b.1) → va_S A s.heap H locs → lv_has ls 4 [(0, .ref (ad 4 x0)), (1, rv ad 0 b.2.1), (2, .int b.2.2)] → W p l e ({ frames := 0, cells := 0, slots := 0, locals := 0 }) s m args below meth c H locs 0 0 Q (F0 m 25 ls [])) (K0 : ∀ b : CS × Option Nat, o = .inr b → ∀ (H : Heap) (locs : List Loc) (ls : Array Slot), va_P D cls (cw ad cc N b.1) H → va_D A (cw ad cc N b.1) → va_S A s.heap H locs → lv_has ls 4 [(0, .ref (ad 4 x0)), (1, rv ad 0 b.2)] → W p l e ({ frames := 0, cells := 0, slots := 0, locals := 0 }) s m args below meth c H locs 0 0 Q (F0 m 70 ls [])) : ∀ (H : Heap) (locs : List Loc) (ls : Array Slot), va_P D cls (cw ad cc N S) H → va_D A (cw ad cc N S) → va_S A s.heap H locs → lv_has ls 4 [(0, .ref (ad 4 x0)), (1, rv ad 0 x1), (2, .int x2)] → W p l e ({ frames := 0, cells := 0, slots := 0, locals := 0 }) s m args below meth c H locs 0 0 Q (F0 m 25 ls []) := by
  intro H locs ls hP hD hS hl
  obtain ⟨hx, hb, hr, hml, hown, hts, hK, hA, hev, hE, hN, hNS⟩ := id hC
  unfold m_cRp_gain_B25 at Heq
  refine lv_iload_n hx hb d_cRp_gain_25 rfl (lv_at hl 2 rfl) ?_
  refine tx_aload_n (x := x1.map (ad 0)) hx hb d_cRp_gain_26 rfl (lv_at hl 1 rfl) ?_
  refine w_v (y := rv ad 0 x1) rfl ?_
  obtain ⟨j_1, hj_2, hl_3, Heq⟩ := gn_some Heq
  refine w_s (st' := [.ref (ad 0 j_1), .int x2]) (congrArg (fun z9 : Option Nat => [rv ad 0 z9, .int x2]) hj_2) ?_
  refine va_get (D := D) (ci := 0) (v := rv ad 16 (S.r 0 5 j_1)) (C := R_Ch) (T := F_Ch) (N := 7) hx hb hts i_Ch hown hK hP (cPos N 0 j_1) (cw_obj (k := 0) (by decide) hl_3) rfl 5 (by decide) (hts _ kw_1027) (fun _ h9 => h9) rfl d_cRp_gain_27 ?_
  obtain ⟨j_4, hj_5, hl_6, Heq⟩ := gn_some Heq
  refine w_s (st' := [.ref (ad 16 j_4), .int x2]) (congrArg (fun z9 : Option Nat => [rv ad 16 z9, .int x2]) hj_5) ?_
  refine va_alen (v := nI (S.z 16 j_4)) hx hb hK hP (cPos N 16 j_4) 4 (cw_refs (k := 16) (by decide) hl_6) rfl rfl d_cRp_gain_30 ?_
  refine lv_icmp_ge (tgt := 70) hx hb d_cRp_gain_31 (by decide) (fun c_7 => ?_) (fun c_7 => ?_)
  · replace Heq := (if_pos c_7).symm.trans Heq
    exact K0 _ (Option.some.inj Heq).symm _ _ _ hP hD hS (lv_sub hl [0, 1] rfl)
  · replace Heq := (if_neg c_7).symm.trans Heq
    refine tx_aload_n (x := x1.map (ad 0)) hx hb d_cRp_gain_34 rfl (lv_at hl 1 rfl) ?_
    refine w_v (y := rv ad 0 x1) rfl ?_
    refine w_s (st' := [.ref (ad 0 j_1)]) (congrArg (fun z9 : Option Nat => [rv ad 0 z9]) hj_2) ?_
    refine va_get (D := D) (ci := 0) (v := rv ad 16 (S.r 0 5 j_1)) (C := R_Ch) (T := F_Ch) (N := 7) hx hb hts i_Ch hown hK hP (cPos N 0 j_1) (cw_obj (k := 0) (by decide) hl_3) rfl 5 (by decide) (hts _ kw_1027) (fun _ h9 => h9) rfl d_cRp_gain_35 ?_
    refine lv_iload_n hx hb d_cRp_gain_38 rfl (lv_at hl 2 rfl) ?_
    refine w_s (st' := [.int x2, .ref (ad 16 j_4)]) (congrArg (fun z9 : Option Nat => [.int x2, rv ad 16 z9]) hj_5) ?_
    obtain ⟨hi_8, Heq⟩ := gd_some Heq
    refine va_aldq hx hb hK hP (cPos N 16 j_4) 4 (cw_refs (k := 16) (by decide) hl_6) rfl (i := x2) hi_8 d_cRp_gain_39 ?_
    refine w_v (y := rv ad 0 (S.q 16 j_4 x2.toNatClampNeg)) (congrArg (rv ad 0) rfl) ?_
    refine tx_astore_n (x := (S.q 16 j_4 x2.toNatClampNeg).map (ad 0)) (lv' := [(3, rv ad 0 (S.q 16 j_4 x2.toNatClampNeg)), (0, .ref (ad 4 x0)), (1, rv ad 0 x1), (2, .int x2)]) hx hb d_cRp_gain_40 rfl hl (by decide) rfl (fun ls hl => ?_)
    refine lv_aload_n hx hb d_cRp_gain_41 rfl (lv_at hl 1 rfl) ?_
    obtain ⟨hl_x0_4, Heq⟩ := gl_some Heq
    refine va_get (D := D) (ci := 4) (v := rv ad 16 (S.r 4 3 x0)) (C := R_Rp) (T := F_Rp) (N := 10) hx hb hts i_Rp hown hK hP (cPos N 4 x0) (cw_obj (k := 4) (by decide) hl_x0_4) rfl 3 (by decide) (hts _ kw_213) (fun _ h9 => h9) rfl d_cRp_gain_42 ?_
    refine tx_aload_n (x := (S.q 16 j_4 x2.toNatClampNeg).map (ad 0)) hx hb d_cRp_gain_45 rfl (lv_at hl 0 rfl) ?_
    refine w_v (y := rv ad 0 (S.q 16 j_4 x2.toNatClampNeg)) rfl ?_
    obtain ⟨j_9, hj_10, hl_11, Heq⟩ := gn_some Heq
    refine w_s (st' := [.ref (ad 0 j_9), rv ad 16 (S.r 4 3 x0)]) (congrArg (fun z9 : Option Nat => [rv ad 0 z9, rv ad 16 (S.r 4 3 x0)]) hj_10) ?_
    refine va_get (D := D) (ci := 0) (v := .int (S.i 0 0 j_9)) (C := R_Ch) (T := F_Ch) (N := 7) hx hb hts i_Ch hown hK hP (cPos N 0 j_9) (cw_obj (k := 0) (by decide) hl_11) rfl 0 (by decide) (hts _ kw_1009) (fun _ h9 => h9) rfl d_cRp_gain_46 ?_
    obtain ⟨j_12, hj_13, hl_14, Heq⟩ := gn_some Heq
    refine w_s (st' := [.int (S.i 0 0 j_9), .ref (ad 16 j_12)]) (congrArg (fun z9 : Option Nat => [.int (S.i 0 0 j_9), rv ad 16 z9]) hj_13) ?_
    obtain ⟨hi_15, Heq⟩ := gd_some Heq
    refine va_aldq hx hb hK hP (cPos N 16 j_12) 4 (cw_refs (k := 16) (by decide) hl_14) rfl (i := S.i 0 0 j_9) hi_15 d_cRp_gain_49 ?_
    refine w_v (y := rv ad 0 (S.q 16 j_12 ((S.i 0 0 j_9).toNatClampNeg))) (congrArg (rv ad 0) rfl) ?_
    refine tx_aload_n (x := (S.q 16 j_4 x2.toNatClampNeg).map (ad 0)) hx hb d_cRp_gain_50 rfl (lv_at hl 0 rfl) ?_
    refine w_v (y := rv ad 0 (S.q 16 j_4 x2.toNatClampNeg)) rfl ?_
    obtain ⟨hv_16, Heq⟩ := gv_some Heq
    obtain ⟨hv_17, Heq⟩ := gv_some Heq
    have ec_18 := rv_eq hD (k := 0) (by decide) (x := (S.q 16 j_12 ((S.i 0 0 j_9).toNatClampNeg))) (y := (S.q 16 j_4 x2.toNatClampNeg)) hv_16 hv_17
    refine lv_acmp_ne (rx := (S.q 16 j_12 ((S.i 0 0 j_9).toNatClampNeg)).map (ad 0)) (ry := (S.q 16 j_4 x2.toNatClampNeg).map (ad 0)) (tgt := 64) hx hb d_cRp_gain_51 (by decide) (fun c_18 => ?_) (fun c_18 => ?_)
    · replace Heq := (if_neg (fun q9 => c_18 (ec_18.mpr q9))).symm.trans Heq
      exact w_cRp_gain_J64 hC Heq Ka K0 _ _ _ hP hD hS (lv_sub hl [1, 2, 3] rfl)
    · replace Heq := (if_pos (ec_18.mp c_18)).symm.trans Heq
      refine lv_aload_n hx hb d_cRp_gain_54 rfl (lv_at hl 1 rfl) ?_
      refine va_get (D := D) (ci := 4) (v := rv ad 16 (S.r 4 3 x0)) (C := R_Rp) (T := F_Rp) (N := 10) hx hb hts i_Rp hown hK hP (cPos N 4 x0) (cw_obj (k := 4) (by decide) hl_x0_4) rfl 3 (by decide) (hts _ kw_213) (fun _ h9 => h9) rfl d_cRp_gain_55 ?_
      refine tx_aload_n (x := (S.q 16 j_4 x2.toNatClampNeg).map (ad 0)) hx hb d_cRp_gain_58 rfl (lv_at hl 0 rfl) ?_
      refine w_v (y := rv ad 0 (S.q 16 j_4 x2.toNatClampNeg)) rfl ?_
      refine w_s (st' := [.ref (ad 0 j_9), rv ad 16 (S.r 4 3 x0)]) (congrArg (fun z9 : Option Nat => [rv ad 0 z9, rv ad 16 (S.r 4 3 x0)]) hj_10) ?_
      refine va_get (D := D) (ci := 0) (v := .int (S.i 0 0 j_9)) (C := R_Ch) (T := F_Ch) (N := 7) hx hb hts i_Ch hown hK hP (cPos N 0 j_9) (cw_obj (k := 0) (by decide) hl_11) rfl 0 (by decide) (hts _ kw_1009) (fun _ h9 => h9) rfl d_cRp_gain_59 ?_
      refine lv_null hx hb d_cRp_gain_62 ?_
      refine w_s (st' := [.null, .int (S.i 0 0 j_9), .ref (ad 16 j_12)]) (congrArg (fun z9 : Option Nat => [.null, .int (S.i 0 0 j_9), rv ad 16 z9]) hj_13) ?_
      obtain ⟨hi_19, Heq⟩ := gd_some Heq
      refine va_astqN hx hb hK hP hD hS (cPos N 16 j_12) 4 (cw_refs (k := 16) (by decide) hl_14) rfl (i := S.i 0 0 j_9) hi_19 d_cRp_gain_63 (fun H locs hP hD hS => ?_)
      have hD := (congrArg (fun w9 => va_D A w9) (cw_setQ (ad := ad) (cc := cc) (S := S) (k := 16) (i := (S.i 0 0 j_9).toNatClampNeg) (v := none) (by decide) hl_14)).mp hD
      have hP := (congrArg (fun w9 => va_P D cls w9 H) (cw_setQ (ad := ad) (cc := cc) (S := S) (k := 16) (i := (S.i 0 0 j_9).toNatClampNeg) (v := none) (by decide) hl_14)).mp hP
      exact w_cRp_gain_J64 hC Heq Ka K0 _ _ _ hP hD hS (lv_sub hl [1, 2, 3] rfl)
def m_cRp_gain_L25 (N : Nat → Nat) (x0 : Nat) (S : CS) (x1 : Option Nat) (x2 : Int32) : Option (CS × Option Nat) := lp (fun a : CS × Option Nat × Int32 => m_cRp_gain_B25 N x0 a.1 a.2.1 a.2.2) FU (S, x1, x2)
theorem w_cRp_gain_L25 {p : Program} {l : Launch} {e : Env} {s : State} {m : MethodId} {args : Array Value} {below : List Frame} {meth : Method} {c : Code} {A : Nat → Prop} {D : va_G} {ad : Nat → Nat → Nat} {cc : Nat → ClassId} {sad sav : Nat → Nat} {Q : State → Prop} (hC : MCc sad sav "JoinedTrees$Replica" prog_6_method_5_code 4 none p s m args meth c A D cc) {N : Nat → Nat} {x0 : Nat} {S : CS} {x1 : Option Nat} {x2 : Int32} {o : CS × Option Nat} (Heq : m_cRp_gain_L25 N x0 S x1 x2 = some o) (K0 : ∀ b : CS × Option Nat, o = b → ∀ (H : Heap) (locs : List Loc) (ls : Array Slot), va_P D cls (cw ad cc N b.1) H → va_D A (cw ad cc N b.1) → va_S A s.heap H locs → lv_has ls 4 [(0, .ref (ad 4 x0)), (1, rv ad 0 b.2)] → W p l e ({ frames := 0, cells := 0, slots := 0, locals := 0 }) s m args below meth c H locs 0 0 Q (F0 m 70 ls [])) : ∀ (H : Heap) (locs : List Loc) (ls : Array Slot), va_P D cls (cw ad cc N S) H → va_D A (cw ad cc N S) → va_S A s.heap H locs → lv_has ls 4 [(0, .ref (ad 4 x0)), (1, rv ad 0 x1), (2, .int x2)] → W p l e ({ frames := 0, cells := 0, slots := 0, locals := 0 }) s m args below meth c H locs 0 0 Q (F0 m 25 ls []) := by
  refine lp_w (G := fun a : CS × Option Nat × Int32 => ∀ (H : Heap) (locs : List Loc) (ls : Array Slot), va_P D cls (cw ad cc N a.1) H → va_D A (cw ad cc N a.1) → va_S A s.heap H locs → lv_has ls 4 [(0, .ref (ad 4 x0)), (1, rv ad 0 a.2.1), (2, .int a.2.2)] → W p l e ({ frames := 0, cells := 0, slots := 0, locals := 0 }) s m args below meth c H locs 0 0 Q (F0 m 25 ls [])) ?_ FU (S, x1, x2) Heq
  intro a o1 ho Ka Ke
  exact w_cRp_gain_B25 hC ho (fun b h => Ka b h) (fun b h => K0 b (Ke _ h).symm)
def m_cRp_gain_J0 (N : Nat → Nat) (x0 : Nat) (S : CS) (x1 : Nat) : Option CS := gl x0 (N 4) (gl x1 (N 0) (gn (S.r 4 1 x0) (N 12) (fun j_1 => gd (S.i 0 0 x1) (S.z 12 j_1) (ob (m_cRp_gain_L25 N x0 ((S.setA 12 j_1 ((S.i 0 0 x1).toNatClampNeg) (S.i 0 1 x1)).setI 4 5 x0 ((S.i 4 5 x0) + 1)) (some x1) 0) (fun b_5 => gn b_5.2 (N 0) (fun j_7 => gn (b_5.1.r 4 3 x0) (N 16) (fun j_10 => gd (b_5.1.i 0 0 j_7) (b_5.1.z 16 j_10) (some (b_5.1.setQ 16 j_10 ((b_5.1.i 0 0 j_7).toNatClampNeg) (some j_7))))))))))
theorem d_cRp_gain_70 : decode prog_6_method_5_code 70 = .ok (.aload_n 0, 1) := by decide +kernel
theorem d_cRp_gain_71 : decode prog_6_method_5_code 71 = .ok (.getfield 21, 3) := by decide +kernel
theorem d_cRp_gain_74 : decode prog_6_method_5_code 74 = .ok (.aload_n 1, 1) := by decide +kernel
theorem d_cRp_gain_75 : decode prog_6_method_5_code 75 = .ok (.getfield 32, 3) := by decide +kernel
theorem d_cRp_gain_78 : decode prog_6_method_5_code 78 = .ok (.aload_n 1, 1) := by decide +kernel
theorem d_cRp_gain_79 : decode prog_6_method_5_code 79 = .ok (.aastore, 1) := by decide +kernel
theorem d_cRp_gain_80 : decode prog_6_method_5_code 80 = .ok (.return_, 1) := by decide +kernel
set_option maxHeartbeats 4000000 in
set_option maxRecDepth 100000 in
theorem w_cRp_gain_J0 {p : Program} {l : Launch} {e : Env} {s : State} {m : MethodId} {args : Array Value} {below : List Frame} {meth : Method} {c : Code} {A : Nat → Prop} {D : va_G} {ad : Nat → Nat → Nat} {cc : Nat → ClassId} {sad sav : Nat → Nat} {Q : State → Prop} (hC : MCc sad sav "JoinedTrees$Replica" prog_6_method_5_code 4 none p s m args meth c A D cc) {N : Nat → Nat} {x0 : Nat} {S : CS} {x1 : Nat} {o : CS} (Heq : m_cRp_gain_J0 N x0 S x1 = some o) (Kr : ∀ r : CS, o = r → ∀ (pc : Nat) (H : Heap) (locs : List Loc) (ls : Array Slot), decode prog_6_method_5_code pc = .ok (.return_, 1) → va_P D cls (cw ad cc N r) H → va_D A (cw ad cc N r) → va_S A s.heap H locs → W p l e ({ frames := 0, cells := 0, slots := 0, locals := 0 }) s m args below meth c H locs 0 0 Q (F0 m pc ls [])) : ∀ (H : Heap) (locs : List Loc) (ls : Array Slot), va_P D cls (cw ad cc N S) H → va_D A (cw ad cc N S) → va_S A s.heap H locs → lv_has ls 4 [(0, .ref (ad 4 x0)), (1, .ref (ad 0 x1))] → W p l e ({ frames := 0, cells := 0, slots := 0, locals := 0 }) s m args below meth c H locs 0 0 Q (F0 m 0 ls []) := by
  intro H locs ls hP hD hS hl
  obtain ⟨hx, hb, hr, hml, hown, hts, hK, hA, hev, hE, hN, hNS⟩ := id hC
  unfold m_cRp_gain_J0 at Heq
  refine lv_aload_n hx hb d_cRp_gain_0 rfl (lv_at hl 0 rfl) ?_
  obtain ⟨hl_x0_4, Heq⟩ := gl_some Heq
  refine va_get (D := D) (ci := 4) (v := rv ad 12 (S.r 4 1 x0)) (C := R_Rp) (T := F_Rp) (N := 10) hx hb hts i_Rp hown hK hP (cPos N 4 x0) (cw_obj (k := 4) (by decide) hl_x0_4) rfl 1 (by decide) (hts _ kw_205) (fun _ h9 => h9) rfl d_cRp_gain_1 ?_
  refine lv_aload_n hx hb d_cRp_gain_4 rfl (lv_at hl 1 rfl) ?_
  obtain ⟨hl_x1_0, Heq⟩ := gl_some Heq
  refine va_get (D := D) (ci := 0) (v := .int (S.i 0 0 x1)) (C := R_Ch) (T := F_Ch) (N := 7) hx hb hts i_Ch hown hK hP (cPos N 0 x1) (cw_obj (k := 0) (by decide) hl_x1_0) rfl 0 (by decide) (hts _ kw_1009) (fun _ h9 => h9) rfl d_cRp_gain_5 ?_
  refine lv_aload_n hx hb d_cRp_gain_8 rfl (lv_at hl 1 rfl) ?_
  refine va_get (D := D) (ci := 0) (v := .int (S.i 0 1 x1)) (C := R_Ch) (T := F_Ch) (N := 7) hx hb hts i_Ch hown hK hP (cPos N 0 x1) (cw_obj (k := 0) (by decide) hl_x1_0) rfl 1 (by decide) (hts _ kw_1014) (fun _ h9 => h9) rfl d_cRp_gain_9 ?_
  obtain ⟨j_1, hj_2, hl_3, Heq⟩ := gn_some Heq
  refine w_s (st' := [.int (S.i 0 1 x1), .int (S.i 0 0 x1), .ref (ad 12 j_1)]) (congrArg (fun z9 : Option Nat => [.int (S.i 0 1 x1), .int (S.i 0 0 x1), rv ad 12 z9]) hj_2) ?_
  obtain ⟨hi_4, Heq⟩ := gd_some Heq
  refine va_iast hx hb hK hP hD hS (cPos N 12 j_1) 0 (cw_arr (k := 12) (by decide) hl_3) rfl (i := S.i 0 0 x1) (x := S.i 0 1 x1) hi_4 d_cRp_gain_12 (fun H locs hP hD hS => ?_)
  have hD := (congrArg (fun w9 => va_D A w9) (cw_setA (ad := ad) (cc := cc) (S := S) (k := 12) (i := (S.i 0 0 x1).toNatClampNeg) (v := (S.i 0 1 x1)) (by decide) hl_3)).mp hD
  have hP := (congrArg (fun w9 => va_P D cls w9 H) (cw_setA (ad := ad) (cc := cc) (S := S) (k := 12) (i := (S.i 0 0 x1).toNatClampNeg) (v := (S.i 0 1 x1)) (by decide) hl_3)).mp hP
  refine lv_aload_n hx hb d_cRp_gain_13 rfl (lv_at hl 0 rfl) ?_
  refine lv_dup hx hb d_cRp_gain_14 (by first | rfl | exact rv_cat) ?_
  refine va_get (D := D) (ci := 4) (v := .int ((S.setA 12 j_1 ((S.i 0 0 x1).toNatClampNeg) (S.i 0 1 x1)).i 4 5 x0)) (C := R_Rp) (T := F_Rp) (N := 10) hx hb hts i_Rp hown hK hP (cPos N 4 x0) (cw_obj (k := 4) (by decide) hl_x0_4) rfl 5 (by decide) (hts _ kw_218) (fun _ h9 => h9) rfl d_cRp_gain_15 ?_
  refine w_i (y := S.i 4 5 x0) rfl ?_
  refine lv_iconst (v := 1) hx hb d_cRp_gain_18 (by decide) ?_
  refine lv_iadd hx hb d_cRp_gain_19 ?_
  refine w_i (y := (S.i 4 5 x0) + 1) rfl ?_
  refine va_put (D := D) (ci := 4) (v := .int ((S.i 4 5 x0) + 1)) (ty := .int) (C := R_Rp) (T := F_Rp) (N := 10) hx hb hts i_Rp t_Rp t_Rp_ok n_Rp hown hK hP hD hS (cPos N 4 x0) (cw_obj (k := 4) (by decide) hl_x0_4) rfl 5 (by decide) (hts _ kw_218) (fun _ h9 => h9) rfl (by decide +kernel) rfl rfl (Nat.le_of_ble_eq_true rfl) d_cRp_gain_20 (fun H locs hP hD hS => ?_)
  have hD := (congrArg (fun w9 => va_D A w9) (cw_setI (ad := ad) (cc := cc) (S := (S.setA 12 j_1 ((S.i 0 0 x1).toNatClampNeg) (S.i 0 1 x1))) (k := 4) (f := 5) (v := (S.i 4 5 x0) + 1) (by decide) rfl hl_x0_4)).mp hD
  have hP := (congrArg (fun w9 => va_P D cls w9 H) (cw_setI (ad := ad) (cc := cc) (S := (S.setA 12 j_1 ((S.i 0 0 x1).toNatClampNeg) (S.i 0 1 x1))) (k := 4) (f := 5) (v := (S.i 4 5 x0) + 1) (by decide) rfl hl_x0_4)).mp hP
  refine lv_iconst (v := 0) hx hb d_cRp_gain_23 (by decide) ?_
  refine lv_istore_n (lv' := [(2, .int 0), (0, .ref (ad 4 x0)), (1, .ref (ad 0 x1))]) hx hb d_cRp_gain_24 rfl hl (by decide) rfl (fun ls hl => ?_)
  obtain ⟨b_5, h_6, Heq⟩ := ob_some Heq
  refine w_cRp_gain_L25 hC h_6 (fun b h => ?_) _ _ _ hP hD hS (lv_sub hl [1, 2, 0] rfl)
  subst h
  intro H locs ls hP hD hS hl
  refine lv_aload_n hx hb d_cRp_gain_70 rfl (lv_at hl 0 rfl) ?_
  refine va_get (D := D) (ci := 4) (v := rv ad 16 (b_5.1.r 4 3 x0)) (C := R_Rp) (T := F_Rp) (N := 10) hx hb hts i_Rp hown hK hP (cPos N 4 x0) (cw_obj (k := 4) (by decide) hl_x0_4) rfl 3 (by decide) (hts _ kw_213) (fun _ h9 => h9) rfl d_cRp_gain_71 ?_
  refine tx_aload_n (x := b_5.2.map (ad 0)) hx hb d_cRp_gain_74 rfl (lv_at hl 1 rfl) ?_
  refine w_v (y := rv ad 0 b_5.2) rfl ?_
  obtain ⟨j_7, hj_8, hl_9, Heq⟩ := gn_some Heq
  refine w_s (st' := [.ref (ad 0 j_7), rv ad 16 (b_5.1.r 4 3 x0)]) (congrArg (fun z9 : Option Nat => [rv ad 0 z9, rv ad 16 (b_5.1.r 4 3 x0)]) hj_8) ?_
  refine va_get (D := D) (ci := 0) (v := .int (b_5.1.i 0 0 j_7)) (C := R_Ch) (T := F_Ch) (N := 7) hx hb hts i_Ch hown hK hP (cPos N 0 j_7) (cw_obj (k := 0) (by decide) hl_9) rfl 0 (by decide) (hts _ kw_1009) (fun _ h9 => h9) rfl d_cRp_gain_75 ?_
  refine tx_aload_n (x := b_5.2.map (ad 0)) hx hb d_cRp_gain_78 rfl (lv_at hl 1 rfl) ?_
  refine w_v (y := rv ad 0 b_5.2) rfl ?_
  obtain ⟨j_10, hj_11, hl_12, Heq⟩ := gn_some Heq
  refine w_s (st' := [rv ad 0 b_5.2, .int (b_5.1.i 0 0 j_7), .ref (ad 16 j_10)]) (congrArg (fun z9 : Option Nat => [rv ad 0 b_5.2, .int (b_5.1.i 0 0 j_7), rv ad 16 z9]) hj_11) ?_
  obtain ⟨hi_13, Heq⟩ := gd_some Heq
  refine w_s (st' := [.ref (ad 0 j_7), .int (b_5.1.i 0 0 j_7), .ref (ad 16 j_10)]) (congrArg (fun z9 : Option Nat => [rv ad 0 z9, .int (b_5.1.i 0 0 j_7), .ref (ad 16 j_10)]) hj_8) ?_
  refine va_astq hx hb hK hP hD hS (cPos N 16 j_10) 4 (cPos N 0 j_7) 0 (cw_refs (k := 16) (by decide) hl_12) rfl (cw_obj (k := 0) (by decide) hl_9) rfl (i := b_5.1.i 0 0 j_7) hi_13 d_cRp_gain_79 (fun H locs hP hD hS => ?_)
  have hD := (congrArg (fun w9 => va_D A w9) (cw_setQ (ad := ad) (cc := cc) (S := b_5.1) (k := 16) (i := (b_5.1.i 0 0 j_7).toNatClampNeg) (v := (some j_7)) (by decide) hl_12)).mp hD
  have hP := (congrArg (fun w9 => va_P D cls w9 H) (cw_setQ (ad := ad) (cc := cc) (S := b_5.1) (k := 16) (i := (b_5.1.i 0 0 j_7).toNatClampNeg) (v := (some j_7)) (by decide) hl_12)).mp hP
  exact Kr _ (Option.some.inj Heq).symm 80 _ _ _ d_cRp_gain_80 hP hD hS
def m_cRp_gain (N : Nat → Nat) (x0 : Nat) (S : CS) (x1 : Nat) : Option CS := m_cRp_gain_J0 N x0 S x1
set_option maxHeartbeats 4000000 in
theorem g_cRp_gain (l : Launch) (D : va_G) (sz : Nat) {ad : Nat → Nat → Nat} {cc : Nat → ClassId} {sad sav : Nat → Nat} {N : Nat → Nat} {x0 : Nat} {S : CS} {x1 : Nat} {o : CS} (Heq : m_cRp_gain N x0 S x1 = some o) : Met l ⟨"JoinedTrees$Replica", "gain", "(LJoinedTrees$Change;)V"⟩ (Cond.code ⟨"JoinedTrees$Replica", "gain", "(LJoinedTrees$Change;)V"⟩ prog_6_method_5_code 4 none :: gb) ({ frames := 0, cells := 0, slots := 0, locals := 0 }) (cPc sad sav D (cw ad cc N S) (cty cc) sz [.ref (ad 4 x0), .ref (ad 0 x1)]) (va_Qv (fun _ : Unit => True) (fun _ t => gO D (cw ad cc N o) (cty cc) (va_A (cw ad cc N S) sz) t) (va_A (cw ad cc N S) sz)) 0 0 (va_A (cw ad cc N S) sz) := by
  refine Met.ofW (cc := prog_6_method_5_code) (maxL := 4) (ret := none) (by decide) rfl ?_
  intro p e s m args below meth c s₁ B hml hv
  obtain ⟨rfl, hsz, hP, hK, hD0, hev, hE, hN⟩ := hv
  have hx := B.exec
  have hb := B.bytes
  have hr := B.returns
  have hts : ∀ w9 ∈ gb, w9.before [.ref (ad 4 x0), .ref (ad 0 x1)].toArray s = true := fun w9 h => atoms_spec (ws := Cond.code ⟨"JoinedTrees$Replica", "gain", "(LJoinedTrees$Change;)V"⟩ prog_6_method_5_code 4 none :: gb) B.pre w9 (List.mem_cons_of_mem _ h)
  have hown : s.vm.findClass "JoinedTrees$Replica" = some m.cls := findClass_of_methodNamed B.named
  have hlocks := B.notSynchronized
  have hNS := ns_of hP
  subst hsz
  have hD := hD0.self (sz := s.heap.size)
  generalize hAe : va_A (cw ad cc N S) s.heap.size = A at hD hev hE hNS ⊢
  have hA : ∀ q : Nat, s.heap.size ≤ q → A q := fun q h => by rw [← hAe]; exact Or.inr h
  have hS : va_S A s.heap s.heap [] := va_S.rf
  obtain ⟨ls, hl, hle⟩ : ∃ ls : Array Slot, lv_has ls 4 [(0, .ref (ad 4 x0)), (1, .ref (ad 0 x1))] ∧ entryFrame m ([.ref (ad 4 x0), .ref (ad 0 x1)] : List Value).toArray 4 = F0 m 0 ls [] := by
    exact ⟨_, lv_entry (n := 4) _ (Nat.le_of_ble_eq_true rfl), lg_entry_eq ..⟩
  rw [hle]
  refine w_cRp_gain_J0 ⟨hx, hb, hr, hml, hown, hts, hK, hA, hev, hE, hN, hNS⟩ Heq (fun r h pc H locs ls hd hP hD hS => ?_) _ _ _ hP hD hS (lv_sub hl [0, 1] rfl)
  subst h
  exact W.vret hx hb hr (fun t ht hW => ⟨⟨(), rfl, trivial, by rw [ht]; exact hP, va_K.moved hW.alike hK, hD⟩, hS.F ht⟩) hS.2.2 hd
def m_cSt_forget_J25 (N : Nat → Nat) (x0 : Nat) (S : CS) : Option CS := some S
theorem d_cSt_forget_0 : decode prog_10_method_3_code 0 = .ok (.aload_n 0, 1) := by decide +kernel
theorem d_cSt_forget_1 : decode prog_10_method_3_code 1 = .ok (.getfield 20, 3) := by decide +kernel
theorem d_cSt_forget_4 : decode prog_10_method_3_code 4 = .ok (.iload_n 1, 1) := by decide +kernel
theorem d_cSt_forget_5 : decode prog_10_method_3_code 5 = .ok (.aaload, 1) := by decide +kernel
theorem d_cSt_forget_6 : decode prog_10_method_3_code 6 = .ok (.astore_n 2, 1) := by decide +kernel
theorem d_cSt_forget_7 : decode prog_10_method_3_code 7 = .ok (.aload_n 2, 1) := by decide +kernel
theorem d_cSt_forget_8 : decode prog_10_method_3_code 8 = .ok (.ifnull 17, 3) := by decide +kernel
theorem d_cSt_forget_25 : decode prog_10_method_3_code 25 = .ok (.return_, 1) := by decide +kernel
set_option maxHeartbeats 4000000 in
set_option maxRecDepth 100000 in
theorem w_cSt_forget_J25 {p : Program} {l : Launch} {e : Env} {s : State} {m : MethodId} {args : Array Value} {below : List Frame} {meth : Method} {c : Code} {A : Nat → Prop} {D : va_G} {ad : Nat → Nat → Nat} {cc : Nat → ClassId} {sad sav : Nat → Nat} {Q : State → Prop} (hC : MCc sad sav "JoinedTrees$Store" prog_10_method_3_code 3 none p s m args meth c A D cc) {N : Nat → Nat} {x0 : Nat} {S : CS} {o : CS} (Heq : m_cSt_forget_J25 N x0 S = some o) (Kr : ∀ r : CS, o = r → ∀ (pc : Nat) (H : Heap) (locs : List Loc) (ls : Array Slot), decode prog_10_method_3_code pc = .ok (.return_, 1) → va_P D cls (cw ad cc N r) H → va_D A (cw ad cc N r) → va_S A s.heap H locs → W p l e ({ frames := 0, cells := 0, slots := 0, locals := 0 }) s m args below meth c H locs 0 0 Q (F0 m pc ls [])) : ∀ (H : Heap) (locs : List Loc) (ls : Array Slot), va_P D cls (cw ad cc N S) H → va_D A (cw ad cc N S) → va_S A s.heap H locs → lv_has ls 3 [(0, .ref (ad 8 x0))] → W p l e ({ frames := 0, cells := 0, slots := 0, locals := 0 }) s m args below meth c H locs 0 0 Q (F0 m 25 ls []) := by
  intro H locs ls hP hD hS hl
  obtain ⟨hx, hb, hr, hml, hown, hts, hK, hA, hev, hE, hN, hNS⟩ := id hC
  unfold m_cSt_forget_J25 at Heq
  exact Kr _ (Option.some.inj Heq).symm 25 _ _ _ d_cSt_forget_25 hP hD hS
def m_cSt_forget_J0 (N : Nat → Nat) (x0 : Nat) (S : CS) (x1 : Int32) : Option CS := gl x0 (N 8) (gn (S.r 8 1 x0) (N 15) (fun j_1 => gd x1 (S.z 15 j_1) (on (S.q 15 j_1 x1.toNatClampNeg) (m_cSt_forget_J25 N x0 S) (fun j_5 => gl j_5 (N 3) (gd x1 (S.z 15 j_1) (m_cSt_forget_J25 N x0 ((S.setI 3 4 j_5 1002).setQ 15 j_1 x1.toNatClampNeg none)))))))
theorem d_cSt_forget_11 : decode prog_10_method_3_code 11 = .ok (.aload_n 2, 1) := by decide +kernel
theorem d_cSt_forget_12 : decode prog_10_method_3_code 12 = .ok (.sipush 1002, 3) := by decide +kernel
theorem d_cSt_forget_15 : decode prog_10_method_3_code 15 = .ok (.putfield 61, 3) := by decide +kernel
theorem d_cSt_forget_18 : decode prog_10_method_3_code 18 = .ok (.aload_n 0, 1) := by decide +kernel
theorem d_cSt_forget_19 : decode prog_10_method_3_code 19 = .ok (.getfield 20, 3) := by decide +kernel
theorem d_cSt_forget_22 : decode prog_10_method_3_code 22 = .ok (.iload_n 1, 1) := by decide +kernel
theorem d_cSt_forget_23 : decode prog_10_method_3_code 23 = .ok (.aconst_null, 1) := by decide +kernel
theorem d_cSt_forget_24 : decode prog_10_method_3_code 24 = .ok (.aastore, 1) := by decide +kernel
set_option maxHeartbeats 4000000 in
set_option maxRecDepth 100000 in
theorem w_cSt_forget_J0 {p : Program} {l : Launch} {e : Env} {s : State} {m : MethodId} {args : Array Value} {below : List Frame} {meth : Method} {c : Code} {A : Nat → Prop} {D : va_G} {ad : Nat → Nat → Nat} {cc : Nat → ClassId} {sad sav : Nat → Nat} {Q : State → Prop} (hC : MCc sad sav "JoinedTrees$Store" prog_10_method_3_code 3 none p s m args meth c A D cc) {N : Nat → Nat} {x0 : Nat} {S : CS} {x1 : Int32} {o : CS} (Heq : m_cSt_forget_J0 N x0 S x1 = some o) (Kr : ∀ r : CS, o = r → ∀ (pc : Nat) (H : Heap) (locs : List Loc) (ls : Array Slot), decode prog_10_method_3_code pc = .ok (.return_, 1) → va_P D cls (cw ad cc N r) H → va_D A (cw ad cc N r) → va_S A s.heap H locs → W p l e ({ frames := 0, cells := 0, slots := 0, locals := 0 }) s m args below meth c H locs 0 0 Q (F0 m pc ls [])) : ∀ (H : Heap) (locs : List Loc) (ls : Array Slot), va_P D cls (cw ad cc N S) H → va_D A (cw ad cc N S) → va_S A s.heap H locs → lv_has ls 3 [(0, .ref (ad 8 x0)), (1, .int x1)] → W p l e ({ frames := 0, cells := 0, slots := 0, locals := 0 }) s m args below meth c H locs 0 0 Q (F0 m 0 ls []) := by
  intro H locs ls hP hD hS hl
  obtain ⟨hx, hb, hr, hml, hown, hts, hK, hA, hev, hE, hN, hNS⟩ := id hC
  unfold m_cSt_forget_J0 at Heq
  refine lv_aload_n hx hb d_cSt_forget_0 rfl (lv_at hl 0 rfl) ?_
  obtain ⟨hl_x0_8, Heq⟩ := gl_some Heq
  refine va_get (D := D) (ci := 8) (v := rv ad 15 (S.r 8 1 x0)) (C := R_St) (T := F_St) (N := 6) hx hb hts i_St hown hK hP (cPos N 8 x0) (cw_obj (k := 8) (by decide) hl_x0_8) rfl 1 (by decide) (hts _ kw_164) (fun _ h9 => h9) rfl d_cSt_forget_1 ?_
  refine lv_iload_n hx hb d_cSt_forget_4 rfl (lv_at hl 1 rfl) ?_
  obtain ⟨j_1, hj_2, hl_3, Heq⟩ := gn_some Heq
  refine w_s (st' := [.int x1, .ref (ad 15 j_1)]) (congrArg (fun z9 : Option Nat => [.int x1, rv ad 15 z9]) hj_2) ?_
  obtain ⟨hi_4, Heq⟩ := gd_some Heq
  refine va_aldq hx hb hK hP (cPos N 15 j_1) 3 (cw_refs (k := 15) (by decide) hl_3) rfl (i := x1) hi_4 d_cSt_forget_5 ?_
  refine w_v (y := rv ad 3 (S.q 15 j_1 x1.toNatClampNeg)) (congrArg (rv ad 3) rfl) ?_
  refine tx_astore_n (x := (S.q 15 j_1 x1.toNatClampNeg).map (ad 3)) (lv' := [(2, rv ad 3 (S.q 15 j_1 x1.toNatClampNeg)), (0, .ref (ad 8 x0)), (1, .int x1)]) hx hb d_cSt_forget_6 rfl hl (by decide) rfl (fun ls hl => ?_)
  refine tx_aload_n (x := (S.q 15 j_1 x1.toNatClampNeg).map (ad 3)) hx hb d_cSt_forget_7 rfl (lv_at hl 0 rfl) ?_
  refine w_v (y := rv ad 3 (S.q 15 j_1 x1.toNatClampNeg)) rfl ?_
  rcases on_some Heq with ⟨hj_6, Heq⟩ | ⟨j_5, hj_6, Heq⟩
  · refine w_s (st' := [.null]) (congrArg (fun z9 : Option Nat => [rv ad 3 z9]) hj_6) ?_
    refine lv_ifnullN (tgt := 25) hx hb d_cSt_forget_8 (by decide) ?_
    exact w_cSt_forget_J25 hC Heq Kr _ _ _ hP hD hS (lv_sub hl [1] rfl)
  · refine w_s (st' := [.ref (ad 3 j_5)]) (congrArg (fun z9 : Option Nat => [rv ad 3 z9]) hj_6) ?_
    refine lv_ifnull hx hb d_cSt_forget_8 ?_
    refine tx_aload_n (x := (S.q 15 j_1 x1.toNatClampNeg).map (ad 3)) hx hb d_cSt_forget_11 rfl (lv_at hl 0 rfl) ?_
    refine w_v (y := rv ad 3 (S.q 15 j_1 x1.toNatClampNeg)) rfl ?_
    refine lv_sipush (v := 1002) hx hb d_cSt_forget_12 (by decide) ?_
    refine w_s (st' := [.int 1002, .ref (ad 3 j_5)]) (congrArg (fun z9 : Option Nat => [.int 1002, rv ad 3 z9]) hj_6) ?_
    obtain ⟨hl_j_5_3, Heq⟩ := gl_some Heq
    refine va_put (D := D) (ci := 3) (v := .int 1002) (ty := .int) (C := R_Op) (T := F_Op) (N := 15) hx hb hts i_Op t_Op t_Op_ok n_Op hown hK hP hD hS (cPos N 3 j_5) (cw_obj (k := 3) (by decide) hl_j_5_3) rfl 4 (by decide) (hts _ kw_67) (fun _ h9 => h9) rfl (by decide +kernel) rfl rfl (Nat.le_of_ble_eq_true rfl) d_cSt_forget_15 (fun H locs hP hD hS => ?_)
    have hD := (congrArg (fun w9 => va_D A w9) (cw_setI (ad := ad) (cc := cc) (S := S) (k := 3) (f := 4) (v := 1002) (by decide) rfl hl_j_5_3)).mp hD
    have hP := (congrArg (fun w9 => va_P D cls w9 H) (cw_setI (ad := ad) (cc := cc) (S := S) (k := 3) (f := 4) (v := 1002) (by decide) rfl hl_j_5_3)).mp hP
    refine lv_aload_n hx hb d_cSt_forget_18 rfl (lv_at hl 1 rfl) ?_
    refine va_get (D := D) (ci := 8) (v := rv ad 15 ((S.setI 3 4 j_5 1002).r 8 1 x0)) (C := R_St) (T := F_St) (N := 6) hx hb hts i_St hown hK hP (cPos N 8 x0) (cw_obj (k := 8) (by decide) hl_x0_8) rfl 1 (by decide) (hts _ kw_164) (fun _ h9 => h9) rfl d_cSt_forget_19 ?_
    refine w_v (y := rv ad 15 (S.r 8 1 x0)) (congrArg (rv ad 15) rfl) ?_
    refine lv_iload_n hx hb d_cSt_forget_22 rfl (lv_at hl 2 rfl) ?_
    refine lv_null hx hb d_cSt_forget_23 ?_
    refine w_s (st' := [.null, .int x1, .ref (ad 15 j_1)]) (congrArg (fun z9 : Option Nat => [.null, .int x1, rv ad 15 z9]) hj_2) ?_
    obtain ⟨hi_7, Heq⟩ := gd_some Heq
    refine va_astqN hx hb hK hP hD hS (cPos N 15 j_1) 3 (cw_refs (k := 15) (by decide) hl_3) rfl (i := x1) hi_7 d_cSt_forget_24 (fun H locs hP hD hS => ?_)
    have hD := (congrArg (fun w9 => va_D A w9) (cw_setQ (ad := ad) (cc := cc) (S := (S.setI 3 4 j_5 1002)) (k := 15) (i := x1.toNatClampNeg) (v := none) (by decide) hl_3)).mp hD
    have hP := (congrArg (fun w9 => va_P D cls w9 H) (cw_setQ (ad := ad) (cc := cc) (S := (S.setI 3 4 j_5 1002)) (k := 15) (i := x1.toNatClampNeg) (v := none) (by decide) hl_3)).mp hP
    exact w_cSt_forget_J25 hC Heq Kr _ _ _ hP hD hS (lv_sub hl [1] rfl)
def m_cSt_forget (N : Nat → Nat) (x0 : Nat) (S : CS) (x1 : Int32) : Option CS := m_cSt_forget_J0 N x0 S x1
set_option maxHeartbeats 4000000 in
theorem g_cSt_forget (l : Launch) (D : va_G) (sz : Nat) {ad : Nat → Nat → Nat} {cc : Nat → ClassId} {sad sav : Nat → Nat} {N : Nat → Nat} {x0 : Nat} {S : CS} {x1 : Int32} {o : CS} (Heq : m_cSt_forget N x0 S x1 = some o) : Met l ⟨"JoinedTrees$Store", "forget", "(I)V"⟩ (Cond.code ⟨"JoinedTrees$Store", "forget", "(I)V"⟩ prog_10_method_3_code 3 none :: gb) ({ frames := 0, cells := 0, slots := 0, locals := 0 }) (cPc sad sav D (cw ad cc N S) (cty cc) sz [.ref (ad 8 x0), .int x1]) (va_Qv (fun _ : Unit => True) (fun _ t => gO D (cw ad cc N o) (cty cc) (va_A (cw ad cc N S) sz) t) (va_A (cw ad cc N S) sz)) 0 0 (va_A (cw ad cc N S) sz) := by
  refine Met.ofW (cc := prog_10_method_3_code) (maxL := 3) (ret := none) (by decide) rfl ?_
  intro p e s m args below meth c s₁ B hml hv
  obtain ⟨rfl, hsz, hP, hK, hD0, hev, hE, hN⟩ := hv
  have hx := B.exec
  have hb := B.bytes
  have hr := B.returns
  have hts : ∀ w9 ∈ gb, w9.before [.ref (ad 8 x0), .int x1].toArray s = true := fun w9 h => atoms_spec (ws := Cond.code ⟨"JoinedTrees$Store", "forget", "(I)V"⟩ prog_10_method_3_code 3 none :: gb) B.pre w9 (List.mem_cons_of_mem _ h)
  have hown : s.vm.findClass "JoinedTrees$Store" = some m.cls := findClass_of_methodNamed B.named
  have hlocks := B.notSynchronized
  have hNS := ns_of hP
  subst hsz
  have hD := hD0.self (sz := s.heap.size)
  generalize hAe : va_A (cw ad cc N S) s.heap.size = A at hD hev hE hNS ⊢
  have hA : ∀ q : Nat, s.heap.size ≤ q → A q := fun q h => by rw [← hAe]; exact Or.inr h
  have hS : va_S A s.heap s.heap [] := va_S.rf
  obtain ⟨ls, hl, hle⟩ : ∃ ls : Array Slot, lv_has ls 3 [(0, .ref (ad 8 x0)), (1, .int x1)] ∧ entryFrame m ([.ref (ad 8 x0), .int x1] : List Value).toArray 3 = F0 m 0 ls [] := by
    exact ⟨_, lv_entry (n := 3) _ (Nat.le_of_ble_eq_true rfl), lg_entry_eq ..⟩
  rw [hle]
  refine w_cSt_forget_J0 ⟨hx, hb, hr, hml, hown, hts, hK, hA, hev, hE, hN, hNS⟩ Heq (fun r h pc H locs ls hd hP hD hS => ?_) _ _ _ hP hD hS (lv_sub hl [0, 1] rfl)
  subst h
  exact W.vret hx hb hr (fun t ht hW => ⟨⟨(), rfl, trivial, by rw [ht]; exact hP, va_K.moved hW.alike hK, hD⟩, hS.F ht⟩) hS.2.2 hd
def m_cSt_changeAt_J43 (N : Nat → Nat) (x0 : Nat) (S : CS) (x1 : Int32) (x2 : Int32) (x3 : Int32) : Option ((CS × Int32 × Int32 × Int32) ⊕ (CS ⊕ (CS × Option Nat))) := some (.inl (S, x1, x2, (x3 + 1)))
theorem d_cSt_changeAt_0 : decode prog_10_method_12_code 0 = .ok (.iconst 0, 1) := by decide +kernel
theorem d_cSt_changeAt_1 : decode prog_10_method_12_code 1 = .ok (.istore_n 3, 1) := by decide +kernel
theorem d_cSt_changeAt_2 : decode prog_10_method_12_code 2 = .ok (.iload_n 3, 1) := by decide +kernel
theorem d_cSt_changeAt_3 : decode prog_10_method_12_code 3 = .ok (.aload_n 0, 1) := by decide +kernel
theorem d_cSt_changeAt_4 : decode prog_10_method_12_code 4 = .ok (.getfield 126, 3) := by decide +kernel
theorem d_cSt_changeAt_7 : decode prog_10_method_12_code 7 = .ok (.if_icmp .ge 42, 3) := by decide +kernel
theorem d_cSt_changeAt_10 : decode prog_10_method_12_code 10 = .ok (.aload_n 0, 1) := by decide +kernel
theorem d_cSt_changeAt_11 : decode prog_10_method_12_code 11 = .ok (.getfield 35, 3) := by decide +kernel
theorem d_cSt_changeAt_14 : decode prog_10_method_12_code 14 = .ok (.iload_n 3, 1) := by decide +kernel
theorem d_cSt_changeAt_15 : decode prog_10_method_12_code 15 = .ok (.aaload, 1) := by decide +kernel
theorem d_cSt_changeAt_16 : decode prog_10_method_12_code 16 = .ok (.getfield 151, 3) := by decide +kernel
theorem d_cSt_changeAt_19 : decode prog_10_method_12_code 19 = .ok (.iload_n 1, 1) := by decide +kernel
theorem d_cSt_changeAt_20 : decode prog_10_method_12_code 20 = .ok (.if_icmp .ne 23, 3) := by decide +kernel
theorem d_cSt_changeAt_43 : decode prog_10_method_12_code 43 = .ok (.iinc 3 1, 3) := by decide +kernel
theorem d_cSt_changeAt_46 : decode prog_10_method_12_code 46 = .ok (.goto (-44), 3) := by decide +kernel
set_option maxHeartbeats 4000000 in
set_option maxRecDepth 100000 in
theorem w_cSt_changeAt_J43 {p : Program} {l : Launch} {e : Env} {s : State} {m : MethodId} {args : Array Value} {below : List Frame} {meth : Method} {c : Code} {A : Nat → Prop} {D : va_G} {ad : Nat → Nat → Nat} {cc : Nat → ClassId} {sad sav : Nat → Nat} {Q : State → Prop} (hC : MCc sad sav "JoinedTrees$Store" prog_10_method_12_code 4 (some (.object "JoinedTrees$Change")) p s m args meth c A D cc) {N : Nat → Nat} {x0 : Nat} {S : CS} {x1 : Int32} {x2 : Int32} {x3 : Int32} {o : ((CS × Int32 × Int32 × Int32) ⊕ (CS ⊕ (CS × Option Nat)))} (Heq : m_cSt_changeAt_J43 N x0 S x1 x2 x3 = some o) (Ka : ∀ b : CS × Int32 × Int32 × Int32, o = .inl b → ∀ (H : Heap) (locs : List Loc) (ls : Array Slot), va_P D cls (cw ad cc N b.1) H → va_D A (cw ad cc N b.1) → va_S A s.heap H locs → lv_has ls 4 [(0, .ref (ad 8 x0)), (1, .int b.2.1), (2, .int b.2.2.1), (3, .int b.2.2.2)] → W p l e ({ frames := 0, cells := 0, slots := 0, locals := 0 }) s m args below meth c H locs 0 0 Q (F0 m 2 ls [])) (K0 : ∀ b : CS, o = .inr (.inl b) → ∀ (H : Heap) (locs : List Loc) (ls : Array Slot), va_P D cls (cw ad cc N b) H → va_D A (cw ad cc N b) → va_S A s.heap H locs → lv_has ls 4 [(0, .ref (ad 8 x0))] → W p l e ({ frames := 0, cells := 0, slots := 0, locals := 0 }) s m args below meth c H locs 0 0 Q (F0 m 49 ls [])) (Kr : ∀ r : CS × Option Nat, o = .inr (.inr r) → ∀ (pc : Nat) (H : Heap) (locs : List Loc) (ls : Array Slot), decode prog_10_method_12_code pc = .ok (.areturn, 1) → va_P D cls (cw ad cc N r.1) H → va_D A (cw ad cc N r.1) → va_S A s.heap H locs → W p l e ({ frames := 0, cells := 0, slots := 0, locals := 0 }) s m args below meth c H locs 0 0 Q (F0 m pc ls [rv ad 0 r.2])) : ∀ (H : Heap) (locs : List Loc) (ls : Array Slot), va_P D cls (cw ad cc N S) H → va_D A (cw ad cc N S) → va_S A s.heap H locs → lv_has ls 4 [(0, .ref (ad 8 x0)), (1, .int x1), (2, .int x2), (3, .int x3)] → W p l e ({ frames := 0, cells := 0, slots := 0, locals := 0 }) s m args below meth c H locs 0 0 Q (F0 m 43 ls []) := by
  intro H locs ls hP hD hS hl
  obtain ⟨hx, hb, hr, hml, hown, hts, hK, hA, hev, hE, hN, hNS⟩ := id hC
  unfold m_cSt_changeAt_J43 at Heq
  refine lv_iinc (v := x3 + 1) (lv' := [(3, .int (x3 + 1)), (0, .ref (ad 8 x0)), (1, .int x1), (2, .int x2)]) hx hb d_cSt_changeAt_43 hl (k := 3) rfl rfl (by decide) rfl (fun ls hl => ?_)
  refine lv_goto (tgt := 2) hx hb d_cSt_changeAt_46 (by decide) ?_
  exact Ka _ (Option.some.inj Heq).symm _ _ _ hP hD hS (lv_sub hl [1, 2, 3, 0] rfl)
def m_cSt_changeAt_B2 (N : Nat → Nat) (x0 : Nat) (S : CS) (x1 : Int32) (x2 : Int32) (x3 : Int32) : Option ((CS × Int32 × Int32 × Int32) ⊕ (CS ⊕ (CS × Option Nat))) := gl x0 (N 8) ((if S.i 8 4 x0 ≤ x3 then some (.inr (.inl (S))) else gn (S.r 8 3 x0) (N 16) (fun j_2 => gd x3 (S.z 16 j_2) (gn (S.q 16 j_2 x3.toNatClampNeg) (N 0) (fun j_6 => (if S.i 0 0 j_6 = x1 then gd x3 (S.z 16 j_2) ((if S.i 0 1 j_6 = x2 then gd x3 (S.z 16 j_2) (some (.inr (.inr (S, (S.q 16 j_2 x3.toNatClampNeg))))) else m_cSt_changeAt_J43 N x0 S x1 x2 x3)) else m_cSt_changeAt_J43 N x0 S x1 x2 x3))))))
theorem d_cSt_changeAt_23 : decode prog_10_method_12_code 23 = .ok (.aload_n 0, 1) := by decide +kernel
theorem d_cSt_changeAt_24 : decode prog_10_method_12_code 24 = .ok (.getfield 35, 3) := by decide +kernel
theorem d_cSt_changeAt_27 : decode prog_10_method_12_code 27 = .ok (.iload_n 3, 1) := by decide +kernel
theorem d_cSt_changeAt_28 : decode prog_10_method_12_code 28 = .ok (.aaload, 1) := by decide +kernel
theorem d_cSt_changeAt_29 : decode prog_10_method_12_code 29 = .ok (.getfield 148, 3) := by decide +kernel
theorem d_cSt_changeAt_32 : decode prog_10_method_12_code 32 = .ok (.iload_n 2, 1) := by decide +kernel
theorem d_cSt_changeAt_33 : decode prog_10_method_12_code 33 = .ok (.if_icmp .ne 10, 3) := by decide +kernel
theorem d_cSt_changeAt_36 : decode prog_10_method_12_code 36 = .ok (.aload_n 0, 1) := by decide +kernel
theorem d_cSt_changeAt_37 : decode prog_10_method_12_code 37 = .ok (.getfield 35, 3) := by decide +kernel
theorem d_cSt_changeAt_40 : decode prog_10_method_12_code 40 = .ok (.iload_n 3, 1) := by decide +kernel
theorem d_cSt_changeAt_41 : decode prog_10_method_12_code 41 = .ok (.aaload, 1) := by decide +kernel
theorem d_cSt_changeAt_42 : decode prog_10_method_12_code 42 = .ok (.areturn, 1) := by decide +kernel
set_option maxHeartbeats 4000000 in
set_option maxRecDepth 100000 in
theorem w_cSt_changeAt_B2 {p : Program} {l : Launch} {e : Env} {s : State} {m : MethodId} {args : Array Value} {below : List Frame} {meth : Method} {c : Code} {A : Nat → Prop} {D : va_G} {ad : Nat → Nat → Nat} {cc : Nat → ClassId} {sad sav : Nat → Nat} {Q : State → Prop} (hC : MCc sad sav "JoinedTrees$Store" prog_10_method_12_code 4 (some (.object "JoinedTrees$Change")) p s m args meth c A D cc) {N : Nat → Nat} {x0 : Nat} {S : CS} {x1 : Int32} {x2 : Int32} {x3 : Int32} {o : ((CS × Int32 × Int32 × Int32) ⊕ (CS ⊕ (CS × Option Nat)))} (Heq : m_cSt_changeAt_B2 N x0 S x1 x2 x3 = some o) (Ka : ∀ b : CS × Int32 × Int32 × Int32, o = .inl b → ∀ (H : Heap) (locs : List Loc) (ls : Array Slot), va_P D cls (cw ad cc N b.1) H → va_D A (cw ad cc N b.1) → va_S A s.heap H locs → lv_has ls 4 [(0, .ref (ad 8 x0)), (1, .int b.2.1), (2, .int b.2.2.1), (3, .int b.2.2.2)] → W p l e ({ frames := 0, cells := 0, slots := 0, locals := 0 }) s m args below meth c H locs 0 0 Q (F0 m 2 ls [])) (K0 : ∀ b : CS, o = .inr (.inl b) → ∀ (H : Heap) (locs : List Loc) (ls : Array Slot), va_P D cls (cw ad cc N b) H → va_D A (cw ad cc N b) → va_S A s.heap H locs → lv_has ls 4 [(0, .ref (ad 8 x0))] → W p l e ({ frames := 0, cells := 0, slots := 0, locals := 0 }) s m args below meth c H locs 0 0 Q (F0 m 49 ls [])) (Kr : ∀ r : CS × Option Nat, o = .inr (.inr r) → ∀ (pc : Nat) (H : Heap) (locs : List Loc) (ls : Array Slot), decode prog_10_method_12_code pc = .ok (.areturn, 1) → va_P D cls (cw ad cc N r.1) H → va_D A (cw ad cc N r.1) → va_S A s.heap H locs → W p l e ({ frames := 0, cells := 0, slots := 0, locals := 0 }) s m args below meth c H locs 0 0 Q (F0 m pc ls [rv ad 0 r.2])) : ∀ (H : Heap) (locs : List Loc) (ls : Array Slot), va_P D cls (cw ad cc N S) H → va_D A (cw ad cc N S) → va_S A s.heap H locs → lv_has ls 4 [(0, .ref (ad 8 x0)), (1, .int x1), (2, .int x2), (3, .int x3)] → W p l e ({ frames := 0, cells := 0, slots := 0, locals := 0 }) s m args below meth c H locs 0 0 Q (F0 m 2 ls []) := by
  intro H locs ls hP hD hS hl
  obtain ⟨hx, hb, hr, hml, hown, hts, hK, hA, hev, hE, hN, hNS⟩ := id hC
  unfold m_cSt_changeAt_B2 at Heq
  refine lv_iload_n hx hb d_cSt_changeAt_2 rfl (lv_at hl 3 rfl) ?_
  refine lv_aload_n hx hb d_cSt_changeAt_3 rfl (lv_at hl 0 rfl) ?_
  obtain ⟨hl_x0_8, Heq⟩ := gl_some Heq
  refine va_get (D := D) (ci := 8) (v := .int (S.i 8 4 x0)) (C := R_St) (T := F_St) (N := 6) hx hb hts i_St hown hK hP (cPos N 8 x0) (cw_obj (k := 8) (by decide) hl_x0_8) rfl 4 (by decide) (hts _ kw_175) (fun _ h9 => h9) rfl d_cSt_changeAt_4 ?_
  refine lv_icmp_ge (tgt := 49) hx hb d_cSt_changeAt_7 (by decide) (fun c_1 => ?_) (fun c_1 => ?_)
  · replace Heq := (if_pos c_1).symm.trans Heq
    exact K0 _ (Option.some.inj Heq).symm _ _ _ hP hD hS (lv_sub hl [0] rfl)
  · replace Heq := (if_neg c_1).symm.trans Heq
    refine lv_aload_n hx hb d_cSt_changeAt_10 rfl (lv_at hl 0 rfl) ?_
    refine va_get (D := D) (ci := 8) (v := rv ad 16 (S.r 8 3 x0)) (C := R_St) (T := F_St) (N := 6) hx hb hts i_St hown hK hP (cPos N 8 x0) (cw_obj (k := 8) (by decide) hl_x0_8) rfl 3 (by decide) (hts _ kw_171) (fun _ h9 => h9) rfl d_cSt_changeAt_11 ?_
    refine lv_iload_n hx hb d_cSt_changeAt_14 rfl (lv_at hl 3 rfl) ?_
    obtain ⟨j_2, hj_3, hl_4, Heq⟩ := gn_some Heq
    refine w_s (st' := [.int x3, .ref (ad 16 j_2)]) (congrArg (fun z9 : Option Nat => [.int x3, rv ad 16 z9]) hj_3) ?_
    obtain ⟨hi_5, Heq⟩ := gd_some Heq
    refine va_aldq hx hb hK hP (cPos N 16 j_2) 4 (cw_refs (k := 16) (by decide) hl_4) rfl (i := x3) hi_5 d_cSt_changeAt_15 ?_
    refine w_v (y := rv ad 0 (S.q 16 j_2 x3.toNatClampNeg)) (congrArg (rv ad 0) rfl) ?_
    obtain ⟨j_6, hj_7, hl_8, Heq⟩ := gn_some Heq
    refine w_s (st' := [.ref (ad 0 j_6)]) (congrArg (fun z9 : Option Nat => [rv ad 0 z9]) hj_7) ?_
    refine va_get (D := D) (ci := 0) (v := .int (S.i 0 0 j_6)) (C := R_Ch) (T := F_Ch) (N := 7) hx hb hts i_Ch hown hK hP (cPos N 0 j_6) (cw_obj (k := 0) (by decide) hl_8) rfl 0 (by decide) (hts _ kw_1011) (fun _ h9 => h9) rfl d_cSt_changeAt_16 ?_
    refine lv_iload_n hx hb d_cSt_changeAt_19 rfl (lv_at hl 1 rfl) ?_
    refine lv_icmp_ne (tgt := 43) hx hb d_cSt_changeAt_20 (by decide) (fun c_9 => ?_) (fun c_9 => ?_)
    · replace Heq := (if_neg c_9).symm.trans Heq
      exact w_cSt_changeAt_J43 hC Heq Ka K0 Kr _ _ _ hP hD hS (lv_sub hl [0, 1, 2, 3] rfl)
    · replace Heq := (if_pos c_9).symm.trans Heq
      refine lv_aload_n hx hb d_cSt_changeAt_23 rfl (lv_at hl 0 rfl) ?_
      refine va_get (D := D) (ci := 8) (v := rv ad 16 (S.r 8 3 x0)) (C := R_St) (T := F_St) (N := 6) hx hb hts i_St hown hK hP (cPos N 8 x0) (cw_obj (k := 8) (by decide) hl_x0_8) rfl 3 (by decide) (hts _ kw_171) (fun _ h9 => h9) rfl d_cSt_changeAt_24 ?_
      refine lv_iload_n hx hb d_cSt_changeAt_27 rfl (lv_at hl 3 rfl) ?_
      refine w_s (st' := [.int x3, .ref (ad 16 j_2)]) (congrArg (fun z9 : Option Nat => [.int x3, rv ad 16 z9]) hj_3) ?_
      obtain ⟨hi_10, Heq⟩ := gd_some Heq
      refine va_aldq hx hb hK hP (cPos N 16 j_2) 4 (cw_refs (k := 16) (by decide) hl_4) rfl (i := x3) hi_10 d_cSt_changeAt_28 ?_
      refine w_v (y := rv ad 0 (S.q 16 j_2 x3.toNatClampNeg)) (congrArg (rv ad 0) rfl) ?_
      refine w_s (st' := [.ref (ad 0 j_6)]) (congrArg (fun z9 : Option Nat => [rv ad 0 z9]) hj_7) ?_
      refine va_get (D := D) (ci := 0) (v := .int (S.i 0 1 j_6)) (C := R_Ch) (T := F_Ch) (N := 7) hx hb hts i_Ch hown hK hP (cPos N 0 j_6) (cw_obj (k := 0) (by decide) hl_8) rfl 1 (by decide) (hts _ kw_1016) (fun _ h9 => h9) rfl d_cSt_changeAt_29 ?_
      refine lv_iload_n hx hb d_cSt_changeAt_32 rfl (lv_at hl 2 rfl) ?_
      refine lv_icmp_ne (tgt := 43) hx hb d_cSt_changeAt_33 (by decide) (fun c_11 => ?_) (fun c_11 => ?_)
      · replace Heq := (if_neg c_11).symm.trans Heq
        exact w_cSt_changeAt_J43 hC Heq Ka K0 Kr _ _ _ hP hD hS (lv_sub hl [0, 1, 2, 3] rfl)
      · replace Heq := (if_pos c_11).symm.trans Heq
        refine lv_aload_n hx hb d_cSt_changeAt_36 rfl (lv_at hl 0 rfl) ?_
        refine va_get (D := D) (ci := 8) (v := rv ad 16 (S.r 8 3 x0)) (C := R_St) (T := F_St) (N := 6) hx hb hts i_St hown hK hP (cPos N 8 x0) (cw_obj (k := 8) (by decide) hl_x0_8) rfl 3 (by decide) (hts _ kw_171) (fun _ h9 => h9) rfl d_cSt_changeAt_37 ?_
        refine lv_iload_n hx hb d_cSt_changeAt_40 rfl (lv_at hl 3 rfl) ?_
        refine w_s (st' := [.int x3, .ref (ad 16 j_2)]) (congrArg (fun z9 : Option Nat => [.int x3, rv ad 16 z9]) hj_3) ?_
        obtain ⟨hi_12, Heq⟩ := gd_some Heq
        refine va_aldq hx hb hK hP (cPos N 16 j_2) 4 (cw_refs (k := 16) (by decide) hl_4) rfl (i := x3) hi_12 d_cSt_changeAt_41 ?_
        refine w_v (y := rv ad 0 (S.q 16 j_2 x3.toNatClampNeg)) (congrArg (rv ad 0) rfl) ?_
        exact Kr _ (Option.some.inj Heq).symm 42 _ _ _ d_cSt_changeAt_42 hP hD hS
def m_cSt_changeAt_L2 (N : Nat → Nat) (x0 : Nat) (S : CS) (x1 : Int32) (x2 : Int32) (x3 : Int32) : Option (CS ⊕ (CS × Option Nat)) := lp (fun a : CS × Int32 × Int32 × Int32 => m_cSt_changeAt_B2 N x0 a.1 a.2.1 a.2.2.1 a.2.2.2) FU (S, x1, x2, x3)
theorem w_cSt_changeAt_L2 {p : Program} {l : Launch} {e : Env} {s : State} {m : MethodId} {args : Array Value} {below : List Frame} {meth : Method} {c : Code} {A : Nat → Prop} {D : va_G} {ad : Nat → Nat → Nat} {cc : Nat → ClassId} {sad sav : Nat → Nat} {Q : State → Prop} (hC : MCc sad sav "JoinedTrees$Store" prog_10_method_12_code 4 (some (.object "JoinedTrees$Change")) p s m args meth c A D cc) {N : Nat → Nat} {x0 : Nat} {S : CS} {x1 : Int32} {x2 : Int32} {x3 : Int32} {o : (CS ⊕ (CS × Option Nat))} (Heq : m_cSt_changeAt_L2 N x0 S x1 x2 x3 = some o) (K0 : ∀ b : CS, o = (.inl b) → ∀ (H : Heap) (locs : List Loc) (ls : Array Slot), va_P D cls (cw ad cc N b) H → va_D A (cw ad cc N b) → va_S A s.heap H locs → lv_has ls 4 [(0, .ref (ad 8 x0))] → W p l e ({ frames := 0, cells := 0, slots := 0, locals := 0 }) s m args below meth c H locs 0 0 Q (F0 m 49 ls [])) (Kr : ∀ r : CS × Option Nat, o = (.inr r) → ∀ (pc : Nat) (H : Heap) (locs : List Loc) (ls : Array Slot), decode prog_10_method_12_code pc = .ok (.areturn, 1) → va_P D cls (cw ad cc N r.1) H → va_D A (cw ad cc N r.1) → va_S A s.heap H locs → W p l e ({ frames := 0, cells := 0, slots := 0, locals := 0 }) s m args below meth c H locs 0 0 Q (F0 m pc ls [rv ad 0 r.2])) : ∀ (H : Heap) (locs : List Loc) (ls : Array Slot), va_P D cls (cw ad cc N S) H → va_D A (cw ad cc N S) → va_S A s.heap H locs → lv_has ls 4 [(0, .ref (ad 8 x0)), (1, .int x1), (2, .int x2), (3, .int x3)] → W p l e ({ frames := 0, cells := 0, slots := 0, locals := 0 }) s m args below meth c H locs 0 0 Q (F0 m 2 ls []) := by
  refine lp_w (G := fun a : CS × Int32 × Int32 × Int32 => ∀ (H : Heap) (locs : List Loc) (ls : Array Slot), va_P D cls (cw ad cc N a.1) H → va_D A (cw ad cc N a.1) → va_S A s.heap H locs → lv_has ls 4 [(0, .ref (ad 8 x0)), (1, .int a.2.1), (2, .int a.2.2.1), (3, .int a.2.2.2)] → W p l e ({ frames := 0, cells := 0, slots := 0, locals := 0 }) s m args below meth c H locs 0 0 Q (F0 m 2 ls [])) ?_ FU (S, x1, x2, x3) Heq
  intro a o1 ho Ka Ke
  exact w_cSt_changeAt_B2 hC ho (fun b h => Ka b h) (fun b h => K0 b (Ke _ h).symm) (fun r h => Kr r (Ke _ h).symm)
def m_cSt_changeAt_J0 (N : Nat → Nat) (x0 : Nat) (S : CS) (x1 : Int32) (x2 : Int32) : Option (CS × Option Nat) := oe (m_cSt_changeAt_L2 N x0 S x1 x2 0) (fun b_1 => some (b_1, none)) (fun r_3 => some r_3)
theorem d_cSt_changeAt_49 : decode prog_10_method_12_code 49 = .ok (.aconst_null, 1) := by decide +kernel
theorem d_cSt_changeAt_50 : decode prog_10_method_12_code 50 = .ok (.areturn, 1) := by decide +kernel
set_option maxHeartbeats 4000000 in
set_option maxRecDepth 100000 in
theorem w_cSt_changeAt_J0 {p : Program} {l : Launch} {e : Env} {s : State} {m : MethodId} {args : Array Value} {below : List Frame} {meth : Method} {c : Code} {A : Nat → Prop} {D : va_G} {ad : Nat → Nat → Nat} {cc : Nat → ClassId} {sad sav : Nat → Nat} {Q : State → Prop} (hC : MCc sad sav "JoinedTrees$Store" prog_10_method_12_code 4 (some (.object "JoinedTrees$Change")) p s m args meth c A D cc) {N : Nat → Nat} {x0 : Nat} {S : CS} {x1 : Int32} {x2 : Int32} {o : CS × Option Nat} (Heq : m_cSt_changeAt_J0 N x0 S x1 x2 = some o) (Kr : ∀ r : CS × Option Nat, o = r → ∀ (pc : Nat) (H : Heap) (locs : List Loc) (ls : Array Slot), decode prog_10_method_12_code pc = .ok (.areturn, 1) → va_P D cls (cw ad cc N r.1) H → va_D A (cw ad cc N r.1) → va_S A s.heap H locs → W p l e ({ frames := 0, cells := 0, slots := 0, locals := 0 }) s m args below meth c H locs 0 0 Q (F0 m pc ls [rv ad 0 r.2])) : ∀ (H : Heap) (locs : List Loc) (ls : Array Slot), va_P D cls (cw ad cc N S) H → va_D A (cw ad cc N S) → va_S A s.heap H locs → lv_has ls 4 [(0, .ref (ad 8 x0)), (1, .int x1), (2, .int x2)] → W p l e ({ frames := 0, cells := 0, slots := 0, locals := 0 }) s m args below meth c H locs 0 0 Q (F0 m 0 ls []) := by
  intro H locs ls hP hD hS hl
  obtain ⟨hx, hb, hr, hml, hown, hts, hK, hA, hev, hE, hN, hNS⟩ := id hC
  unfold m_cSt_changeAt_J0 at Heq
  refine lv_iconst (v := 0) hx hb d_cSt_changeAt_0 (by decide) ?_
  refine lv_istore_n (lv' := [(3, .int 0), (0, .ref (ad 8 x0)), (1, .int x1), (2, .int x2)]) hx hb d_cSt_changeAt_1 rfl hl (by decide) rfl (fun ls hl => ?_)
  rcases oe_some Heq with ⟨b_1, h_2, Heq⟩ | ⟨r_3, h_2, Heq⟩
  · refine w_cSt_changeAt_L2 hC h_2 (fun b h => ?_) (fun r h => by cases h) _ _ _ hP hD hS (lv_sub hl [1, 2, 3, 0] rfl)
    cases h
    intro H locs ls hP hD hS hl
    refine lv_null hx hb d_cSt_changeAt_49 ?_
    exact Kr _ (Option.some.inj Heq).symm 50 _ _ _ d_cSt_changeAt_50 hP hD hS
  · refine w_cSt_changeAt_L2 hC h_2 (fun b h => by cases h) (fun r h => ?_) _ _ _ hP hD hS (lv_sub hl [1, 2, 3, 0] rfl)
    cases h
    exact Kr _ (Option.some.inj Heq).symm
def m_cSt_changeAt (N : Nat → Nat) (x0 : Nat) (S : CS) (x1 : Int32) (x2 : Int32) : Option (CS × Option Nat) := m_cSt_changeAt_J0 N x0 S x1 x2
set_option maxHeartbeats 4000000 in
theorem g_cSt_changeAt (l : Launch) (D : va_G) (sz : Nat) {ad : Nat → Nat → Nat} {cc : Nat → ClassId} {sad sav : Nat → Nat} {N : Nat → Nat} {x0 : Nat} {S : CS} {x1 : Int32} {x2 : Int32} {o : CS × Option Nat} (Heq : m_cSt_changeAt N x0 S x1 x2 = some o) : Met l ⟨"JoinedTrees$Store", "changeAt", "(II)LJoinedTrees$Change;"⟩ (Cond.code ⟨"JoinedTrees$Store", "changeAt", "(II)LJoinedTrees$Change;"⟩ prog_10_method_12_code 4 (some (.object "JoinedTrees$Change")) :: gb) ({ frames := 0, cells := 0, slots := 0, locals := 0 }) (cPc sad sav D (cw ad cc N S) (cty cc) sz [.ref (ad 8 x0), .int x1, .int x2]) (va_Qq (fun (r : Option Nat) (_ : Unit) => r = o.2.map (ad 0)) (fun _ t => gO D (cw ad cc N o.1) (cty cc) (va_A (cw ad cc N S) sz) t) (va_A (cw ad cc N S) sz)) 0 0 (va_A (cw ad cc N S) sz) := by
  refine Met.ofW (cc := prog_10_method_12_code) (maxL := 4) (ret := (some (.object "JoinedTrees$Change"))) (by decide) rfl ?_
  intro p e s m args below meth c s₁ B hml hv
  obtain ⟨rfl, hsz, hP, hK, hD0, hev, hE, hN⟩ := hv
  have hx := B.exec
  have hb := B.bytes
  have hr := B.returns
  have hts : ∀ w9 ∈ gb, w9.before [.ref (ad 8 x0), .int x1, .int x2].toArray s = true := fun w9 h => atoms_spec (ws := Cond.code ⟨"JoinedTrees$Store", "changeAt", "(II)LJoinedTrees$Change;"⟩ prog_10_method_12_code 4 (some (.object "JoinedTrees$Change")) :: gb) B.pre w9 (List.mem_cons_of_mem _ h)
  have hown : s.vm.findClass "JoinedTrees$Store" = some m.cls := findClass_of_methodNamed B.named
  have hlocks := B.notSynchronized
  have hNS := ns_of hP
  subst hsz
  have hD := hD0.self (sz := s.heap.size)
  generalize hAe : va_A (cw ad cc N S) s.heap.size = A at hD hev hE hNS ⊢
  have hA : ∀ q : Nat, s.heap.size ≤ q → A q := fun q h => by rw [← hAe]; exact Or.inr h
  have hS : va_S A s.heap s.heap [] := va_S.rf
  obtain ⟨ls, hl, hle⟩ : ∃ ls : Array Slot, lv_has ls 4 [(0, .ref (ad 8 x0)), (1, .int x1), (2, .int x2)] ∧ entryFrame m ([.ref (ad 8 x0), .int x1, .int x2] : List Value).toArray 4 = F0 m 0 ls [] := by
    exact ⟨_, lv_entry (n := 4) _ (Nat.le_of_ble_eq_true rfl), lg_entry_eq ..⟩
  rw [hle]
  refine w_cSt_changeAt_J0 ⟨hx, hb, hr, hml, hown, hts, hK, hA, hev, hE, hN, hNS⟩ Heq (fun r h pc H locs ls hd hP hD hS => ?_) _ _ _ hP hD hS (lv_sub hl [0, 1, 2] rfl)
  subst h
  exact W.aret hx hb hr (Or.inl ⟨_, rfl⟩) (va_rf_or _) (fun t ht hW => ⟨⟨_, (), rfl, rfl, by rw [ht]; exact hP, va_K.moved hW.alike hK, hD⟩, hS.F ht⟩) hS.2.2 hd
