def m_cRd_readString_J49 (N : Nat → Nat) (x0 : Nat) (S : CS) : Option ((CS × Int32 × Int32) ⊕ (CS ⊕ (CS × Int32))) := some (.inr (.inr (S, 0)))
theorem d_cRd_readString_0 : decode prog_3_method_11_code 0 = .ok (.aload_n 0, 1) := by decide +kernel
theorem d_cRd_readString_1 : decode prog_3_method_11_code 1 = .ok (.dup, 1) := by decide +kernel
theorem d_cRd_readString_2 : decode prog_3_method_11_code 2 = .ok (.getfield 34, 3) := by decide +kernel
theorem d_cRd_readString_5 : decode prog_3_method_11_code 5 = .ok (.iconst 1, 1) := by decide +kernel
theorem d_cRd_readString_6 : decode prog_3_method_11_code 6 = .ok (.iadd, 1) := by decide +kernel
theorem d_cRd_readString_7 : decode prog_3_method_11_code 7 = .ok (.putfield 34, 3) := by decide +kernel
theorem d_cRd_readString_10 : decode prog_3_method_11_code 10 = .ok (.iconst 0, 1) := by decide +kernel
theorem d_cRd_readString_11 : decode prog_3_method_11_code 11 = .ok (.istore_n 2, 1) := by decide +kernel
theorem d_cRd_readString_12 : decode prog_3_method_11_code 12 = .ok (.iload_n 2, 1) := by decide +kernel
theorem d_cRd_readString_13 : decode prog_3_method_11_code 13 = .ok (.iload_n 1, 1) := by decide +kernel
theorem d_cRd_readString_14 : decode prog_3_method_11_code 14 = .ok (.if_icmp .ge 79, 3) := by decide +kernel
theorem d_cRd_readString_17 : decode prog_3_method_11_code 17 = .ok (.aload_n 0, 1) := by decide +kernel
theorem d_cRd_readString_18 : decode prog_3_method_11_code 18 = .ok (.getfield 27, 3) := by decide +kernel
theorem d_cRd_readString_21 : decode prog_3_method_11_code 21 = .ok (.aload_n 0, 1) := by decide +kernel
theorem d_cRd_readString_22 : decode prog_3_method_11_code 22 = .ok (.getfield 34, 3) := by decide +kernel
theorem d_cRd_readString_25 : decode prog_3_method_11_code 25 = .ok (.invokevirtual 70, 3) := by decide +kernel
theorem d_cRd_readString_28 : decode prog_3_method_11_code 28 = .ok (.istore_n 3, 1) := by decide +kernel
theorem d_cRd_readString_29 : decode prog_3_method_11_code 29 = .ok (.iload_n 3, 1) := by decide +kernel
theorem d_cRd_readString_30 : decode prog_3_method_11_code 30 = .ok (.bipush 34, 2) := by decide +kernel
theorem d_cRd_readString_32 : decode prog_3_method_11_code 32 = .ok (.if_icmp .ne 5, 3) := by decide +kernel
theorem d_cRd_readString_37 : decode prog_3_method_11_code 37 = .ok (.iload_n 3, 1) := by decide +kernel
theorem d_cRd_readString_38 : decode prog_3_method_11_code 38 = .ok (.bipush 32, 2) := by decide +kernel
theorem d_cRd_readString_40 : decode prog_3_method_11_code 40 = .ok (.if_icmp .lt 9, 3) := by decide +kernel
theorem d_cRd_readString_49 : decode prog_3_method_11_code 49 = .ok (.iconst 0, 1) := by decide +kernel
theorem d_cRd_readString_50 : decode prog_3_method_11_code 50 = .ok (.ireturn, 1) := by decide +kernel
set_option maxHeartbeats 4000000 in
set_option maxRecDepth 100000 in
theorem w_cRd_readString_J49 {p : Program} {l : Launch} {e : Env} {s : State} {m : MethodId} {args : Array Value} {below : List Frame} {meth : Method} {c : Code} {A : Nat → Prop} {D : va_G} {ad : Nat → Nat → Nat} {cc : Nat → ClassId} {sad sav : Nat → Nat} {Q : State → Prop} (hC : MCc sad sav "JoinedTrees$JsonReader" prog_3_method_11_code 4 (some .boolean) p s m args meth c A D cc) {N : Nat → Nat} {x0 : Nat} {S : CS} {o : ((CS × Int32 × Int32) ⊕ (CS ⊕ (CS × Int32)))} (Heq : m_cRd_readString_J49 N x0 S = some o) (Ka : ∀ b : CS × Int32 × Int32, o = .inl b → ∀ (H : Heap) (locs : List Loc) (ls : Array Slot), va_P D cls (cw ad cc N b.1) H → va_D A (cw ad cc N b.1) → va_S A s.heap H locs → lv_has ls 4 [(0, .ref (ad 1 x0)), (1, .int b.2.1), (2, .int b.2.2)] → W p l e ({ frames := 2, cells := 0, slots := 0, locals := 46 }) s m args below meth c H locs 0 0 Q (F0 m 12 ls [])) (K0 : ∀ b : CS, o = .inr (.inl b) → ∀ (H : Heap) (locs : List Loc) (ls : Array Slot), va_P D cls (cw ad cc N b) H → va_D A (cw ad cc N b) → va_S A s.heap H locs → lv_has ls 4 [(0, .ref (ad 1 x0))] → W p l e ({ frames := 2, cells := 0, slots := 0, locals := 46 }) s m args below meth c H locs 0 0 Q (F0 m 93 ls [])) (Kr : ∀ r : CS × Int32, o = .inr (.inr r) → ∀ (pc : Nat) (H : Heap) (locs : List Loc) (ls : Array Slot), decode prog_3_method_11_code pc = .ok (.ireturn, 1) → (r.2 = 0 ∨ r.2 = 1) → va_P D cls (cw ad cc N r.1) H → va_D A (cw ad cc N r.1) → va_S A s.heap H locs → W p l e ({ frames := 2, cells := 0, slots := 0, locals := 46 }) s m args below meth c H locs 0 0 Q (F0 m pc ls [.int r.2])) : ∀ (H : Heap) (locs : List Loc) (ls : Array Slot), va_P D cls (cw ad cc N S) H → va_D A (cw ad cc N S) → va_S A s.heap H locs → lv_has ls 4 [(0, .ref (ad 1 x0))] → W p l e ({ frames := 2, cells := 0, slots := 0, locals := 46 }) s m args below meth c H locs 0 0 Q (F0 m 49 ls []) := by
  intro H locs ls hP hD hS hl
  obtain ⟨hx, hb, hr, hml, hown, hts, hK, hA, hev, hE, hN, hNS⟩ := id hC
  unfold m_cRd_readString_J49 at Heq
  refine lv_iconst (v := 0) hx hb d_cRd_readString_49 (by decide) ?_
  exact Kr _ (Option.some.inj Heq).symm 50 _ _ _ d_cRd_readString_50 (Or.inl rfl) hP hD hS
def m_cRd_readString_J87 (N : Nat → Nat) (x0 : Nat) (S : CS) (x1 : Int32) (x2 : Int32) : Option ((CS × Int32 × Int32) ⊕ (CS ⊕ (CS × Int32))) := some (.inl (S, x1, (x2 + 1)))
theorem d_cRd_readString_43 : decode prog_3_method_11_code 43 = .ok (.iload_n 3, 1) := by decide +kernel
theorem d_cRd_readString_44 : decode prog_3_method_11_code 44 = .ok (.bipush 126, 2) := by decide +kernel
theorem d_cRd_readString_46 : decode prog_3_method_11_code 46 = .ok (.if_icmp .le 5, 3) := by decide +kernel
theorem d_cRd_readString_51 : decode prog_3_method_11_code 51 = .ok (.aload_n 0, 1) := by decide +kernel
theorem d_cRd_readString_52 : decode prog_3_method_11_code 52 = .ok (.dup, 1) := by decide +kernel
theorem d_cRd_readString_53 : decode prog_3_method_11_code 53 = .ok (.getfield 34, 3) := by decide +kernel
theorem d_cRd_readString_56 : decode prog_3_method_11_code 56 = .ok (.iconst 1, 1) := by decide +kernel
theorem d_cRd_readString_57 : decode prog_3_method_11_code 57 = .ok (.iadd, 1) := by decide +kernel
theorem d_cRd_readString_58 : decode prog_3_method_11_code 58 = .ok (.putfield 34, 3) := by decide +kernel
theorem d_cRd_readString_61 : decode prog_3_method_11_code 61 = .ok (.iload_n 3, 1) := by decide +kernel
theorem d_cRd_readString_62 : decode prog_3_method_11_code 62 = .ok (.bipush 92, 2) := by decide +kernel
theorem d_cRd_readString_64 : decode prog_3_method_11_code 64 = .ok (.if_icmp .eq 14, 3) := by decide +kernel
theorem d_cRd_readString_78 : decode prog_3_method_11_code 78 = .ok (.aload_n 0, 1) := by decide +kernel
theorem d_cRd_readString_79 : decode prog_3_method_11_code 79 = .ok (.invokevirtual 133, 3) := by decide +kernel
theorem d_cRd_readString_82 : decode prog_3_method_11_code 82 = .ok (.ifCond .ne 5, 3) := by decide +kernel
theorem d_cRd_readString_87 : decode prog_3_method_11_code 87 = .ok (.iinc 2 1, 3) := by decide +kernel
theorem d_cRd_readString_90 : decode prog_3_method_11_code 90 = .ok (.goto (-78), 3) := by decide +kernel
set_option maxHeartbeats 4000000 in
set_option maxRecDepth 100000 in
theorem w_cRd_readString_J87 {p : Program} {l : Launch} {e : Env} {s : State} {m : MethodId} {args : Array Value} {below : List Frame} {meth : Method} {c : Code} {A : Nat → Prop} {D : va_G} {ad : Nat → Nat → Nat} {cc : Nat → ClassId} {sad sav : Nat → Nat} {Q : State → Prop} (hC : MCc sad sav "JoinedTrees$JsonReader" prog_3_method_11_code 4 (some .boolean) p s m args meth c A D cc) {N : Nat → Nat} {x0 : Nat} {S : CS} {x1 : Int32} {x2 : Int32} {o : ((CS × Int32 × Int32) ⊕ (CS ⊕ (CS × Int32)))} (Heq : m_cRd_readString_J87 N x0 S x1 x2 = some o) (Ka : ∀ b : CS × Int32 × Int32, o = .inl b → ∀ (H : Heap) (locs : List Loc) (ls : Array Slot), va_P D cls (cw ad cc N b.1) H → va_D A (cw ad cc N b.1) → va_S A s.heap H locs → lv_has ls 4 [(0, .ref (ad 1 x0)), (1, .int b.2.1), (2, .int b.2.2)] → W p l e ({ frames := 2, cells := 0, slots := 0, locals := 46 }) s m args below meth c H locs 0 0 Q (F0 m 12 ls [])) (K0 : ∀ b : CS, o = .inr (.inl b) → ∀ (H : Heap) (locs : List Loc) (ls : Array Slot), va_P D cls (cw ad cc N b) H → va_D A (cw ad cc N b) → va_S A s.heap H locs → lv_has ls 4 [(0, .ref (ad 1 x0))] → W p l e ({ frames := 2, cells := 0, slots := 0, locals := 46 }) s m args below meth c H locs 0 0 Q (F0 m 93 ls [])) (Kr : ∀ r : CS × Int32, o = .inr (.inr r) → ∀ (pc : Nat) (H : Heap) (locs : List Loc) (ls : Array Slot), decode prog_3_method_11_code pc = .ok (.ireturn, 1) → (r.2 = 0 ∨ r.2 = 1) → va_P D cls (cw ad cc N r.1) H → va_D A (cw ad cc N r.1) → va_S A s.heap H locs → W p l e ({ frames := 2, cells := 0, slots := 0, locals := 46 }) s m args below meth c H locs 0 0 Q (F0 m pc ls [.int r.2])) : ∀ (H : Heap) (locs : List Loc) (ls : Array Slot), va_P D cls (cw ad cc N S) H → va_D A (cw ad cc N S) → va_S A s.heap H locs → lv_has ls 4 [(0, .ref (ad 1 x0)), (1, .int x1), (2, .int x2)] → W p l e ({ frames := 2, cells := 0, slots := 0, locals := 46 }) s m args below meth c H locs 0 0 Q (F0 m 87 ls []) := by
  intro H locs ls hP hD hS hl
  obtain ⟨hx, hb, hr, hml, hown, hts, hK, hA, hev, hE, hN, hNS⟩ := id hC
  unfold m_cRd_readString_J87 at Heq
  refine lv_iinc (v := x2 + 1) (lv' := [(2, .int (x2 + 1)), (0, .ref (ad 1 x0)), (1, .int x1)]) hx hb d_cRd_readString_87 hl (k := 2) rfl rfl (by decide) rfl (fun ls hl => ?_)
  refine lv_goto (tgt := 12) hx hb d_cRd_readString_90 (by decide) ?_
  exact Ka _ (Option.some.inj Heq).symm _ _ _ hP hD hS (lv_sub hl [1, 2, 0] rfl)
def m_cRd_readString_B12 (N : Nat → Nat) (x0 : Nat) (S : CS) (x1 : Int32) (x2 : Int32) : Option ((CS × Int32 × Int32) ⊕ (CS ⊕ (CS × Int32))) := (if x1 ≤ x2 then some (.inr (.inl (S))) else gl x0 (N 1) (gn (S.r 1 2 x0) (N 5) (fun j_2 => ob (m_cRw_at N j_2 S (S.i 1 4 x0)) (fun o_5 => (if o_5.2 = 34 then some (.inr (.inr (o_5.1, 1))) else (if o_5.2 < 32 then m_cRd_readString_J49 N x0 o_5.1 else (if o_5.2 ≤ 126 then (if o_5.2 = 92 then ob (m_cRd_readEscaped N x0 (o_5.1.setI 1 4 x0 ((o_5.1.i 1 4 x0) + 1))) (fun o_11 => (if o_11.2 = 0 then some (.inr (.inr (o_11.1, 0))) else m_cRd_readString_J87 N x0 o_11.1 x1 x2)) else gn (o_5.1.r 1 1 x0) (N 5) (fun j_14 => ob (m_cRw_write N j_14 (o_5.1.setI 1 4 x0 ((o_5.1.i 1 4 x0) + 1)) o_5.2) (fun o_17 => m_cRd_readString_J87 N x0 o_17 x1 x2))) else m_cRd_readString_J49 N x0 o_5.1)))))))
theorem d_cRd_readString_85 : decode prog_3_method_11_code 85 = .ok (.iconst 0, 1) := by decide +kernel
theorem d_cRd_readString_86 : decode prog_3_method_11_code 86 = .ok (.ireturn, 1) := by decide +kernel
theorem d_cRd_readString_67 : decode prog_3_method_11_code 67 = .ok (.aload_n 0, 1) := by decide +kernel
theorem d_cRd_readString_68 : decode prog_3_method_11_code 68 = .ok (.getfield 22, 3) := by decide +kernel
theorem d_cRd_readString_71 : decode prog_3_method_11_code 71 = .ok (.iload_n 3, 1) := by decide +kernel
theorem d_cRd_readString_72 : decode prog_3_method_11_code 72 = .ok (.invokevirtual 130, 3) := by decide +kernel
theorem d_cRd_readString_75 : decode prog_3_method_11_code 75 = .ok (.goto 12, 3) := by decide +kernel
theorem d_cRd_readString_35 : decode prog_3_method_11_code 35 = .ok (.iconst 1, 1) := by decide +kernel
theorem d_cRd_readString_36 : decode prog_3_method_11_code 36 = .ok (.ireturn, 1) := by decide +kernel
set_option maxHeartbeats 4000000 in
set_option maxRecDepth 100000 in
theorem w_cRd_readString_B12 {p : Program} {l : Launch} {e : Env} {s : State} {m : MethodId} {args : Array Value} {below : List Frame} {meth : Method} {c : Code} {A : Nat → Prop} {D : va_G} {ad : Nat → Nat → Nat} {cc : Nat → ClassId} {sad sav : Nat → Nat} {Q : State → Prop} (hC : MCc sad sav "JoinedTrees$JsonReader" prog_3_method_11_code 4 (some .boolean) p s m args meth c A D cc) {N : Nat → Nat} {x0 : Nat} {S : CS} {x1 : Int32} {x2 : Int32} {o : ((CS × Int32 × Int32) ⊕ (CS ⊕ (CS × Int32)))} (Heq : m_cRd_readString_B12 N x0 S x1 x2 = some o) (Ka : ∀ b : CS × Int32 × Int32, o = .inl b → ∀ (H : Heap) (locs : List Loc) (ls : Array Slot), va_P D cls (cw ad cc N b.1) H → va_D A (cw ad cc N b.1) → va_S A s.heap H locs → lv_has ls 4 [(0, .ref (ad 1 x0)), (1, .int b.2.1), (2, .int b.2.2)] → W p l e ({ frames := 2, cells := 0, slots := 0, locals := 46 }) s m args below meth c H locs 0 0 Q (F0 m 12 ls [])) (K0 : ∀ b : CS, o = .inr (.inl b) → ∀ (H : Heap) (locs : List Loc) (ls : Array Slot), va_P D cls (cw ad cc N b) H → va_D A (cw ad cc N b) → va_S A s.heap H locs → lv_has ls 4 [(0, .ref (ad 1 x0))] → W p l e ({ frames := 2, cells := 0, slots := 0, locals := 46 }) s m args below meth c H locs 0 0 Q (F0 m 93 ls [])) (Kr : ∀ r : CS × Int32, o = .inr (.inr r) → ∀ (pc : Nat) (H : Heap) (locs : List Loc) (ls : Array Slot), decode prog_3_method_11_code pc = .ok (.ireturn, 1) → (r.2 = 0 ∨ r.2 = 1) → va_P D cls (cw ad cc N r.1) H → va_D A (cw ad cc N r.1) → va_S A s.heap H locs → W p l e ({ frames := 2, cells := 0, slots := 0, locals := 46 }) s m args below meth c H locs 0 0 Q (F0 m pc ls [.int r.2])) : ∀ (H : Heap) (locs : List Loc) (ls : Array Slot), va_P D cls (cw ad cc N S) H → va_D A (cw ad cc N S) → va_S A s.heap H locs → lv_has ls 4 [(0, .ref (ad 1 x0)), (1, .int x1), (2, .int x2)] → W p l e ({ frames := 2, cells := 0, slots := 0, locals := 46 }) s m args below meth c H locs 0 0 Q (F0 m 12 ls []) := by
  intro H locs ls hP hD hS hl
  obtain ⟨hx, hb, hr, hml, hown, hts, hK, hA, hev, hE, hN, hNS⟩ := id hC
  unfold m_cRd_readString_B12 at Heq
  refine lv_iload_n hx hb d_cRd_readString_12 rfl (lv_at hl 2 rfl) ?_
  refine lv_iload_n hx hb d_cRd_readString_13 rfl (lv_at hl 1 rfl) ?_
  refine lv_icmp_ge (tgt := 93) hx hb d_cRd_readString_14 (by decide) (fun c_1 => ?_) (fun c_1 => ?_)
  · replace Heq := (if_pos c_1).symm.trans Heq
    exact K0 _ (Option.some.inj Heq).symm _ _ _ hP hD hS (lv_sub hl [0] rfl)
  · replace Heq := (if_neg c_1).symm.trans Heq
    refine lv_aload_n hx hb d_cRd_readString_17 rfl (lv_at hl 0 rfl) ?_
    obtain ⟨hl_x0_1, Heq⟩ := gl_some Heq
    refine va_get (D := D) (ci := 1) (v := rv ad 5 (S.r 1 2 x0)) (C := R_Rd) (T := F_Rd) (N := 10) hx hb hts i_Rd hown hK hP (cPos N 1 x0) (cw_obj (k := 1) (by decide) hl_x0_1) rfl 2 (by decide) (hts _ kw_346) (fun _ h9 => h9) rfl d_cRd_readString_18 ?_
    refine lv_aload_n hx hb d_cRd_readString_21 rfl (lv_at hl 0 rfl) ?_
    refine va_get (D := D) (ci := 1) (v := .int (S.i 1 4 x0)) (C := R_Rd) (T := F_Rd) (N := 10) hx hb hts i_Rd hown hK hP (cPos N 1 x0) (cw_obj (k := 1) (by decide) hl_x0_1) rfl 4 (by decide) (hts _ kw_349) (fun _ h9 => h9) rfl d_cRd_readString_22 ?_
    obtain ⟨j_2, hj_3, hl_4, Heq⟩ := gn_some Heq
    refine w_s (st' := [.int (S.i 1 4 x0), .ref (ad 5 j_2)]) (congrArg (fun z9 : Option Nat => [.int (S.i 1 4 x0), rv ad 5 z9]) hj_3) ?_
    obtain ⟨o_5, h_6, Heq⟩ := ob_some Heq
    have hFc := fr_all hD hS hA
    refine va_calli (va_runV (As := [.int (S.i 1 4 x0)]) (rest := []) ⟨hx, hb, hml, hown, hts⟩ (g_cRw_at l D H.size (ad := ad) (cc := cc) (sad := sad) (sav := sav) h_6) (cw_v 1 hts kw_689 kw_871 kw_687 kw_688 kw_4 rfl rfl (by decide +kernel) ⟨Nat.le_of_ble_eq_true rfl, Nat.le_of_ble_eq_true rfl⟩) ⟨c_blind, va_recv hK hP (ci := 5) (q0 := cPos N 5 j_2) rfl (cw_obj (k := 5) (by decide) hl_4), fun U hU hW => c_pre hU hW hP hK hD hev hE hN hNS hS hFc⟩ rfl rfl hl.1 rfl (lv_room (Nat.le_of_ble_eq_true rfl)) d_cRd_readString_25 ⟨Nat.le_of_ble_eq_true rfl, Nat.le_of_ble_eq_true rfl⟩) hS (fun q _ h => hFc q h) hFc (fun rz u t H1 locs ht hvm hw hB hz1 hk1 hS => ?_)
    obtain ⟨hP, -, hD1⟩ := hB
    rw [ht] at hP
    have hD := hD1.weaken (fun _ q _ h => hFc q.1 h)
    generalize H1 = H at hP hS ⊢
    refine W.cs (cells' := 0) (slots' := 0) rfl rfl ?_
    subst hw
    refine lv_istore_n (lv' := [(3, .int o_5.2), (0, .ref (ad 1 x0)), (1, .int x1), (2, .int x2)]) hx hb d_cRd_readString_28 rfl hl (by decide) rfl (fun ls hl => ?_)
    refine lv_iload_n hx hb d_cRd_readString_29 rfl (lv_at hl 0 rfl) ?_
    refine lv_bipush (v := 34) hx hb d_cRd_readString_30 (by decide) ?_
    refine lv_icmp_ne (tgt := 37) hx hb d_cRd_readString_32 (by decide) (fun c_7 => ?_) (fun c_7 => ?_)
    · replace Heq := (if_neg c_7).symm.trans Heq
      refine lv_iload_n hx hb d_cRd_readString_37 rfl (lv_at hl 0 rfl) ?_
      refine lv_bipush (v := 32) hx hb d_cRd_readString_38 (by decide) ?_
      refine lv_icmp_lt (tgt := 49) hx hb d_cRd_readString_40 (by decide) (fun c_8 => ?_) (fun c_8 => ?_)
      · replace Heq := (if_pos c_8).symm.trans Heq
        exact w_cRd_readString_J49 hC Heq Ka K0 Kr _ _ _ hP hD hS (lv_sub hl [1] rfl)
      · replace Heq := (if_neg c_8).symm.trans Heq
        refine lv_iload_n hx hb d_cRd_readString_43 rfl (lv_at hl 0 rfl) ?_
        refine lv_bipush (v := 126) hx hb d_cRd_readString_44 (by decide) ?_
        refine lv_icmp_le (tgt := 51) hx hb d_cRd_readString_46 (by decide) (fun c_9 => ?_) (fun c_9 => ?_)
        · replace Heq := (if_pos c_9).symm.trans Heq
          refine lv_aload_n hx hb d_cRd_readString_51 rfl (lv_at hl 1 rfl) ?_
          refine lv_dup hx hb d_cRd_readString_52 (by first | rfl | exact rv_cat) ?_
          refine va_get (D := D) (ci := 1) (v := .int (o_5.1.i 1 4 x0)) (C := R_Rd) (T := F_Rd) (N := 10) hx hb hts i_Rd hown hK hP (cPos N 1 x0) (cw_obj (k := 1) (by decide) hl_x0_1) rfl 4 (by decide) (hts _ kw_349) (fun _ h9 => h9) rfl d_cRd_readString_53 ?_
          refine lv_iconst (v := 1) hx hb d_cRd_readString_56 (by decide) ?_
          refine lv_iadd hx hb d_cRd_readString_57 ?_
          refine w_i (y := (o_5.1.i 1 4 x0) + 1) rfl ?_
          refine va_put (D := D) (ci := 1) (v := .int ((o_5.1.i 1 4 x0) + 1)) (ty := .int) (C := R_Rd) (T := F_Rd) (N := 10) hx hb hts i_Rd t_Rd t_Rd_ok n_Rd hown hK hP hD hS (cPos N 1 x0) (cw_obj (k := 1) (by decide) hl_x0_1) rfl 4 (by decide) (hts _ kw_349) (fun _ h9 => h9) rfl (by decide +kernel) rfl rfl (Nat.le_of_ble_eq_true rfl) d_cRd_readString_58 (fun H locs hP hD hS => ?_)
          have hD := (congrArg (fun w9 => va_D A w9) (cw_setI (ad := ad) (cc := cc) (S := o_5.1) (k := 1) (f := 4) (v := (o_5.1.i 1 4 x0) + 1) (by decide) rfl hl_x0_1)).mp hD
          have hP := (congrArg (fun w9 => va_P D cls w9 H) (cw_setI (ad := ad) (cc := cc) (S := o_5.1) (k := 1) (f := 4) (v := (o_5.1.i 1 4 x0) + 1) (by decide) rfl hl_x0_1)).mp hP
          refine lv_iload_n hx hb d_cRd_readString_61 rfl (lv_at hl 0 rfl) ?_
          refine lv_bipush (v := 92) hx hb d_cRd_readString_62 (by decide) ?_
          refine lv_icmp_eq (tgt := 78) hx hb d_cRd_readString_64 (by decide) (fun c_10 => ?_) (fun c_10 => ?_)
          · replace Heq := (if_pos c_10).symm.trans Heq
            refine lv_aload_n hx hb d_cRd_readString_78 rfl (lv_at hl 1 rfl) ?_
            obtain ⟨o_11, h_12, Heq⟩ := ob_some Heq
            have hFc := fr_all hD hS hA
            refine va_calli (va_runV (As := []) (rest := []) ⟨hx, hb, hml, hown, hts⟩ (g_cRd_readEscaped l D H.size (ad := ad) (cc := cc) (sad := sad) (sav := sav) h_12) (cw_v 0 hts kw_899 kw_896 kw_897 kw_898 kw_7 rfl rfl (by decide +kernel) ⟨Nat.le_of_ble_eq_true rfl, Nat.le_of_ble_eq_true rfl⟩) ⟨c_blind, va_recv hK hP (ci := 1) (q0 := cPos N 1 x0) rfl (cw_obj (k := 1) (by decide) hl_x0_1), fun U hU hW => c_pre hU hW hP hK hD hev hE hN hNS hS hFc⟩ rfl rfl hl.1 rfl (lv_room (Nat.le_of_ble_eq_true rfl)) d_cRd_readString_79 ⟨Nat.le_of_ble_eq_true rfl, Nat.le_of_ble_eq_true rfl⟩) hS (fun q _ h => hFc q h) hFc (fun rz u t H1 locs ht hvm hw hB hz1 hk1 hS => ?_)
            obtain ⟨hP, -, hD1⟩ := hB
            rw [ht] at hP
            have hD := hD1.weaken (fun _ q _ h => hFc q.1 h)
            generalize H1 = H at hP hS ⊢
            refine W.cs (cells' := 0) (slots' := 0) rfl rfl ?_
            subst hw
            refine lv_if_ne (tgt := 87) hx hb d_cRd_readString_82 (by decide) (fun c_13 => ?_) (fun c_13 => ?_)
            · replace Heq := (if_neg c_13).symm.trans Heq
              exact w_cRd_readString_J87 hC Heq Ka K0 Kr _ _ _ hP hD hS (lv_sub hl [1, 2, 3] rfl)
            · replace Heq := (if_pos c_13).symm.trans Heq
              refine lv_iconst (v := 0) hx hb d_cRd_readString_85 (by decide) ?_
              exact Kr _ (Option.some.inj Heq).symm 86 _ _ _ d_cRd_readString_86 (Or.inl rfl) hP hD hS
          · replace Heq := (if_neg c_10).symm.trans Heq
            refine lv_aload_n hx hb d_cRd_readString_67 rfl (lv_at hl 1 rfl) ?_
            refine va_get (D := D) (ci := 1) (v := rv ad 5 ((o_5.1.setI 1 4 x0 ((o_5.1.i 1 4 x0) + 1)).r 1 1 x0)) (C := R_Rd) (T := F_Rd) (N := 10) hx hb hts i_Rd hown hK hP (cPos N 1 x0) (cw_obj (k := 1) (by decide) hl_x0_1) rfl 1 (by decide) (hts _ kw_344) (fun _ h9 => h9) rfl d_cRd_readString_68 ?_
            refine w_v (y := rv ad 5 (o_5.1.r 1 1 x0)) (congrArg (rv ad 5) rfl) ?_
            refine lv_iload_n hx hb d_cRd_readString_71 rfl (lv_at hl 0 rfl) ?_
            obtain ⟨j_14, hj_15, hl_16, Heq⟩ := gn_some Heq
            refine w_s (st' := [.int o_5.2, .ref (ad 5 j_14)]) (congrArg (fun z9 : Option Nat => [.int o_5.2, rv ad 5 z9]) hj_15) ?_
            obtain ⟨o_17, h_18, Heq⟩ := ob_some Heq
            have hFc := fr_all hD hS hA
            refine va_callv (va_runV (As := [.int o_5.2]) (rest := []) ⟨hx, hb, hml, hown, hts⟩ (g_cRw_write l D H.size (ad := ad) (cc := cc) (sad := sad) (sav := sav) h_18) (cw_v 1 hts kw_549 kw_895 kw_547 kw_548 kw_4 rfl rfl (by decide +kernel) ⟨Nat.le_of_ble_eq_true rfl, Nat.le_of_ble_eq_true rfl⟩) ⟨c_blind, va_recv hK hP (ci := 5) (q0 := cPos N 5 j_14) rfl (cw_obj (k := 5) (by decide) hl_16), fun U hU hW => c_pre hU hW hP hK hD hev hE hN hNS hS hFc⟩ rfl rfl hl.1 rfl (lv_room (Nat.le_of_ble_eq_true rfl)) d_cRd_readString_72 ⟨Nat.le_of_ble_eq_true rfl, Nat.le_of_ble_eq_true rfl⟩) hS (fun q _ h => hFc q h) hFc (fun u t H1 locs ht hvm hw hB hz1 hk1 hS => ?_)
            obtain ⟨hP, -, hD1⟩ := hB
            rw [ht] at hP
            have hD := hD1.weaken (fun _ q _ h => hFc q.1 h)
            generalize H1 = H at hP hS ⊢
            refine W.cs (cells' := 0) (slots' := 0) rfl rfl ?_
            refine lv_goto (tgt := 87) hx hb d_cRd_readString_75 (by decide) ?_
            exact w_cRd_readString_J87 hC Heq Ka K0 Kr _ _ _ hP hD hS (lv_sub hl [1, 2, 3] rfl)
        · replace Heq := (if_neg c_9).symm.trans Heq
          exact w_cRd_readString_J49 hC Heq Ka K0 Kr _ _ _ hP hD hS (lv_sub hl [1] rfl)
    · replace Heq := (if_pos c_7).symm.trans Heq
      refine lv_iconst (v := 1) hx hb d_cRd_readString_35 (by decide) ?_
      exact Kr _ (Option.some.inj Heq).symm 36 _ _ _ d_cRd_readString_36 (Or.inr rfl) hP hD hS
def m_cRd_readString_L12 (N : Nat → Nat) (x0 : Nat) (S : CS) (x1 : Int32) (x2 : Int32) : Option (CS ⊕ (CS × Int32)) := lp (fun a : CS × Int32 × Int32 => m_cRd_readString_B12 N x0 a.1 a.2.1 a.2.2) FU (S, x1, x2)
theorem w_cRd_readString_L12 {p : Program} {l : Launch} {e : Env} {s : State} {m : MethodId} {args : Array Value} {below : List Frame} {meth : Method} {c : Code} {A : Nat → Prop} {D : va_G} {ad : Nat → Nat → Nat} {cc : Nat → ClassId} {sad sav : Nat → Nat} {Q : State → Prop} (hC : MCc sad sav "JoinedTrees$JsonReader" prog_3_method_11_code 4 (some .boolean) p s m args meth c A D cc) {N : Nat → Nat} {x0 : Nat} {S : CS} {x1 : Int32} {x2 : Int32} {o : (CS ⊕ (CS × Int32))} (Heq : m_cRd_readString_L12 N x0 S x1 x2 = some o) (K0 : ∀ b : CS, o = (.inl b) → ∀ (H : Heap) (locs : List Loc) (ls : Array Slot), va_P D cls (cw ad cc N b) H → va_D A (cw ad cc N b) → va_S A s.heap H locs → lv_has ls 4 [(0, .ref (ad 1 x0))] → W p l e ({ frames := 2, cells := 0, slots := 0, locals := 46 }) s m args below meth c H locs 0 0 Q (F0 m 93 ls [])) (Kr : ∀ r : CS × Int32, o = (.inr r) → ∀ (pc : Nat) (H : Heap) (locs : List Loc) (ls : Array Slot), decode prog_3_method_11_code pc = .ok (.ireturn, 1) → (r.2 = 0 ∨ r.2 = 1) → va_P D cls (cw ad cc N r.1) H → va_D A (cw ad cc N r.1) → va_S A s.heap H locs → W p l e ({ frames := 2, cells := 0, slots := 0, locals := 46 }) s m args below meth c H locs 0 0 Q (F0 m pc ls [.int r.2])) : ∀ (H : Heap) (locs : List Loc) (ls : Array Slot), va_P D cls (cw ad cc N S) H → va_D A (cw ad cc N S) → va_S A s.heap H locs → lv_has ls 4 [(0, .ref (ad 1 x0)), (1, .int x1), (2, .int x2)] → W p l e ({ frames := 2, cells := 0, slots := 0, locals := 46 }) s m args below meth c H locs 0 0 Q (F0 m 12 ls []) := by
  refine lp_w (G := fun a : CS × Int32 × Int32 => ∀ (H : Heap) (locs : List Loc) (ls : Array Slot), va_P D cls (cw ad cc N a.1) H → va_D A (cw ad cc N a.1) → va_S A s.heap H locs → lv_has ls 4 [(0, .ref (ad 1 x0)), (1, .int a.2.1), (2, .int a.2.2)] → W p l e ({ frames := 2, cells := 0, slots := 0, locals := 46 }) s m args below meth c H locs 0 0 Q (F0 m 12 ls [])) ?_ FU (S, x1, x2) Heq
  intro a o1 ho Ka Ke
  exact w_cRd_readString_B12 hC ho (fun b h => Ka b h) (fun b h => K0 b (Ke _ h).symm) (fun r h => Kr r (Ke _ h).symm)
def m_cRd_readString_J114 (N : Nat → Nat) (x0 : Nat) (S : CS) (t0 : Int32) : Option (CS × Int32) := (if t0 = 0 ∨ t0 = 1 then some (S, t0) else none)
theorem d_cRd_readString_93 : decode prog_3_method_11_code 93 = .ok (.aload_n 0, 1) := by decide +kernel
theorem d_cRd_readString_94 : decode prog_3_method_11_code 94 = .ok (.getfield 27, 3) := by decide +kernel
theorem d_cRd_readString_97 : decode prog_3_method_11_code 97 = .ok (.aload_n 0, 1) := by decide +kernel
theorem d_cRd_readString_98 : decode prog_3_method_11_code 98 = .ok (.getfield 34, 3) := by decide +kernel
theorem d_cRd_readString_101 : decode prog_3_method_11_code 101 = .ok (.invokevirtual 70, 3) := by decide +kernel
theorem d_cRd_readString_104 : decode prog_3_method_11_code 104 = .ok (.bipush 34, 2) := by decide +kernel
theorem d_cRd_readString_106 : decode prog_3_method_11_code 106 = .ok (.if_icmp .ne 7, 3) := by decide +kernel
theorem d_cRd_readString_113 : decode prog_3_method_11_code 113 = .ok (.iconst 0, 1) := by decide +kernel
theorem d_cRd_readString_114 : decode prog_3_method_11_code 114 = .ok (.ireturn, 1) := by decide +kernel
set_option maxHeartbeats 4000000 in
set_option maxRecDepth 100000 in
theorem w_cRd_readString_J114 {p : Program} {l : Launch} {e : Env} {s : State} {m : MethodId} {args : Array Value} {below : List Frame} {meth : Method} {c : Code} {A : Nat → Prop} {D : va_G} {ad : Nat → Nat → Nat} {cc : Nat → ClassId} {sad sav : Nat → Nat} {Q : State → Prop} (hC : MCc sad sav "JoinedTrees$JsonReader" prog_3_method_11_code 4 (some .boolean) p s m args meth c A D cc) {N : Nat → Nat} {x0 : Nat} {S : CS} {t0 : Int32} {o : CS × Int32} (Heq : m_cRd_readString_J114 N x0 S t0 = some o) (Kr : ∀ r : CS × Int32, o = r → ∀ (pc : Nat) (H : Heap) (locs : List Loc) (ls : Array Slot), decode prog_3_method_11_code pc = .ok (.ireturn, 1) → (r.2 = 0 ∨ r.2 = 1) → va_P D cls (cw ad cc N r.1) H → va_D A (cw ad cc N r.1) → va_S A s.heap H locs → W p l e ({ frames := 2, cells := 0, slots := 0, locals := 46 }) s m args below meth c H locs 0 0 Q (F0 m pc ls [.int r.2])) : ∀ (H : Heap) (locs : List Loc) (ls : Array Slot), va_P D cls (cw ad cc N S) H → va_D A (cw ad cc N S) → va_S A s.heap H locs → lv_has ls 4 [(0, .ref (ad 1 x0))] → W p l e ({ frames := 2, cells := 0, slots := 0, locals := 46 }) s m args below meth c H locs 0 0 Q (F0 m 114 ls [.int t0]) := by
  intro H locs ls hP hD hS hl
  obtain ⟨hx, hb, hr, hml, hown, hts, hK, hA, hev, hE, hN, hNS⟩ := id hC
  unfold m_cRd_readString_J114 at Heq
  by_cases hz_1 : t0 = 0 ∨ t0 = 1
  case neg => rw [if_neg hz_1] at Heq; cases Heq
  replace Heq := (if_pos hz_1).symm.trans Heq
  exact Kr _ (Option.some.inj Heq).symm 114 _ _ _ d_cRd_readString_114 hz_1 hP hD hS
def m_cRd_readString_J0 (N : Nat → Nat) (x0 : Nat) (S : CS) (x1 : Int32) : Option (CS × Int32) := gl x0 (N 1) (oe (m_cRd_readString_L12 N x0 (S.setI 1 4 x0 ((S.i 1 4 x0) + 1)) x1 0) (fun b_1 => gn (b_1.r 1 2 x0) (N 5) (fun j_4 => ob (m_cRw_at N j_4 b_1 (b_1.i 1 4 x0)) (fun o_7 => (if o_7.2 = 34 then m_cRd_readString_J114 N x0 o_7.1 1 else m_cRd_readString_J114 N x0 o_7.1 0)))) (fun r_3 => some r_3))
theorem d_cRd_readString_109 : decode prog_3_method_11_code 109 = .ok (.iconst 1, 1) := by decide +kernel
theorem d_cRd_readString_110 : decode prog_3_method_11_code 110 = .ok (.goto 4, 3) := by decide +kernel
set_option maxHeartbeats 4000000 in
set_option maxRecDepth 100000 in
theorem w_cRd_readString_J0 {p : Program} {l : Launch} {e : Env} {s : State} {m : MethodId} {args : Array Value} {below : List Frame} {meth : Method} {c : Code} {A : Nat → Prop} {D : va_G} {ad : Nat → Nat → Nat} {cc : Nat → ClassId} {sad sav : Nat → Nat} {Q : State → Prop} (hC : MCc sad sav "JoinedTrees$JsonReader" prog_3_method_11_code 4 (some .boolean) p s m args meth c A D cc) {N : Nat → Nat} {x0 : Nat} {S : CS} {x1 : Int32} {o : CS × Int32} (Heq : m_cRd_readString_J0 N x0 S x1 = some o) (Kr : ∀ r : CS × Int32, o = r → ∀ (pc : Nat) (H : Heap) (locs : List Loc) (ls : Array Slot), decode prog_3_method_11_code pc = .ok (.ireturn, 1) → (r.2 = 0 ∨ r.2 = 1) → va_P D cls (cw ad cc N r.1) H → va_D A (cw ad cc N r.1) → va_S A s.heap H locs → W p l e ({ frames := 2, cells := 0, slots := 0, locals := 46 }) s m args below meth c H locs 0 0 Q (F0 m pc ls [.int r.2])) : ∀ (H : Heap) (locs : List Loc) (ls : Array Slot), va_P D cls (cw ad cc N S) H → va_D A (cw ad cc N S) → va_S A s.heap H locs → lv_has ls 4 [(0, .ref (ad 1 x0)), (1, .int x1)] → W p l e ({ frames := 2, cells := 0, slots := 0, locals := 46 }) s m args below meth c H locs 0 0 Q (F0 m 0 ls []) := by
  intro H locs ls hP hD hS hl
  obtain ⟨hx, hb, hr, hml, hown, hts, hK, hA, hev, hE, hN, hNS⟩ := id hC
  unfold m_cRd_readString_J0 at Heq
  refine lv_aload_n hx hb d_cRd_readString_0 rfl (lv_at hl 0 rfl) ?_
  refine lv_dup hx hb d_cRd_readString_1 (by first | rfl | exact rv_cat) ?_
  obtain ⟨hl_x0_1, Heq⟩ := gl_some Heq
  refine va_get (D := D) (ci := 1) (v := .int (S.i 1 4 x0)) (C := R_Rd) (T := F_Rd) (N := 10) hx hb hts i_Rd hown hK hP (cPos N 1 x0) (cw_obj (k := 1) (by decide) hl_x0_1) rfl 4 (by decide) (hts _ kw_349) (fun _ h9 => h9) rfl d_cRd_readString_2 ?_
  refine lv_iconst (v := 1) hx hb d_cRd_readString_5 (by decide) ?_
  refine lv_iadd hx hb d_cRd_readString_6 ?_
  refine w_i (y := (S.i 1 4 x0) + 1) rfl ?_
  refine va_put (D := D) (ci := 1) (v := .int ((S.i 1 4 x0) + 1)) (ty := .int) (C := R_Rd) (T := F_Rd) (N := 10) hx hb hts i_Rd t_Rd t_Rd_ok n_Rd hown hK hP hD hS (cPos N 1 x0) (cw_obj (k := 1) (by decide) hl_x0_1) rfl 4 (by decide) (hts _ kw_349) (fun _ h9 => h9) rfl (by decide +kernel) rfl rfl (Nat.le_of_ble_eq_true rfl) d_cRd_readString_7 (fun H locs hP hD hS => ?_)
  have hD := (congrArg (fun w9 => va_D A w9) (cw_setI (ad := ad) (cc := cc) (S := S) (k := 1) (f := 4) (v := (S.i 1 4 x0) + 1) (by decide) rfl hl_x0_1)).mp hD
  have hP := (congrArg (fun w9 => va_P D cls w9 H) (cw_setI (ad := ad) (cc := cc) (S := S) (k := 1) (f := 4) (v := (S.i 1 4 x0) + 1) (by decide) rfl hl_x0_1)).mp hP
  refine lv_iconst (v := 0) hx hb d_cRd_readString_10 (by decide) ?_
  refine lv_istore_n (lv' := [(2, .int 0), (0, .ref (ad 1 x0)), (1, .int x1)]) hx hb d_cRd_readString_11 rfl hl (by decide) rfl (fun ls hl => ?_)
  rcases oe_some Heq with ⟨b_1, h_2, Heq⟩ | ⟨r_3, h_2, Heq⟩
  · refine w_cRd_readString_L12 hC h_2 (fun b h => ?_) (fun r h => by cases h) _ _ _ hP hD hS (lv_sub hl [1, 2, 0] rfl)
    cases h
    intro H locs ls hP hD hS hl
    refine lv_aload_n hx hb d_cRd_readString_93 rfl (lv_at hl 0 rfl) ?_
    refine va_get (D := D) (ci := 1) (v := rv ad 5 (b_1.r 1 2 x0)) (C := R_Rd) (T := F_Rd) (N := 10) hx hb hts i_Rd hown hK hP (cPos N 1 x0) (cw_obj (k := 1) (by decide) hl_x0_1) rfl 2 (by decide) (hts _ kw_346) (fun _ h9 => h9) rfl d_cRd_readString_94 ?_
    refine lv_aload_n hx hb d_cRd_readString_97 rfl (lv_at hl 0 rfl) ?_
    refine va_get (D := D) (ci := 1) (v := .int (b_1.i 1 4 x0)) (C := R_Rd) (T := F_Rd) (N := 10) hx hb hts i_Rd hown hK hP (cPos N 1 x0) (cw_obj (k := 1) (by decide) hl_x0_1) rfl 4 (by decide) (hts _ kw_349) (fun _ h9 => h9) rfl d_cRd_readString_98 ?_
    obtain ⟨j_4, hj_5, hl_6, Heq⟩ := gn_some Heq
    refine w_s (st' := [.int (b_1.i 1 4 x0), .ref (ad 5 j_4)]) (congrArg (fun z9 : Option Nat => [.int (b_1.i 1 4 x0), rv ad 5 z9]) hj_5) ?_
    obtain ⟨o_7, h_8, Heq⟩ := ob_some Heq
    have hFc := fr_all hD hS hA
    refine va_calli (va_runV (As := [.int (b_1.i 1 4 x0)]) (rest := []) ⟨hx, hb, hml, hown, hts⟩ (g_cRw_at l D H.size (ad := ad) (cc := cc) (sad := sad) (sav := sav) h_8) (cw_v 1 hts kw_689 kw_871 kw_687 kw_688 kw_4 rfl rfl (by decide +kernel) ⟨Nat.le_of_ble_eq_true rfl, Nat.le_of_ble_eq_true rfl⟩) ⟨c_blind, va_recv hK hP (ci := 5) (q0 := cPos N 5 j_4) rfl (cw_obj (k := 5) (by decide) hl_6), fun U hU hW => c_pre hU hW hP hK hD hev hE hN hNS hS hFc⟩ rfl rfl hl.1 rfl (lv_room (Nat.le_of_ble_eq_true rfl)) d_cRd_readString_101 ⟨Nat.le_of_ble_eq_true rfl, Nat.le_of_ble_eq_true rfl⟩) hS (fun q _ h => hFc q h) hFc (fun rz u t H1 locs ht hvm hw hB hz1 hk1 hS => ?_)
    obtain ⟨hP, -, hD1⟩ := hB
    rw [ht] at hP
    have hD := hD1.weaken (fun _ q _ h => hFc q.1 h)
    generalize H1 = H at hP hS ⊢
    refine W.cs (cells' := 0) (slots' := 0) rfl rfl ?_
    subst hw
    refine lv_bipush (v := 34) hx hb d_cRd_readString_104 (by decide) ?_
    refine lv_icmp_ne (tgt := 113) hx hb d_cRd_readString_106 (by decide) (fun c_9 => ?_) (fun c_9 => ?_)
    · replace Heq := (if_neg c_9).symm.trans Heq
      refine lv_iconst (v := 0) hx hb d_cRd_readString_113 (by decide) ?_
      exact w_cRd_readString_J114 hC Heq Kr _ _ _ hP hD hS (lv_sub hl [0] rfl)
    · replace Heq := (if_pos c_9).symm.trans Heq
      refine lv_iconst (v := 1) hx hb d_cRd_readString_109 (by decide) ?_
      refine lv_goto (tgt := 114) hx hb d_cRd_readString_110 (by decide) ?_
      exact w_cRd_readString_J114 hC Heq Kr _ _ _ hP hD hS (lv_sub hl [0] rfl)
  · refine w_cRd_readString_L12 hC h_2 (fun b h => by cases h) (fun r h => ?_) _ _ _ hP hD hS (lv_sub hl [1, 2, 0] rfl)
    cases h
    exact Kr _ (Option.some.inj Heq).symm
def m_cRd_readString (N : Nat → Nat) (x0 : Nat) (S : CS) (x1 : Int32) : Option (CS × Int32) := m_cRd_readString_J0 N x0 S x1
set_option maxHeartbeats 4000000 in
theorem g_cRd_readString (l : Launch) (D : va_G) (sz : Nat) {ad : Nat → Nat → Nat} {cc : Nat → ClassId} {sad sav : Nat → Nat} {N : Nat → Nat} {x0 : Nat} {S : CS} {x1 : Int32} {o : CS × Int32} (Heq : m_cRd_readString N x0 S x1 = some o) : Met l ⟨"JoinedTrees$JsonReader", "readString", "(I)Z"⟩ (Cond.code ⟨"JoinedTrees$JsonReader", "readString", "(I)Z"⟩ prog_3_method_11_code 4 (some .boolean) :: gb) ({ frames := 2, cells := 0, slots := 0, locals := 46 }) (cPc sad sav D (cw ad cc N S) (cty cc) sz [.ref (ad 1 x0), .int x1]) (va_Qi (fun (r : Int32) (_ : Unit) => r = o.2) (fun _ t => gO D (cw ad cc N o.1) (cty cc) (va_A (cw ad cc N S) sz) t) (va_A (cw ad cc N S) sz)) 0 0 (va_A (cw ad cc N S) sz) := by
  refine Met.ofW (cc := prog_3_method_11_code) (maxL := 4) (ret := (some .boolean)) (by decide) rfl ?_
  intro p e s m args below meth c s₁ B hml hv
  obtain ⟨rfl, hsz, hP, hK, hD0, hev, hE, hN⟩ := hv
  have hx := B.exec
  have hb := B.bytes
  have hr := B.returns
  have hts : ∀ w9 ∈ gb, w9.before [.ref (ad 1 x0), .int x1].toArray s = true := fun w9 h => atoms_spec (ws := Cond.code ⟨"JoinedTrees$JsonReader", "readString", "(I)Z"⟩ prog_3_method_11_code 4 (some .boolean) :: gb) B.pre w9 (List.mem_cons_of_mem _ h)
  have hown : s.vm.findClass "JoinedTrees$JsonReader" = some m.cls := findClass_of_methodNamed B.named
  have hlocks := B.notSynchronized
  have hNS := ns_of hP
  subst hsz
  have hD := hD0.self (sz := s.heap.size)
  generalize hAe : va_A (cw ad cc N S) s.heap.size = A at hD hev hE hNS ⊢
  have hA : ∀ q : Nat, s.heap.size ≤ q → A q := fun q h => by rw [← hAe]; exact Or.inr h
  have hS : va_S A s.heap s.heap [] := va_S.rf
  obtain ⟨ls, hl, hle⟩ : ∃ ls : Array Slot, lv_has ls 4 [(0, .ref (ad 1 x0)), (1, .int x1)] ∧ entryFrame m ([.ref (ad 1 x0), .int x1] : List Value).toArray 4 = F0 m 0 ls [] := by
    exact ⟨_, lv_entry (n := 4) _ (Nat.le_of_ble_eq_true rfl), lg_entry_eq ..⟩
  rw [hle]
  refine w_cRd_readString_J0 ⟨hx, hb, hr, hml, hown, hts, hK, hA, hev, hE, hN, hNS⟩ Heq (fun r h pc H locs ls hd hz hP hD hS => ?_) _ _ _ hP hD hS (lv_sub hl [0, 1] rfl)
  subst h
  exact W.zret (ty := .boolean) hx hb hr (by rcases hz with hz | hz <;> rw [hz] <;> rfl) (fun t ht hW => ⟨⟨_, (), rfl, rfl, by rw [ht]; exact hP, va_K.moved hW.alike hK, hD⟩, hS.F ht⟩) hS.2.2 hd
def m_cRd_readStringValue_J0 (N : Nat → Nat) (x0 : Nat) (S : CS) (x1 : Nat) : Option (CS × Int32) := gl x1 (N 9) (gl x0 (N 1) (gn (S.r 1 1 x0) (N 5) (fun j_1 => ob (m_cRd_readString N x0 ((S.setI 9 0 x1 4).setI 9 5 x1 (S.i 5 1 j_1)) 1024) (fun o_4 => (if o_4.2 = 0 then some (o_4.1, 0) else gn (o_4.1.r 1 1 x0) (N 5) (fun j_7 => some (((o_4.1.setI 9 6 x1 ((o_4.1.i 5 1 j_7) - (o_4.1.i 9 5 x1))).setI 1 4 x0 ((o_4.1.i 1 4 x0) + 1)), 1)))))))
theorem d_cRd_readStringValue_0 : decode prog_3_method_10_code 0 = .ok (.aload_n 1, 1) := by decide +kernel
theorem d_cRd_readStringValue_1 : decode prog_3_method_10_code 1 = .ok (.iconst 4, 1) := by decide +kernel
theorem d_cRd_readStringValue_2 : decode prog_3_method_10_code 2 = .ok (.putfield 77, 3) := by decide +kernel
theorem d_cRd_readStringValue_5 : decode prog_3_method_10_code 5 = .ok (.aload_n 1, 1) := by decide +kernel
theorem d_cRd_readStringValue_6 : decode prog_3_method_10_code 6 = .ok (.aload_n 0, 1) := by decide +kernel
theorem d_cRd_readStringValue_7 : decode prog_3_method_10_code 7 = .ok (.getfield 22, 3) := by decide +kernel
theorem d_cRd_readStringValue_10 : decode prog_3_method_10_code 10 = .ok (.getfield 67, 3) := by decide +kernel
theorem d_cRd_readStringValue_13 : decode prog_3_method_10_code 13 = .ok (.putfield 126, 3) := by decide +kernel
theorem d_cRd_readStringValue_16 : decode prog_3_method_10_code 16 = .ok (.aload_n 0, 1) := by decide +kernel
theorem d_cRd_readStringValue_17 : decode prog_3_method_10_code 17 = .ok (.sipush 1024, 3) := by decide +kernel
theorem d_cRd_readStringValue_20 : decode prog_3_method_10_code 20 = .ok (.invokevirtual 89, 3) := by decide +kernel
theorem d_cRd_readStringValue_23 : decode prog_3_method_10_code 23 = .ok (.ifCond .ne 5, 3) := by decide +kernel
theorem d_cRd_readStringValue_28 : decode prog_3_method_10_code 28 = .ok (.aload_n 1, 1) := by decide +kernel
theorem d_cRd_readStringValue_29 : decode prog_3_method_10_code 29 = .ok (.aload_n 0, 1) := by decide +kernel
theorem d_cRd_readStringValue_30 : decode prog_3_method_10_code 30 = .ok (.getfield 22, 3) := by decide +kernel
theorem d_cRd_readStringValue_33 : decode prog_3_method_10_code 33 = .ok (.getfield 67, 3) := by decide +kernel
theorem d_cRd_readStringValue_36 : decode prog_3_method_10_code 36 = .ok (.aload_n 1, 1) := by decide +kernel
theorem d_cRd_readStringValue_37 : decode prog_3_method_10_code 37 = .ok (.getfield 126, 3) := by decide +kernel
theorem d_cRd_readStringValue_40 : decode prog_3_method_10_code 40 = .ok (.isub, 1) := by decide +kernel
theorem d_cRd_readStringValue_41 : decode prog_3_method_10_code 41 = .ok (.putfield 129, 3) := by decide +kernel
theorem d_cRd_readStringValue_44 : decode prog_3_method_10_code 44 = .ok (.aload_n 0, 1) := by decide +kernel
theorem d_cRd_readStringValue_45 : decode prog_3_method_10_code 45 = .ok (.dup, 1) := by decide +kernel
theorem d_cRd_readStringValue_46 : decode prog_3_method_10_code 46 = .ok (.getfield 34, 3) := by decide +kernel
theorem d_cRd_readStringValue_49 : decode prog_3_method_10_code 49 = .ok (.iconst 1, 1) := by decide +kernel
theorem d_cRd_readStringValue_50 : decode prog_3_method_10_code 50 = .ok (.iadd, 1) := by decide +kernel
theorem d_cRd_readStringValue_51 : decode prog_3_method_10_code 51 = .ok (.putfield 34, 3) := by decide +kernel
theorem d_cRd_readStringValue_54 : decode prog_3_method_10_code 54 = .ok (.iconst 1, 1) := by decide +kernel
theorem d_cRd_readStringValue_55 : decode prog_3_method_10_code 55 = .ok (.ireturn, 1) := by decide +kernel
theorem d_cRd_readStringValue_26 : decode prog_3_method_10_code 26 = .ok (.iconst 0, 1) := by decide +kernel
theorem d_cRd_readStringValue_27 : decode prog_3_method_10_code 27 = .ok (.ireturn, 1) := by decide +kernel
set_option maxHeartbeats 4000000 in
set_option maxRecDepth 100000 in
theorem w_cRd_readStringValue_J0 {p : Program} {l : Launch} {e : Env} {s : State} {m : MethodId} {args : Array Value} {below : List Frame} {meth : Method} {c : Code} {A : Nat → Prop} {D : va_G} {ad : Nat → Nat → Nat} {cc : Nat → ClassId} {sad sav : Nat → Nat} {Q : State → Prop} (hC : MCc sad sav "JoinedTrees$JsonReader" prog_3_method_10_code 2 (some .boolean) p s m args meth c A D cc) {N : Nat → Nat} {x0 : Nat} {S : CS} {x1 : Nat} {o : CS × Int32} (Heq : m_cRd_readStringValue_J0 N x0 S x1 = some o) (Kr : ∀ r : CS × Int32, o = r → ∀ (pc : Nat) (H : Heap) (locs : List Loc) (ls : Array Slot), decode prog_3_method_10_code pc = .ok (.ireturn, 1) → (r.2 = 0 ∨ r.2 = 1) → va_P D cls (cw ad cc N r.1) H → va_D A (cw ad cc N r.1) → va_S A s.heap H locs → W p l e ({ frames := 3, cells := 0, slots := 0, locals := 69 }) s m args below meth c H locs 0 0 Q (F0 m pc ls [.int r.2])) : ∀ (H : Heap) (locs : List Loc) (ls : Array Slot), va_P D cls (cw ad cc N S) H → va_D A (cw ad cc N S) → va_S A s.heap H locs → lv_has ls 2 [(0, .ref (ad 1 x0)), (1, .ref (ad 9 x1))] → W p l e ({ frames := 3, cells := 0, slots := 0, locals := 69 }) s m args below meth c H locs 0 0 Q (F0 m 0 ls []) := by
  intro H locs ls hP hD hS hl
  obtain ⟨hx, hb, hr, hml, hown, hts, hK, hA, hev, hE, hN, hNS⟩ := id hC
  unfold m_cRd_readStringValue_J0 at Heq
  refine lv_aload_n hx hb d_cRd_readStringValue_0 rfl (lv_at hl 1 rfl) ?_
  refine lv_iconst (v := 4) hx hb d_cRd_readStringValue_1 (by decide) ?_
  obtain ⟨hl_x1_9, Heq⟩ := gl_some Heq
  refine va_put (D := D) (ci := 9) (v := .int 4) (ty := .int) (C := R_Va) (T := F_Va) (N := 10) hx hb hts i_Va t_Va t_Va_ok n_Va hown hK hP hD hS (cPos N 9 x1) (cw_obj (k := 9) (by decide) hl_x1_9) rfl 0 (by decide) (hts _ kw_295) (fun _ h9 => h9) rfl (by decide +kernel) rfl rfl (Nat.le_of_ble_eq_true rfl) d_cRd_readStringValue_2 (fun H locs hP hD hS => ?_)
  have hD := (congrArg (fun w9 => va_D A w9) (cw_setI (ad := ad) (cc := cc) (S := S) (k := 9) (f := 0) (v := 4) (by decide) rfl hl_x1_9)).mp hD
  have hP := (congrArg (fun w9 => va_P D cls w9 H) (cw_setI (ad := ad) (cc := cc) (S := S) (k := 9) (f := 0) (v := 4) (by decide) rfl hl_x1_9)).mp hP
  refine lv_aload_n hx hb d_cRd_readStringValue_5 rfl (lv_at hl 1 rfl) ?_
  refine lv_aload_n hx hb d_cRd_readStringValue_6 rfl (lv_at hl 0 rfl) ?_
  obtain ⟨hl_x0_1, Heq⟩ := gl_some Heq
  refine va_get (D := D) (ci := 1) (v := rv ad 5 ((S.setI 9 0 x1 4).r 1 1 x0)) (C := R_Rd) (T := F_Rd) (N := 10) hx hb hts i_Rd hown hK hP (cPos N 1 x0) (cw_obj (k := 1) (by decide) hl_x0_1) rfl 1 (by decide) (hts _ kw_344) (fun _ h9 => h9) rfl d_cRd_readStringValue_7 ?_
  refine w_v (y := rv ad 5 (S.r 1 1 x0)) (congrArg (rv ad 5) rfl) ?_
  obtain ⟨j_1, hj_2, hl_3, Heq⟩ := gn_some Heq
  refine w_s (st' := [.ref (ad 5 j_1), .ref (ad 9 x1)]) (congrArg (fun z9 : Option Nat => [rv ad 5 z9, .ref (ad 9 x1)]) hj_2) ?_
  refine va_get (D := D) (ci := 5) (v := .int ((S.setI 9 0 x1 4).i 5 1 j_1)) (C := R_Rw) (T := F_Rw) (N := 3) hx hb hts i_Rw hown hK hP (cPos N 5 j_1) (cw_obj (k := 5) (by decide) hl_3) rfl 1 (by decide) (hts _ kw_146) (fun _ h9 => h9) rfl d_cRd_readStringValue_10 ?_
  refine w_i (y := S.i 5 1 j_1) rfl ?_
  refine va_put (D := D) (ci := 9) (v := .int (S.i 5 1 j_1)) (ty := .int) (C := R_Va) (T := F_Va) (N := 10) hx hb hts i_Va t_Va t_Va_ok n_Va hown hK hP hD hS (cPos N 9 x1) (cw_obj (k := 9) (by decide) hl_x1_9) rfl 5 (by decide) (hts _ kw_310) (fun _ h9 => h9) rfl (by decide +kernel) rfl rfl (Nat.le_of_ble_eq_true rfl) d_cRd_readStringValue_13 (fun H locs hP hD hS => ?_)
  have hD := (congrArg (fun w9 => va_D A w9) (cw_setI (ad := ad) (cc := cc) (S := (S.setI 9 0 x1 4)) (k := 9) (f := 5) (v := S.i 5 1 j_1) (by decide) rfl hl_x1_9)).mp hD
  have hP := (congrArg (fun w9 => va_P D cls w9 H) (cw_setI (ad := ad) (cc := cc) (S := (S.setI 9 0 x1 4)) (k := 9) (f := 5) (v := S.i 5 1 j_1) (by decide) rfl hl_x1_9)).mp hP
  refine lv_aload_n hx hb d_cRd_readStringValue_16 rfl (lv_at hl 0 rfl) ?_
  refine lv_sipush (v := 1024) hx hb d_cRd_readStringValue_17 (by decide) ?_
  obtain ⟨o_4, h_5, Heq⟩ := ob_some Heq
  have hFc := fr_all hD hS hA
  refine va_calli (va_runV (As := [.int 1024]) (rest := []) ⟨hx, hb, hml, hown, hts⟩ (g_cRd_readString l D H.size (ad := ad) (cc := cc) (sad := sad) (sav := sav) h_5) (cw_v 1 hts kw_894 kw_891 kw_892 kw_893 kw_7 rfl rfl (by decide +kernel) ⟨Nat.le_of_ble_eq_true rfl, Nat.le_of_ble_eq_true rfl⟩) ⟨c_blind, va_recv hK hP (ci := 1) (q0 := cPos N 1 x0) rfl (cw_obj (k := 1) (by decide) hl_x0_1), fun U hU hW => c_pre hU hW hP hK hD hev hE hN hNS hS hFc⟩ rfl rfl hl.1 rfl (lv_room (Nat.le_of_ble_eq_true rfl)) d_cRd_readStringValue_20 ⟨Nat.le_of_ble_eq_true rfl, Nat.le_of_ble_eq_true rfl⟩) hS (fun q _ h => hFc q h) hFc (fun rz u t H1 locs ht hvm hw hB hz1 hk1 hS => ?_)
  obtain ⟨hP, -, hD1⟩ := hB
  rw [ht] at hP
  have hD := hD1.weaken (fun _ q _ h => hFc q.1 h)
  generalize H1 = H at hP hS ⊢
  refine W.cs (cells' := 0) (slots' := 0) rfl rfl ?_
  subst hw
  refine lv_if_ne (tgt := 28) hx hb d_cRd_readStringValue_23 (by decide) (fun c_6 => ?_) (fun c_6 => ?_)
  · replace Heq := (if_neg c_6).symm.trans Heq
    refine lv_aload_n hx hb d_cRd_readStringValue_28 rfl (lv_at hl 1 rfl) ?_
    refine lv_aload_n hx hb d_cRd_readStringValue_29 rfl (lv_at hl 0 rfl) ?_
    refine va_get (D := D) (ci := 1) (v := rv ad 5 (o_4.1.r 1 1 x0)) (C := R_Rd) (T := F_Rd) (N := 10) hx hb hts i_Rd hown hK hP (cPos N 1 x0) (cw_obj (k := 1) (by decide) hl_x0_1) rfl 1 (by decide) (hts _ kw_344) (fun _ h9 => h9) rfl d_cRd_readStringValue_30 ?_
    obtain ⟨j_7, hj_8, hl_9, Heq⟩ := gn_some Heq
    refine w_s (st' := [.ref (ad 5 j_7), .ref (ad 9 x1)]) (congrArg (fun z9 : Option Nat => [rv ad 5 z9, .ref (ad 9 x1)]) hj_8) ?_
    refine va_get (D := D) (ci := 5) (v := .int (o_4.1.i 5 1 j_7)) (C := R_Rw) (T := F_Rw) (N := 3) hx hb hts i_Rw hown hK hP (cPos N 5 j_7) (cw_obj (k := 5) (by decide) hl_9) rfl 1 (by decide) (hts _ kw_146) (fun _ h9 => h9) rfl d_cRd_readStringValue_33 ?_
    refine lv_aload_n hx hb d_cRd_readStringValue_36 rfl (lv_at hl 1 rfl) ?_
    refine va_get (D := D) (ci := 9) (v := .int (o_4.1.i 9 5 x1)) (C := R_Va) (T := F_Va) (N := 10) hx hb hts i_Va hown hK hP (cPos N 9 x1) (cw_obj (k := 9) (by decide) hl_x1_9) rfl 5 (by decide) (hts _ kw_310) (fun _ h9 => h9) rfl d_cRd_readStringValue_37 ?_
    refine lv_isub hx hb d_cRd_readStringValue_40 ?_
    refine w_i (y := (o_4.1.i 5 1 j_7) - (o_4.1.i 9 5 x1)) rfl ?_
    refine va_put (D := D) (ci := 9) (v := .int ((o_4.1.i 5 1 j_7) - (o_4.1.i 9 5 x1))) (ty := .int) (C := R_Va) (T := F_Va) (N := 10) hx hb hts i_Va t_Va t_Va_ok n_Va hown hK hP hD hS (cPos N 9 x1) (cw_obj (k := 9) (by decide) hl_x1_9) rfl 6 (by decide) (hts _ kw_313) (fun _ h9 => h9) rfl (by decide +kernel) rfl rfl (Nat.le_of_ble_eq_true rfl) d_cRd_readStringValue_41 (fun H locs hP hD hS => ?_)
    have hD := (congrArg (fun w9 => va_D A w9) (cw_setI (ad := ad) (cc := cc) (S := o_4.1) (k := 9) (f := 6) (v := (o_4.1.i 5 1 j_7) - (o_4.1.i 9 5 x1)) (by decide) rfl hl_x1_9)).mp hD
    have hP := (congrArg (fun w9 => va_P D cls w9 H) (cw_setI (ad := ad) (cc := cc) (S := o_4.1) (k := 9) (f := 6) (v := (o_4.1.i 5 1 j_7) - (o_4.1.i 9 5 x1)) (by decide) rfl hl_x1_9)).mp hP
    refine lv_aload_n hx hb d_cRd_readStringValue_44 rfl (lv_at hl 0 rfl) ?_
    refine lv_dup hx hb d_cRd_readStringValue_45 (by first | rfl | exact rv_cat) ?_
    refine va_get (D := D) (ci := 1) (v := .int ((o_4.1.setI 9 6 x1 ((o_4.1.i 5 1 j_7) - (o_4.1.i 9 5 x1))).i 1 4 x0)) (C := R_Rd) (T := F_Rd) (N := 10) hx hb hts i_Rd hown hK hP (cPos N 1 x0) (cw_obj (k := 1) (by decide) hl_x0_1) rfl 4 (by decide) (hts _ kw_349) (fun _ h9 => h9) rfl d_cRd_readStringValue_46 ?_
    refine w_i (y := o_4.1.i 1 4 x0) rfl ?_
    refine lv_iconst (v := 1) hx hb d_cRd_readStringValue_49 (by decide) ?_
    refine lv_iadd hx hb d_cRd_readStringValue_50 ?_
    refine w_i (y := (o_4.1.i 1 4 x0) + 1) rfl ?_
    refine va_put (D := D) (ci := 1) (v := .int ((o_4.1.i 1 4 x0) + 1)) (ty := .int) (C := R_Rd) (T := F_Rd) (N := 10) hx hb hts i_Rd t_Rd t_Rd_ok n_Rd hown hK hP hD hS (cPos N 1 x0) (cw_obj (k := 1) (by decide) hl_x0_1) rfl 4 (by decide) (hts _ kw_349) (fun _ h9 => h9) rfl (by decide +kernel) rfl rfl (Nat.le_of_ble_eq_true rfl) d_cRd_readStringValue_51 (fun H locs hP hD hS => ?_)
    have hD := (congrArg (fun w9 => va_D A w9) (cw_setI (ad := ad) (cc := cc) (S := (o_4.1.setI 9 6 x1 ((o_4.1.i 5 1 j_7) - (o_4.1.i 9 5 x1)))) (k := 1) (f := 4) (v := (o_4.1.i 1 4 x0) + 1) (by decide) rfl hl_x0_1)).mp hD
    have hP := (congrArg (fun w9 => va_P D cls w9 H) (cw_setI (ad := ad) (cc := cc) (S := (o_4.1.setI 9 6 x1 ((o_4.1.i 5 1 j_7) - (o_4.1.i 9 5 x1)))) (k := 1) (f := 4) (v := (o_4.1.i 1 4 x0) + 1) (by decide) rfl hl_x0_1)).mp hP
    refine lv_iconst (v := 1) hx hb d_cRd_readStringValue_54 (by decide) ?_
    exact Kr _ (Option.some.inj Heq).symm 55 _ _ _ d_cRd_readStringValue_55 (Or.inr rfl) hP hD hS
  · replace Heq := (if_pos c_6).symm.trans Heq
    refine lv_iconst (v := 0) hx hb d_cRd_readStringValue_26 (by decide) ?_
    exact Kr _ (Option.some.inj Heq).symm 27 _ _ _ d_cRd_readStringValue_27 (Or.inl rfl) hP hD hS
def m_cRd_readStringValue (N : Nat → Nat) (x0 : Nat) (S : CS) (x1 : Nat) : Option (CS × Int32) := m_cRd_readStringValue_J0 N x0 S x1
set_option maxHeartbeats 4000000 in
theorem g_cRd_readStringValue (l : Launch) (D : va_G) (sz : Nat) {ad : Nat → Nat → Nat} {cc : Nat → ClassId} {sad sav : Nat → Nat} {N : Nat → Nat} {x0 : Nat} {S : CS} {x1 : Nat} {o : CS × Int32} (Heq : m_cRd_readStringValue N x0 S x1 = some o) : Met l ⟨"JoinedTrees$JsonReader", "readStringValue", "(LJoinedTrees$Value;)Z"⟩ (Cond.code ⟨"JoinedTrees$JsonReader", "readStringValue", "(LJoinedTrees$Value;)Z"⟩ prog_3_method_10_code 2 (some .boolean) :: gb) ({ frames := 3, cells := 0, slots := 0, locals := 69 }) (cPc sad sav D (cw ad cc N S) (cty cc) sz [.ref (ad 1 x0), .ref (ad 9 x1)]) (va_Qi (fun (r : Int32) (_ : Unit) => r = o.2) (fun _ t => gO D (cw ad cc N o.1) (cty cc) (va_A (cw ad cc N S) sz) t) (va_A (cw ad cc N S) sz)) 0 0 (va_A (cw ad cc N S) sz) := by
  refine Met.ofW (cc := prog_3_method_10_code) (maxL := 2) (ret := (some .boolean)) (by decide) rfl ?_
  intro p e s m args below meth c s₁ B hml hv
  obtain ⟨rfl, hsz, hP, hK, hD0, hev, hE, hN⟩ := hv
  have hx := B.exec
  have hb := B.bytes
  have hr := B.returns
  have hts : ∀ w9 ∈ gb, w9.before [.ref (ad 1 x0), .ref (ad 9 x1)].toArray s = true := fun w9 h => atoms_spec (ws := Cond.code ⟨"JoinedTrees$JsonReader", "readStringValue", "(LJoinedTrees$Value;)Z"⟩ prog_3_method_10_code 2 (some .boolean) :: gb) B.pre w9 (List.mem_cons_of_mem _ h)
  have hown : s.vm.findClass "JoinedTrees$JsonReader" = some m.cls := findClass_of_methodNamed B.named
  have hlocks := B.notSynchronized
  have hNS := ns_of hP
  subst hsz
  have hD := hD0.self (sz := s.heap.size)
  generalize hAe : va_A (cw ad cc N S) s.heap.size = A at hD hev hE hNS ⊢
  have hA : ∀ q : Nat, s.heap.size ≤ q → A q := fun q h => by rw [← hAe]; exact Or.inr h
  have hS : va_S A s.heap s.heap [] := va_S.rf
  obtain ⟨ls, hl, hle⟩ : ∃ ls : Array Slot, lv_has ls 2 [(0, .ref (ad 1 x0)), (1, .ref (ad 9 x1))] ∧ entryFrame m ([.ref (ad 1 x0), .ref (ad 9 x1)] : List Value).toArray 2 = F0 m 0 ls [] := by
    exact ⟨_, lv_entry (n := 2) _ (Nat.le_of_ble_eq_true rfl), lg_entry_eq ..⟩
  rw [hle]
  refine w_cRd_readStringValue_J0 ⟨hx, hb, hr, hml, hown, hts, hK, hA, hev, hE, hN, hNS⟩ Heq (fun r h pc H locs ls hd hz hP hD hS => ?_) _ _ _ hP hD hS (lv_sub hl [0, 1] rfl)
  subst h
  exact W.zret (ty := .boolean) hx hb hr (by rcases hz with hz | hz <;> rw [hz] <;> rfl) (fun t ht hW => ⟨⟨_, (), rfl, rfl, by rw [ht]; exact hP, va_K.moved hW.alike hK, hD⟩, hS.F ht⟩) hS.2.2 hd
def m_cRd_readWord_B8 (N : Nat → Nat) (x0 : Nat) (S : CS) (x3 : Nat) (x4 : Int32) : Option ((CS × Nat × Int32) ⊕ (CS ⊕ (CS × Int32))) := gS x3 ((if nI (sLn x3) ≤ x4 then some (.inr (.inl (S))) else gl x0 (N 1) (gn (S.r 1 2 x0) (N 5) (fun j_2 => ob (m_cRw_at N j_2 S (S.i 1 4 x0)) (fun o_5 => gd x4 (sLn x3) ((if o_5.2 = sCh x3 x4.toNatClampNeg then some (.inl ((o_5.1.setI 1 4 x0 ((o_5.1.i 1 4 x0) + 1)), x3, (x4 + 1))) else some (.inr (.inr (o_5.1, 0))))))))))
theorem d_cRd_readWord_0 : decode prog_3_method_14_code 0 = .ok (.aload_n 1, 1) := by decide +kernel
theorem d_cRd_readWord_1 : decode prog_3_method_14_code 1 = .ok (.iload_n 2, 1) := by decide +kernel
theorem d_cRd_readWord_2 : decode prog_3_method_14_code 2 = .ok (.putfield 77, 3) := by decide +kernel
theorem d_cRd_readWord_5 : decode prog_3_method_14_code 5 = .ok (.iconst 0, 1) := by decide +kernel
theorem d_cRd_readWord_6 : decode prog_3_method_14_code 6 = .ok (.istore 4, 2) := by decide +kernel
theorem d_cRd_readWord_8 : decode prog_3_method_14_code 8 = .ok (.iload 4, 2) := by decide +kernel
theorem d_cRd_readWord_10 : decode prog_3_method_14_code 10 = .ok (.aload_n 3, 1) := by decide +kernel
theorem d_cRd_readWord_11 : decode prog_3_method_14_code 11 = .ok (.invokevirtual 139, 3) := by decide +kernel
theorem d_cRd_readWord_14 : decode prog_3_method_14_code 14 = .ok (.if_icmp .ge 41, 3) := by decide +kernel
theorem d_cRd_readWord_17 : decode prog_3_method_14_code 17 = .ok (.aload_n 0, 1) := by decide +kernel
theorem d_cRd_readWord_18 : decode prog_3_method_14_code 18 = .ok (.getfield 27, 3) := by decide +kernel
theorem d_cRd_readWord_21 : decode prog_3_method_14_code 21 = .ok (.aload_n 0, 1) := by decide +kernel
theorem d_cRd_readWord_22 : decode prog_3_method_14_code 22 = .ok (.getfield 34, 3) := by decide +kernel
theorem d_cRd_readWord_25 : decode prog_3_method_14_code 25 = .ok (.invokevirtual 70, 3) := by decide +kernel
theorem d_cRd_readWord_28 : decode prog_3_method_14_code 28 = .ok (.aload_n 3, 1) := by decide +kernel
theorem d_cRd_readWord_29 : decode prog_3_method_14_code 29 = .ok (.iload 4, 2) := by decide +kernel
theorem d_cRd_readWord_31 : decode prog_3_method_14_code 31 = .ok (.invokevirtual 144, 3) := by decide +kernel
theorem d_cRd_readWord_34 : decode prog_3_method_14_code 34 = .ok (.if_icmp .eq 5, 3) := by decide +kernel
theorem d_cRd_readWord_39 : decode prog_3_method_14_code 39 = .ok (.aload_n 0, 1) := by decide +kernel
theorem d_cRd_readWord_40 : decode prog_3_method_14_code 40 = .ok (.dup, 1) := by decide +kernel
theorem d_cRd_readWord_41 : decode prog_3_method_14_code 41 = .ok (.getfield 34, 3) := by decide +kernel
theorem d_cRd_readWord_44 : decode prog_3_method_14_code 44 = .ok (.iconst 1, 1) := by decide +kernel
theorem d_cRd_readWord_45 : decode prog_3_method_14_code 45 = .ok (.iadd, 1) := by decide +kernel
theorem d_cRd_readWord_46 : decode prog_3_method_14_code 46 = .ok (.putfield 34, 3) := by decide +kernel
theorem d_cRd_readWord_49 : decode prog_3_method_14_code 49 = .ok (.iinc 4 1, 3) := by decide +kernel
theorem d_cRd_readWord_52 : decode prog_3_method_14_code 52 = .ok (.goto (-44), 3) := by decide +kernel
theorem d_cRd_readWord_37 : decode prog_3_method_14_code 37 = .ok (.iconst 0, 1) := by decide +kernel
theorem d_cRd_readWord_38 : decode prog_3_method_14_code 38 = .ok (.ireturn, 1) := by decide +kernel
set_option maxHeartbeats 4000000 in
set_option maxRecDepth 100000 in
theorem w_cRd_readWord_B8 {p : Program} {l : Launch} {e : Env} {s : State} {m : MethodId} {args : Array Value} {below : List Frame} {meth : Method} {c : Code} {A : Nat → Prop} {D : va_G} {ad : Nat → Nat → Nat} {cc : Nat → ClassId} {sad sav : Nat → Nat} {Q : State → Prop} (hC : MCc sad sav "JoinedTrees$JsonReader" prog_3_method_14_code 5 (some .boolean) p s m args meth c A D cc) {N : Nat → Nat} {x0 : Nat} {S : CS} {x3 : Nat} {x4 : Int32} {o : ((CS × Nat × Int32) ⊕ (CS ⊕ (CS × Int32)))} (Heq : m_cRd_readWord_B8 N x0 S x3 x4 = some o) (Ka : ∀ b : CS × Nat × Int32, o = .inl b → ∀ (H : Heap) (locs : List Loc) (ls : Array Slot), va_P D cls (cw ad cc N b.1) H → va_D A (cw ad cc N b.1) → va_S A s.heap H locs → lv_has ls 5 [(0, .ref (ad 1 x0)), (3, .ref (sad b.2.1)), (4, .int b.2.2)] → W p l e ({ frames := 4, cells := 0, slots := 0, locals := 111 }) s m args below meth c H locs 0 0 Q (F0 m 8 ls [])) (K0 : ∀ b : CS, o = .inr (.inl b) → ∀ (H : Heap) (locs : List Loc) (ls : Array Slot), va_P D cls (cw ad cc N b) H → va_D A (cw ad cc N b) → va_S A s.heap H locs → lv_has ls 5 [(0, .ref (ad 1 x0))] → W p l e ({ frames := 4, cells := 0, slots := 0, locals := 111 }) s m args below meth c H locs 0 0 Q (F0 m 55 ls [])) (Kr : ∀ r : CS × Int32, o = .inr (.inr r) → ∀ (pc : Nat) (H : Heap) (locs : List Loc) (ls : Array Slot), decode prog_3_method_14_code pc = .ok (.ireturn, 1) → (r.2 = 0 ∨ r.2 = 1) → va_P D cls (cw ad cc N r.1) H → va_D A (cw ad cc N r.1) → va_S A s.heap H locs → W p l e ({ frames := 4, cells := 0, slots := 0, locals := 111 }) s m args below meth c H locs 0 0 Q (F0 m pc ls [.int r.2])) : ∀ (H : Heap) (locs : List Loc) (ls : Array Slot), va_P D cls (cw ad cc N S) H → va_D A (cw ad cc N S) → va_S A s.heap H locs → lv_has ls 5 [(0, .ref (ad 1 x0)), (3, .ref (sad x3)), (4, .int x4)] → W p l e ({ frames := 4, cells := 0, slots := 0, locals := 111 }) s m args below meth c H locs 0 0 Q (F0 m 8 ls []) := by
  intro H locs ls hP hD hS hl
  obtain ⟨hx, hb, hr, hml, hown, hts, hK, hA, hev, hE, hN, hNS⟩ := id hC
  unfold m_cRd_readWord_B8 at Heq
  refine lv_iload hx hb d_cRd_readWord_8 (lv_at hl 2 rfl) ?_
  refine lv_aload_n hx hb d_cRd_readWord_10 rfl (lv_at hl 1 rfl) ?_
  obtain ⟨hS_x3, Heq⟩ := gS_some Heq
  have hFc := f_nil hS hA
  refine va_calli (va_runV (As := []) (rest := [.int x4]) ⟨hx, hb, hml, hown, hts⟩ (g_sln l D H.size sad sav hS_x3) (cw_v 0 hts kw_911 kw_908 kw_909 kw_910 kw_22 rfl rfl (by decide +kernel) ⟨Nat.le_of_ble_eq_true rfl, Nat.le_of_ble_eq_true rfl⟩) ⟨gs_blind, sE_recv hE hS_x3 hS, fun U hU hW => gs_pre hU hW p_nil (hK.sub (tys' := []) [] rfl) d_nil hE hS hFc⟩ rfl rfl hl.1 rfl (lv_room (Nat.le_of_ble_eq_true rfl)) d_cRd_readWord_11 ⟨Nat.le_of_ble_eq_true rfl, Nat.le_of_ble_eq_true rfl⟩) hS (fun q _ h => hFc q h) hFc (fun rz u t H1 locs ht hvm hw hB hz1 hk1 hS => ?_)
  have hP := p_keep0 hP hk1
  generalize H1 = H at hP hS ⊢
  refine W.cs (cells' := 0) (slots' := 0) rfl rfl ?_
  subst hw
  refine lv_icmp_ge (tgt := 55) hx hb d_cRd_readWord_14 (by decide) (fun c_1 => ?_) (fun c_1 => ?_)
  · replace Heq := (if_pos c_1).symm.trans Heq
    exact K0 _ (Option.some.inj Heq).symm _ _ _ hP hD hS (lv_sub hl [0] rfl)
  · replace Heq := (if_neg c_1).symm.trans Heq
    refine lv_aload_n hx hb d_cRd_readWord_17 rfl (lv_at hl 0 rfl) ?_
    obtain ⟨hl_x0_1, Heq⟩ := gl_some Heq
    refine va_get (D := D) (ci := 1) (v := rv ad 5 (S.r 1 2 x0)) (C := R_Rd) (T := F_Rd) (N := 10) hx hb hts i_Rd hown hK hP (cPos N 1 x0) (cw_obj (k := 1) (by decide) hl_x0_1) rfl 2 (by decide) (hts _ kw_346) (fun _ h9 => h9) rfl d_cRd_readWord_18 ?_
    refine lv_aload_n hx hb d_cRd_readWord_21 rfl (lv_at hl 0 rfl) ?_
    refine va_get (D := D) (ci := 1) (v := .int (S.i 1 4 x0)) (C := R_Rd) (T := F_Rd) (N := 10) hx hb hts i_Rd hown hK hP (cPos N 1 x0) (cw_obj (k := 1) (by decide) hl_x0_1) rfl 4 (by decide) (hts _ kw_349) (fun _ h9 => h9) rfl d_cRd_readWord_22 ?_
    obtain ⟨j_2, hj_3, hl_4, Heq⟩ := gn_some Heq
    refine w_s (st' := [.int (S.i 1 4 x0), .ref (ad 5 j_2)]) (congrArg (fun z9 : Option Nat => [.int (S.i 1 4 x0), rv ad 5 z9]) hj_3) ?_
    obtain ⟨o_5, h_6, Heq⟩ := ob_some Heq
    have hFc := fr_all hD hS hA
    refine va_calli (va_runV (As := [.int (S.i 1 4 x0)]) (rest := []) ⟨hx, hb, hml, hown, hts⟩ (g_cRw_at l D H.size (ad := ad) (cc := cc) (sad := sad) (sav := sav) h_6) (cw_v 1 hts kw_689 kw_871 kw_687 kw_688 kw_4 rfl rfl (by decide +kernel) ⟨Nat.le_of_ble_eq_true rfl, Nat.le_of_ble_eq_true rfl⟩) ⟨c_blind, va_recv hK hP (ci := 5) (q0 := cPos N 5 j_2) rfl (cw_obj (k := 5) (by decide) hl_4), fun U hU hW => c_pre hU hW hP hK hD hev hE hN hNS hS hFc⟩ rfl rfl hl.1 rfl (lv_room (Nat.le_of_ble_eq_true rfl)) d_cRd_readWord_25 ⟨Nat.le_of_ble_eq_true rfl, Nat.le_of_ble_eq_true rfl⟩) hS (fun q _ h => hFc q h) hFc (fun rz u t H1 locs ht hvm hw hB hz1 hk1 hS => ?_)
    obtain ⟨hP, -, hD1⟩ := hB
    rw [ht] at hP
    have hD := hD1.weaken (fun _ q _ h => hFc q.1 h)
    generalize H1 = H at hP hS ⊢
    refine W.cs (cells' := 0) (slots' := 0) rfl rfl ?_
    subst hw
    refine lv_aload_n hx hb d_cRd_readWord_28 rfl (lv_at hl 1 rfl) ?_
    refine lv_iload hx hb d_cRd_readWord_29 (lv_at hl 2 rfl) ?_
    obtain ⟨hi_7, Heq⟩ := gd_some Heq
    obtain ⟨jhi_7, ehi_7⟩ := nI_of (fun q => hi_7 (Or.inl q))
    have fhi_7 : x4 = nI x4.toNatClampNeg := by rw [ehi_7.2, nI_clamp ehi_7.1]
    refine w_i (y := nI x4.toNatClampNeg) fhi_7 ?_
    have hFc := f_nil hS hA
    refine va_calli (va_runV (As := [.int (nI x4.toNatClampNeg)]) (rest := [.int o_5.2]) ⟨hx, hb, hml, hown, hts⟩ (g_sca l D H.size sad sav hS_x3 (vp_in.lt hi_7)) (cw_v 1 hts kw_921 kw_918 kw_919 kw_920 kw_22 rfl rfl (by decide +kernel) ⟨Nat.le_of_ble_eq_true rfl, Nat.le_of_ble_eq_true rfl⟩) ⟨gs_blind, sE_recv hE hS_x3 hS, fun U hU hW => gs_pre hU hW p_nil (hK.sub (tys' := []) [] rfl) d_nil hE hS hFc⟩ rfl rfl hl.1 rfl (lv_room (Nat.le_of_ble_eq_true rfl)) d_cRd_readWord_31 ⟨Nat.le_of_ble_eq_true rfl, Nat.le_of_ble_eq_true rfl⟩) hS (fun q _ h => hFc q h) hFc (fun rz u t H1 locs ht hvm hw hB hz1 hk1 hS => ?_)
    have hP := p_keep0 hP hk1
    generalize H1 = H at hP hS ⊢
    refine W.cs (cells' := 0) (slots' := 0) rfl rfl ?_
    subst hw
    refine lv_icmp_eq (tgt := 39) hx hb d_cRd_readWord_34 (by decide) (fun c_8 => ?_) (fun c_8 => ?_)
    · replace Heq := (if_pos c_8).symm.trans Heq
      refine lv_aload_n hx hb d_cRd_readWord_39 rfl (lv_at hl 0 rfl) ?_
      refine lv_dup hx hb d_cRd_readWord_40 (by first | rfl | exact rv_cat) ?_
      refine va_get (D := D) (ci := 1) (v := .int (o_5.1.i 1 4 x0)) (C := R_Rd) (T := F_Rd) (N := 10) hx hb hts i_Rd hown hK hP (cPos N 1 x0) (cw_obj (k := 1) (by decide) hl_x0_1) rfl 4 (by decide) (hts _ kw_349) (fun _ h9 => h9) rfl d_cRd_readWord_41 ?_
      refine lv_iconst (v := 1) hx hb d_cRd_readWord_44 (by decide) ?_
      refine lv_iadd hx hb d_cRd_readWord_45 ?_
      refine w_i (y := (o_5.1.i 1 4 x0) + 1) rfl ?_
      refine va_put (D := D) (ci := 1) (v := .int ((o_5.1.i 1 4 x0) + 1)) (ty := .int) (C := R_Rd) (T := F_Rd) (N := 10) hx hb hts i_Rd t_Rd t_Rd_ok n_Rd hown hK hP hD hS (cPos N 1 x0) (cw_obj (k := 1) (by decide) hl_x0_1) rfl 4 (by decide) (hts _ kw_349) (fun _ h9 => h9) rfl (by decide +kernel) rfl rfl (Nat.le_of_ble_eq_true rfl) d_cRd_readWord_46 (fun H locs hP hD hS => ?_)
      have hD := (congrArg (fun w9 => va_D A w9) (cw_setI (ad := ad) (cc := cc) (S := o_5.1) (k := 1) (f := 4) (v := (o_5.1.i 1 4 x0) + 1) (by decide) rfl hl_x0_1)).mp hD
      have hP := (congrArg (fun w9 => va_P D cls w9 H) (cw_setI (ad := ad) (cc := cc) (S := o_5.1) (k := 1) (f := 4) (v := (o_5.1.i 1 4 x0) + 1) (by decide) rfl hl_x0_1)).mp hP
      refine lv_iinc (v := x4 + 1) (lv' := [(4, .int (x4 + 1)), (0, .ref (ad 1 x0)), (3, .ref (sad x3))]) hx hb d_cRd_readWord_49 hl (k := 2) rfl rfl (by decide) rfl (fun ls hl => ?_)
      refine lv_goto (tgt := 8) hx hb d_cRd_readWord_52 (by decide) ?_
      exact Ka _ (Option.some.inj Heq).symm _ _ _ hP hD hS (lv_sub hl [1, 2, 0] rfl)
    · replace Heq := (if_neg c_8).symm.trans Heq
      refine lv_iconst (v := 0) hx hb d_cRd_readWord_37 (by decide) ?_
      exact Kr _ (Option.some.inj Heq).symm 38 _ _ _ d_cRd_readWord_38 (Or.inl rfl) hP hD hS
def m_cRd_readWord_L8 (N : Nat → Nat) (x0 : Nat) (S : CS) (x3 : Nat) (x4 : Int32) : Option (CS ⊕ (CS × Int32)) := lp (fun a : CS × Nat × Int32 => m_cRd_readWord_B8 N x0 a.1 a.2.1 a.2.2) FU (S, x3, x4)
theorem w_cRd_readWord_L8 {p : Program} {l : Launch} {e : Env} {s : State} {m : MethodId} {args : Array Value} {below : List Frame} {meth : Method} {c : Code} {A : Nat → Prop} {D : va_G} {ad : Nat → Nat → Nat} {cc : Nat → ClassId} {sad sav : Nat → Nat} {Q : State → Prop} (hC : MCc sad sav "JoinedTrees$JsonReader" prog_3_method_14_code 5 (some .boolean) p s m args meth c A D cc) {N : Nat → Nat} {x0 : Nat} {S : CS} {x3 : Nat} {x4 : Int32} {o : (CS ⊕ (CS × Int32))} (Heq : m_cRd_readWord_L8 N x0 S x3 x4 = some o) (K0 : ∀ b : CS, o = (.inl b) → ∀ (H : Heap) (locs : List Loc) (ls : Array Slot), va_P D cls (cw ad cc N b) H → va_D A (cw ad cc N b) → va_S A s.heap H locs → lv_has ls 5 [(0, .ref (ad 1 x0))] → W p l e ({ frames := 4, cells := 0, slots := 0, locals := 111 }) s m args below meth c H locs 0 0 Q (F0 m 55 ls [])) (Kr : ∀ r : CS × Int32, o = (.inr r) → ∀ (pc : Nat) (H : Heap) (locs : List Loc) (ls : Array Slot), decode prog_3_method_14_code pc = .ok (.ireturn, 1) → (r.2 = 0 ∨ r.2 = 1) → va_P D cls (cw ad cc N r.1) H → va_D A (cw ad cc N r.1) → va_S A s.heap H locs → W p l e ({ frames := 4, cells := 0, slots := 0, locals := 111 }) s m args below meth c H locs 0 0 Q (F0 m pc ls [.int r.2])) : ∀ (H : Heap) (locs : List Loc) (ls : Array Slot), va_P D cls (cw ad cc N S) H → va_D A (cw ad cc N S) → va_S A s.heap H locs → lv_has ls 5 [(0, .ref (ad 1 x0)), (3, .ref (sad x3)), (4, .int x4)] → W p l e ({ frames := 4, cells := 0, slots := 0, locals := 111 }) s m args below meth c H locs 0 0 Q (F0 m 8 ls []) := by
  refine lp_w (G := fun a : CS × Nat × Int32 => ∀ (H : Heap) (locs : List Loc) (ls : Array Slot), va_P D cls (cw ad cc N a.1) H → va_D A (cw ad cc N a.1) → va_S A s.heap H locs → lv_has ls 5 [(0, .ref (ad 1 x0)), (3, .ref (sad a.2.1)), (4, .int a.2.2)] → W p l e ({ frames := 4, cells := 0, slots := 0, locals := 111 }) s m args below meth c H locs 0 0 Q (F0 m 8 ls [])) ?_ FU (S, x3, x4) Heq
  intro a o1 ho Ka Ke
  exact w_cRd_readWord_B8 hC ho (fun b h => Ka b h) (fun b h => K0 b (Ke _ h).symm) (fun r h => Kr r (Ke _ h).symm)
def m_cRd_readWord_J0 (N : Nat → Nat) (x0 : Nat) (S : CS) (x1 : Nat) (x2 : Int32) (x3 : Nat) : Option (CS × Int32) := gl x1 (N 9) (oe (m_cRd_readWord_L8 N x0 (S.setI 9 0 x1 x2) x3 0) (fun b_1 => some (b_1, 1)) (fun r_3 => some r_3))
theorem d_cRd_readWord_55 : decode prog_3_method_14_code 55 = .ok (.iconst 1, 1) := by decide +kernel
theorem d_cRd_readWord_56 : decode prog_3_method_14_code 56 = .ok (.ireturn, 1) := by decide +kernel
set_option maxHeartbeats 4000000 in
set_option maxRecDepth 100000 in
theorem w_cRd_readWord_J0 {p : Program} {l : Launch} {e : Env} {s : State} {m : MethodId} {args : Array Value} {below : List Frame} {meth : Method} {c : Code} {A : Nat → Prop} {D : va_G} {ad : Nat → Nat → Nat} {cc : Nat → ClassId} {sad sav : Nat → Nat} {Q : State → Prop} (hC : MCc sad sav "JoinedTrees$JsonReader" prog_3_method_14_code 5 (some .boolean) p s m args meth c A D cc) {N : Nat → Nat} {x0 : Nat} {S : CS} {x1 : Nat} {x2 : Int32} {x3 : Nat} {o : CS × Int32} (Heq : m_cRd_readWord_J0 N x0 S x1 x2 x3 = some o) (Kr : ∀ r : CS × Int32, o = r → ∀ (pc : Nat) (H : Heap) (locs : List Loc) (ls : Array Slot), decode prog_3_method_14_code pc = .ok (.ireturn, 1) → (r.2 = 0 ∨ r.2 = 1) → va_P D cls (cw ad cc N r.1) H → va_D A (cw ad cc N r.1) → va_S A s.heap H locs → W p l e ({ frames := 4, cells := 0, slots := 0, locals := 111 }) s m args below meth c H locs 0 0 Q (F0 m pc ls [.int r.2])) : ∀ (H : Heap) (locs : List Loc) (ls : Array Slot), va_P D cls (cw ad cc N S) H → va_D A (cw ad cc N S) → va_S A s.heap H locs → lv_has ls 5 [(0, .ref (ad 1 x0)), (1, .ref (ad 9 x1)), (2, .int x2), (3, .ref (sad x3))] → W p l e ({ frames := 4, cells := 0, slots := 0, locals := 111 }) s m args below meth c H locs 0 0 Q (F0 m 0 ls []) := by
  intro H locs ls hP hD hS hl
  obtain ⟨hx, hb, hr, hml, hown, hts, hK, hA, hev, hE, hN, hNS⟩ := id hC
  unfold m_cRd_readWord_J0 at Heq
  refine lv_aload_n hx hb d_cRd_readWord_0 rfl (lv_at hl 1 rfl) ?_
  refine lv_iload_n hx hb d_cRd_readWord_1 rfl (lv_at hl 2 rfl) ?_
  obtain ⟨hl_x1_9, Heq⟩ := gl_some Heq
  refine va_put (D := D) (ci := 9) (v := .int x2) (ty := .int) (C := R_Va) (T := F_Va) (N := 10) hx hb hts i_Va t_Va t_Va_ok n_Va hown hK hP hD hS (cPos N 9 x1) (cw_obj (k := 9) (by decide) hl_x1_9) rfl 0 (by decide) (hts _ kw_295) (fun _ h9 => h9) rfl (by decide +kernel) rfl rfl (Nat.le_of_ble_eq_true rfl) d_cRd_readWord_2 (fun H locs hP hD hS => ?_)
  have hD := (congrArg (fun w9 => va_D A w9) (cw_setI (ad := ad) (cc := cc) (S := S) (k := 9) (f := 0) (v := x2) (by decide) rfl hl_x1_9)).mp hD
  have hP := (congrArg (fun w9 => va_P D cls w9 H) (cw_setI (ad := ad) (cc := cc) (S := S) (k := 9) (f := 0) (v := x2) (by decide) rfl hl_x1_9)).mp hP
  refine lv_iconst (v := 0) hx hb d_cRd_readWord_5 (by decide) ?_
  refine lv_istore (lv' := [(4, .int 0), (0, .ref (ad 1 x0)), (1, .ref (ad 9 x1)), (2, .int x2), (3, .ref (sad x3))]) hx hb d_cRd_readWord_6 hl (by decide) rfl (fun ls hl => ?_)
  rcases oe_some Heq with ⟨b_1, h_2, Heq⟩ | ⟨r_3, h_2, Heq⟩
  · refine w_cRd_readWord_L8 hC h_2 (fun b h => ?_) (fun r h => by cases h) _ _ _ hP hD hS (lv_sub hl [1, 4, 0] rfl)
    cases h
    intro H locs ls hP hD hS hl
    refine lv_iconst (v := 1) hx hb d_cRd_readWord_55 (by decide) ?_
    exact Kr _ (Option.some.inj Heq).symm 56 _ _ _ d_cRd_readWord_56 (Or.inr rfl) hP hD hS
  · refine w_cRd_readWord_L8 hC h_2 (fun b h => by cases h) (fun r h => ?_) _ _ _ hP hD hS (lv_sub hl [1, 4, 0] rfl)
    cases h
    exact Kr _ (Option.some.inj Heq).symm
def m_cRd_readWord (N : Nat → Nat) (x0 : Nat) (S : CS) (x1 : Nat) (x2 : Int32) (x3 : Nat) : Option (CS × Int32) := m_cRd_readWord_J0 N x0 S x1 x2 x3
set_option maxHeartbeats 4000000 in
theorem g_cRd_readWord (l : Launch) (D : va_G) (sz : Nat) {ad : Nat → Nat → Nat} {cc : Nat → ClassId} {sad sav : Nat → Nat} {N : Nat → Nat} {x0 : Nat} {S : CS} {x1 : Nat} {x2 : Int32} {x3 : Nat} {o : CS × Int32} (Heq : m_cRd_readWord N x0 S x1 x2 x3 = some o) : Met l ⟨"JoinedTrees$JsonReader", "readWord", "(LJoinedTrees$Value;ILjava/lang/String;)Z"⟩ (Cond.code ⟨"JoinedTrees$JsonReader", "readWord", "(LJoinedTrees$Value;ILjava/lang/String;)Z"⟩ prog_3_method_14_code 5 (some .boolean) :: gb) ({ frames := 4, cells := 0, slots := 0, locals := 111 }) (cPc sad sav D (cw ad cc N S) (cty cc) sz [.ref (ad 1 x0), .ref (ad 9 x1), .int x2, .ref (sad x3)]) (va_Qi (fun (r : Int32) (_ : Unit) => r = o.2) (fun _ t => gO D (cw ad cc N o.1) (cty cc) (va_A (cw ad cc N S) sz) t) (va_A (cw ad cc N S) sz)) 0 0 (va_A (cw ad cc N S) sz) := by
  refine Met.ofW (cc := prog_3_method_14_code) (maxL := 5) (ret := (some .boolean)) (by decide) rfl ?_
  intro p e s m args below meth c s₁ B hml hv
  obtain ⟨rfl, hsz, hP, hK, hD0, hev, hE, hN⟩ := hv
  have hx := B.exec
  have hb := B.bytes
  have hr := B.returns
  have hts : ∀ w9 ∈ gb, w9.before [.ref (ad 1 x0), .ref (ad 9 x1), .int x2, .ref (sad x3)].toArray s = true := fun w9 h => atoms_spec (ws := Cond.code ⟨"JoinedTrees$JsonReader", "readWord", "(LJoinedTrees$Value;ILjava/lang/String;)Z"⟩ prog_3_method_14_code 5 (some .boolean) :: gb) B.pre w9 (List.mem_cons_of_mem _ h)
  have hown : s.vm.findClass "JoinedTrees$JsonReader" = some m.cls := findClass_of_methodNamed B.named
  have hlocks := B.notSynchronized
  have hNS := ns_of hP
  subst hsz
  have hD := hD0.self (sz := s.heap.size)
  generalize hAe : va_A (cw ad cc N S) s.heap.size = A at hD hev hE hNS ⊢
  have hA : ∀ q : Nat, s.heap.size ≤ q → A q := fun q h => by rw [← hAe]; exact Or.inr h
  have hS : va_S A s.heap s.heap [] := va_S.rf
  obtain ⟨ls, hl, hle⟩ : ∃ ls : Array Slot, lv_has ls 5 [(0, .ref (ad 1 x0)), (1, .ref (ad 9 x1)), (2, .int x2), (3, .ref (sad x3))] ∧ entryFrame m ([.ref (ad 1 x0), .ref (ad 9 x1), .int x2, .ref (sad x3)] : List Value).toArray 5 = F0 m 0 ls [] := by
    exact ⟨_, lv_entry (n := 5) _ (Nat.le_of_ble_eq_true rfl), lg_entry_eq ..⟩
  rw [hle]
  refine w_cRd_readWord_J0 ⟨hx, hb, hr, hml, hown, hts, hK, hA, hev, hE, hN, hNS⟩ Heq (fun r h pc H locs ls hd hz hP hD hS => ?_) _ _ _ hP hD hS (lv_sub hl [0, 1, 2, 3] rfl)
  subst h
  exact W.zret (ty := .boolean) hx hb hr (by rcases hz with hz | hz <;> rw [hz] <;> rfl) (fun t ht hW => ⟨⟨_, (), rfl, rfl, by rw [ht]; exact hP, va_K.moved hW.alike hK, hD⟩, hS.F ht⟩) hS.2.2 hd
def m_cJT_isDigit_J17 (N : Nat → Nat) (S : CS) (t0 : Int32) : Option (CS × Int32) := (if t0 = 0 ∨ t0 = 1 then some (S, t0) else none)
theorem d_cJT_isDigit_0 : decode prog_1_method_58_code 0 = .ok (.iload_n 0, 1) := by decide +kernel
theorem d_cJT_isDigit_1 : decode prog_1_method_58_code 1 = .ok (.bipush 48, 2) := by decide +kernel
theorem d_cJT_isDigit_3 : decode prog_1_method_58_code 3 = .ok (.if_icmp .lt 13, 3) := by decide +kernel
theorem d_cJT_isDigit_16 : decode prog_1_method_58_code 16 = .ok (.iconst 0, 1) := by decide +kernel
theorem d_cJT_isDigit_17 : decode prog_1_method_58_code 17 = .ok (.ireturn, 1) := by decide +kernel
set_option maxHeartbeats 4000000 in
set_option maxRecDepth 100000 in
theorem w_cJT_isDigit_J17 {p : Program} {l : Launch} {e : Env} {s : State} {m : MethodId} {args : Array Value} {below : List Frame} {meth : Method} {c : Code} {A : Nat → Prop} {D : va_G} {ad : Nat → Nat → Nat} {cc : Nat → ClassId} {sad sav : Nat → Nat} {Q : State → Prop} (hC : MCc sad sav "JoinedTrees" prog_1_method_58_code 1 (some .boolean) p s m args meth c A D cc) {N : Nat → Nat} {S : CS} {t0 : Int32} {o : CS × Int32} (Heq : m_cJT_isDigit_J17 N S t0 = some o) (Kr : ∀ r : CS × Int32, o = r → ∀ (pc : Nat) (H : Heap) (locs : List Loc) (ls : Array Slot), decode prog_1_method_58_code pc = .ok (.ireturn, 1) → (r.2 = 0 ∨ r.2 = 1) → va_P D cls (cw ad cc N r.1) H → va_D A (cw ad cc N r.1) → va_S A s.heap H locs → W p l e ({ frames := 0, cells := 0, slots := 0, locals := 0 }) s m args below meth c H locs 0 0 Q (F0 m pc ls [.int r.2])) : ∀ (H : Heap) (locs : List Loc) (ls : Array Slot), va_P D cls (cw ad cc N S) H → va_D A (cw ad cc N S) → va_S A s.heap H locs → lv_has ls 1 [] → W p l e ({ frames := 0, cells := 0, slots := 0, locals := 0 }) s m args below meth c H locs 0 0 Q (F0 m 17 ls [.int t0]) := by
  intro H locs ls hP hD hS hl
  obtain ⟨hx, hb, hr, hml, hown, hts, hK, hA, hev, hE, hN, hNS⟩ := id hC
  unfold m_cJT_isDigit_J17 at Heq
  by_cases hz_1 : t0 = 0 ∨ t0 = 1
  case neg => rw [if_neg hz_1] at Heq; cases Heq
  replace Heq := (if_pos hz_1).symm.trans Heq
  exact Kr _ (Option.some.inj Heq).symm 17 _ _ _ d_cJT_isDigit_17 hz_1 hP hD hS
def m_cJT_isDigit_J16 (N : Nat → Nat) (S : CS) : Option (CS × Int32) := m_cJT_isDigit_J17 N S 0
set_option maxHeartbeats 4000000 in
set_option maxRecDepth 100000 in
theorem w_cJT_isDigit_J16 {p : Program} {l : Launch} {e : Env} {s : State} {m : MethodId} {args : Array Value} {below : List Frame} {meth : Method} {c : Code} {A : Nat → Prop} {D : va_G} {ad : Nat → Nat → Nat} {cc : Nat → ClassId} {sad sav : Nat → Nat} {Q : State → Prop} (hC : MCc sad sav "JoinedTrees" prog_1_method_58_code 1 (some .boolean) p s m args meth c A D cc) {N : Nat → Nat} {S : CS} {o : CS × Int32} (Heq : m_cJT_isDigit_J16 N S = some o) (Kr : ∀ r : CS × Int32, o = r → ∀ (pc : Nat) (H : Heap) (locs : List Loc) (ls : Array Slot), decode prog_1_method_58_code pc = .ok (.ireturn, 1) → (r.2 = 0 ∨ r.2 = 1) → va_P D cls (cw ad cc N r.1) H → va_D A (cw ad cc N r.1) → va_S A s.heap H locs → W p l e ({ frames := 0, cells := 0, slots := 0, locals := 0 }) s m args below meth c H locs 0 0 Q (F0 m pc ls [.int r.2])) : ∀ (H : Heap) (locs : List Loc) (ls : Array Slot), va_P D cls (cw ad cc N S) H → va_D A (cw ad cc N S) → va_S A s.heap H locs → lv_has ls 1 [] → W p l e ({ frames := 0, cells := 0, slots := 0, locals := 0 }) s m args below meth c H locs 0 0 Q (F0 m 16 ls []) := by
  intro H locs ls hP hD hS hl
  obtain ⟨hx, hb, hr, hml, hown, hts, hK, hA, hev, hE, hN, hNS⟩ := id hC
  unfold m_cJT_isDigit_J16 at Heq
  refine lv_iconst (v := 0) hx hb d_cJT_isDigit_16 (by decide) ?_
  exact w_cJT_isDigit_J17 hC Heq Kr _ _ _ hP hD hS (lv_sub hl [] rfl)
def m_cJT_isDigit_J0 (N : Nat → Nat) (S : CS) (x0 : Int32) : Option (CS × Int32) := (if x0 < 48 then m_cJT_isDigit_J16 N S else (if 57 < x0 then m_cJT_isDigit_J16 N S else m_cJT_isDigit_J17 N S 1))
theorem d_cJT_isDigit_6 : decode prog_1_method_58_code 6 = .ok (.iload_n 0, 1) := by decide +kernel
theorem d_cJT_isDigit_7 : decode prog_1_method_58_code 7 = .ok (.bipush 57, 2) := by decide +kernel
theorem d_cJT_isDigit_9 : decode prog_1_method_58_code 9 = .ok (.if_icmp .gt 7, 3) := by decide +kernel
theorem d_cJT_isDigit_12 : decode prog_1_method_58_code 12 = .ok (.iconst 1, 1) := by decide +kernel
theorem d_cJT_isDigit_13 : decode prog_1_method_58_code 13 = .ok (.goto 4, 3) := by decide +kernel
set_option maxHeartbeats 4000000 in
set_option maxRecDepth 100000 in
theorem w_cJT_isDigit_J0 {p : Program} {l : Launch} {e : Env} {s : State} {m : MethodId} {args : Array Value} {below : List Frame} {meth : Method} {c : Code} {A : Nat → Prop} {D : va_G} {ad : Nat → Nat → Nat} {cc : Nat → ClassId} {sad sav : Nat → Nat} {Q : State → Prop} (hC : MCc sad sav "JoinedTrees" prog_1_method_58_code 1 (some .boolean) p s m args meth c A D cc) {N : Nat → Nat} {S : CS} {x0 : Int32} {o : CS × Int32} (Heq : m_cJT_isDigit_J0 N S x0 = some o) (Kr : ∀ r : CS × Int32, o = r → ∀ (pc : Nat) (H : Heap) (locs : List Loc) (ls : Array Slot), decode prog_1_method_58_code pc = .ok (.ireturn, 1) → (r.2 = 0 ∨ r.2 = 1) → va_P D cls (cw ad cc N r.1) H → va_D A (cw ad cc N r.1) → va_S A s.heap H locs → W p l e ({ frames := 0, cells := 0, slots := 0, locals := 0 }) s m args below meth c H locs 0 0 Q (F0 m pc ls [.int r.2])) : ∀ (H : Heap) (locs : List Loc) (ls : Array Slot), va_P D cls (cw ad cc N S) H → va_D A (cw ad cc N S) → va_S A s.heap H locs → lv_has ls 1 [(0, .int x0)] → W p l e ({ frames := 0, cells := 0, slots := 0, locals := 0 }) s m args below meth c H locs 0 0 Q (F0 m 0 ls []) := by
  intro H locs ls hP hD hS hl
  obtain ⟨hx, hb, hr, hml, hown, hts, hK, hA, hev, hE, hN, hNS⟩ := id hC
  unfold m_cJT_isDigit_J0 at Heq
  refine lv_iload_n hx hb d_cJT_isDigit_0 rfl (lv_at hl 0 rfl) ?_
  refine lv_bipush (v := 48) hx hb d_cJT_isDigit_1 (by decide) ?_
  refine lv_icmp_lt (tgt := 16) hx hb d_cJT_isDigit_3 (by decide) (fun c_1 => ?_) (fun c_1 => ?_)
  · replace Heq := (if_pos c_1).symm.trans Heq
    exact w_cJT_isDigit_J16 hC Heq Kr _ _ _ hP hD hS (lv_sub hl [] rfl)
  · replace Heq := (if_neg c_1).symm.trans Heq
    refine lv_iload_n hx hb d_cJT_isDigit_6 rfl (lv_at hl 0 rfl) ?_
    refine lv_bipush (v := 57) hx hb d_cJT_isDigit_7 (by decide) ?_
    refine lv_icmp_gt (tgt := 16) hx hb d_cJT_isDigit_9 (by decide) (fun c_2 => ?_) (fun c_2 => ?_)
    · replace Heq := (if_pos c_2).symm.trans Heq
      exact w_cJT_isDigit_J16 hC Heq Kr _ _ _ hP hD hS (lv_sub hl [] rfl)
    · replace Heq := (if_neg c_2).symm.trans Heq
      refine lv_iconst (v := 1) hx hb d_cJT_isDigit_12 (by decide) ?_
      refine lv_goto (tgt := 17) hx hb d_cJT_isDigit_13 (by decide) ?_
      exact w_cJT_isDigit_J17 hC Heq Kr _ _ _ hP hD hS (lv_sub hl [] rfl)
def m_cJT_isDigit (N : Nat → Nat) (S : CS) (x0 : Int32) : Option (CS × Int32) := m_cJT_isDigit_J0 N S x0
set_option maxHeartbeats 4000000 in
theorem g_cJT_isDigit (l : Launch) (D : va_G) (sz : Nat) {ad : Nat → Nat → Nat} {cc : Nat → ClassId} {sad sav : Nat → Nat} {N : Nat → Nat} {S : CS} {x0 : Int32} {o : CS × Int32} (Heq : m_cJT_isDigit N S x0 = some o) : Met l ⟨"JoinedTrees", "isDigit", "(I)Z"⟩ (Cond.code ⟨"JoinedTrees", "isDigit", "(I)Z"⟩ prog_1_method_58_code 1 (some .boolean) :: gb) ({ frames := 0, cells := 0, slots := 0, locals := 0 }) (cPc sad sav D (cw ad cc N S) (cty cc) sz [.int x0]) (va_Qi (fun (r : Int32) (_ : Unit) => r = o.2) (fun _ t => gO D (cw ad cc N o.1) (cty cc) (va_A (cw ad cc N S) sz) t) (va_A (cw ad cc N S) sz)) 0 0 (va_A (cw ad cc N S) sz) := by
  refine Met.ofW (cc := prog_1_method_58_code) (maxL := 1) (ret := (some .boolean)) (by decide) rfl ?_
  intro p e s m args below meth c s₁ B hml hv
  obtain ⟨rfl, hsz, hP, hK, hD0, hev, hE, hN⟩ := hv
  have hx := B.exec
  have hb := B.bytes
  have hr := B.returns
  have hts : ∀ w9 ∈ gb, w9.before [.int x0].toArray s = true := fun w9 h => atoms_spec (ws := Cond.code ⟨"JoinedTrees", "isDigit", "(I)Z"⟩ prog_1_method_58_code 1 (some .boolean) :: gb) B.pre w9 (List.mem_cons_of_mem _ h)
  have hown : s.vm.findClass "JoinedTrees" = some m.cls := findClass_of_methodNamed B.named
  have hlocks := B.notSynchronized
  have hNS := ns_of hP
  subst hsz
  have hD := hD0.self (sz := s.heap.size)
  generalize hAe : va_A (cw ad cc N S) s.heap.size = A at hD hev hE hNS ⊢
  have hA : ∀ q : Nat, s.heap.size ≤ q → A q := fun q h => by rw [← hAe]; exact Or.inr h
  have hS : va_S A s.heap s.heap [] := va_S.rf
  obtain ⟨ls, hl, hle⟩ : ∃ ls : Array Slot, lv_has ls 1 [(0, .int x0)] ∧ entryFrame m ([.int x0] : List Value).toArray 1 = F0 m 0 ls [] := by
    exact ⟨_, lv_entry (n := 1) _ (Nat.le_of_ble_eq_true rfl), lg_entry_eq ..⟩
  rw [hle]
  refine w_cJT_isDigit_J0 ⟨hx, hb, hr, hml, hown, hts, hK, hA, hev, hE, hN, hNS⟩ Heq (fun r h pc H locs ls hd hz hP hD hS => ?_) _ _ _ hP hD hS (lv_sub hl [0] rfl)
  subst h
  exact W.zret (ty := .boolean) hx hb hr (by rcases hz with hz | hz <;> rw [hz] <;> rfl) (fun t ht hW => ⟨⟨_, (), rfl, rfl, by rw [ht]; exact hP, va_K.moved hW.alike hK, hD⟩, hS.F ht⟩) hS.2.2 hd
def m_cRd_readNumber_B89 (N : Nat → Nat) (x0 : Nat) (S : CS) (x1 : Option Nat) (x2 : Int32) (x3 : Int32) (x4 : Int64) (x6 : Int32) : Option ((CS × Option Nat × Int32 × Int32 × Int64 × Int32) ⊕ (CS × Option Nat × Int32 × Int64)) := (if x3 ≤ x6 then some (.inr (S, x1, x2, x4)) else gl x0 (N 1) (gn (S.r 1 2 x0) (N 5) (fun j_2 => ob (m_cRw_at N j_2 S (S.i 1 4 x0)) (fun o_5 => ob (m_cJT_isDigit N o_5.1 o_5.2) (fun o_7 => (if o_7.2 = 0 then some (.inr (o_7.1, x1, x2, x4)) else gn (o_7.1.r 1 2 x0) (N 5) (fun j_10 => ob (m_cRw_at N j_10 o_7.1 (o_7.1.i 1 4 x0)) (fun o_13 => some (.inl ((o_13.1.setI 1 4 x0 ((o_13.1.i 1 4 x0) + 1)), x1, x2, x3, (((10 * x4) + o_13.2.toInt64) - 48), (x6 + 1)))))))))))
theorem d_cRd_readNumber_0 : decode prog_3_method_15_code 0 = .ok (.aload_n 1, 1) := by decide +kernel
theorem d_cRd_readNumber_1 : decode prog_3_method_15_code 1 = .ok (.iconst 3, 1) := by decide +kernel
theorem d_cRd_readNumber_2 : decode prog_3_method_15_code 2 = .ok (.putfield 77, 3) := by decide +kernel
theorem d_cRd_readNumber_5 : decode prog_3_method_15_code 5 = .ok (.aload_n 0, 1) := by decide +kernel
theorem d_cRd_readNumber_6 : decode prog_3_method_15_code 6 = .ok (.getfield 27, 3) := by decide +kernel
theorem d_cRd_readNumber_9 : decode prog_3_method_15_code 9 = .ok (.aload_n 0, 1) := by decide +kernel
theorem d_cRd_readNumber_10 : decode prog_3_method_15_code 10 = .ok (.getfield 34, 3) := by decide +kernel
theorem d_cRd_readNumber_13 : decode prog_3_method_15_code 13 = .ok (.invokevirtual 70, 3) := by decide +kernel
theorem d_cRd_readNumber_16 : decode prog_3_method_15_code 16 = .ok (.bipush 45, 2) := by decide +kernel
theorem d_cRd_readNumber_18 : decode prog_3_method_15_code 18 = .ok (.if_icmp .ne 7, 3) := by decide +kernel
theorem d_cRd_readNumber_25 : decode prog_3_method_15_code 25 = .ok (.iconst 0, 1) := by decide +kernel
theorem d_cRd_readNumber_26 : decode prog_3_method_15_code 26 = .ok (.istore_n 2, 1) := by decide +kernel
theorem d_cRd_readNumber_27 : decode prog_3_method_15_code 27 = .ok (.iload_n 2, 1) := by decide +kernel
theorem d_cRd_readNumber_28 : decode prog_3_method_15_code 28 = .ok (.ifCond .eq 13, 3) := by decide +kernel
theorem d_cRd_readNumber_41 : decode prog_3_method_15_code 41 = .ok (.aload_n 0, 1) := by decide +kernel
theorem d_cRd_readNumber_42 : decode prog_3_method_15_code 42 = .ok (.getfield 27, 3) := by decide +kernel
theorem d_cRd_readNumber_45 : decode prog_3_method_15_code 45 = .ok (.aload_n 0, 1) := by decide +kernel
theorem d_cRd_readNumber_46 : decode prog_3_method_15_code 46 = .ok (.getfield 34, 3) := by decide +kernel
theorem d_cRd_readNumber_49 : decode prog_3_method_15_code 49 = .ok (.invokevirtual 70, 3) := by decide +kernel
theorem d_cRd_readNumber_52 : decode prog_3_method_15_code 52 = .ok (.invokestatic 148, 3) := by decide +kernel
theorem d_cRd_readNumber_55 : decode prog_3_method_15_code 55 = .ok (.ifCond .ne 5, 3) := by decide +kernel
theorem d_cRd_readNumber_60 : decode prog_3_method_15_code 60 = .ok (.aload_n 0, 1) := by decide +kernel
theorem d_cRd_readNumber_61 : decode prog_3_method_15_code 61 = .ok (.getfield 27, 3) := by decide +kernel
theorem d_cRd_readNumber_64 : decode prog_3_method_15_code 64 = .ok (.aload_n 0, 1) := by decide +kernel
theorem d_cRd_readNumber_65 : decode prog_3_method_15_code 65 = .ok (.getfield 34, 3) := by decide +kernel
theorem d_cRd_readNumber_68 : decode prog_3_method_15_code 68 = .ok (.invokevirtual 70, 3) := by decide +kernel
theorem d_cRd_readNumber_71 : decode prog_3_method_15_code 71 = .ok (.bipush 48, 2) := by decide +kernel
theorem d_cRd_readNumber_73 : decode prog_3_method_15_code 73 = .ok (.if_icmp .ne 7, 3) := by decide +kernel
theorem d_cRd_readNumber_80 : decode prog_3_method_15_code 80 = .ok (.bipush 18, 2) := by decide +kernel
theorem d_cRd_readNumber_82 : decode prog_3_method_15_code 82 = .ok (.istore_n 3, 1) := by decide +kernel
theorem d_cRd_readNumber_83 : decode prog_3_method_15_code 83 = .ok (.lconst 0, 1) := by decide +kernel
theorem d_cRd_readNumber_84 : decode prog_3_method_15_code 84 = .ok (.lstore 4, 2) := by decide +kernel
theorem d_cRd_readNumber_86 : decode prog_3_method_15_code 86 = .ok (.iconst 0, 1) := by decide +kernel
theorem d_cRd_readNumber_87 : decode prog_3_method_15_code 87 = .ok (.istore 6, 2) := by decide +kernel
theorem d_cRd_readNumber_89 : decode prog_3_method_15_code 89 = .ok (.iload 6, 2) := by decide +kernel
theorem d_cRd_readNumber_91 : decode prog_3_method_15_code 91 = .ok (.iload_n 3, 1) := by decide +kernel
theorem d_cRd_readNumber_92 : decode prog_3_method_15_code 92 = .ok (.if_icmp .ge 61, 3) := by decide +kernel
theorem d_cRd_readNumber_95 : decode prog_3_method_15_code 95 = .ok (.aload_n 0, 1) := by decide +kernel
theorem d_cRd_readNumber_96 : decode prog_3_method_15_code 96 = .ok (.getfield 27, 3) := by decide +kernel
theorem d_cRd_readNumber_99 : decode prog_3_method_15_code 99 = .ok (.aload_n 0, 1) := by decide +kernel
theorem d_cRd_readNumber_100 : decode prog_3_method_15_code 100 = .ok (.getfield 34, 3) := by decide +kernel
theorem d_cRd_readNumber_103 : decode prog_3_method_15_code 103 = .ok (.invokevirtual 70, 3) := by decide +kernel
theorem d_cRd_readNumber_106 : decode prog_3_method_15_code 106 = .ok (.invokestatic 148, 3) := by decide +kernel
theorem d_cRd_readNumber_109 : decode prog_3_method_15_code 109 = .ok (.ifCond .eq 44, 3) := by decide +kernel
theorem d_cRd_readNumber_112 : decode prog_3_method_15_code 112 = .ok (.ldc2_w 151, 3) := by decide +kernel
theorem d_cRd_readNumber_115 : decode prog_3_method_15_code 115 = .ok (.lload 4, 2) := by decide +kernel
theorem d_cRd_readNumber_117 : decode prog_3_method_15_code 117 = .ok (.lmul, 1) := by decide +kernel
theorem d_cRd_readNumber_118 : decode prog_3_method_15_code 118 = .ok (.aload_n 0, 1) := by decide +kernel
theorem d_cRd_readNumber_119 : decode prog_3_method_15_code 119 = .ok (.getfield 27, 3) := by decide +kernel
theorem d_cRd_readNumber_122 : decode prog_3_method_15_code 122 = .ok (.aload_n 0, 1) := by decide +kernel
theorem d_cRd_readNumber_123 : decode prog_3_method_15_code 123 = .ok (.getfield 34, 3) := by decide +kernel
theorem d_cRd_readNumber_126 : decode prog_3_method_15_code 126 = .ok (.invokevirtual 70, 3) := by decide +kernel
theorem d_cRd_readNumber_129 : decode prog_3_method_15_code 129 = .ok (.i2l, 1) := by decide +kernel
theorem d_cRd_readNumber_130 : decode prog_3_method_15_code 130 = .ok (.ladd, 1) := by decide +kernel
theorem d_cRd_readNumber_131 : decode prog_3_method_15_code 131 = .ok (.ldc2_w 153, 3) := by decide +kernel
theorem d_cRd_readNumber_134 : decode prog_3_method_15_code 134 = .ok (.lsub, 1) := by decide +kernel
theorem d_cRd_readNumber_135 : decode prog_3_method_15_code 135 = .ok (.lstore 4, 2) := by decide +kernel
theorem d_cRd_readNumber_137 : decode prog_3_method_15_code 137 = .ok (.aload_n 0, 1) := by decide +kernel
theorem d_cRd_readNumber_138 : decode prog_3_method_15_code 138 = .ok (.dup, 1) := by decide +kernel
theorem d_cRd_readNumber_139 : decode prog_3_method_15_code 139 = .ok (.getfield 34, 3) := by decide +kernel
theorem d_cRd_readNumber_142 : decode prog_3_method_15_code 142 = .ok (.iconst 1, 1) := by decide +kernel
theorem d_cRd_readNumber_143 : decode prog_3_method_15_code 143 = .ok (.iadd, 1) := by decide +kernel
theorem d_cRd_readNumber_144 : decode prog_3_method_15_code 144 = .ok (.putfield 34, 3) := by decide +kernel
theorem d_cRd_readNumber_147 : decode prog_3_method_15_code 147 = .ok (.iinc 6 1, 3) := by decide +kernel
theorem d_cRd_readNumber_150 : decode prog_3_method_15_code 150 = .ok (.goto (-61), 3) := by decide +kernel
set_option maxHeartbeats 4000000 in
set_option maxRecDepth 100000 in
theorem w_cRd_readNumber_B89 {p : Program} {l : Launch} {e : Env} {s : State} {m : MethodId} {args : Array Value} {below : List Frame} {meth : Method} {c : Code} {A : Nat → Prop} {D : va_G} {ad : Nat → Nat → Nat} {cc : Nat → ClassId} {sad sav : Nat → Nat} {Q : State → Prop} (hC : MCc sad sav "JoinedTrees$JsonReader" prog_3_method_15_code 7 (some .boolean) p s m args meth c A D cc) {N : Nat → Nat} {x0 : Nat} {S : CS} {x1 : Option Nat} {x2 : Int32} {x3 : Int32} {x4 : Int64} {x6 : Int32} {o : ((CS × Option Nat × Int32 × Int32 × Int64 × Int32) ⊕ (CS × Option Nat × Int32 × Int64))} (Heq : m_cRd_readNumber_B89 N x0 S x1 x2 x3 x4 x6 = some o) (Ka : ∀ b : CS × Option Nat × Int32 × Int32 × Int64 × Int32, o = .inl b → ∀ (H : Heap) (locs : List Loc) (ls : Array Slot), va_P D cls (cw ad cc N b.1) H → va_D A (cw ad cc N b.1) → va_S A s.heap H locs → lv_has ls 7 [(0, .ref (ad 1 x0)), (1, rv ad 9 b.2.1), (2, .int b.2.2.1), (3, .int b.2.2.2.1), (4, .long b.2.2.2.2.1), (6, .int b.2.2.2.2.2)] → W p l e ({ frames := 1, cells := 0, slots := 0, locals := 21 }) s m args below meth c H locs 0 0 Q (F0 m 89 ls [])) (K0 : ∀ b : CS × Option Nat × Int32 × Int64, o = .inr b → ∀ (H : Heap) (locs : List Loc) (ls : Array Slot), va_P D cls (cw ad cc N b.1) H → va_D A (cw ad cc N b.1) → va_S A s.heap H locs → lv_has ls 7 [(0, .ref (ad 1 x0)), (1, rv ad 9 b.2.1), (2, .int b.2.2.1), (4, .long b.2.2.2)] → W p l e ({ frames := 1, cells := 0, slots := 0, locals := 21 }) s m args below meth c H locs 0 0 Q (F0 m 153 ls [])) : ∀ (H : Heap) (locs : List Loc) (ls : Array Slot), va_P D cls (cw ad cc N S) H → va_D A (cw ad cc N S) → va_S A s.heap H locs → lv_has ls 7 [(0, .ref (ad 1 x0)), (1, rv ad 9 x1), (2, .int x2), (3, .int x3), (4, .long x4), (6, .int x6)] → W p l e ({ frames := 1, cells := 0, slots := 0, locals := 21 }) s m args below meth c H locs 0 0 Q (F0 m 89 ls []) := by
  intro H locs ls hP hD hS hl
  obtain ⟨hx, hb, hr, hml, hown, hts, hK, hA, hev, hE, hN, hNS⟩ := id hC
  unfold m_cRd_readNumber_B89 at Heq
  refine lv_iload hx hb d_cRd_readNumber_89 (lv_at hl 5 rfl) ?_
  refine lv_iload_n hx hb d_cRd_readNumber_91 rfl (lv_at hl 3 rfl) ?_
  refine lv_icmp_ge (tgt := 153) hx hb d_cRd_readNumber_92 (by decide) (fun c_1 => ?_) (fun c_1 => ?_)
  · replace Heq := (if_pos c_1).symm.trans Heq
    exact K0 _ (Option.some.inj Heq).symm _ _ _ hP hD hS (lv_sub hl [0, 1, 2, 4] rfl)
  · replace Heq := (if_neg c_1).symm.trans Heq
    refine lv_aload_n hx hb d_cRd_readNumber_95 rfl (lv_at hl 0 rfl) ?_
    obtain ⟨hl_x0_1, Heq⟩ := gl_some Heq
    refine va_get (D := D) (ci := 1) (v := rv ad 5 (S.r 1 2 x0)) (C := R_Rd) (T := F_Rd) (N := 10) hx hb hts i_Rd hown hK hP (cPos N 1 x0) (cw_obj (k := 1) (by decide) hl_x0_1) rfl 2 (by decide) (hts _ kw_346) (fun _ h9 => h9) rfl d_cRd_readNumber_96 ?_
    refine lv_aload_n hx hb d_cRd_readNumber_99 rfl (lv_at hl 0 rfl) ?_
    refine va_get (D := D) (ci := 1) (v := .int (S.i 1 4 x0)) (C := R_Rd) (T := F_Rd) (N := 10) hx hb hts i_Rd hown hK hP (cPos N 1 x0) (cw_obj (k := 1) (by decide) hl_x0_1) rfl 4 (by decide) (hts _ kw_349) (fun _ h9 => h9) rfl d_cRd_readNumber_100 ?_
    obtain ⟨j_2, hj_3, hl_4, Heq⟩ := gn_some Heq
    refine w_s (st' := [.int (S.i 1 4 x0), .ref (ad 5 j_2)]) (congrArg (fun z9 : Option Nat => [.int (S.i 1 4 x0), rv ad 5 z9]) hj_3) ?_
    obtain ⟨o_5, h_6, Heq⟩ := ob_some Heq
    have hFc := fr_all hD hS hA
    refine va_calli (va_runV (As := [.int (S.i 1 4 x0)]) (rest := []) ⟨hx, hb, hml, hown, hts⟩ (g_cRw_at l D H.size (ad := ad) (cc := cc) (sad := sad) (sav := sav) h_6) (cw_v 1 hts kw_689 kw_871 kw_687 kw_688 kw_4 rfl rfl (by decide +kernel) ⟨Nat.le_of_ble_eq_true rfl, Nat.le_of_ble_eq_true rfl⟩) ⟨c_blind, va_recv hK hP (ci := 5) (q0 := cPos N 5 j_2) rfl (cw_obj (k := 5) (by decide) hl_4), fun U hU hW => c_pre hU hW hP hK hD hev hE hN hNS hS hFc⟩ rfl rfl hl.1 rfl (lv_room (Nat.le_of_ble_eq_true rfl)) d_cRd_readNumber_103 ⟨Nat.le_of_ble_eq_true rfl, Nat.le_of_ble_eq_true rfl⟩) hS (fun q _ h => hFc q h) hFc (fun rz u t H1 locs ht hvm hw hB hz1 hk1 hS => ?_)
    obtain ⟨hP, -, hD1⟩ := hB
    rw [ht] at hP
    have hD := hD1.weaken (fun _ q _ h => hFc q.1 h)
    generalize H1 = H at hP hS ⊢
    refine W.cs (cells' := 0) (slots' := 0) rfl rfl ?_
    subst hw
    obtain ⟨o_7, h_8, Heq⟩ := ob_some Heq
    have hFc := fr_all hD hS hA
    refine va_calli (va_runSN (As := [.int o_5.2]) (rest := []) ⟨hx, hb, hml, hown, hts⟩ (g_cJT_isDigit l D H.size (ad := ad) (cc := cc) (sad := sad) (sav := sav) h_8) ⟨cw_n 1 hts kw_964 hN.1 kw_1 rfl rfl (by decide +kernel) ⟨Nat.le_of_ble_eq_true rfl, Nat.le_of_ble_eq_true rfl⟩, hts _ kw_963, trivial⟩ ⟨c_blind, fun U hU hW => c_pre hU hW hP hK hD hev hE hN hNS hS hFc⟩ rfl rfl hl.1 rfl (lv_room (Nat.le_of_ble_eq_true rfl)) d_cRd_readNumber_106 ⟨Nat.le_of_ble_eq_true rfl, Nat.le_of_ble_eq_true rfl⟩) hS (fun q _ h => hFc q h) hFc (fun rz u t H1 locs ht hvm hw hB hz1 hk1 hS => ?_)
    obtain ⟨hP, -, hD1⟩ := hB
    rw [ht] at hP
    have hD := hD1.weaken (fun _ q _ h => hFc q.1 h)
    generalize H1 = H at hP hS ⊢
    refine W.cs (cells' := 0) (slots' := 0) rfl rfl ?_
    subst hw
    refine lv_if_eq (tgt := 153) hx hb d_cRd_readNumber_109 (by decide) (fun c_9 => ?_) (fun c_9 => ?_)
    · replace Heq := (if_pos c_9).symm.trans Heq
      exact K0 _ (Option.some.inj Heq).symm _ _ _ hP hD hS (lv_sub hl [0, 1, 2, 4] rfl)
    · replace Heq := (if_neg c_9).symm.trans Heq
      refine lv_ldc2 (v := 10) hx hb hown (hts _ kw_965) d_cRd_readNumber_112 ?_
      refine lv_lload hx hb d_cRd_readNumber_115 (lv_at hl 4 rfl) ?_
      refine lv_lmul hx hb d_cRd_readNumber_117 ?_
      refine w_l (y := 10 * x4) rfl ?_
      refine lv_aload_n hx hb d_cRd_readNumber_118 rfl (lv_at hl 0 rfl) ?_
      refine va_get (D := D) (ci := 1) (v := rv ad 5 (o_7.1.r 1 2 x0)) (C := R_Rd) (T := F_Rd) (N := 10) hx hb hts i_Rd hown hK hP (cPos N 1 x0) (cw_obj (k := 1) (by decide) hl_x0_1) rfl 2 (by decide) (hts _ kw_346) (fun _ h9 => h9) rfl d_cRd_readNumber_119 ?_
      refine lv_aload_n hx hb d_cRd_readNumber_122 rfl (lv_at hl 0 rfl) ?_
      refine va_get (D := D) (ci := 1) (v := .int (o_7.1.i 1 4 x0)) (C := R_Rd) (T := F_Rd) (N := 10) hx hb hts i_Rd hown hK hP (cPos N 1 x0) (cw_obj (k := 1) (by decide) hl_x0_1) rfl 4 (by decide) (hts _ kw_349) (fun _ h9 => h9) rfl d_cRd_readNumber_123 ?_
      obtain ⟨j_10, hj_11, hl_12, Heq⟩ := gn_some Heq
      refine w_s (st' := [.int (o_7.1.i 1 4 x0), .ref (ad 5 j_10), .long (10 * x4)]) (congrArg (fun z9 : Option Nat => [.int (o_7.1.i 1 4 x0), rv ad 5 z9, .long (10 * x4)]) hj_11) ?_
      obtain ⟨o_13, h_14, Heq⟩ := ob_some Heq
      have hFc := fr_all hD hS hA
      refine va_calli (va_runV (As := [.int (o_7.1.i 1 4 x0)]) (rest := [.long (10 * x4)]) ⟨hx, hb, hml, hown, hts⟩ (g_cRw_at l D H.size (ad := ad) (cc := cc) (sad := sad) (sav := sav) h_14) (cw_v 1 hts kw_689 kw_871 kw_687 kw_688 kw_4 rfl rfl (by decide +kernel) ⟨Nat.le_of_ble_eq_true rfl, Nat.le_of_ble_eq_true rfl⟩) ⟨c_blind, va_recv hK hP (ci := 5) (q0 := cPos N 5 j_10) rfl (cw_obj (k := 5) (by decide) hl_12), fun U hU hW => c_pre hU hW hP hK hD hev hE hN hNS hS hFc⟩ rfl rfl hl.1 rfl (lv_room (Nat.le_of_ble_eq_true rfl)) d_cRd_readNumber_126 ⟨Nat.le_of_ble_eq_true rfl, Nat.le_of_ble_eq_true rfl⟩) hS (fun q _ h => hFc q h) hFc (fun rz u t H1 locs ht hvm hw hB hz1 hk1 hS => ?_)
      obtain ⟨hP, -, hD1⟩ := hB
      rw [ht] at hP
      have hD := hD1.weaken (fun _ q _ h => hFc q.1 h)
      generalize H1 = H at hP hS ⊢
      refine W.cs (cells' := 0) (slots' := 0) rfl rfl ?_
      subst hw
      refine lv_i2l hx hb d_cRd_readNumber_129 rfl ?_
      refine w_l (y := o_13.2.toInt64) rfl ?_
      refine lv_ladd hx hb d_cRd_readNumber_130 ?_
      refine w_l (y := (10 * x4) + o_13.2.toInt64) rfl ?_
      refine lv_ldc2 (v := 48) hx hb hown (hts _ kw_966) d_cRd_readNumber_131 ?_
      refine lv_lsub hx hb d_cRd_readNumber_134 ?_
      refine w_l (y := ((10 * x4) + o_13.2.toInt64) - 48) rfl ?_
      refine lv_lstore (lv' := [(4, .long (((10 * x4) + o_13.2.toInt64) - 48)), (0, .ref (ad 1 x0)), (1, rv ad 9 x1), (2, .int x2), (3, .int x3), (6, .int x6)]) hx hb d_cRd_readNumber_135 hl (by decide) rfl (fun ls hl => ?_)
      refine lv_aload_n hx hb d_cRd_readNumber_137 rfl (lv_at hl 1 rfl) ?_
      refine lv_dup hx hb d_cRd_readNumber_138 (by first | rfl | exact rv_cat) ?_
      refine va_get (D := D) (ci := 1) (v := .int (o_13.1.i 1 4 x0)) (C := R_Rd) (T := F_Rd) (N := 10) hx hb hts i_Rd hown hK hP (cPos N 1 x0) (cw_obj (k := 1) (by decide) hl_x0_1) rfl 4 (by decide) (hts _ kw_349) (fun _ h9 => h9) rfl d_cRd_readNumber_139 ?_
      refine lv_iconst (v := 1) hx hb d_cRd_readNumber_142 (by decide) ?_
      refine lv_iadd hx hb d_cRd_readNumber_143 ?_
      refine w_i (y := (o_13.1.i 1 4 x0) + 1) rfl ?_
      refine va_put (D := D) (ci := 1) (v := .int ((o_13.1.i 1 4 x0) + 1)) (ty := .int) (C := R_Rd) (T := F_Rd) (N := 10) hx hb hts i_Rd t_Rd t_Rd_ok n_Rd hown hK hP hD hS (cPos N 1 x0) (cw_obj (k := 1) (by decide) hl_x0_1) rfl 4 (by decide) (hts _ kw_349) (fun _ h9 => h9) rfl (by decide +kernel) rfl rfl (Nat.le_of_ble_eq_true rfl) d_cRd_readNumber_144 (fun H locs hP hD hS => ?_)
      have hD := (congrArg (fun w9 => va_D A w9) (cw_setI (ad := ad) (cc := cc) (S := o_13.1) (k := 1) (f := 4) (v := (o_13.1.i 1 4 x0) + 1) (by decide) rfl hl_x0_1)).mp hD
      have hP := (congrArg (fun w9 => va_P D cls w9 H) (cw_setI (ad := ad) (cc := cc) (S := o_13.1) (k := 1) (f := 4) (v := (o_13.1.i 1 4 x0) + 1) (by decide) rfl hl_x0_1)).mp hP
      refine lv_iinc (v := x6 + 1) (lv' := [(6, .int (x6 + 1)), (4, .long (((10 * x4) + o_13.2.toInt64) - 48)), (0, .ref (ad 1 x0)), (1, rv ad 9 x1), (2, .int x2), (3, .int x3)]) hx hb d_cRd_readNumber_147 hl (k := 5) rfl rfl (by decide) rfl (fun ls hl => ?_)
      refine lv_goto (tgt := 89) hx hb d_cRd_readNumber_150 (by decide) ?_
      exact Ka _ (Option.some.inj Heq).symm _ _ _ hP hD hS (lv_sub hl [2, 3, 4, 5, 1, 0] rfl)
def m_cRd_readNumber_L89 (N : Nat → Nat) (x0 : Nat) (S : CS) (x1 : Option Nat) (x2 : Int32) (x3 : Int32) (x4 : Int64) (x6 : Int32) : Option (CS × Option Nat × Int32 × Int64) := lp (fun a : CS × Option Nat × Int32 × Int32 × Int64 × Int32 => m_cRd_readNumber_B89 N x0 a.1 a.2.1 a.2.2.1 a.2.2.2.1 a.2.2.2.2.1 a.2.2.2.2.2) FU (S, x1, x2, x3, x4, x6)
theorem w_cRd_readNumber_L89 {p : Program} {l : Launch} {e : Env} {s : State} {m : MethodId} {args : Array Value} {below : List Frame} {meth : Method} {c : Code} {A : Nat → Prop} {D : va_G} {ad : Nat → Nat → Nat} {cc : Nat → ClassId} {sad sav : Nat → Nat} {Q : State → Prop} (hC : MCc sad sav "JoinedTrees$JsonReader" prog_3_method_15_code 7 (some .boolean) p s m args meth c A D cc) {N : Nat → Nat} {x0 : Nat} {S : CS} {x1 : Option Nat} {x2 : Int32} {x3 : Int32} {x4 : Int64} {x6 : Int32} {o : CS × Option Nat × Int32 × Int64} (Heq : m_cRd_readNumber_L89 N x0 S x1 x2 x3 x4 x6 = some o) (K0 : ∀ b : CS × Option Nat × Int32 × Int64, o = b → ∀ (H : Heap) (locs : List Loc) (ls : Array Slot), va_P D cls (cw ad cc N b.1) H → va_D A (cw ad cc N b.1) → va_S A s.heap H locs → lv_has ls 7 [(0, .ref (ad 1 x0)), (1, rv ad 9 b.2.1), (2, .int b.2.2.1), (4, .long b.2.2.2)] → W p l e ({ frames := 1, cells := 0, slots := 0, locals := 21 }) s m args below meth c H locs 0 0 Q (F0 m 153 ls [])) : ∀ (H : Heap) (locs : List Loc) (ls : Array Slot), va_P D cls (cw ad cc N S) H → va_D A (cw ad cc N S) → va_S A s.heap H locs → lv_has ls 7 [(0, .ref (ad 1 x0)), (1, rv ad 9 x1), (2, .int x2), (3, .int x3), (4, .long x4), (6, .int x6)] → W p l e ({ frames := 1, cells := 0, slots := 0, locals := 21 }) s m args below meth c H locs 0 0 Q (F0 m 89 ls []) := by
  refine lp_w (G := fun a : CS × Option Nat × Int32 × Int32 × Int64 × Int32 => ∀ (H : Heap) (locs : List Loc) (ls : Array Slot), va_P D cls (cw ad cc N a.1) H → va_D A (cw ad cc N a.1) → va_S A s.heap H locs → lv_has ls 7 [(0, .ref (ad 1 x0)), (1, rv ad 9 a.2.1), (2, .int a.2.2.1), (3, .int a.2.2.2.1), (4, .long a.2.2.2.2.1), (6, .int a.2.2.2.2.2)] → W p l e ({ frames := 1, cells := 0, slots := 0, locals := 21 }) s m args below meth c H locs 0 0 Q (F0 m 89 ls [])) ?_ FU (S, x1, x2, x3, x4, x6) Heq
  intro a o1 ho Ka Ke
  exact w_cRd_readNumber_B89 hC ho (fun b h => Ka b h) (fun b h => K0 b (Ke _ h).symm)
def m_cRd_readNumber_J166 (N : Nat → Nat) (x0 : Nat) (S : CS) (t0 : Int64) (t1 : Option Nat) : Option (CS × Int32) := gn t1 (N 9) (fun j_1 => some ((S.setL 9 1 j_1 t0), 1))
theorem d_cRd_readNumber_153 : decode prog_3_method_15_code 153 = .ok (.aload_n 1, 1) := by decide +kernel
theorem d_cRd_readNumber_154 : decode prog_3_method_15_code 154 = .ok (.iload_n 2, 1) := by decide +kernel
theorem d_cRd_readNumber_155 : decode prog_3_method_15_code 155 = .ok (.ifCond .eq 9, 3) := by decide +kernel
theorem d_cRd_readNumber_164 : decode prog_3_method_15_code 164 = .ok (.lload 4, 2) := by decide +kernel
theorem d_cRd_readNumber_166 : decode prog_3_method_15_code 166 = .ok (.putfield 155, 3) := by decide +kernel
theorem d_cRd_readNumber_169 : decode prog_3_method_15_code 169 = .ok (.iconst 1, 1) := by decide +kernel
theorem d_cRd_readNumber_170 : decode prog_3_method_15_code 170 = .ok (.ireturn, 1) := by decide +kernel
set_option maxHeartbeats 4000000 in
set_option maxRecDepth 100000 in
theorem w_cRd_readNumber_J166 {p : Program} {l : Launch} {e : Env} {s : State} {m : MethodId} {args : Array Value} {below : List Frame} {meth : Method} {c : Code} {A : Nat → Prop} {D : va_G} {ad : Nat → Nat → Nat} {cc : Nat → ClassId} {sad sav : Nat → Nat} {Q : State → Prop} (hC : MCc sad sav "JoinedTrees$JsonReader" prog_3_method_15_code 7 (some .boolean) p s m args meth c A D cc) {N : Nat → Nat} {x0 : Nat} {S : CS} {t0 : Int64} {t1 : Option Nat} {o : CS × Int32} (Heq : m_cRd_readNumber_J166 N x0 S t0 t1 = some o) (Kr : ∀ r : CS × Int32, o = r → ∀ (pc : Nat) (H : Heap) (locs : List Loc) (ls : Array Slot), decode prog_3_method_15_code pc = .ok (.ireturn, 1) → (r.2 = 0 ∨ r.2 = 1) → va_P D cls (cw ad cc N r.1) H → va_D A (cw ad cc N r.1) → va_S A s.heap H locs → W p l e ({ frames := 1, cells := 0, slots := 0, locals := 21 }) s m args below meth c H locs 0 0 Q (F0 m pc ls [.int r.2])) : ∀ (H : Heap) (locs : List Loc) (ls : Array Slot), va_P D cls (cw ad cc N S) H → va_D A (cw ad cc N S) → va_S A s.heap H locs → lv_has ls 7 [(0, .ref (ad 1 x0))] → W p l e ({ frames := 1, cells := 0, slots := 0, locals := 21 }) s m args below meth c H locs 0 0 Q (F0 m 166 ls [.long t0, rv ad 9 t1]) := by
  intro H locs ls hP hD hS hl
  obtain ⟨hx, hb, hr, hml, hown, hts, hK, hA, hev, hE, hN, hNS⟩ := id hC
  unfold m_cRd_readNumber_J166 at Heq
  obtain ⟨j_1, hj_2, hl_3, Heq⟩ := gn_some Heq
  refine w_s (st' := [.long t0, .ref (ad 9 j_1)]) (congrArg (fun z9 : Option Nat => [.long t0, rv ad 9 z9]) hj_2) ?_
  refine va_put (D := D) (ci := 9) (v := .long t0) (ty := .long) (C := R_Va) (T := F_Va) (N := 10) hx hb hts i_Va t_Va t_Va_ok n_Va hown hK hP hD hS (cPos N 9 j_1) (cw_obj (k := 9) (by decide) hl_3) rfl 1 (by decide) (hts _ kw_298) (fun _ h9 => h9) rfl (by decide +kernel) rfl rfl (Nat.le_of_ble_eq_true rfl) d_cRd_readNumber_166 (fun H locs hP hD hS => ?_)
  have hD := (congrArg (fun w9 => va_D A w9) (cw_setL (ad := ad) (cc := cc) (S := S) (k := 9) (f := 1) (v := t0) (by decide) rfl hl_3)).mp hD
  have hP := (congrArg (fun w9 => va_P D cls w9 H) (cw_setL (ad := ad) (cc := cc) (S := S) (k := 9) (f := 1) (v := t0) (by decide) rfl hl_3)).mp hP
  refine lv_iconst (v := 1) hx hb d_cRd_readNumber_169 (by decide) ?_
  exact Kr _ (Option.some.inj Heq).symm 170 _ _ _ d_cRd_readNumber_170 (Or.inr rfl) hP hD hS
def m_cRd_readNumber_J153 (N : Nat → Nat) (x0 : Nat) (S : CS) (x1 : Option Nat) (x2 : Int32) (x4 : Int64) : Option (CS × Int32) := (if x2 = 0 then m_cRd_readNumber_J166 N x0 S x4 x1 else m_cRd_readNumber_J166 N x0 S (-x4) x1)
theorem d_cRd_readNumber_158 : decode prog_3_method_15_code 158 = .ok (.lload 4, 2) := by decide +kernel
theorem d_cRd_readNumber_160 : decode prog_3_method_15_code 160 = .ok (.lneg, 1) := by decide +kernel
theorem d_cRd_readNumber_161 : decode prog_3_method_15_code 161 = .ok (.goto 5, 3) := by decide +kernel
set_option maxHeartbeats 4000000 in
set_option maxRecDepth 100000 in
theorem w_cRd_readNumber_J153 {p : Program} {l : Launch} {e : Env} {s : State} {m : MethodId} {args : Array Value} {below : List Frame} {meth : Method} {c : Code} {A : Nat → Prop} {D : va_G} {ad : Nat → Nat → Nat} {cc : Nat → ClassId} {sad sav : Nat → Nat} {Q : State → Prop} (hC : MCc sad sav "JoinedTrees$JsonReader" prog_3_method_15_code 7 (some .boolean) p s m args meth c A D cc) {N : Nat → Nat} {x0 : Nat} {S : CS} {x1 : Option Nat} {x2 : Int32} {x4 : Int64} {o : CS × Int32} (Heq : m_cRd_readNumber_J153 N x0 S x1 x2 x4 = some o) (Kr : ∀ r : CS × Int32, o = r → ∀ (pc : Nat) (H : Heap) (locs : List Loc) (ls : Array Slot), decode prog_3_method_15_code pc = .ok (.ireturn, 1) → (r.2 = 0 ∨ r.2 = 1) → va_P D cls (cw ad cc N r.1) H → va_D A (cw ad cc N r.1) → va_S A s.heap H locs → W p l e ({ frames := 1, cells := 0, slots := 0, locals := 21 }) s m args below meth c H locs 0 0 Q (F0 m pc ls [.int r.2])) : ∀ (H : Heap) (locs : List Loc) (ls : Array Slot), va_P D cls (cw ad cc N S) H → va_D A (cw ad cc N S) → va_S A s.heap H locs → lv_has ls 7 [(0, .ref (ad 1 x0)), (1, rv ad 9 x1), (2, .int x2), (4, .long x4)] → W p l e ({ frames := 1, cells := 0, slots := 0, locals := 21 }) s m args below meth c H locs 0 0 Q (F0 m 153 ls []) := by
  intro H locs ls hP hD hS hl
  obtain ⟨hx, hb, hr, hml, hown, hts, hK, hA, hev, hE, hN, hNS⟩ := id hC
  unfold m_cRd_readNumber_J153 at Heq
  refine tx_aload_n (x := x1.map (ad 9)) hx hb d_cRd_readNumber_153 rfl (lv_at hl 1 rfl) ?_
  refine w_v (y := rv ad 9 x1) rfl ?_
  refine lv_iload_n hx hb d_cRd_readNumber_154 rfl (lv_at hl 2 rfl) ?_
  refine lv_if_eq (tgt := 164) hx hb d_cRd_readNumber_155 (by decide) (fun c_1 => ?_) (fun c_1 => ?_)
  · replace Heq := (if_pos c_1).symm.trans Heq
    refine lv_lload hx hb d_cRd_readNumber_164 (lv_at hl 3 rfl) ?_
    exact w_cRd_readNumber_J166 hC Heq Kr _ _ _ hP hD hS (lv_sub hl [0] rfl)
  · replace Heq := (if_neg c_1).symm.trans Heq
    refine lv_lload hx hb d_cRd_readNumber_158 (lv_at hl 3 rfl) ?_
    refine lv_lneg hx hb d_cRd_readNumber_160 ?_
    refine w_l (y := -x4) rfl ?_
    refine lv_goto (tgt := 166) hx hb d_cRd_readNumber_161 (by decide) ?_
    exact w_cRd_readNumber_J166 hC Heq Kr _ _ _ hP hD hS (lv_sub hl [0] rfl)
def m_cRd_readNumber_J82 (N : Nat → Nat) (x0 : Nat) (S : CS) (x1 : Option Nat) (x2 : Int32) (t0 : Int32) : Option (CS × Int32) := ob (m_cRd_readNumber_L89 N x0 S x1 x2 t0 0 0) (fun b_1 => m_cRd_readNumber_J153 N x0 b_1.1 b_1.2.1 b_1.2.2.1 b_1.2.2.2)
set_option maxHeartbeats 4000000 in
set_option maxRecDepth 100000 in
theorem w_cRd_readNumber_J82 {p : Program} {l : Launch} {e : Env} {s : State} {m : MethodId} {args : Array Value} {below : List Frame} {meth : Method} {c : Code} {A : Nat → Prop} {D : va_G} {ad : Nat → Nat → Nat} {cc : Nat → ClassId} {sad sav : Nat → Nat} {Q : State → Prop} (hC : MCc sad sav "JoinedTrees$JsonReader" prog_3_method_15_code 7 (some .boolean) p s m args meth c A D cc) {N : Nat → Nat} {x0 : Nat} {S : CS} {x1 : Option Nat} {x2 : Int32} {t0 : Int32} {o : CS × Int32} (Heq : m_cRd_readNumber_J82 N x0 S x1 x2 t0 = some o) (Kr : ∀ r : CS × Int32, o = r → ∀ (pc : Nat) (H : Heap) (locs : List Loc) (ls : Array Slot), decode prog_3_method_15_code pc = .ok (.ireturn, 1) → (r.2 = 0 ∨ r.2 = 1) → va_P D cls (cw ad cc N r.1) H → va_D A (cw ad cc N r.1) → va_S A s.heap H locs → W p l e ({ frames := 1, cells := 0, slots := 0, locals := 21 }) s m args below meth c H locs 0 0 Q (F0 m pc ls [.int r.2])) : ∀ (H : Heap) (locs : List Loc) (ls : Array Slot), va_P D cls (cw ad cc N S) H → va_D A (cw ad cc N S) → va_S A s.heap H locs → lv_has ls 7 [(0, .ref (ad 1 x0)), (1, rv ad 9 x1), (2, .int x2)] → W p l e ({ frames := 1, cells := 0, slots := 0, locals := 21 }) s m args below meth c H locs 0 0 Q (F0 m 82 ls [.int t0]) := by
  intro H locs ls hP hD hS hl
  obtain ⟨hx, hb, hr, hml, hown, hts, hK, hA, hev, hE, hN, hNS⟩ := id hC
  unfold m_cRd_readNumber_J82 at Heq
  refine lv_istore_n (lv' := [(3, .int t0), (0, .ref (ad 1 x0)), (1, rv ad 9 x1), (2, .int x2)]) hx hb d_cRd_readNumber_82 rfl hl (by decide) rfl (fun ls hl => ?_)
  refine lv_lconst (v := 0) hx hb d_cRd_readNumber_83 (by decide) ?_
  refine lv_lstore (lv' := [(4, .long 0), (3, .int t0), (0, .ref (ad 1 x0)), (1, rv ad 9 x1), (2, .int x2)]) hx hb d_cRd_readNumber_84 hl (by decide) rfl (fun ls hl => ?_)
  refine lv_iconst (v := 0) hx hb d_cRd_readNumber_86 (by decide) ?_
  refine lv_istore (lv' := [(6, .int 0), (4, .long 0), (3, .int t0), (0, .ref (ad 1 x0)), (1, rv ad 9 x1), (2, .int x2)]) hx hb d_cRd_readNumber_87 hl (by decide) rfl (fun ls hl => ?_)
  obtain ⟨b_1, h_2, Heq⟩ := ob_some Heq
  refine w_cRd_readNumber_L89 hC h_2 (fun b h => ?_) _ _ _ hP hD hS (lv_sub hl [3, 4, 5, 2, 1, 0] rfl)
  subst h
  intro H locs ls hP hD hS hl
  exact w_cRd_readNumber_J153 hC Heq Kr _ _ _ hP hD hS (lv_sub hl [0, 1, 2, 3] rfl)
def m_cRd_readNumber_J41 (N : Nat → Nat) (x0 : Nat) (S : CS) (x1 : Option Nat) (x2 : Int32) : Option (CS × Int32) := gl x0 (N 1) (gn (S.r 1 2 x0) (N 5) (fun j_1 => ob (m_cRw_at N j_1 S (S.i 1 4 x0)) (fun o_4 => ob (m_cJT_isDigit N o_4.1 o_4.2) (fun o_6 => (if o_6.2 = 0 then some (o_6.1, 0) else gn (o_6.1.r 1 2 x0) (N 5) (fun j_9 => ob (m_cRw_at N j_9 o_6.1 (o_6.1.i 1 4 x0)) (fun o_12 => (if o_12.2 = 48 then m_cRd_readNumber_J82 N x0 o_12.1 x1 x2 1 else m_cRd_readNumber_J82 N x0 o_12.1 x1 x2 18))))))))
theorem d_cRd_readNumber_76 : decode prog_3_method_15_code 76 = .ok (.iconst 1, 1) := by decide +kernel
theorem d_cRd_readNumber_77 : decode prog_3_method_15_code 77 = .ok (.goto 5, 3) := by decide +kernel
theorem d_cRd_readNumber_58 : decode prog_3_method_15_code 58 = .ok (.iconst 0, 1) := by decide +kernel
theorem d_cRd_readNumber_59 : decode prog_3_method_15_code 59 = .ok (.ireturn, 1) := by decide +kernel
set_option maxHeartbeats 4000000 in
set_option maxRecDepth 100000 in
theorem w_cRd_readNumber_J41 {p : Program} {l : Launch} {e : Env} {s : State} {m : MethodId} {args : Array Value} {below : List Frame} {meth : Method} {c : Code} {A : Nat → Prop} {D : va_G} {ad : Nat → Nat → Nat} {cc : Nat → ClassId} {sad sav : Nat → Nat} {Q : State → Prop} (hC : MCc sad sav "JoinedTrees$JsonReader" prog_3_method_15_code 7 (some .boolean) p s m args meth c A D cc) {N : Nat → Nat} {x0 : Nat} {S : CS} {x1 : Option Nat} {x2 : Int32} {o : CS × Int32} (Heq : m_cRd_readNumber_J41 N x0 S x1 x2 = some o) (Kr : ∀ r : CS × Int32, o = r → ∀ (pc : Nat) (H : Heap) (locs : List Loc) (ls : Array Slot), decode prog_3_method_15_code pc = .ok (.ireturn, 1) → (r.2 = 0 ∨ r.2 = 1) → va_P D cls (cw ad cc N r.1) H → va_D A (cw ad cc N r.1) → va_S A s.heap H locs → W p l e ({ frames := 1, cells := 0, slots := 0, locals := 21 }) s m args below meth c H locs 0 0 Q (F0 m pc ls [.int r.2])) : ∀ (H : Heap) (locs : List Loc) (ls : Array Slot), va_P D cls (cw ad cc N S) H → va_D A (cw ad cc N S) → va_S A s.heap H locs → lv_has ls 7 [(0, .ref (ad 1 x0)), (1, rv ad 9 x1), (2, .int x2)] → W p l e ({ frames := 1, cells := 0, slots := 0, locals := 21 }) s m args below meth c H locs 0 0 Q (F0 m 41 ls []) := by
  intro H locs ls hP hD hS hl
  obtain ⟨hx, hb, hr, hml, hown, hts, hK, hA, hev, hE, hN, hNS⟩ := id hC
  unfold m_cRd_readNumber_J41 at Heq
  refine lv_aload_n hx hb d_cRd_readNumber_41 rfl (lv_at hl 0 rfl) ?_
  obtain ⟨hl_x0_1, Heq⟩ := gl_some Heq
  refine va_get (D := D) (ci := 1) (v := rv ad 5 (S.r 1 2 x0)) (C := R_Rd) (T := F_Rd) (N := 10) hx hb hts i_Rd hown hK hP (cPos N 1 x0) (cw_obj (k := 1) (by decide) hl_x0_1) rfl 2 (by decide) (hts _ kw_346) (fun _ h9 => h9) rfl d_cRd_readNumber_42 ?_
  refine lv_aload_n hx hb d_cRd_readNumber_45 rfl (lv_at hl 0 rfl) ?_
  refine va_get (D := D) (ci := 1) (v := .int (S.i 1 4 x0)) (C := R_Rd) (T := F_Rd) (N := 10) hx hb hts i_Rd hown hK hP (cPos N 1 x0) (cw_obj (k := 1) (by decide) hl_x0_1) rfl 4 (by decide) (hts _ kw_349) (fun _ h9 => h9) rfl d_cRd_readNumber_46 ?_
  obtain ⟨j_1, hj_2, hl_3, Heq⟩ := gn_some Heq
  refine w_s (st' := [.int (S.i 1 4 x0), .ref (ad 5 j_1)]) (congrArg (fun z9 : Option Nat => [.int (S.i 1 4 x0), rv ad 5 z9]) hj_2) ?_
  obtain ⟨o_4, h_5, Heq⟩ := ob_some Heq
  have hFc := fr_all hD hS hA
  refine va_calli (va_runV (As := [.int (S.i 1 4 x0)]) (rest := []) ⟨hx, hb, hml, hown, hts⟩ (g_cRw_at l D H.size (ad := ad) (cc := cc) (sad := sad) (sav := sav) h_5) (cw_v 1 hts kw_689 kw_871 kw_687 kw_688 kw_4 rfl rfl (by decide +kernel) ⟨Nat.le_of_ble_eq_true rfl, Nat.le_of_ble_eq_true rfl⟩) ⟨c_blind, va_recv hK hP (ci := 5) (q0 := cPos N 5 j_1) rfl (cw_obj (k := 5) (by decide) hl_3), fun U hU hW => c_pre hU hW hP hK hD hev hE hN hNS hS hFc⟩ rfl rfl hl.1 rfl (lv_room (Nat.le_of_ble_eq_true rfl)) d_cRd_readNumber_49 ⟨Nat.le_of_ble_eq_true rfl, Nat.le_of_ble_eq_true rfl⟩) hS (fun q _ h => hFc q h) hFc (fun rz u t H1 locs ht hvm hw hB hz1 hk1 hS => ?_)
  obtain ⟨hP, -, hD1⟩ := hB
  rw [ht] at hP
  have hD := hD1.weaken (fun _ q _ h => hFc q.1 h)
  generalize H1 = H at hP hS ⊢
  refine W.cs (cells' := 0) (slots' := 0) rfl rfl ?_
  subst hw
  obtain ⟨o_6, h_7, Heq⟩ := ob_some Heq
  have hFc := fr_all hD hS hA
  refine va_calli (va_runSN (As := [.int o_4.2]) (rest := []) ⟨hx, hb, hml, hown, hts⟩ (g_cJT_isDigit l D H.size (ad := ad) (cc := cc) (sad := sad) (sav := sav) h_7) ⟨cw_n 1 hts kw_964 hN.1 kw_1 rfl rfl (by decide +kernel) ⟨Nat.le_of_ble_eq_true rfl, Nat.le_of_ble_eq_true rfl⟩, hts _ kw_963, trivial⟩ ⟨c_blind, fun U hU hW => c_pre hU hW hP hK hD hev hE hN hNS hS hFc⟩ rfl rfl hl.1 rfl (lv_room (Nat.le_of_ble_eq_true rfl)) d_cRd_readNumber_52 ⟨Nat.le_of_ble_eq_true rfl, Nat.le_of_ble_eq_true rfl⟩) hS (fun q _ h => hFc q h) hFc (fun rz u t H1 locs ht hvm hw hB hz1 hk1 hS => ?_)
  obtain ⟨hP, -, hD1⟩ := hB
  rw [ht] at hP
  have hD := hD1.weaken (fun _ q _ h => hFc q.1 h)
  generalize H1 = H at hP hS ⊢
  refine W.cs (cells' := 0) (slots' := 0) rfl rfl ?_
  subst hw
  refine lv_if_ne (tgt := 60) hx hb d_cRd_readNumber_55 (by decide) (fun c_8 => ?_) (fun c_8 => ?_)
  · replace Heq := (if_neg c_8).symm.trans Heq
    refine lv_aload_n hx hb d_cRd_readNumber_60 rfl (lv_at hl 0 rfl) ?_
    refine va_get (D := D) (ci := 1) (v := rv ad 5 (o_6.1.r 1 2 x0)) (C := R_Rd) (T := F_Rd) (N := 10) hx hb hts i_Rd hown hK hP (cPos N 1 x0) (cw_obj (k := 1) (by decide) hl_x0_1) rfl 2 (by decide) (hts _ kw_346) (fun _ h9 => h9) rfl d_cRd_readNumber_61 ?_
    refine lv_aload_n hx hb d_cRd_readNumber_64 rfl (lv_at hl 0 rfl) ?_
    refine va_get (D := D) (ci := 1) (v := .int (o_6.1.i 1 4 x0)) (C := R_Rd) (T := F_Rd) (N := 10) hx hb hts i_Rd hown hK hP (cPos N 1 x0) (cw_obj (k := 1) (by decide) hl_x0_1) rfl 4 (by decide) (hts _ kw_349) (fun _ h9 => h9) rfl d_cRd_readNumber_65 ?_
    obtain ⟨j_9, hj_10, hl_11, Heq⟩ := gn_some Heq
    refine w_s (st' := [.int (o_6.1.i 1 4 x0), .ref (ad 5 j_9)]) (congrArg (fun z9 : Option Nat => [.int (o_6.1.i 1 4 x0), rv ad 5 z9]) hj_10) ?_
    obtain ⟨o_12, h_13, Heq⟩ := ob_some Heq
    have hFc := fr_all hD hS hA
    refine va_calli (va_runV (As := [.int (o_6.1.i 1 4 x0)]) (rest := []) ⟨hx, hb, hml, hown, hts⟩ (g_cRw_at l D H.size (ad := ad) (cc := cc) (sad := sad) (sav := sav) h_13) (cw_v 1 hts kw_689 kw_871 kw_687 kw_688 kw_4 rfl rfl (by decide +kernel) ⟨Nat.le_of_ble_eq_true rfl, Nat.le_of_ble_eq_true rfl⟩) ⟨c_blind, va_recv hK hP (ci := 5) (q0 := cPos N 5 j_9) rfl (cw_obj (k := 5) (by decide) hl_11), fun U hU hW => c_pre hU hW hP hK hD hev hE hN hNS hS hFc⟩ rfl rfl hl.1 rfl (lv_room (Nat.le_of_ble_eq_true rfl)) d_cRd_readNumber_68 ⟨Nat.le_of_ble_eq_true rfl, Nat.le_of_ble_eq_true rfl⟩) hS (fun q _ h => hFc q h) hFc (fun rz u t H1 locs ht hvm hw hB hz1 hk1 hS => ?_)
    obtain ⟨hP, -, hD1⟩ := hB
    rw [ht] at hP
    have hD := hD1.weaken (fun _ q _ h => hFc q.1 h)
    generalize H1 = H at hP hS ⊢
    refine W.cs (cells' := 0) (slots' := 0) rfl rfl ?_
    subst hw
    refine lv_bipush (v := 48) hx hb d_cRd_readNumber_71 (by decide) ?_
    refine lv_icmp_ne (tgt := 80) hx hb d_cRd_readNumber_73 (by decide) (fun c_14 => ?_) (fun c_14 => ?_)
    · replace Heq := (if_neg c_14).symm.trans Heq
      refine lv_bipush (v := 18) hx hb d_cRd_readNumber_80 (by decide) ?_
      exact w_cRd_readNumber_J82 hC Heq Kr _ _ _ hP hD hS (lv_sub hl [0, 1, 2] rfl)
    · replace Heq := (if_pos c_14).symm.trans Heq
      refine lv_iconst (v := 1) hx hb d_cRd_readNumber_76 (by decide) ?_
      refine lv_goto (tgt := 82) hx hb d_cRd_readNumber_77 (by decide) ?_
      exact w_cRd_readNumber_J82 hC Heq Kr _ _ _ hP hD hS (lv_sub hl [0, 1, 2] rfl)
  · replace Heq := (if_pos c_8).symm.trans Heq
    refine lv_iconst (v := 0) hx hb d_cRd_readNumber_58 (by decide) ?_
    exact Kr _ (Option.some.inj Heq).symm 59 _ _ _ d_cRd_readNumber_59 (Or.inl rfl) hP hD hS
def m_cRd_readNumber_J26 (N : Nat → Nat) (x0 : Nat) (S : CS) (x1 : Option Nat) (t0 : Int32) : Option (CS × Int32) := (if t0 = 0 then m_cRd_readNumber_J41 N x0 S x1 t0 else gl x0 (N 1) (m_cRd_readNumber_J41 N x0 (S.setI 1 4 x0 ((S.i 1 4 x0) + 1)) x1 t0))
theorem d_cRd_readNumber_31 : decode prog_3_method_15_code 31 = .ok (.aload_n 0, 1) := by decide +kernel
theorem d_cRd_readNumber_32 : decode prog_3_method_15_code 32 = .ok (.dup, 1) := by decide +kernel
theorem d_cRd_readNumber_33 : decode prog_3_method_15_code 33 = .ok (.getfield 34, 3) := by decide +kernel
theorem d_cRd_readNumber_36 : decode prog_3_method_15_code 36 = .ok (.iconst 1, 1) := by decide +kernel
theorem d_cRd_readNumber_37 : decode prog_3_method_15_code 37 = .ok (.iadd, 1) := by decide +kernel
theorem d_cRd_readNumber_38 : decode prog_3_method_15_code 38 = .ok (.putfield 34, 3) := by decide +kernel
set_option maxHeartbeats 4000000 in
set_option maxRecDepth 100000 in
theorem w_cRd_readNumber_J26 {p : Program} {l : Launch} {e : Env} {s : State} {m : MethodId} {args : Array Value} {below : List Frame} {meth : Method} {c : Code} {A : Nat → Prop} {D : va_G} {ad : Nat → Nat → Nat} {cc : Nat → ClassId} {sad sav : Nat → Nat} {Q : State → Prop} (hC : MCc sad sav "JoinedTrees$JsonReader" prog_3_method_15_code 7 (some .boolean) p s m args meth c A D cc) {N : Nat → Nat} {x0 : Nat} {S : CS} {x1 : Option Nat} {t0 : Int32} {o : CS × Int32} (Heq : m_cRd_readNumber_J26 N x0 S x1 t0 = some o) (Kr : ∀ r : CS × Int32, o = r → ∀ (pc : Nat) (H : Heap) (locs : List Loc) (ls : Array Slot), decode prog_3_method_15_code pc = .ok (.ireturn, 1) → (r.2 = 0 ∨ r.2 = 1) → va_P D cls (cw ad cc N r.1) H → va_D A (cw ad cc N r.1) → va_S A s.heap H locs → W p l e ({ frames := 1, cells := 0, slots := 0, locals := 21 }) s m args below meth c H locs 0 0 Q (F0 m pc ls [.int r.2])) : ∀ (H : Heap) (locs : List Loc) (ls : Array Slot), va_P D cls (cw ad cc N S) H → va_D A (cw ad cc N S) → va_S A s.heap H locs → lv_has ls 7 [(0, .ref (ad 1 x0)), (1, rv ad 9 x1)] → W p l e ({ frames := 1, cells := 0, slots := 0, locals := 21 }) s m args below meth c H locs 0 0 Q (F0 m 26 ls [.int t0]) := by
  intro H locs ls hP hD hS hl
  obtain ⟨hx, hb, hr, hml, hown, hts, hK, hA, hev, hE, hN, hNS⟩ := id hC
  unfold m_cRd_readNumber_J26 at Heq
  refine lv_istore_n (i := 2) (lv' := [(2, .int t0), (0, .ref (ad 1 x0)), (1, rv ad 9 x1)]) hx hb d_cRd_readNumber_26 rfl hl (by decide) (by simp [rv, rf_cat]) (fun ls hl => ?_)
  refine lv_iload_n hx hb d_cRd_readNumber_27 rfl (lv_at hl 0 rfl) ?_
  refine lv_if_eq (tgt := 41) hx hb d_cRd_readNumber_28 (by decide) (fun c_1 => ?_) (fun c_1 => ?_)
  · replace Heq := (if_pos c_1).symm.trans Heq
    exact w_cRd_readNumber_J41 hC Heq Kr _ _ _ hP hD hS (lv_sub hl [1, 2, 0] rfl)
  · replace Heq := (if_neg c_1).symm.trans Heq
    refine lv_aload_n hx hb d_cRd_readNumber_31 rfl (lv_at hl 1 rfl) ?_
    refine lv_dup hx hb d_cRd_readNumber_32 (by first | rfl | exact rv_cat) ?_
    obtain ⟨hl_x0_1, Heq⟩ := gl_some Heq
    refine va_get (D := D) (ci := 1) (v := .int (S.i 1 4 x0)) (C := R_Rd) (T := F_Rd) (N := 10) hx hb hts i_Rd hown hK hP (cPos N 1 x0) (cw_obj (k := 1) (by decide) hl_x0_1) rfl 4 (by decide) (hts _ kw_349) (fun _ h9 => h9) rfl d_cRd_readNumber_33 ?_
    refine lv_iconst (v := 1) hx hb d_cRd_readNumber_36 (by decide) ?_
    refine lv_iadd hx hb d_cRd_readNumber_37 ?_
    refine w_i (y := (S.i 1 4 x0) + 1) rfl ?_
    refine va_put (D := D) (ci := 1) (v := .int ((S.i 1 4 x0) + 1)) (ty := .int) (C := R_Rd) (T := F_Rd) (N := 10) hx hb hts i_Rd t_Rd t_Rd_ok n_Rd hown hK hP hD hS (cPos N 1 x0) (cw_obj (k := 1) (by decide) hl_x0_1) rfl 4 (by decide) (hts _ kw_349) (fun _ h9 => h9) rfl (by decide +kernel) rfl rfl (Nat.le_of_ble_eq_true rfl) d_cRd_readNumber_38 (fun H locs hP hD hS => ?_)
    have hD := (congrArg (fun w9 => va_D A w9) (cw_setI (ad := ad) (cc := cc) (S := S) (k := 1) (f := 4) (v := (S.i 1 4 x0) + 1) (by decide) rfl hl_x0_1)).mp hD
    have hP := (congrArg (fun w9 => va_P D cls w9 H) (cw_setI (ad := ad) (cc := cc) (S := S) (k := 1) (f := 4) (v := (S.i 1 4 x0) + 1) (by decide) rfl hl_x0_1)).mp hP
    exact w_cRd_readNumber_J41 hC Heq Kr _ _ _ hP hD hS (lv_sub hl [1, 2, 0] rfl)
def m_cRd_readNumber_J0 (N : Nat → Nat) (x0 : Nat) (S : CS) (x1 : Nat) : Option (CS × Int32) := gl x1 (N 9) (gl x0 (N 1) (gn (S.r 1 2 x0) (N 5) (fun j_1 => ob (m_cRw_at N j_1 (S.setI 9 0 x1 3) (S.i 1 4 x0)) (fun o_4 => (if o_4.2 = 45 then m_cRd_readNumber_J26 N x0 o_4.1 (some x1) 1 else m_cRd_readNumber_J26 N x0 o_4.1 (some x1) 0)))))
theorem d_cRd_readNumber_21 : decode prog_3_method_15_code 21 = .ok (.iconst 1, 1) := by decide +kernel
theorem d_cRd_readNumber_22 : decode prog_3_method_15_code 22 = .ok (.goto 4, 3) := by decide +kernel
set_option maxHeartbeats 4000000 in
set_option maxRecDepth 100000 in
theorem w_cRd_readNumber_J0 {p : Program} {l : Launch} {e : Env} {s : State} {m : MethodId} {args : Array Value} {below : List Frame} {meth : Method} {c : Code} {A : Nat → Prop} {D : va_G} {ad : Nat → Nat → Nat} {cc : Nat → ClassId} {sad sav : Nat → Nat} {Q : State → Prop} (hC : MCc sad sav "JoinedTrees$JsonReader" prog_3_method_15_code 7 (some .boolean) p s m args meth c A D cc) {N : Nat → Nat} {x0 : Nat} {S : CS} {x1 : Nat} {o : CS × Int32} (Heq : m_cRd_readNumber_J0 N x0 S x1 = some o) (Kr : ∀ r : CS × Int32, o = r → ∀ (pc : Nat) (H : Heap) (locs : List Loc) (ls : Array Slot), decode prog_3_method_15_code pc = .ok (.ireturn, 1) → (r.2 = 0 ∨ r.2 = 1) → va_P D cls (cw ad cc N r.1) H → va_D A (cw ad cc N r.1) → va_S A s.heap H locs → W p l e ({ frames := 1, cells := 0, slots := 0, locals := 21 }) s m args below meth c H locs 0 0 Q (F0 m pc ls [.int r.2])) : ∀ (H : Heap) (locs : List Loc) (ls : Array Slot), va_P D cls (cw ad cc N S) H → va_D A (cw ad cc N S) → va_S A s.heap H locs → lv_has ls 7 [(0, .ref (ad 1 x0)), (1, .ref (ad 9 x1))] → W p l e ({ frames := 1, cells := 0, slots := 0, locals := 21 }) s m args below meth c H locs 0 0 Q (F0 m 0 ls []) := by
  intro H locs ls hP hD hS hl
  obtain ⟨hx, hb, hr, hml, hown, hts, hK, hA, hev, hE, hN, hNS⟩ := id hC
  unfold m_cRd_readNumber_J0 at Heq
  refine lv_aload_n hx hb d_cRd_readNumber_0 rfl (lv_at hl 1 rfl) ?_
  refine lv_iconst (v := 3) hx hb d_cRd_readNumber_1 (by decide) ?_
  obtain ⟨hl_x1_9, Heq⟩ := gl_some Heq
  refine va_put (D := D) (ci := 9) (v := .int 3) (ty := .int) (C := R_Va) (T := F_Va) (N := 10) hx hb hts i_Va t_Va t_Va_ok n_Va hown hK hP hD hS (cPos N 9 x1) (cw_obj (k := 9) (by decide) hl_x1_9) rfl 0 (by decide) (hts _ kw_295) (fun _ h9 => h9) rfl (by decide +kernel) rfl rfl (Nat.le_of_ble_eq_true rfl) d_cRd_readNumber_2 (fun H locs hP hD hS => ?_)
  have hD := (congrArg (fun w9 => va_D A w9) (cw_setI (ad := ad) (cc := cc) (S := S) (k := 9) (f := 0) (v := 3) (by decide) rfl hl_x1_9)).mp hD
  have hP := (congrArg (fun w9 => va_P D cls w9 H) (cw_setI (ad := ad) (cc := cc) (S := S) (k := 9) (f := 0) (v := 3) (by decide) rfl hl_x1_9)).mp hP
  refine lv_aload_n hx hb d_cRd_readNumber_5 rfl (lv_at hl 0 rfl) ?_
  obtain ⟨hl_x0_1, Heq⟩ := gl_some Heq
  refine va_get (D := D) (ci := 1) (v := rv ad 5 ((S.setI 9 0 x1 3).r 1 2 x0)) (C := R_Rd) (T := F_Rd) (N := 10) hx hb hts i_Rd hown hK hP (cPos N 1 x0) (cw_obj (k := 1) (by decide) hl_x0_1) rfl 2 (by decide) (hts _ kw_346) (fun _ h9 => h9) rfl d_cRd_readNumber_6 ?_
  refine w_v (y := rv ad 5 (S.r 1 2 x0)) (congrArg (rv ad 5) rfl) ?_
  refine lv_aload_n hx hb d_cRd_readNumber_9 rfl (lv_at hl 0 rfl) ?_
  refine va_get (D := D) (ci := 1) (v := .int ((S.setI 9 0 x1 3).i 1 4 x0)) (C := R_Rd) (T := F_Rd) (N := 10) hx hb hts i_Rd hown hK hP (cPos N 1 x0) (cw_obj (k := 1) (by decide) hl_x0_1) rfl 4 (by decide) (hts _ kw_349) (fun _ h9 => h9) rfl d_cRd_readNumber_10 ?_
  refine w_i (y := S.i 1 4 x0) rfl ?_
  obtain ⟨j_1, hj_2, hl_3, Heq⟩ := gn_some Heq
  refine w_s (st' := [.int (S.i 1 4 x0), .ref (ad 5 j_1)]) (congrArg (fun z9 : Option Nat => [.int (S.i 1 4 x0), rv ad 5 z9]) hj_2) ?_
  obtain ⟨o_4, h_5, Heq⟩ := ob_some Heq
  have hFc := fr_all hD hS hA
  refine va_calli (va_runV (As := [.int (S.i 1 4 x0)]) (rest := []) ⟨hx, hb, hml, hown, hts⟩ (g_cRw_at l D H.size (ad := ad) (cc := cc) (sad := sad) (sav := sav) h_5) (cw_v 1 hts kw_689 kw_871 kw_687 kw_688 kw_4 rfl rfl (by decide +kernel) ⟨Nat.le_of_ble_eq_true rfl, Nat.le_of_ble_eq_true rfl⟩) ⟨c_blind, va_recv hK hP (ci := 5) (q0 := cPos N 5 j_1) rfl (cw_obj (k := 5) (by decide) hl_3), fun U hU hW => c_pre hU hW hP hK hD hev hE hN hNS hS hFc⟩ rfl rfl hl.1 rfl (lv_room (Nat.le_of_ble_eq_true rfl)) d_cRd_readNumber_13 ⟨Nat.le_of_ble_eq_true rfl, Nat.le_of_ble_eq_true rfl⟩) hS (fun q _ h => hFc q h) hFc (fun rz u t H1 locs ht hvm hw hB hz1 hk1 hS => ?_)
  obtain ⟨hP, -, hD1⟩ := hB
  rw [ht] at hP
  have hD := hD1.weaken (fun _ q _ h => hFc q.1 h)
  generalize H1 = H at hP hS ⊢
  refine W.cs (cells' := 0) (slots' := 0) rfl rfl ?_
  subst hw
  refine lv_bipush (v := 45) hx hb d_cRd_readNumber_16 (by decide) ?_
  refine lv_icmp_ne (tgt := 25) hx hb d_cRd_readNumber_18 (by decide) (fun c_6 => ?_) (fun c_6 => ?_)
  · replace Heq := (if_neg c_6).symm.trans Heq
    refine lv_iconst (v := 0) hx hb d_cRd_readNumber_25 (by decide) ?_
    exact w_cRd_readNumber_J26 hC Heq Kr _ _ _ hP hD hS (lv_sub hl [0, 1] rfl)
  · replace Heq := (if_pos c_6).symm.trans Heq
    refine lv_iconst (v := 1) hx hb d_cRd_readNumber_21 (by decide) ?_
    refine lv_goto (tgt := 26) hx hb d_cRd_readNumber_22 (by decide) ?_
    exact w_cRd_readNumber_J26 hC Heq Kr _ _ _ hP hD hS (lv_sub hl [0, 1] rfl)
def m_cRd_readNumber (N : Nat → Nat) (x0 : Nat) (S : CS) (x1 : Nat) : Option (CS × Int32) := m_cRd_readNumber_J0 N x0 S x1
set_option maxHeartbeats 4000000 in
theorem g_cRd_readNumber (l : Launch) (D : va_G) (sz : Nat) {ad : Nat → Nat → Nat} {cc : Nat → ClassId} {sad sav : Nat → Nat} {N : Nat → Nat} {x0 : Nat} {S : CS} {x1 : Nat} {o : CS × Int32} (Heq : m_cRd_readNumber N x0 S x1 = some o) : Met l ⟨"JoinedTrees$JsonReader", "readNumber", "(LJoinedTrees$Value;)Z"⟩ (Cond.code ⟨"JoinedTrees$JsonReader", "readNumber", "(LJoinedTrees$Value;)Z"⟩ prog_3_method_15_code 7 (some .boolean) :: gb) ({ frames := 1, cells := 0, slots := 0, locals := 21 }) (cPc sad sav D (cw ad cc N S) (cty cc) sz [.ref (ad 1 x0), .ref (ad 9 x1)]) (va_Qi (fun (r : Int32) (_ : Unit) => r = o.2) (fun _ t => gO D (cw ad cc N o.1) (cty cc) (va_A (cw ad cc N S) sz) t) (va_A (cw ad cc N S) sz)) 0 0 (va_A (cw ad cc N S) sz) := by
  refine Met.ofW (cc := prog_3_method_15_code) (maxL := 7) (ret := (some .boolean)) (by decide) rfl ?_
  intro p e s m args below meth c s₁ B hml hv
  obtain ⟨rfl, hsz, hP, hK, hD0, hev, hE, hN⟩ := hv
  have hx := B.exec
  have hb := B.bytes
  have hr := B.returns
  have hts : ∀ w9 ∈ gb, w9.before [.ref (ad 1 x0), .ref (ad 9 x1)].toArray s = true := fun w9 h => atoms_spec (ws := Cond.code ⟨"JoinedTrees$JsonReader", "readNumber", "(LJoinedTrees$Value;)Z"⟩ prog_3_method_15_code 7 (some .boolean) :: gb) B.pre w9 (List.mem_cons_of_mem _ h)
  have hown : s.vm.findClass "JoinedTrees$JsonReader" = some m.cls := findClass_of_methodNamed B.named
  have hlocks := B.notSynchronized
  have hNS := ns_of hP
  subst hsz
  have hD := hD0.self (sz := s.heap.size)
  generalize hAe : va_A (cw ad cc N S) s.heap.size = A at hD hev hE hNS ⊢
  have hA : ∀ q : Nat, s.heap.size ≤ q → A q := fun q h => by rw [← hAe]; exact Or.inr h
  have hS : va_S A s.heap s.heap [] := va_S.rf
  obtain ⟨ls, hl, hle⟩ : ∃ ls : Array Slot, lv_has ls 7 [(0, .ref (ad 1 x0)), (1, .ref (ad 9 x1))] ∧ entryFrame m ([.ref (ad 1 x0), .ref (ad 9 x1)] : List Value).toArray 7 = F0 m 0 ls [] := by
    exact ⟨_, lv_entry (n := 7) _ (Nat.le_of_ble_eq_true rfl), lg_entry_eq ..⟩
  rw [hle]
  refine w_cRd_readNumber_J0 ⟨hx, hb, hr, hml, hown, hts, hK, hA, hev, hE, hN, hNS⟩ Heq (fun r h pc H locs ls hd hz hP hD hS => ?_) _ _ _ hP hD hS (lv_sub hl [0, 1] rfl)
  subst h
  exact W.zret (ty := .boolean) hx hb hr (by rcases hz with hz | hz <;> rw [hz] <;> rfl) (fun t ht hW => ⟨⟨_, (), rfl, rfl, by rw [ht]; exact hP, va_K.moved hW.alike hK, hD⟩, hS.F ht⟩) hS.2.2 hd
