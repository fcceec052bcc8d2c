def m_rgroup_J16 (S : MS) (x3 : Int64) : Option ((MS × Int64) ⊕ (MS × Int64)) := ob (m_rwrite S (((x3 &&& 127).toInt32) ||| 128)) (fun o_1 => some (.inl (o_1, (ushr64 x3 7))))
theorem d_rgroup_0 : decode prog_14_method_83_code 0 = .ok (.lload_n 1, 1) := by decide +kernel
theorem d_rgroup_1 : decode prog_14_method_83_code 1 = .ok (.lstore_n 3, 1) := by decide +kernel
theorem d_rgroup_2 : decode prog_14_method_83_code 2 = .ok (.lload_n 3, 1) := by decide +kernel
theorem d_rgroup_3 : decode prog_14_method_83_code 3 = .ok (.lconst 0, 1) := by decide +kernel
theorem d_rgroup_4 : decode prog_14_method_83_code 4 = .ok (.lcmp, 1) := by decide +kernel
theorem d_rgroup_5 : decode prog_14_method_83_code 5 = .ok (.ifCond .lt 11, 3) := by decide +kernel
theorem d_rgroup_16 : decode prog_14_method_83_code 16 = .ok (.aload_n 0, 1) := by decide +kernel
theorem d_rgroup_17 : decode prog_14_method_83_code 17 = .ok (.lload_n 3, 1) := by decide +kernel
theorem d_rgroup_18 : decode prog_14_method_83_code 18 = .ok (.ldc2_w 468, 3) := by decide +kernel
theorem d_rgroup_21 : decode prog_14_method_83_code 21 = .ok (.land, 1) := by decide +kernel
theorem d_rgroup_22 : decode prog_14_method_83_code 22 = .ok (.l2i, 1) := by decide +kernel
theorem d_rgroup_23 : decode prog_14_method_83_code 23 = .ok (.sipush 128, 3) := by decide +kernel
theorem d_rgroup_26 : decode prog_14_method_83_code 26 = .ok (.ior, 1) := by decide +kernel
theorem d_rgroup_27 : decode prog_14_method_83_code 27 = .ok (.invokevirtual 436, 3) := by decide +kernel
theorem d_rgroup_30 : decode prog_14_method_83_code 30 = .ok (.lload_n 3, 1) := by decide +kernel
theorem d_rgroup_31 : decode prog_14_method_83_code 31 = .ok (.bipush 7, 2) := by decide +kernel
theorem d_rgroup_33 : decode prog_14_method_83_code 33 = .ok (.lushr, 1) := by decide +kernel
theorem d_rgroup_34 : decode prog_14_method_83_code 34 = .ok (.lstore_n 3, 1) := by decide +kernel
theorem d_rgroup_35 : decode prog_14_method_83_code 35 = .ok (.goto (-33), 3) := by decide +kernel
set_option maxHeartbeats 4000000 in
set_option maxRecDepth 100000 in
theorem w_rgroup_J16 {p : Program} {l : Launch} {e : Env} {s : State} {m : MethodId} {args : Array Value} {below : List Frame} {meth : Method} {c : Code} {A : Nat → Prop} {D : va_G} {md : Nat → Nat} {mc : Nat → ClassId} {Q : State → Prop} (hC : MCx "JoinedTreesModel" prog_14_method_83_code 5 none p s m args meth c A D mc) {S : MS} {x3 : Int64} {o : ((MS × Int64) ⊕ (MS × Int64))} (Heq : m_rgroup_J16 S x3 = some o) (Ka : ∀ b : MS × Int64, o = .inl b → ∀ (H : Heap) (locs : List Loc) (ls : Array Slot), va_P D cls (mw md mc b.1) H → va_D A (mw md mc b.1) → va_S A s.heap H locs → lv_has ls 5 [(0, .ref (md 100)), (3, .long b.2)] → W p l e ({ frames := 1, cells := 0, slots := 0, locals := 21 }) s m args below meth c H locs 0 0 Q (F0 m 2 ls [])) (K0 : ∀ b : MS × Int64, o = .inr b → ∀ (H : Heap) (locs : List Loc) (ls : Array Slot), va_P D cls (mw md mc b.1) H → va_D A (mw md mc b.1) → va_S A s.heap H locs → lv_has ls 5 [(0, .ref (md 100)), (3, .long b.2)] → W p l e ({ frames := 1, cells := 0, slots := 0, locals := 21 }) s m args below meth c H locs 0 0 Q (F0 m 38 ls [])) : ∀ (H : Heap) (locs : List Loc) (ls : Array Slot), va_P D cls (mw md mc S) H → va_D A (mw md mc S) → va_S A s.heap H locs → lv_has ls 5 [(0, .ref (md 100)), (3, .long x3)] → W p l e ({ frames := 1, cells := 0, slots := 0, locals := 21 }) s m args below meth c H locs 0 0 Q (F0 m 16 ls []) := by
  intro H locs ls hP hD hS hl
  obtain ⟨hx, hb, hr, hml, hown, hts, hK, hA⟩ := id hC
  unfold m_rgroup_J16 at Heq
  refine lv_aload_n hx hb d_rgroup_16 rfl (lv_at hl 0 rfl) ?_
  refine lv_lload_n hx hb d_rgroup_17 rfl (lv_at hl 1 rfl) ?_
  refine lv_ldc2 (v := 127) hx hb hown (hts _ kw_1951) d_rgroup_18 ?_
  refine lv_land hx hb d_rgroup_21 ?_
  refine w_l (y := x3 &&& 127) rfl ?_
  refine lv_l2i hx hb d_rgroup_22 rfl ?_
  refine w_i (y := (x3 &&& 127).toInt32) rfl ?_
  refine lv_sipush (v := 128) hx hb d_rgroup_23 (by decide) ?_
  refine lv_ior hx hb d_rgroup_26 ?_
  refine w_i (y := ((x3 &&& 127).toInt32) ||| 128) rfl ?_
  obtain ⟨o_1, h_2, Heq⟩ := ob_some Heq
  have hFc := fr_all hD hS hA
  refine va_callv (va_runV (As := [.int (((x3 &&& 127).toInt32) ||| 128)]) (rest := []) ⟨hx, hb, hml, hown, hts⟩ (g_rwrite l D H.size h_2) (cw_v 1 hts kw_1918 kw_1915 kw_1917 kp_76 kw_11 rfl rfl (by decide +kernel) ⟨Nat.le_of_ble_eq_true rfl, Nat.le_of_ble_eq_true rfl⟩) ⟨g_blind, va_recv hK hP (ci := 12) (q0 := 0) rfl rfl, fun U hU hW => g_pre hU hW hP hK hD⟩ rfl rfl hl.1 rfl (lv_room (Nat.le_of_ble_eq_true rfl)) d_rgroup_27 ⟨Nat.le_of_ble_eq_true rfl, Nat.le_of_ble_eq_true rfl⟩) hS (fun q _ h => hFc q h) hFc (fun u t H1 locs ht hvm hw hB hz1 hk1 hS => ?_)
  obtain ⟨hP, -, hD1⟩ := hB
  rw [ht] at hP
  have hD := hD1.weaken (fun _ q _ h => hFc q.1 h)
  generalize H1 = H at hP hS ⊢
  refine W.cs (cells' := 0) (slots' := 0) rfl rfl ?_
  refine lv_lload_n hx hb d_rgroup_30 rfl (lv_at hl 1 rfl) ?_
  refine lv_bipush (v := 7) hx hb d_rgroup_31 (by decide) ?_
  refine lv_lushr hx hb d_rgroup_33 rfl ?_
  refine w_l (y := ushr64 x3 7) rfl ?_
  refine lv_lstore_n (lv' := [(3, .long (ushr64 x3 7)), (0, .ref (md 100))]) hx hb d_rgroup_34 rfl hl (by decide) rfl (fun ls hl => ?_)
  refine lv_goto (tgt := 2) hx hb d_rgroup_35 (by decide) ?_
  exact Ka _ (Option.some.inj Heq).symm _ _ _ hP hD hS (lv_sub hl [1, 0] rfl)
def m_rgroup_B2 (S : MS) (x3 : Int64) : Option ((MS × Int64) ⊕ (MS × Int64)) := (if lg_cmp x3 0 < 0 then m_rgroup_J16 S x3 else (if lg_cmp x3 127 ≤ 0 then some (.inr (S, x3)) else m_rgroup_J16 S x3))
theorem d_rgroup_8 : decode prog_14_method_83_code 8 = .ok (.lload_n 3, 1) := by decide +kernel
theorem d_rgroup_9 : decode prog_14_method_83_code 9 = .ok (.ldc2_w 468, 3) := by decide +kernel
theorem d_rgroup_12 : decode prog_14_method_83_code 12 = .ok (.lcmp, 1) := by decide +kernel
theorem d_rgroup_13 : decode prog_14_method_83_code 13 = .ok (.ifCond .le 25, 3) := by decide +kernel
set_option maxHeartbeats 4000000 in
set_option maxRecDepth 100000 in
theorem w_rgroup_B2 {p : Program} {l : Launch} {e : Env} {s : State} {m : MethodId} {args : Array Value} {below : List Frame} {meth : Method} {c : Code} {A : Nat → Prop} {D : va_G} {md : Nat → Nat} {mc : Nat → ClassId} {Q : State → Prop} (hC : MCx "JoinedTreesModel" prog_14_method_83_code 5 none p s m args meth c A D mc) {S : MS} {x3 : Int64} {o : ((MS × Int64) ⊕ (MS × Int64))} (Heq : m_rgroup_B2 S x3 = some o) (Ka : ∀ b : MS × Int64, o = .inl b → ∀ (H : Heap) (locs : List Loc) (ls : Array Slot), va_P D cls (mw md mc b.1) H → va_D A (mw md mc b.1) → va_S A s.heap H locs → lv_has ls 5 [(0, .ref (md 100)), (3, .long b.2)] → W p l e ({ frames := 1, cells := 0, slots := 0, locals := 21 }) s m args below meth c H locs 0 0 Q (F0 m 2 ls [])) (K0 : ∀ b : MS × Int64, o = .inr b → ∀ (H : Heap) (locs : List Loc) (ls : Array Slot), va_P D cls (mw md mc b.1) H → va_D A (mw md mc b.1) → va_S A s.heap H locs → lv_has ls 5 [(0, .ref (md 100)), (3, .long b.2)] → W p l e ({ frames := 1, cells := 0, slots := 0, locals := 21 }) s m args below meth c H locs 0 0 Q (F0 m 38 ls [])) : ∀ (H : Heap) (locs : List Loc) (ls : Array Slot), va_P D cls (mw md mc S) H → va_D A (mw md mc S) → va_S A s.heap H locs → lv_has ls 5 [(0, .ref (md 100)), (3, .long x3)] → W p l e ({ frames := 1, cells := 0, slots := 0, locals := 21 }) s m args below meth c H locs 0 0 Q (F0 m 2 ls []) := by
  intro H locs ls hP hD hS hl
  obtain ⟨hx, hb, hr, hml, hown, hts, hK, hA⟩ := id hC
  unfold m_rgroup_B2 at Heq
  refine lv_lload_n hx hb d_rgroup_2 rfl (lv_at hl 1 rfl) ?_
  refine lv_lconst (v := 0) hx hb d_rgroup_3 (by decide) ?_
  refine W.lcmp hx hb d_rgroup_4 ?_
  refine w_i (y := lg_cmp x3 0) rfl ?_
  refine lv_if_lt (tgt := 16) hx hb d_rgroup_5 (by decide) (fun c_1 => ?_) (fun c_1 => ?_)
  · replace Heq := (if_pos c_1).symm.trans Heq
    exact w_rgroup_J16 hC Heq Ka K0 _ _ _ hP hD hS (lv_sub hl [0, 1] rfl)
  · replace Heq := (if_neg c_1).symm.trans Heq
    refine lv_lload_n hx hb d_rgroup_8 rfl (lv_at hl 1 rfl) ?_
    refine lv_ldc2 (v := 127) hx hb hown (hts _ kw_1951) d_rgroup_9 ?_
    refine W.lcmp hx hb d_rgroup_12 ?_
    refine w_i (y := lg_cmp x3 127) rfl ?_
    refine lv_if_le (tgt := 38) hx hb d_rgroup_13 (by decide) (fun c_2 => ?_) (fun c_2 => ?_)
    · replace Heq := (if_pos c_2).symm.trans Heq
      exact K0 _ (Option.some.inj Heq).symm _ _ _ hP hD hS (lv_sub hl [0, 1] rfl)
    · replace Heq := (if_neg c_2).symm.trans Heq
      exact w_rgroup_J16 hC Heq Ka K0 _ _ _ hP hD hS (lv_sub hl [0, 1] rfl)
def m_rgroup_L2 (S : MS) (x3 : Int64) : Option (MS × Int64) := lp (fun a : MS × Int64 => m_rgroup_B2 a.1 a.2) FU (S, x3)
theorem w_rgroup_L2 {p : Program} {l : Launch} {e : Env} {s : State} {m : MethodId} {args : Array Value} {below : List Frame} {meth : Method} {c : Code} {A : Nat → Prop} {D : va_G} {md : Nat → Nat} {mc : Nat → ClassId} {Q : State → Prop} (hC : MCx "JoinedTreesModel" prog_14_method_83_code 5 none p s m args meth c A D mc) {S : MS} {x3 : Int64} {o : MS × Int64} (Heq : m_rgroup_L2 S x3 = some o) (K0 : ∀ b : MS × Int64, o = b → ∀ (H : Heap) (locs : List Loc) (ls : Array Slot), va_P D cls (mw md mc b.1) H → va_D A (mw md mc b.1) → va_S A s.heap H locs → lv_has ls 5 [(0, .ref (md 100)), (3, .long b.2)] → W p l e ({ frames := 1, cells := 0, slots := 0, locals := 21 }) s m args below meth c H locs 0 0 Q (F0 m 38 ls [])) : ∀ (H : Heap) (locs : List Loc) (ls : Array Slot), va_P D cls (mw md mc S) H → va_D A (mw md mc S) → va_S A s.heap H locs → lv_has ls 5 [(0, .ref (md 100)), (3, .long x3)] → W p l e ({ frames := 1, cells := 0, slots := 0, locals := 21 }) s m args below meth c H locs 0 0 Q (F0 m 2 ls []) := by
  refine lp_w (G := fun a : MS × Int64 => ∀ (H : Heap) (locs : List Loc) (ls : Array Slot), va_P D cls (mw md mc a.1) H → va_D A (mw md mc a.1) → va_S A s.heap H locs → lv_has ls 5 [(0, .ref (md 100)), (3, .long a.2)] → W p l e ({ frames := 1, cells := 0, slots := 0, locals := 21 }) s m args below meth c H locs 0 0 Q (F0 m 2 ls [])) ?_ FU (S, x3) Heq
  intro a o1 ho Ka Ke
  exact w_rgroup_B2 hC ho (fun b h => Ka b h) (fun b h => K0 b (Ke _ h).symm)
def m_rgroup_J0 (S : MS) (x1 : Int64) : Option MS := ob (m_rgroup_L2 S x1) (fun b_1 => ob (m_rwrite b_1.1 b_1.2.toInt32) (fun o_3 => some o_3))
theorem d_rgroup_38 : decode prog_14_method_83_code 38 = .ok (.aload_n 0, 1) := by decide +kernel
theorem d_rgroup_39 : decode prog_14_method_83_code 39 = .ok (.lload_n 3, 1) := by decide +kernel
theorem d_rgroup_40 : decode prog_14_method_83_code 40 = .ok (.l2i, 1) := by decide +kernel
theorem d_rgroup_41 : decode prog_14_method_83_code 41 = .ok (.invokevirtual 436, 3) := by decide +kernel
theorem d_rgroup_44 : decode prog_14_method_83_code 44 = .ok (.return_, 1) := by decide +kernel
set_option maxHeartbeats 4000000 in
set_option maxRecDepth 100000 in
theorem w_rgroup_J0 {p : Program} {l : Launch} {e : Env} {s : State} {m : MethodId} {args : Array Value} {below : List Frame} {meth : Method} {c : Code} {A : Nat → Prop} {D : va_G} {md : Nat → Nat} {mc : Nat → ClassId} {Q : State → Prop} (hC : MCx "JoinedTreesModel" prog_14_method_83_code 5 none p s m args meth c A D mc) {S : MS} {x1 : Int64} {o : MS} (Heq : m_rgroup_J0 S x1 = some o) (Kr : ∀ r : MS, o = r → ∀ (pc : Nat) (H : Heap) (locs : List Loc) (ls : Array Slot), decode prog_14_method_83_code pc = .ok (.return_, 1) → va_P D cls (mw md mc r) H → va_D A (mw md mc r) → va_S A s.heap H locs → W p l e ({ frames := 1, cells := 0, slots := 0, locals := 21 }) s m args below meth c H locs 0 0 Q (F0 m pc ls [])) : ∀ (H : Heap) (locs : List Loc) (ls : Array Slot), va_P D cls (mw md mc S) H → va_D A (mw md mc S) → va_S A s.heap H locs → lv_has ls 5 [(0, .ref (md 100)), (1, .long x1)] → W p l e ({ frames := 1, cells := 0, slots := 0, locals := 21 }) s m args below meth c H locs 0 0 Q (F0 m 0 ls []) := by
  intro H locs ls hP hD hS hl
  obtain ⟨hx, hb, hr, hml, hown, hts, hK, hA⟩ := id hC
  unfold m_rgroup_J0 at Heq
  refine lv_lload_n hx hb d_rgroup_0 rfl (lv_at hl 1 rfl) ?_
  refine lv_lstore_n (lv' := [(3, .long x1), (0, .ref (md 100)), (1, .long x1)]) hx hb d_rgroup_1 rfl hl (by decide) rfl (fun ls hl => ?_)
  obtain ⟨b_1, h_2, Heq⟩ := ob_some Heq
  refine w_rgroup_L2 hC h_2 (fun b h => ?_) _ _ _ hP hD hS (lv_sub hl [1, 0] rfl)
  subst h
  intro H locs ls hP hD hS hl
  refine lv_aload_n hx hb d_rgroup_38 rfl (lv_at hl 0 rfl) ?_
  refine lv_lload_n hx hb d_rgroup_39 rfl (lv_at hl 1 rfl) ?_
  refine lv_l2i hx hb d_rgroup_40 rfl ?_
  refine w_i (y := b_1.2.toInt32) rfl ?_
  obtain ⟨o_3, h_4, Heq⟩ := ob_some Heq
  have hFc := fr_all hD hS hA
  refine va_callv (va_runV (As := [.int b_1.2.toInt32]) (rest := []) ⟨hx, hb, hml, hown, hts⟩ (g_rwrite l D H.size h_4) (cw_v 1 hts kw_1918 kw_1915 kw_1917 kp_76 kw_11 rfl rfl (by decide +kernel) ⟨Nat.le_of_ble_eq_true rfl, Nat.le_of_ble_eq_true rfl⟩) ⟨g_blind, va_recv hK hP (ci := 12) (q0 := 0) rfl rfl, fun U hU hW => g_pre hU hW hP hK hD⟩ rfl rfl hl.1 rfl (lv_room (Nat.le_of_ble_eq_true rfl)) d_rgroup_41 ⟨Nat.le_of_ble_eq_true rfl, Nat.le_of_ble_eq_true rfl⟩) hS (fun q _ h => hFc q h) hFc (fun u t H1 locs ht hvm hw hB hz1 hk1 hS => ?_)
  obtain ⟨hP, -, hD1⟩ := hB
  rw [ht] at hP
  have hD := hD1.weaken (fun _ q _ h => hFc q.1 h)
  generalize H1 = H at hP hS ⊢
  refine W.cs (cells' := 0) (slots' := 0) rfl rfl ?_
  exact Kr _ (Option.some.inj Heq).symm 44 _ _ _ d_rgroup_44 hP hD hS
def m_rgroup (S : MS) (x1 : Int64) : Option MS := m_rgroup_J0 S x1
theorem g_rgroup (l : Launch) (D : va_G) (sz : Nat) {md : Nat → Nat} {mc : Nat → ClassId} {S : MS} {x1 : Int64} {o : MS} (Heq : m_rgroup S x1 = some o) : Met l ⟨"JoinedTreesModel", "group", "(J)V"⟩ (Cond.code ⟨"JoinedTreesModel", "group", "(J)V"⟩ prog_14_method_83_code 5 none :: gb) ({ frames := 1, cells := 0, slots := 0, locals := 21 }) (gPc D (mw md mc S) (mty mc) sz [.ref (md 100), .long x1]) (va_Qv (fun _ : Unit => True) (fun _ t => gO D (mw md mc o) (mty mc) (va_A (mw md mc S) sz) t) (va_A (mw md mc S) sz)) 0 0 (va_A (mw md mc S) sz) := by
  refine Met.ofW (cc := prog_14_method_83_code) (maxL := 5) (ret := none) (by decide) rfl ?_
  intro p e s m args below meth c s₁ B hml hv
  obtain ⟨rfl, hsz, hP, hK, hD0⟩ := hv
  have hx := B.exec
  have hb := B.bytes
  have hr := B.returns
  have hts : ∀ w9 ∈ gb, w9.before [.ref (md 100), .long x1].toArray s = true := fun w9 h => atoms_spec (ws := Cond.code ⟨"JoinedTreesModel", "group", "(J)V"⟩ prog_14_method_83_code 5 none :: gb) B.pre w9 (List.mem_cons_of_mem _ h)
  have hown : s.vm.findClass "JoinedTreesModel" = some m.cls := findClass_of_methodNamed B.named
  have hlocks := B.notSynchronized
  subst hsz
  have hD := hD0.self (sz := s.heap.size)
  generalize hAe : va_A (mw md mc S) s.heap.size = A at hD ⊢
  have hA : ∀ q : Nat, s.heap.size ≤ q → A q := fun q h => by rw [← hAe]; exact Or.inr h
  have hS : va_S A s.heap s.heap [] := va_S.rf
  have hl := lv_entry ([.ref (md 100), .long x1]) (n := 5) (Nat.le_of_ble_eq_true rfl)
  rw [lg_entry_eq]
  generalize (lg_sl ([.ref (md 100), .long x1]) ++ List.replicate (5 - (lg_sl ([.ref (md 100), .long x1])).length) Slot.unset).toArray = ls at hl ⊢
  have hl : lv_has ls 5 [(0, .ref (md 100)), (1, .long x1)] := hl
  refine w_rgroup_J0 ⟨hx, hb, hr, hml, hown, hts, hK, hA⟩ Heq (fun r h pc H locs ls hd hP hD hS => ?_) _ _ _ hP hD hS (lv_sub hl [0, 1] rfl)
  subst h
  exact W.vret hx hb hr (fun t ht hW => ⟨⟨(), rfl, trivial, by rw [ht]; exact hP, va_K.moved hW.alike hK, hD⟩, hS.F ht⟩) hS.2.2 hd
def m_rlong2_J22 (S : MS) (t0 : Int64) : Option MS := ob (m_rgroup S t0) (fun o_1 => some o_1)
theorem d_rlong2_0 : decode prog_14_method_84_code 0 = .ok (.aload_n 0, 1) := by decide +kernel
theorem d_rlong2_1 : decode prog_14_method_84_code 1 = .ok (.lload_n 1, 1) := by decide +kernel
theorem d_rlong2_2 : decode prog_14_method_84_code 2 = .ok (.lconst 0, 1) := by decide +kernel
theorem d_rlong2_3 : decode prog_14_method_84_code 3 = .ok (.lcmp, 1) := by decide +kernel
theorem d_rlong2_4 : decode prog_14_method_84_code 4 = .ok (.ifCond .ge 13, 3) := by decide +kernel
theorem d_rlong2_17 : decode prog_14_method_84_code 17 = .ok (.ldc2_w 472, 3) := by decide +kernel
theorem d_rlong2_20 : decode prog_14_method_84_code 20 = .ok (.lload_n 1, 1) := by decide +kernel
theorem d_rlong2_21 : decode prog_14_method_84_code 21 = .ok (.lmul, 1) := by decide +kernel
theorem d_rlong2_22 : decode prog_14_method_84_code 22 = .ok (.invokevirtual 474, 3) := by decide +kernel
theorem d_rlong2_25 : decode prog_14_method_84_code 25 = .ok (.return_, 1) := by decide +kernel
set_option maxHeartbeats 4000000 in
set_option maxRecDepth 100000 in
theorem w_rlong2_J22 {p : Program} {l : Launch} {e : Env} {s : State} {m : MethodId} {args : Array Value} {below : List Frame} {meth : Method} {c : Code} {A : Nat → Prop} {D : va_G} {md : Nat → Nat} {mc : Nat → ClassId} {Q : State → Prop} (hC : MCx "JoinedTreesModel" prog_14_method_84_code 3 none p s m args meth c A D mc) {S : MS} {t0 : Int64} {o : MS} (Heq : m_rlong2_J22 S t0 = some o) (Kr : ∀ r : MS, o = r → ∀ (pc : Nat) (H : Heap) (locs : List Loc) (ls : Array Slot), decode prog_14_method_84_code pc = .ok (.return_, 1) → va_P D cls (mw md mc r) H → va_D A (mw md mc r) → va_S A s.heap H locs → W p l e ({ frames := 2, cells := 0, slots := 0, locals := 45 }) s m args below meth c H locs 0 0 Q (F0 m pc ls [])) : ∀ (H : Heap) (locs : List Loc) (ls : Array Slot), va_P D cls (mw md mc S) H → va_D A (mw md mc S) → va_S A s.heap H locs → lv_has ls 3 [(0, .ref (md 100))] → W p l e ({ frames := 2, cells := 0, slots := 0, locals := 45 }) s m args below meth c H locs 0 0 Q (F0 m 22 ls [.long t0, .ref (md 100)]) := by
  intro H locs ls hP hD hS hl
  obtain ⟨hx, hb, hr, hml, hown, hts, hK, hA⟩ := id hC
  unfold m_rlong2_J22 at Heq
  obtain ⟨o_1, h_2, Heq⟩ := ob_some Heq
  have hFc := fr_all hD hS hA
  refine va_callv (va_runV (As := [.long t0]) (rest := []) ⟨hx, hb, hml, hown, hts⟩ (g_rgroup l D H.size h_2) (cw_v 1 hts kw_1950 kw_1947 kw_1949 kp_82 kw_11 rfl rfl (by decide +kernel) ⟨Nat.le_of_ble_eq_true rfl, Nat.le_of_ble_eq_true rfl⟩) ⟨g_blind, va_recv hK hP (ci := 12) (q0 := 0) rfl rfl, fun U hU hW => g_pre hU hW hP hK hD⟩ rfl rfl hl.1 rfl (lv_room (Nat.le_of_ble_eq_true rfl)) d_rlong2_22 ⟨Nat.le_of_ble_eq_true rfl, Nat.le_of_ble_eq_true rfl⟩) hS (fun q _ h => hFc q h) hFc (fun u t H1 locs ht hvm hw hB hz1 hk1 hS => ?_)
  obtain ⟨hP, -, hD1⟩ := hB
  rw [ht] at hP
  have hD := hD1.weaken (fun _ q _ h => hFc q.1 h)
  generalize H1 = H at hP hS ⊢
  refine W.cs (cells' := 0) (slots' := 0) rfl rfl ?_
  exact Kr _ (Option.some.inj Heq).symm 25 _ _ _ d_rlong2_25 hP hD hS
def m_rlong2_J0 (S : MS) (x1 : Int64) : Option MS := (if 0 ≤ lg_cmp x1 0 then m_rlong2_J22 S (2 * x1) else m_rlong2_J22 S (((-2) * x1) - 1))
theorem d_rlong2_7 : decode prog_14_method_84_code 7 = .ok (.ldc2_w 470, 3) := by decide +kernel
theorem d_rlong2_10 : decode prog_14_method_84_code 10 = .ok (.lload_n 1, 1) := by decide +kernel
theorem d_rlong2_11 : decode prog_14_method_84_code 11 = .ok (.lmul, 1) := by decide +kernel
theorem d_rlong2_12 : decode prog_14_method_84_code 12 = .ok (.lconst 1, 1) := by decide +kernel
theorem d_rlong2_13 : decode prog_14_method_84_code 13 = .ok (.lsub, 1) := by decide +kernel
theorem d_rlong2_14 : decode prog_14_method_84_code 14 = .ok (.goto 8, 3) := by decide +kernel
set_option maxHeartbeats 4000000 in
set_option maxRecDepth 100000 in
theorem w_rlong2_J0 {p : Program} {l : Launch} {e : Env} {s : State} {m : MethodId} {args : Array Value} {below : List Frame} {meth : Method} {c : Code} {A : Nat → Prop} {D : va_G} {md : Nat → Nat} {mc : Nat → ClassId} {Q : State → Prop} (hC : MCx "JoinedTreesModel" prog_14_method_84_code 3 none p s m args meth c A D mc) {S : MS} {x1 : Int64} {o : MS} (Heq : m_rlong2_J0 S x1 = some o) (Kr : ∀ r : MS, o = r → ∀ (pc : Nat) (H : Heap) (locs : List Loc) (ls : Array Slot), decode prog_14_method_84_code pc = .ok (.return_, 1) → va_P D cls (mw md mc r) H → va_D A (mw md mc r) → va_S A s.heap H locs → W p l e ({ frames := 2, cells := 0, slots := 0, locals := 45 }) s m args below meth c H locs 0 0 Q (F0 m pc ls [])) : ∀ (H : Heap) (locs : List Loc) (ls : Array Slot), va_P D cls (mw md mc S) H → va_D A (mw md mc S) → va_S A s.heap H locs → lv_has ls 3 [(0, .ref (md 100)), (1, .long x1)] → W p l e ({ frames := 2, cells := 0, slots := 0, locals := 45 }) s m args below meth c H locs 0 0 Q (F0 m 0 ls []) := by
  intro H locs ls hP hD hS hl
  obtain ⟨hx, hb, hr, hml, hown, hts, hK, hA⟩ := id hC
  unfold m_rlong2_J0 at Heq
  refine lv_aload_n hx hb d_rlong2_0 rfl (lv_at hl 0 rfl) ?_
  refine lv_lload_n hx hb d_rlong2_1 rfl (lv_at hl 1 rfl) ?_
  refine lv_lconst (v := 0) hx hb d_rlong2_2 (by decide) ?_
  refine W.lcmp hx hb d_rlong2_3 ?_
  refine w_i (y := lg_cmp x1 0) rfl ?_
  refine lv_if_ge (tgt := 17) hx hb d_rlong2_4 (by decide) (fun c_1 => ?_) (fun c_1 => ?_)
  · replace Heq := (if_pos c_1).symm.trans Heq
    refine lv_ldc2 (v := 2) hx hb hown (hts _ kw_1969) d_rlong2_17 ?_
    refine lv_lload_n hx hb d_rlong2_20 rfl (lv_at hl 1 rfl) ?_
    refine lv_lmul hx hb d_rlong2_21 ?_
    refine w_l (y := 2 * x1) rfl ?_
    exact w_rlong2_J22 hC Heq Kr _ _ _ hP hD hS (lv_sub hl [0] rfl)
  · replace Heq := (if_neg c_1).symm.trans Heq
    refine lv_ldc2 (v := (-2)) hx hb hown (hts _ kw_1968) d_rlong2_7 ?_
    refine lv_lload_n hx hb d_rlong2_10 rfl (lv_at hl 1 rfl) ?_
    refine lv_lmul hx hb d_rlong2_11 ?_
    refine w_l (y := (-2) * x1) rfl ?_
    refine lv_lconst (v := 1) hx hb d_rlong2_12 (by decide) ?_
    refine lv_lsub hx hb d_rlong2_13 ?_
    refine w_l (y := ((-2) * x1) - 1) rfl ?_
    refine lv_goto (tgt := 22) hx hb d_rlong2_14 (by decide) ?_
    exact w_rlong2_J22 hC Heq Kr _ _ _ hP hD hS (lv_sub hl [0] rfl)
def m_rlong2 (S : MS) (x1 : Int64) : Option MS := m_rlong2_J0 S x1
theorem g_rlong2 (l : Launch) (D : va_G) (sz : Nat) {md : Nat → Nat} {mc : Nat → ClassId} {S : MS} {x1 : Int64} {o : MS} (Heq : m_rlong2 S x1 = some o) : Met l ⟨"JoinedTreesModel", "long2", "(J)V"⟩ (Cond.code ⟨"JoinedTreesModel", "long2", "(J)V"⟩ prog_14_method_84_code 3 none :: gb) ({ frames := 2, cells := 0, slots := 0, locals := 45 }) (gPc D (mw md mc S) (mty mc) sz [.ref (md 100), .long x1]) (va_Qv (fun _ : Unit => True) (fun _ t => gO D (mw md mc o) (mty mc) (va_A (mw md mc S) sz) t) (va_A (mw md mc S) sz)) 0 0 (va_A (mw md mc S) sz) := by
  refine Met.ofW (cc := prog_14_method_84_code) (maxL := 3) (ret := none) (by decide) rfl ?_
  intro p e s m args below meth c s₁ B hml hv
  obtain ⟨rfl, hsz, hP, hK, hD0⟩ := hv
  have hx := B.exec
  have hb := B.bytes
  have hr := B.returns
  have hts : ∀ w9 ∈ gb, w9.before [.ref (md 100), .long x1].toArray s = true := fun w9 h => atoms_spec (ws := Cond.code ⟨"JoinedTreesModel", "long2", "(J)V"⟩ prog_14_method_84_code 3 none :: gb) B.pre w9 (List.mem_cons_of_mem _ h)
  have hown : s.vm.findClass "JoinedTreesModel" = some m.cls := findClass_of_methodNamed B.named
  have hlocks := B.notSynchronized
  subst hsz
  have hD := hD0.self (sz := s.heap.size)
  generalize hAe : va_A (mw md mc S) s.heap.size = A at hD ⊢
  have hA : ∀ q : Nat, s.heap.size ≤ q → A q := fun q h => by rw [← hAe]; exact Or.inr h
  have hS : va_S A s.heap s.heap [] := va_S.rf
  have hl := lv_entry ([.ref (md 100), .long x1]) (n := 3) (Nat.le_of_ble_eq_true rfl)
  rw [lg_entry_eq]
  generalize (lg_sl ([.ref (md 100), .long x1]) ++ List.replicate (3 - (lg_sl ([.ref (md 100), .long x1])).length) Slot.unset).toArray = ls at hl ⊢
  have hl : lv_has ls 3 [(0, .ref (md 100)), (1, .long x1)] := hl
  refine w_rlong2_J0 ⟨hx, hb, hr, hml, hown, hts, hK, hA⟩ Heq (fun r h pc H locs ls hd hP hD hS => ?_) _ _ _ hP hD hS (lv_sub hl [0, 1] rfl)
  subst h
  exact W.vret hx hb hr (fun t ht hW => ⟨⟨(), rfl, trivial, by rw [ht]; exact hP, va_K.moved hW.alike hK, hD⟩, hS.F ht⟩) hS.2.2 hd
def m_rsaveOp_J285 (S : MS) (x1 : Int32) (x2 : Int32) (x3 : Int32) (x4 : Int32) (x5 : Int32) : Option ((MS × Int32 × Int32 × Int32 × Int32 × Int32) ⊕ (MS × Int32 × Int32 × Int32)) := some (.inl (S, x1, x2, x3, x4, (x5 + 1)))
theorem d_rsaveOp_0 : decode prog_14_method_85_code 0 = .ok (.aload_n 0, 1) := by decide +kernel
theorem d_rsaveOp_1 : decode prog_14_method_85_code 1 = .ok (.aload_n 0, 1) := by decide +kernel
theorem d_rsaveOp_2 : decode prog_14_method_85_code 2 = .ok (.getfield 23, 3) := by decide +kernel
theorem d_rsaveOp_5 : decode prog_14_method_85_code 5 = .ok (.iload_n 1, 1) := by decide +kernel
theorem d_rsaveOp_6 : decode prog_14_method_85_code 6 = .ok (.iaload, 1) := by decide +kernel
theorem d_rsaveOp_7 : decode prog_14_method_85_code 7 = .ok (.i2l, 1) := by decide +kernel
theorem d_rsaveOp_8 : decode prog_14_method_85_code 8 = .ok (.invokevirtual 474, 3) := by decide +kernel
theorem d_rsaveOp_11 : decode prog_14_method_85_code 11 = .ok (.aload_n 0, 1) := by decide +kernel
theorem d_rsaveOp_12 : decode prog_14_method_85_code 12 = .ok (.aload_n 0, 1) := by decide +kernel
theorem d_rsaveOp_13 : decode prog_14_method_85_code 13 = .ok (.getfield 29, 3) := by decide +kernel
theorem d_rsaveOp_16 : decode prog_14_method_85_code 16 = .ok (.iload_n 1, 1) := by decide +kernel
theorem d_rsaveOp_17 : decode prog_14_method_85_code 17 = .ok (.iaload, 1) := by decide +kernel
theorem d_rsaveOp_18 : decode prog_14_method_85_code 18 = .ok (.aload_n 0, 1) := by decide +kernel
theorem d_rsaveOp_19 : decode prog_14_method_85_code 19 = .ok (.getfield 56, 3) := by decide +kernel
theorem d_rsaveOp_22 : decode prog_14_method_85_code 22 = .ok (.iload_n 1, 1) := by decide +kernel
theorem d_rsaveOp_23 : decode prog_14_method_85_code 23 = .ok (.baload, 1) := by decide +kernel
theorem d_rsaveOp_24 : decode prog_14_method_85_code 24 = .ok (.ifCond .eq 8, 3) := by decide +kernel
theorem d_rsaveOp_32 : decode prog_14_method_85_code 32 = .ok (.iconst 0, 1) := by decide +kernel
theorem d_rsaveOp_33 : decode prog_14_method_85_code 33 = .ok (.iadd, 1) := by decide +kernel
theorem d_rsaveOp_34 : decode prog_14_method_85_code 34 = .ok (.invokevirtual 436, 3) := by decide +kernel
theorem d_rsaveOp_37 : decode prog_14_method_85_code 37 = .ok (.aload_n 0, 1) := by decide +kernel
theorem d_rsaveOp_38 : decode prog_14_method_85_code 38 = .ok (.getfield 41, 3) := by decide +kernel
theorem d_rsaveOp_41 : decode prog_14_method_85_code 41 = .ok (.iload_n 1, 1) := by decide +kernel
theorem d_rsaveOp_42 : decode prog_14_method_85_code 42 = .ok (.iaload, 1) := by decide +kernel
theorem d_rsaveOp_43 : decode prog_14_method_85_code 43 = .ok (.ifCond .le 52, 3) := by decide +kernel
theorem d_rsaveOp_95 : decode prog_14_method_85_code 95 = .ok (.aload_n 0, 1) := by decide +kernel
theorem d_rsaveOp_96 : decode prog_14_method_85_code 96 = .ok (.aload_n 0, 1) := by decide +kernel
theorem d_rsaveOp_97 : decode prog_14_method_85_code 97 = .ok (.getfield 26, 3) := by decide +kernel
theorem d_rsaveOp_100 : decode prog_14_method_85_code 100 = .ok (.iload_n 1, 1) := by decide +kernel
theorem d_rsaveOp_101 : decode prog_14_method_85_code 101 = .ok (.iaload, 1) := by decide +kernel
theorem d_rsaveOp_102 : decode prog_14_method_85_code 102 = .ok (.i2l, 1) := by decide +kernel
theorem d_rsaveOp_103 : decode prog_14_method_85_code 103 = .ok (.invokevirtual 474, 3) := by decide +kernel
theorem d_rsaveOp_106 : decode prog_14_method_85_code 106 = .ok (.aload_n 0, 1) := by decide +kernel
theorem d_rsaveOp_107 : decode prog_14_method_85_code 107 = .ok (.getfield 29, 3) := by decide +kernel
theorem d_rsaveOp_110 : decode prog_14_method_85_code 110 = .ok (.iload_n 1, 1) := by decide +kernel
theorem d_rsaveOp_111 : decode prog_14_method_85_code 111 = .ok (.iaload, 1) := by decide +kernel
theorem d_rsaveOp_112 : decode prog_14_method_85_code 112 = .ok (.iconst 3, 1) := by decide +kernel
theorem d_rsaveOp_113 : decode prog_14_method_85_code 113 = .ok (.if_icmp .eq 24, 3) := by decide +kernel
theorem d_rsaveOp_137 : decode prog_14_method_85_code 137 = .ok (.aload_n 0, 1) := by decide +kernel
theorem d_rsaveOp_138 : decode prog_14_method_85_code 138 = .ok (.aload_n 0, 1) := by decide +kernel
theorem d_rsaveOp_139 : decode prog_14_method_85_code 139 = .ok (.getfield 63, 3) := by decide +kernel
theorem d_rsaveOp_142 : decode prog_14_method_85_code 142 = .ok (.iload_n 1, 1) := by decide +kernel
theorem d_rsaveOp_143 : decode prog_14_method_85_code 143 = .ok (.laload, 1) := by decide +kernel
theorem d_rsaveOp_144 : decode prog_14_method_85_code 144 = .ok (.invokevirtual 477, 3) := by decide +kernel
theorem d_rsaveOp_147 : decode prog_14_method_85_code 147 = .ok (.aload_n 0, 1) := by decide +kernel
theorem d_rsaveOp_148 : decode prog_14_method_85_code 148 = .ok (.getfield 29, 3) := by decide +kernel
theorem d_rsaveOp_151 : decode prog_14_method_85_code 151 = .ok (.iload_n 1, 1) := by decide +kernel
theorem d_rsaveOp_152 : decode prog_14_method_85_code 152 = .ok (.iaload, 1) := by decide +kernel
theorem d_rsaveOp_153 : decode prog_14_method_85_code 153 = .ok (.iconst 4, 1) := by decide +kernel
theorem d_rsaveOp_154 : decode prog_14_method_85_code 154 = .ok (.if_icmp .ne 49, 3) := by decide +kernel
theorem d_rsaveOp_203 : decode prog_14_method_85_code 203 = .ok (.aload_n 0, 1) := by decide +kernel
theorem d_rsaveOp_204 : decode prog_14_method_85_code 204 = .ok (.aload_n 0, 1) := by decide +kernel
theorem d_rsaveOp_205 : decode prog_14_method_85_code 205 = .ok (.getfield 53, 3) := by decide +kernel
theorem d_rsaveOp_208 : decode prog_14_method_85_code 208 = .ok (.iload_n 1, 1) := by decide +kernel
theorem d_rsaveOp_209 : decode prog_14_method_85_code 209 = .ok (.iaload, 1) := by decide +kernel
theorem d_rsaveOp_210 : decode prog_14_method_85_code 210 = .ok (.i2l, 1) := by decide +kernel
theorem d_rsaveOp_211 : decode prog_14_method_85_code 211 = .ok (.invokevirtual 474, 3) := by decide +kernel
theorem d_rsaveOp_214 : decode prog_14_method_85_code 214 = .ok (.iconst 0, 1) := by decide +kernel
theorem d_rsaveOp_215 : decode prog_14_method_85_code 215 = .ok (.istore_n 2, 1) := by decide +kernel
theorem d_rsaveOp_216 : decode prog_14_method_85_code 216 = .ok (.iconst 0, 1) := by decide +kernel
theorem d_rsaveOp_217 : decode prog_14_method_85_code 217 = .ok (.istore_n 3, 1) := by decide +kernel
theorem d_rsaveOp_218 : decode prog_14_method_85_code 218 = .ok (.iload_n 3, 1) := by decide +kernel
theorem d_rsaveOp_219 : decode prog_14_method_85_code 219 = .ok (.aload_n 0, 1) := by decide +kernel
theorem d_rsaveOp_220 : decode prog_14_method_85_code 220 = .ok (.getfield 53, 3) := by decide +kernel
theorem d_rsaveOp_223 : decode prog_14_method_85_code 223 = .ok (.iload_n 1, 1) := by decide +kernel
theorem d_rsaveOp_224 : decode prog_14_method_85_code 224 = .ok (.iaload, 1) := by decide +kernel
theorem d_rsaveOp_225 : decode prog_14_method_85_code 225 = .ok (.if_icmp .ge 82, 3) := by decide +kernel
theorem d_rsaveOp_228 : decode prog_14_method_85_code 228 = .ok (.ldc_w 482, 3) := by decide +kernel
theorem d_rsaveOp_231 : decode prog_14_method_85_code 231 = .ok (.istore 4, 2) := by decide +kernel
theorem d_rsaveOp_233 : decode prog_14_method_85_code 233 = .ok (.iconst 0, 1) := by decide +kernel
theorem d_rsaveOp_234 : decode prog_14_method_85_code 234 = .ok (.istore 5, 2) := by decide +kernel
theorem d_rsaveOp_236 : decode prog_14_method_85_code 236 = .ok (.iload 5, 2) := by decide +kernel
theorem d_rsaveOp_238 : decode prog_14_method_85_code 238 = .ok (.aload_n 0, 1) := by decide +kernel
theorem d_rsaveOp_239 : decode prog_14_method_85_code 239 = .ok (.getfield 53, 3) := by decide +kernel
theorem d_rsaveOp_242 : decode prog_14_method_85_code 242 = .ok (.iload_n 1, 1) := by decide +kernel
theorem d_rsaveOp_243 : decode prog_14_method_85_code 243 = .ok (.iaload, 1) := by decide +kernel
theorem d_rsaveOp_244 : decode prog_14_method_85_code 244 = .ok (.if_icmp .ge 47, 3) := by decide +kernel
theorem d_rsaveOp_247 : decode prog_14_method_85_code 247 = .ok (.aload_n 0, 1) := by decide +kernel
theorem d_rsaveOp_248 : decode prog_14_method_85_code 248 = .ok (.getfield 19, 3) := by decide +kernel
theorem d_rsaveOp_251 : decode prog_14_method_85_code 251 = .ok (.aload_n 0, 1) := by decide +kernel
theorem d_rsaveOp_252 : decode prog_14_method_85_code 252 = .ok (.getfield 68, 3) := by decide +kernel
theorem d_rsaveOp_255 : decode prog_14_method_85_code 255 = .ok (.aload_n 0, 1) := by decide +kernel
theorem d_rsaveOp_256 : decode prog_14_method_85_code 256 = .ok (.getfield 50, 3) := by decide +kernel
theorem d_rsaveOp_259 : decode prog_14_method_85_code 259 = .ok (.iload_n 1, 1) := by decide +kernel
theorem d_rsaveOp_260 : decode prog_14_method_85_code 260 = .ok (.iaload, 1) := by decide +kernel
theorem d_rsaveOp_261 : decode prog_14_method_85_code 261 = .ok (.iload 5, 2) := by decide +kernel
theorem d_rsaveOp_263 : decode prog_14_method_85_code 263 = .ok (.iadd, 1) := by decide +kernel
theorem d_rsaveOp_264 : decode prog_14_method_85_code 264 = .ok (.iaload, 1) := by decide +kernel
theorem d_rsaveOp_265 : decode prog_14_method_85_code 265 = .ok (.iaload, 1) := by decide +kernel
theorem d_rsaveOp_266 : decode prog_14_method_85_code 266 = .ok (.istore 6, 2) := by decide +kernel
theorem d_rsaveOp_268 : decode prog_14_method_85_code 268 = .ok (.iload 6, 2) := by decide +kernel
theorem d_rsaveOp_270 : decode prog_14_method_85_code 270 = .ok (.iload_n 2, 1) := by decide +kernel
theorem d_rsaveOp_271 : decode prog_14_method_85_code 271 = .ok (.if_icmp .le 14, 3) := by decide +kernel
theorem d_rsaveOp_285 : decode prog_14_method_85_code 285 = .ok (.iinc 5 1, 3) := by decide +kernel
theorem d_rsaveOp_288 : decode prog_14_method_85_code 288 = .ok (.goto (-52), 3) := by decide +kernel
set_option maxHeartbeats 4000000 in
set_option maxRecDepth 100000 in
theorem w_rsaveOp_J285 {p : Program} {l : Launch} {e : Env} {s : State} {m : MethodId} {args : Array Value} {below : List Frame} {meth : Method} {c : Code} {A : Nat → Prop} {D : va_G} {md : Nat → Nat} {mc : Nat → ClassId} {Q : State → Prop} (hC : MCx "JoinedTreesModel" prog_14_method_85_code 7 none p s m args meth c A D mc) {S : MS} {x1 : Int32} {x2 : Int32} {x3 : Int32} {x4 : Int32} {x5 : Int32} {o : ((MS × Int32 × Int32 × Int32 × Int32 × Int32) ⊕ (MS × Int32 × Int32 × Int32))} (Heq : m_rsaveOp_J285 S x1 x2 x3 x4 x5 = some o) (Ka : ∀ b : MS × Int32 × Int32 × Int32 × Int32 × Int32, o = .inl b → ∀ (H : Heap) (locs : List Loc) (ls : Array Slot), va_P D cls (mw md mc b.1) H → va_D A (mw md mc b.1) → va_S A s.heap H locs → lv_has ls 7 [(0, .ref (md 100)), (1, .int b.2.1), (2, .int b.2.2.1), (3, .int b.2.2.2.1), (4, .int b.2.2.2.2.1), (5, .int b.2.2.2.2.2)] → W p l e ({ frames := 3, cells := 0, slots := 0, locals := 67 }) s m args below meth c H locs 0 0 Q (F0 m 236 ls [])) (K0 : ∀ b : MS × Int32 × Int32 × Int32, o = .inr b → ∀ (H : Heap) (locs : List Loc) (ls : Array Slot), va_P D cls (mw md mc b.1) H → va_D A (mw md mc b.1) → va_S A s.heap H locs → lv_has ls 7 [(0, .ref (md 100)), (1, .int b.2.1), (3, .int b.2.2.1), (4, .int b.2.2.2)] → W p l e ({ frames := 3, cells := 0, slots := 0, locals := 67 }) s m args below meth c H locs 0 0 Q (F0 m 291 ls [])) : ∀ (H : Heap) (locs : List Loc) (ls : Array Slot), va_P D cls (mw md mc S) H → va_D A (mw md mc S) → va_S A s.heap H locs → lv_has ls 7 [(0, .ref (md 100)), (1, .int x1), (2, .int x2), (3, .int x3), (4, .int x4), (5, .int x5)] → W p l e ({ frames := 3, cells := 0, slots := 0, locals := 67 }) s m args below meth c H locs 0 0 Q (F0 m 285 ls []) := by
  intro H locs ls hP hD hS hl
  obtain ⟨hx, hb, hr, hml, hown, hts, hK, hA⟩ := id hC
  unfold m_rsaveOp_J285 at Heq
  refine lv_iinc (v := x5 + 1) (lv' := [(5, .int (x5 + 1)), (0, .ref (md 100)), (1, .int x1), (2, .int x2), (3, .int x3), (4, .int x4)]) hx hb d_rsaveOp_285 hl (k := 5) rfl rfl (by decide) rfl (fun ls hl => ?_)
  refine lv_goto (tgt := 236) hx hb d_rsaveOp_288 (by decide) ?_
  exact Ka _ (Option.some.inj Heq).symm _ _ _ hP hD hS (lv_sub hl [1, 2, 3, 4, 5, 0] rfl)
def m_rsaveOp_B236 (S : MS) (x1 : Int32) (x2 : Int32) (x3 : Int32) (x4 : Int32) (x5 : Int32) : Option ((MS × Int32 × Int32 × Int32 × Int32 × Int32) ⊕ (MS × Int32 × Int32 × Int32)) := gd x1 4000 ((if S.a 19 x1.toNatClampNeg ≤ x5 then some (.inr (S, x1, x3, x4)) else gd x1 4000 (gd ((S.a 18 x1.toNatClampNeg) + x5) 40000 (gd (S.a 24 (((S.a 18 x1.toNatClampNeg) + x5).toNatClampNeg)) 4000 ((if S.a 8 ((S.a 24 (((S.a 18 x1.toNatClampNeg) + x5).toNatClampNeg)).toNatClampNeg) ≤ x2 then m_rsaveOp_J285 S x1 x2 x3 x4 x5 else (if x4 ≤ S.a 8 ((S.a 24 (((S.a 18 x1.toNatClampNeg) + x5).toNatClampNeg)).toNatClampNeg) then m_rsaveOp_J285 S x1 x2 x3 x4 x5 else m_rsaveOp_J285 S x1 x2 x3 (S.a 8 ((S.a 24 (((S.a 18 x1.toNatClampNeg) + x5).toNatClampNeg)).toNatClampNeg)) x5)))))))
theorem d_rsaveOp_274 : decode prog_14_method_85_code 274 = .ok (.iload 6, 2) := by decide +kernel
theorem d_rsaveOp_276 : decode prog_14_method_85_code 276 = .ok (.iload 4, 2) := by decide +kernel
theorem d_rsaveOp_278 : decode prog_14_method_85_code 278 = .ok (.if_icmp .ge 7, 3) := by decide +kernel
theorem d_rsaveOp_281 : decode prog_14_method_85_code 281 = .ok (.iload 6, 2) := by decide +kernel
theorem d_rsaveOp_283 : decode prog_14_method_85_code 283 = .ok (.istore 4, 2) := by decide +kernel
set_option maxHeartbeats 4000000 in
set_option maxRecDepth 100000 in
theorem w_rsaveOp_B236 {p : Program} {l : Launch} {e : Env} {s : State} {m : MethodId} {args : Array Value} {below : List Frame} {meth : Method} {c : Code} {A : Nat → Prop} {D : va_G} {md : Nat → Nat} {mc : Nat → ClassId} {Q : State → Prop} (hC : MCx "JoinedTreesModel" prog_14_method_85_code 7 none p s m args meth c A D mc) {S : MS} {x1 : Int32} {x2 : Int32} {x3 : Int32} {x4 : Int32} {x5 : Int32} {o : ((MS × Int32 × Int32 × Int32 × Int32 × Int32) ⊕ (MS × Int32 × Int32 × Int32))} (Heq : m_rsaveOp_B236 S x1 x2 x3 x4 x5 = some o) (Ka : ∀ b : MS × Int32 × Int32 × Int32 × Int32 × Int32, o = .inl b → ∀ (H : Heap) (locs : List Loc) (ls : Array Slot), va_P D cls (mw md mc b.1) H → va_D A (mw md mc b.1) → va_S A s.heap H locs → lv_has ls 7 [(0, .ref (md 100)), (1, .int b.2.1), (2, .int b.2.2.1), (3, .int b.2.2.2.1), (4, .int b.2.2.2.2.1), (5, .int b.2.2.2.2.2)] → W p l e ({ frames := 3, cells := 0, slots := 0, locals := 67 }) s m args below meth c H locs 0 0 Q (F0 m 236 ls [])) (K0 : ∀ b : MS × Int32 × Int32 × Int32, o = .inr b → ∀ (H : Heap) (locs : List Loc) (ls : Array Slot), va_P D cls (mw md mc b.1) H → va_D A (mw md mc b.1) → va_S A s.heap H locs → lv_has ls 7 [(0, .ref (md 100)), (1, .int b.2.1), (3, .int b.2.2.1), (4, .int b.2.2.2)] → W p l e ({ frames := 3, cells := 0, slots := 0, locals := 67 }) s m args below meth c H locs 0 0 Q (F0 m 291 ls [])) : ∀ (H : Heap) (locs : List Loc) (ls : Array Slot), va_P D cls (mw md mc S) H → va_D A (mw md mc S) → va_S A s.heap H locs → lv_has ls 7 [(0, .ref (md 100)), (1, .int x1), (2, .int x2), (3, .int x3), (4, .int x4), (5, .int x5)] → W p l e ({ frames := 3, cells := 0, slots := 0, locals := 67 }) s m args below meth c H locs 0 0 Q (F0 m 236 ls []) := by
  intro H locs ls hP hD hS hl
  obtain ⟨hx, hb, hr, hml, hown, hts, hK, hA⟩ := id hC
  unfold m_rsaveOp_B236 at Heq
  refine lv_iload hx hb d_rsaveOp_236 (lv_at hl 5 rfl) ?_
  refine lv_aload_n hx hb d_rsaveOp_238 rfl (lv_at hl 0 rfl) ?_
  refine va_get (D := D) (ci := 12) (v := .ref (md 19)) (C := R_MM) (T := F_MM) (N := 77) hx hb hts i_MM hown hK hP 0 rfl rfl 19 (by decide) (hts _ kw_1401) (fun _ h9 => h9) rfl d_rsaveOp_239 ?_
  refine lv_iload_n hx hb d_rsaveOp_242 rfl (lv_at hl 1 rfl) ?_
  obtain ⟨hi_1, Heq⟩ := gd_some Heq
  refine va_iald hx hb hK hP 15 0 rfl rfl (i := x1) hi_1 d_rsaveOp_243 ?_
  refine w_i (y := S.a 19 x1.toNatClampNeg) rfl ?_
  refine lv_icmp_ge (tgt := 291) hx hb d_rsaveOp_244 (by decide) (fun c_2 => ?_) (fun c_2 => ?_)
  · replace Heq := (if_pos c_2).symm.trans Heq
    exact K0 _ (Option.some.inj Heq).symm _ _ _ hP hD hS (lv_sub hl [0, 1, 3, 4] rfl)
  · replace Heq := (if_neg c_2).symm.trans Heq
    refine lv_aload_n hx hb d_rsaveOp_247 rfl (lv_at hl 0 rfl) ?_
    refine va_get (D := D) (ci := 12) (v := .ref (md 8)) (C := R_MM) (T := F_MM) (N := 77) hx hb hts i_MM hown hK hP 0 rfl rfl 8 (by decide) (hts _ kw_1390) (fun _ h9 => h9) rfl d_rsaveOp_248 ?_
    refine lv_aload_n hx hb d_rsaveOp_251 rfl (lv_at hl 0 rfl) ?_
    refine va_get (D := D) (ci := 12) (v := .ref (md 24)) (C := R_MM) (T := F_MM) (N := 77) hx hb hts i_MM hown hK hP 0 rfl rfl 24 (by decide) (hts _ kw_1406) (fun _ h9 => h9) rfl d_rsaveOp_252 ?_
    refine lv_aload_n hx hb d_rsaveOp_255 rfl (lv_at hl 0 rfl) ?_
    refine va_get (D := D) (ci := 12) (v := .ref (md 18)) (C := R_MM) (T := F_MM) (N := 77) hx hb hts i_MM hown hK hP 0 rfl rfl 18 (by decide) (hts _ kw_1400) (fun _ h9 => h9) rfl d_rsaveOp_256 ?_
    refine lv_iload_n hx hb d_rsaveOp_259 rfl (lv_at hl 1 rfl) ?_
    obtain ⟨hi_3, Heq⟩ := gd_some Heq
    refine va_iald hx hb hK hP 14 0 rfl rfl (i := x1) hi_3 d_rsaveOp_260 ?_
    refine w_i (y := S.a 18 x1.toNatClampNeg) rfl ?_
    refine lv_iload hx hb d_rsaveOp_261 (lv_at hl 5 rfl) ?_
    refine lv_iadd hx hb d_rsaveOp_263 ?_
    refine w_i (y := (S.a 18 x1.toNatClampNeg) + x5) rfl ?_
    obtain ⟨hi_4, Heq⟩ := gd_some Heq
    refine va_iald hx hb hK hP 19 0 rfl rfl (i := (S.a 18 x1.toNatClampNeg) + x5) hi_4 d_rsaveOp_264 ?_
    refine w_i (y := S.a 24 (((S.a 18 x1.toNatClampNeg) + x5).toNatClampNeg)) rfl ?_
    obtain ⟨hi_5, Heq⟩ := gd_some Heq
    refine va_iald hx hb hK hP 4 0 rfl rfl (i := S.a 24 (((S.a 18 x1.toNatClampNeg) + x5).toNatClampNeg)) hi_5 d_rsaveOp_265 ?_
    refine w_i (y := S.a 8 ((S.a 24 (((S.a 18 x1.toNatClampNeg) + x5).toNatClampNeg)).toNatClampNeg)) rfl ?_
    refine lv_istore (lv' := [(6, .int (S.a 8 ((S.a 24 (((S.a 18 x1.toNatClampNeg) + x5).toNatClampNeg)).toNatClampNeg))), (0, .ref (md 100)), (1, .int x1), (2, .int x2), (3, .int x3), (4, .int x4), (5, .int x5)]) hx hb d_rsaveOp_266 hl (by decide) rfl (fun ls hl => ?_)
    refine lv_iload hx hb d_rsaveOp_268 (lv_at hl 0 rfl) ?_
    refine lv_iload_n hx hb d_rsaveOp_270 rfl (lv_at hl 3 rfl) ?_
    refine lv_icmp_le (tgt := 285) hx hb d_rsaveOp_271 (by decide) (fun c_6 => ?_) (fun c_6 => ?_)
    · replace Heq := (if_pos c_6).symm.trans Heq
      exact w_rsaveOp_J285 hC Heq Ka K0 _ _ _ hP hD hS (lv_sub hl [1, 2, 3, 4, 5, 6] rfl)
    · replace Heq := (if_neg c_6).symm.trans Heq
      refine lv_iload hx hb d_rsaveOp_274 (lv_at hl 0 rfl) ?_
      refine lv_iload hx hb d_rsaveOp_276 (lv_at hl 5 rfl) ?_
      refine lv_icmp_ge (tgt := 285) hx hb d_rsaveOp_278 (by decide) (fun c_7 => ?_) (fun c_7 => ?_)
      · replace Heq := (if_pos c_7).symm.trans Heq
        exact w_rsaveOp_J285 hC Heq Ka K0 _ _ _ hP hD hS (lv_sub hl [1, 2, 3, 4, 5, 6] rfl)
      · replace Heq := (if_neg c_7).symm.trans Heq
        refine lv_iload hx hb d_rsaveOp_281 (lv_at hl 0 rfl) ?_
        refine lv_istore (lv' := [(4, .int (S.a 8 ((S.a 24 (((S.a 18 x1.toNatClampNeg) + x5).toNatClampNeg)).toNatClampNeg))), (6, .int (S.a 8 ((S.a 24 (((S.a 18 x1.toNatClampNeg) + x5).toNatClampNeg)).toNatClampNeg))), (0, .ref (md 100)), (1, .int x1), (2, .int x2), (3, .int x3), (5, .int x5)]) hx hb d_rsaveOp_283 hl (by decide) rfl (fun ls hl => ?_)
        exact w_rsaveOp_J285 hC Heq Ka K0 _ _ _ hP hD hS (lv_sub hl [2, 3, 4, 5, 0, 6] rfl)
def m_rsaveOp_L236 (S : MS) (x1 : Int32) (x2 : Int32) (x3 : Int32) (x4 : Int32) (x5 : Int32) : Option (MS × Int32 × Int32 × Int32) := lp (fun a : MS × Int32 × Int32 × Int32 × Int32 × Int32 => m_rsaveOp_B236 a.1 a.2.1 a.2.2.1 a.2.2.2.1 a.2.2.2.2.1 a.2.2.2.2.2) FU (S, x1, x2, x3, x4, x5)
theorem w_rsaveOp_L236 {p : Program} {l : Launch} {e : Env} {s : State} {m : MethodId} {args : Array Value} {below : List Frame} {meth : Method} {c : Code} {A : Nat → Prop} {D : va_G} {md : Nat → Nat} {mc : Nat → ClassId} {Q : State → Prop} (hC : MCx "JoinedTreesModel" prog_14_method_85_code 7 none p s m args meth c A D mc) {S : MS} {x1 : Int32} {x2 : Int32} {x3 : Int32} {x4 : Int32} {x5 : Int32} {o : MS × Int32 × Int32 × Int32} (Heq : m_rsaveOp_L236 S x1 x2 x3 x4 x5 = some o) (K0 : ∀ b : MS × Int32 × Int32 × Int32, o = b → ∀ (H : Heap) (locs : List Loc) (ls : Array Slot), va_P D cls (mw md mc b.1) H → va_D A (mw md mc b.1) → va_S A s.heap H locs → lv_has ls 7 [(0, .ref (md 100)), (1, .int b.2.1), (3, .int b.2.2.1), (4, .int b.2.2.2)] → W p l e ({ frames := 3, cells := 0, slots := 0, locals := 67 }) s m args below meth c H locs 0 0 Q (F0 m 291 ls [])) : ∀ (H : Heap) (locs : List Loc) (ls : Array Slot), va_P D cls (mw md mc S) H → va_D A (mw md mc S) → va_S A s.heap H locs → lv_has ls 7 [(0, .ref (md 100)), (1, .int x1), (2, .int x2), (3, .int x3), (4, .int x4), (5, .int x5)] → W p l e ({ frames := 3, cells := 0, slots := 0, locals := 67 }) s m args below meth c H locs 0 0 Q (F0 m 236 ls []) := by
  refine lp_w (G := fun a : MS × Int32 × Int32 × Int32 × Int32 × Int32 => ∀ (H : Heap) (locs : List Loc) (ls : Array Slot), va_P D cls (mw md mc a.1) H → va_D A (mw md mc a.1) → va_S A s.heap H locs → lv_has ls 7 [(0, .ref (md 100)), (1, .int a.2.1), (2, .int a.2.2.1), (3, .int a.2.2.2.1), (4, .int a.2.2.2.2.1), (5, .int a.2.2.2.2.2)] → W p l e ({ frames := 3, cells := 0, slots := 0, locals := 67 }) s m args below meth c H locs 0 0 Q (F0 m 236 ls [])) ?_ FU (S, x1, x2, x3, x4, x5) Heq
  intro a o1 ho Ka Ke
  exact w_rsaveOp_B236 hC ho (fun b h => Ka b h) (fun b h => K0 b (Ke _ h).symm)
def m_rsaveOp_B218 (S : MS) (x1 : Int32) (x2 : Int32) (x3 : Int32) : Option ((MS × Int32 × Int32 × Int32) ⊕ MS) := gd x1 4000 ((if S.a 19 x1.toNatClampNeg ≤ x3 then some (.inr (S)) else ob (m_rsaveOp_L236 S x1 x2 x3 2147483647 0) (fun b_3 => ob (m_rgroup b_3.1 b_3.2.2.2.toInt64) (fun o_5 => some (.inl (o_5, b_3.2.1, b_3.2.2.2, (b_3.2.2.1 + 1)))))))
theorem d_rsaveOp_291 : decode prog_14_method_85_code 291 = .ok (.aload_n 0, 1) := by decide +kernel
theorem d_rsaveOp_292 : decode prog_14_method_85_code 292 = .ok (.iload 4, 2) := by decide +kernel
theorem d_rsaveOp_294 : decode prog_14_method_85_code 294 = .ok (.i2l, 1) := by decide +kernel
theorem d_rsaveOp_295 : decode prog_14_method_85_code 295 = .ok (.invokevirtual 474, 3) := by decide +kernel
theorem d_rsaveOp_298 : decode prog_14_method_85_code 298 = .ok (.iload 4, 2) := by decide +kernel
theorem d_rsaveOp_300 : decode prog_14_method_85_code 300 = .ok (.istore_n 2, 1) := by decide +kernel
theorem d_rsaveOp_301 : decode prog_14_method_85_code 301 = .ok (.iinc 3 1, 3) := by decide +kernel
theorem d_rsaveOp_304 : decode prog_14_method_85_code 304 = .ok (.goto (-86), 3) := by decide +kernel
set_option maxHeartbeats 4000000 in
set_option maxRecDepth 100000 in
theorem w_rsaveOp_B218 {p : Program} {l : Launch} {e : Env} {s : State} {m : MethodId} {args : Array Value} {below : List Frame} {meth : Method} {c : Code} {A : Nat → Prop} {D : va_G} {md : Nat → Nat} {mc : Nat → ClassId} {Q : State → Prop} (hC : MCx "JoinedTreesModel" prog_14_method_85_code 7 none p s m args meth c A D mc) {S : MS} {x1 : Int32} {x2 : Int32} {x3 : Int32} {o : ((MS × Int32 × Int32 × Int32) ⊕ MS)} (Heq : m_rsaveOp_B218 S x1 x2 x3 = some o) (Ka : ∀ b : MS × Int32 × Int32 × Int32, o = .inl b → ∀ (H : Heap) (locs : List Loc) (ls : Array Slot), va_P D cls (mw md mc b.1) H → va_D A (mw md mc b.1) → va_S A s.heap H locs → lv_has ls 7 [(0, .ref (md 100)), (1, .int b.2.1), (2, .int b.2.2.1), (3, .int b.2.2.2)] → W p l e ({ frames := 3, cells := 0, slots := 0, locals := 67 }) s m args below meth c H locs 0 0 Q (F0 m 218 ls [])) (K0 : ∀ b : MS, o = .inr b → ∀ (H : Heap) (locs : List Loc) (ls : Array Slot), va_P D cls (mw md mc b) H → va_D A (mw md mc b) → va_S A s.heap H locs → lv_has ls 7 [(0, .ref (md 100))] → W p l e ({ frames := 3, cells := 0, slots := 0, locals := 67 }) s m args below meth c H locs 0 0 Q (F0 m 307 ls [])) : ∀ (H : Heap) (locs : List Loc) (ls : Array Slot), va_P D cls (mw md mc S) H → va_D A (mw md mc S) → va_S A s.heap H locs → lv_has ls 7 [(0, .ref (md 100)), (1, .int x1), (2, .int x2), (3, .int x3)] → W p l e ({ frames := 3, cells := 0, slots := 0, locals := 67 }) s m args below meth c H locs 0 0 Q (F0 m 218 ls []) := by
  intro H locs ls hP hD hS hl
  obtain ⟨hx, hb, hr, hml, hown, hts, hK, hA⟩ := id hC
  unfold m_rsaveOp_B218 at Heq
  refine lv_iload_n hx hb d_rsaveOp_218 rfl (lv_at hl 3 rfl) ?_
  refine lv_aload_n hx hb d_rsaveOp_219 rfl (lv_at hl 0 rfl) ?_
  refine va_get (D := D) (ci := 12) (v := .ref (md 19)) (C := R_MM) (T := F_MM) (N := 77) hx hb hts i_MM hown hK hP 0 rfl rfl 19 (by decide) (hts _ kw_1401) (fun _ h9 => h9) rfl d_rsaveOp_220 ?_
  refine lv_iload_n hx hb d_rsaveOp_223 rfl (lv_at hl 1 rfl) ?_
  obtain ⟨hi_1, Heq⟩ := gd_some Heq
  refine va_iald hx hb hK hP 15 0 rfl rfl (i := x1) hi_1 d_rsaveOp_224 ?_
  refine w_i (y := S.a 19 x1.toNatClampNeg) rfl ?_
  refine lv_icmp_ge (tgt := 307) hx hb d_rsaveOp_225 (by decide) (fun c_2 => ?_) (fun c_2 => ?_)
  · replace Heq := (if_pos c_2).symm.trans Heq
    exact K0 _ (Option.some.inj Heq).symm _ _ _ hP hD hS (lv_sub hl [0] rfl)
  · replace Heq := (if_neg c_2).symm.trans Heq
    refine lv_ldcw (v := 2147483647) hx hb hown (hts _ kw_1956) d_rsaveOp_228 ?_
    refine lv_istore (lv' := [(4, .int 2147483647), (0, .ref (md 100)), (1, .int x1), (2, .int x2), (3, .int x3)]) hx hb d_rsaveOp_231 hl (by decide) rfl (fun ls hl => ?_)
    refine lv_iconst (v := 0) hx hb d_rsaveOp_233 (by decide) ?_
    refine lv_istore (lv' := [(5, .int 0), (4, .int 2147483647), (0, .ref (md 100)), (1, .int x1), (2, .int x2), (3, .int x3)]) hx hb d_rsaveOp_234 hl (by decide) rfl (fun ls hl => ?_)
    obtain ⟨b_3, h_4, Heq⟩ := ob_some Heq
    refine w_rsaveOp_L236 hC h_4 (fun b h => ?_) _ _ _ hP hD hS (lv_sub hl [2, 3, 4, 5, 1, 0] rfl)
    subst h
    intro H locs ls hP hD hS hl
    refine lv_aload_n hx hb d_rsaveOp_291 rfl (lv_at hl 0 rfl) ?_
    refine lv_iload hx hb d_rsaveOp_292 (lv_at hl 3 rfl) ?_
    refine lv_i2l hx hb d_rsaveOp_294 rfl ?_
    refine w_l (y := b_3.2.2.2.toInt64) rfl ?_
    obtain ⟨o_5, h_6, Heq⟩ := ob_some Heq
    have hFc := fr_all hD hS hA
    refine va_callv (va_runV (As := [.long b_3.2.2.2.toInt64]) (rest := []) ⟨hx, hb, hml, hown, hts⟩ (g_rgroup l D H.size h_6) (cw_v 1 hts kw_1950 kw_1947 kw_1949 kp_82 kw_11 rfl rfl (by decide +kernel) ⟨Nat.le_of_ble_eq_true rfl, Nat.le_of_ble_eq_true rfl⟩) ⟨g_blind, va_recv hK hP (ci := 12) (q0 := 0) rfl rfl, fun U hU hW => g_pre hU hW hP hK hD⟩ rfl rfl hl.1 rfl (lv_room (Nat.le_of_ble_eq_true rfl)) d_rsaveOp_295 ⟨Nat.le_of_ble_eq_true rfl, Nat.le_of_ble_eq_true rfl⟩) hS (fun q _ h => hFc q h) hFc (fun u t H1 locs ht hvm hw hB hz1 hk1 hS => ?_)
    obtain ⟨hP, -, hD1⟩ := hB
    rw [ht] at hP
    have hD := hD1.weaken (fun _ q _ h => hFc q.1 h)
    generalize H1 = H at hP hS ⊢
    refine W.cs (cells' := 0) (slots' := 0) rfl rfl ?_
    refine lv_iload hx hb d_rsaveOp_298 (lv_at hl 3 rfl) ?_
    refine lv_istore_n (lv' := [(2, .int b_3.2.2.2), (0, .ref (md 100)), (1, .int b_3.2.1), (3, .int b_3.2.2.1), (4, .int b_3.2.2.2)]) hx hb d_rsaveOp_300 rfl hl (by decide) rfl (fun ls hl => ?_)
    refine lv_iinc (v := b_3.2.2.1 + 1) (lv' := [(3, .int (b_3.2.2.1 + 1)), (2, .int b_3.2.2.2), (0, .ref (md 100)), (1, .int b_3.2.1), (4, .int b_3.2.2.2)]) hx hb d_rsaveOp_301 hl (k := 3) rfl rfl (by decide) rfl (fun ls hl => ?_)
    refine lv_goto (tgt := 218) hx hb d_rsaveOp_304 (by decide) ?_
    exact Ka _ (Option.some.inj Heq).symm _ _ _ hP hD hS (lv_sub hl [2, 3, 1, 0] rfl)
def m_rsaveOp_L218 (S : MS) (x1 : Int32) (x2 : Int32) (x3 : Int32) : Option MS := lp (fun a : MS × Int32 × Int32 × Int32 => m_rsaveOp_B218 a.1 a.2.1 a.2.2.1 a.2.2.2) FU (S, x1, x2, x3)
theorem w_rsaveOp_L218 {p : Program} {l : Launch} {e : Env} {s : State} {m : MethodId} {args : Array Value} {below : List Frame} {meth : Method} {c : Code} {A : Nat → Prop} {D : va_G} {md : Nat → Nat} {mc : Nat → ClassId} {Q : State → Prop} (hC : MCx "JoinedTreesModel" prog_14_method_85_code 7 none p s m args meth c A D mc) {S : MS} {x1 : Int32} {x2 : Int32} {x3 : Int32} {o : MS} (Heq : m_rsaveOp_L218 S x1 x2 x3 = some o) (K0 : ∀ b : MS, o = b → ∀ (H : Heap) (locs : List Loc) (ls : Array Slot), va_P D cls (mw md mc b) H → va_D A (mw md mc b) → va_S A s.heap H locs → lv_has ls 7 [(0, .ref (md 100))] → W p l e ({ frames := 3, cells := 0, slots := 0, locals := 67 }) s m args below meth c H locs 0 0 Q (F0 m 307 ls [])) : ∀ (H : Heap) (locs : List Loc) (ls : Array Slot), va_P D cls (mw md mc S) H → va_D A (mw md mc S) → va_S A s.heap H locs → lv_has ls 7 [(0, .ref (md 100)), (1, .int x1), (2, .int x2), (3, .int x3)] → W p l e ({ frames := 3, cells := 0, slots := 0, locals := 67 }) s m args below meth c H locs 0 0 Q (F0 m 218 ls []) := by
  refine lp_w (G := fun a : MS × Int32 × Int32 × Int32 => ∀ (H : Heap) (locs : List Loc) (ls : Array Slot), va_P D cls (mw md mc a.1) H → va_D A (mw md mc a.1) → va_S A s.heap H locs → lv_has ls 7 [(0, .ref (md 100)), (1, .int a.2.1), (2, .int a.2.2.1), (3, .int a.2.2.2)] → W p l e ({ frames := 3, cells := 0, slots := 0, locals := 67 }) s m args below meth c H locs 0 0 Q (F0 m 218 ls [])) ?_ FU (S, x1, x2, x3) Heq
  intro a o1 ho Ka Ke
  exact w_rsaveOp_B218 hC ho (fun b h => Ka b h) (fun b h => K0 b (Ke _ h).symm)
def m_rsaveOp_J203 (S : MS) (x1 : Int32) : Option MS := gd x1 4000 (ob (m_rgroup S ((S.a 19 x1.toNatClampNeg).toInt64)) (fun o_2 => ob (m_rsaveOp_L218 o_2 x1 0 0) (fun b_4 => some b_4)))
theorem d_rsaveOp_307 : decode prog_14_method_85_code 307 = .ok (.return_, 1) := by decide +kernel
set_option maxHeartbeats 4000000 in
set_option maxRecDepth 100000 in
theorem w_rsaveOp_J203 {p : Program} {l : Launch} {e : Env} {s : State} {m : MethodId} {args : Array Value} {below : List Frame} {meth : Method} {c : Code} {A : Nat → Prop} {D : va_G} {md : Nat → Nat} {mc : Nat → ClassId} {Q : State → Prop} (hC : MCx "JoinedTreesModel" prog_14_method_85_code 7 none p s m args meth c A D mc) {S : MS} {x1 : Int32} {o : MS} (Heq : m_rsaveOp_J203 S x1 = some o) (Kr : ∀ r : MS, o = r → ∀ (pc : Nat) (H : Heap) (locs : List Loc) (ls : Array Slot), decode prog_14_method_85_code pc = .ok (.return_, 1) → va_P D cls (mw md mc r) H → va_D A (mw md mc r) → va_S A s.heap H locs → W p l e ({ frames := 3, cells := 0, slots := 0, locals := 67 }) s m args below meth c H locs 0 0 Q (F0 m pc ls [])) : ∀ (H : Heap) (locs : List Loc) (ls : Array Slot), va_P D cls (mw md mc S) H → va_D A (mw md mc S) → va_S A s.heap H locs → lv_has ls 7 [(0, .ref (md 100)), (1, .int x1)] → W p l e ({ frames := 3, cells := 0, slots := 0, locals := 67 }) s m args below meth c H locs 0 0 Q (F0 m 203 ls []) := by
  intro H locs ls hP hD hS hl
  obtain ⟨hx, hb, hr, hml, hown, hts, hK, hA⟩ := id hC
  unfold m_rsaveOp_J203 at Heq
  refine lv_aload_n hx hb d_rsaveOp_203 rfl (lv_at hl 0 rfl) ?_
  refine lv_aload_n hx hb d_rsaveOp_204 rfl (lv_at hl 0 rfl) ?_
  refine va_get (D := D) (ci := 12) (v := .ref (md 19)) (C := R_MM) (T := F_MM) (N := 77) hx hb hts i_MM hown hK hP 0 rfl rfl 19 (by decide) (hts _ kw_1401) (fun _ h9 => h9) rfl d_rsaveOp_205 ?_
  refine lv_iload_n hx hb d_rsaveOp_208 rfl (lv_at hl 1 rfl) ?_
  obtain ⟨hi_1, Heq⟩ := gd_some Heq
  refine va_iald hx hb hK hP 15 0 rfl rfl (i := x1) hi_1 d_rsaveOp_209 ?_
  refine w_i (y := S.a 19 x1.toNatClampNeg) rfl ?_
  refine lv_i2l hx hb d_rsaveOp_210 rfl ?_
  refine w_l (y := (S.a 19 x1.toNatClampNeg).toInt64) rfl ?_
  obtain ⟨o_2, h_3, Heq⟩ := ob_some Heq
  have hFc := fr_all hD hS hA
  refine va_callv (va_runV (As := [.long ((S.a 19 x1.toNatClampNeg).toInt64)]) (rest := []) ⟨hx, hb, hml, hown, hts⟩ (g_rgroup l D H.size h_3) (cw_v 1 hts kw_1950 kw_1947 kw_1949 kp_82 kw_11 rfl rfl (by decide +kernel) ⟨Nat.le_of_ble_eq_true rfl, Nat.le_of_ble_eq_true rfl⟩) ⟨g_blind, va_recv hK hP (ci := 12) (q0 := 0) rfl rfl, fun U hU hW => g_pre hU hW hP hK hD⟩ rfl rfl hl.1 rfl (lv_room (Nat.le_of_ble_eq_true rfl)) d_rsaveOp_211 ⟨Nat.le_of_ble_eq_true rfl, Nat.le_of_ble_eq_true rfl⟩) hS (fun q _ h => hFc q h) hFc (fun u t H1 locs ht hvm hw hB hz1 hk1 hS => ?_)
  obtain ⟨hP, -, hD1⟩ := hB
  rw [ht] at hP
  have hD := hD1.weaken (fun _ q _ h => hFc q.1 h)
  generalize H1 = H at hP hS ⊢
  refine W.cs (cells' := 0) (slots' := 0) rfl rfl ?_
  refine lv_iconst (v := 0) hx hb d_rsaveOp_214 (by decide) ?_
  refine lv_istore_n (lv' := [(2, .int 0), (0, .ref (md 100)), (1, .int x1)]) hx hb d_rsaveOp_215 rfl hl (by decide) rfl (fun ls hl => ?_)
  refine lv_iconst (v := 0) hx hb d_rsaveOp_216 (by decide) ?_
  refine lv_istore_n (lv' := [(3, .int 0), (2, .int 0), (0, .ref (md 100)), (1, .int x1)]) hx hb d_rsaveOp_217 rfl hl (by decide) rfl (fun ls hl => ?_)
  obtain ⟨b_4, h_5, Heq⟩ := ob_some Heq
  refine w_rsaveOp_L218 hC h_5 (fun b h => ?_) _ _ _ hP hD hS (lv_sub hl [2, 3, 1, 0] rfl)
  subst h
  intro H locs ls hP hD hS hl
  exact Kr _ (Option.some.inj Heq).symm 307 _ _ _ d_rsaveOp_307 hP hD hS
def m_rsaveOp_B170 (S : MS) (x1 : Int32) (x2 : Int32) : Option ((MS × Int32 × Int32) ⊕ (MS × Int32)) := gd x1 4000 ((if S.a 17 x1.toNatClampNeg ≤ x2 then some (.inr (S, x1)) else gd x1 4000 (gd ((S.a 16 x1.toNatClampNeg) + x2) 32876 (ob (m_rwrite S (S.a 26 (((S.a 16 x1.toNatClampNeg) + x2).toNatClampNeg))) (fun o_5 => some (.inl (o_5, x1, (x2 + 1))))))))
theorem d_rsaveOp_157 : decode prog_14_method_85_code 157 = .ok (.aload_n 0, 1) := by decide +kernel
theorem d_rsaveOp_158 : decode prog_14_method_85_code 158 = .ok (.aload_n 0, 1) := by decide +kernel
theorem d_rsaveOp_159 : decode prog_14_method_85_code 159 = .ok (.getfield 47, 3) := by decide +kernel
theorem d_rsaveOp_162 : decode prog_14_method_85_code 162 = .ok (.iload_n 1, 1) := by decide +kernel
theorem d_rsaveOp_163 : decode prog_14_method_85_code 163 = .ok (.iaload, 1) := by decide +kernel
theorem d_rsaveOp_164 : decode prog_14_method_85_code 164 = .ok (.i2l, 1) := by decide +kernel
theorem d_rsaveOp_165 : decode prog_14_method_85_code 165 = .ok (.invokevirtual 474, 3) := by decide +kernel
theorem d_rsaveOp_168 : decode prog_14_method_85_code 168 = .ok (.iconst 0, 1) := by decide +kernel
theorem d_rsaveOp_169 : decode prog_14_method_85_code 169 = .ok (.istore_n 2, 1) := by decide +kernel
theorem d_rsaveOp_170 : decode prog_14_method_85_code 170 = .ok (.iload_n 2, 1) := by decide +kernel
theorem d_rsaveOp_171 : decode prog_14_method_85_code 171 = .ok (.aload_n 0, 1) := by decide +kernel
theorem d_rsaveOp_172 : decode prog_14_method_85_code 172 = .ok (.getfield 47, 3) := by decide +kernel
theorem d_rsaveOp_175 : decode prog_14_method_85_code 175 = .ok (.iload_n 1, 1) := by decide +kernel
theorem d_rsaveOp_176 : decode prog_14_method_85_code 176 = .ok (.iaload, 1) := by decide +kernel
theorem d_rsaveOp_177 : decode prog_14_method_85_code 177 = .ok (.if_icmp .ge 26, 3) := by decide +kernel
theorem d_rsaveOp_180 : decode prog_14_method_85_code 180 = .ok (.aload_n 0, 1) := by decide +kernel
theorem d_rsaveOp_181 : decode prog_14_method_85_code 181 = .ok (.aload_n 0, 1) := by decide +kernel
theorem d_rsaveOp_182 : decode prog_14_method_85_code 182 = .ok (.getfield 72, 3) := by decide +kernel
theorem d_rsaveOp_185 : decode prog_14_method_85_code 185 = .ok (.aload_n 0, 1) := by decide +kernel
theorem d_rsaveOp_186 : decode prog_14_method_85_code 186 = .ok (.getfield 44, 3) := by decide +kernel
theorem d_rsaveOp_189 : decode prog_14_method_85_code 189 = .ok (.iload_n 1, 1) := by decide +kernel
theorem d_rsaveOp_190 : decode prog_14_method_85_code 190 = .ok (.iaload, 1) := by decide +kernel
theorem d_rsaveOp_191 : decode prog_14_method_85_code 191 = .ok (.iload_n 2, 1) := by decide +kernel
theorem d_rsaveOp_192 : decode prog_14_method_85_code 192 = .ok (.iadd, 1) := by decide +kernel
theorem d_rsaveOp_193 : decode prog_14_method_85_code 193 = .ok (.baload, 1) := by decide +kernel
theorem d_rsaveOp_194 : decode prog_14_method_85_code 194 = .ok (.invokevirtual 436, 3) := by decide +kernel
theorem d_rsaveOp_197 : decode prog_14_method_85_code 197 = .ok (.iinc 2 1, 3) := by decide +kernel
theorem d_rsaveOp_200 : decode prog_14_method_85_code 200 = .ok (.goto (-30), 3) := by decide +kernel
set_option maxHeartbeats 4000000 in
set_option maxRecDepth 100000 in
theorem w_rsaveOp_B170 {p : Program} {l : Launch} {e : Env} {s : State} {m : MethodId} {args : Array Value} {below : List Frame} {meth : Method} {c : Code} {A : Nat → Prop} {D : va_G} {md : Nat → Nat} {mc : Nat → ClassId} {Q : State → Prop} (hC : MCx "JoinedTreesModel" prog_14_method_85_code 7 none p s m args meth c A D mc) {S : MS} {x1 : Int32} {x2 : Int32} {o : ((MS × Int32 × Int32) ⊕ (MS × Int32))} (Heq : m_rsaveOp_B170 S x1 x2 = some o) (Ka : ∀ b : MS × Int32 × Int32, o = .inl b → ∀ (H : Heap) (locs : List Loc) (ls : Array Slot), va_P D cls (mw md mc b.1) H → va_D A (mw md mc b.1) → va_S A s.heap H locs → lv_has ls 7 [(0, .ref (md 100)), (1, .int b.2.1), (2, .int b.2.2)] → W p l e ({ frames := 3, cells := 0, slots := 0, locals := 67 }) s m args below meth c H locs 0 0 Q (F0 m 170 ls [])) (K0 : ∀ b : MS × Int32, o = .inr b → ∀ (H : Heap) (locs : List Loc) (ls : Array Slot), va_P D cls (mw md mc b.1) H → va_D A (mw md mc b.1) → va_S A s.heap H locs → lv_has ls 7 [(0, .ref (md 100)), (1, .int b.2)] → W p l e ({ frames := 3, cells := 0, slots := 0, locals := 67 }) s m args below meth c H locs 0 0 Q (F0 m 203 ls [])) : ∀ (H : Heap) (locs : List Loc) (ls : Array Slot), va_P D cls (mw md mc S) H → va_D A (mw md mc S) → va_S A s.heap H locs → lv_has ls 7 [(0, .ref (md 100)), (1, .int x1), (2, .int x2)] → W p l e ({ frames := 3, cells := 0, slots := 0, locals := 67 }) s m args below meth c H locs 0 0 Q (F0 m 170 ls []) := by
  intro H locs ls hP hD hS hl
  obtain ⟨hx, hb, hr, hml, hown, hts, hK, hA⟩ := id hC
  unfold m_rsaveOp_B170 at Heq
  refine lv_iload_n hx hb d_rsaveOp_170 rfl (lv_at hl 2 rfl) ?_
  refine lv_aload_n hx hb d_rsaveOp_171 rfl (lv_at hl 0 rfl) ?_
  refine va_get (D := D) (ci := 12) (v := .ref (md 17)) (C := R_MM) (T := F_MM) (N := 77) hx hb hts i_MM hown hK hP 0 rfl rfl 17 (by decide) (hts _ kw_1399) (fun _ h9 => h9) rfl d_rsaveOp_172 ?_
  refine lv_iload_n hx hb d_rsaveOp_175 rfl (lv_at hl 1 rfl) ?_
  obtain ⟨hi_1, Heq⟩ := gd_some Heq
  refine va_iald hx hb hK hP 13 0 rfl rfl (i := x1) hi_1 d_rsaveOp_176 ?_
  refine w_i (y := S.a 17 x1.toNatClampNeg) rfl ?_
  refine lv_icmp_ge (tgt := 203) hx hb d_rsaveOp_177 (by decide) (fun c_2 => ?_) (fun c_2 => ?_)
  · replace Heq := (if_pos c_2).symm.trans Heq
    exact K0 _ (Option.some.inj Heq).symm _ _ _ hP hD hS (lv_sub hl [0, 1] rfl)
  · replace Heq := (if_neg c_2).symm.trans Heq
    refine lv_aload_n hx hb d_rsaveOp_180 rfl (lv_at hl 0 rfl) ?_
    refine lv_aload_n hx hb d_rsaveOp_181 rfl (lv_at hl 0 rfl) ?_
    refine va_get (D := D) (ci := 12) (v := .ref (md 26)) (C := R_MM) (T := F_MM) (N := 77) hx hb hts i_MM hown hK hP 0 rfl rfl 26 (by decide) (hts _ kw_1408) (fun _ h9 => h9) rfl d_rsaveOp_182 ?_
    refine lv_aload_n hx hb d_rsaveOp_185 rfl (lv_at hl 0 rfl) ?_
    refine va_get (D := D) (ci := 12) (v := .ref (md 16)) (C := R_MM) (T := F_MM) (N := 77) hx hb hts i_MM hown hK hP 0 rfl rfl 16 (by decide) (hts _ kw_1398) (fun _ h9 => h9) rfl d_rsaveOp_186 ?_
    refine lv_iload_n hx hb d_rsaveOp_189 rfl (lv_at hl 1 rfl) ?_
    obtain ⟨hi_3, Heq⟩ := gd_some Heq
    refine va_iald hx hb hK hP 12 0 rfl rfl (i := x1) hi_3 d_rsaveOp_190 ?_
    refine w_i (y := S.a 16 x1.toNatClampNeg) rfl ?_
    refine lv_iload_n hx hb d_rsaveOp_191 rfl (lv_at hl 2 rfl) ?_
    refine lv_iadd hx hb d_rsaveOp_192 ?_
    refine w_i (y := (S.a 16 x1.toNatClampNeg) + x2) rfl ?_
    obtain ⟨hi_4, Heq⟩ := gd_some Heq
    refine va_bald hx hb hK hP 20 1 rfl rfl (i := (S.a 16 x1.toNatClampNeg) + x2) hi_4 d_rsaveOp_193 ?_
    refine w_i (y := S.a 26 (((S.a 16 x1.toNatClampNeg) + x2).toNatClampNeg)) rfl ?_
    obtain ⟨o_5, h_6, Heq⟩ := ob_some Heq
    have hFc := fr_all hD hS hA
    refine va_callv (va_runV (As := [.int (S.a 26 (((S.a 16 x1.toNatClampNeg) + x2).toNatClampNeg))]) (rest := []) ⟨hx, hb, hml, hown, hts⟩ (g_rwrite l D H.size h_6) (cw_v 1 hts kw_1918 kw_1915 kw_1917 kp_76 kw_11 rfl rfl (by decide +kernel) ⟨Nat.le_of_ble_eq_true rfl, Nat.le_of_ble_eq_true rfl⟩) ⟨g_blind, va_recv hK hP (ci := 12) (q0 := 0) rfl rfl, fun U hU hW => g_pre hU hW hP hK hD⟩ rfl rfl hl.1 rfl (lv_room (Nat.le_of_ble_eq_true rfl)) d_rsaveOp_194 ⟨Nat.le_of_ble_eq_true rfl, Nat.le_of_ble_eq_true rfl⟩) hS (fun q _ h => hFc q h) hFc (fun u t H1 locs ht hvm hw hB hz1 hk1 hS => ?_)
    obtain ⟨hP, -, hD1⟩ := hB
    rw [ht] at hP
    have hD := hD1.weaken (fun _ q _ h => hFc q.1 h)
    generalize H1 = H at hP hS ⊢
    refine W.cs (cells' := 0) (slots' := 0) rfl rfl ?_
    refine lv_iinc (v := x2 + 1) (lv' := [(2, .int (x2 + 1)), (0, .ref (md 100)), (1, .int x1)]) hx hb d_rsaveOp_197 hl (k := 2) rfl rfl (by decide) rfl (fun ls hl => ?_)
    refine lv_goto (tgt := 170) hx hb d_rsaveOp_200 (by decide) ?_
    exact Ka _ (Option.some.inj Heq).symm _ _ _ hP hD hS (lv_sub hl [1, 2, 0] rfl)
def m_rsaveOp_L170 (S : MS) (x1 : Int32) (x2 : Int32) : Option (MS × Int32) := lp (fun a : MS × Int32 × Int32 => m_rsaveOp_B170 a.1 a.2.1 a.2.2) FU (S, x1, x2)
theorem w_rsaveOp_L170 {p : Program} {l : Launch} {e : Env} {s : State} {m : MethodId} {args : Array Value} {below : List Frame} {meth : Method} {c : Code} {A : Nat → Prop} {D : va_G} {md : Nat → Nat} {mc : Nat → ClassId} {Q : State → Prop} (hC : MCx "JoinedTreesModel" prog_14_method_85_code 7 none p s m args meth c A D mc) {S : MS} {x1 : Int32} {x2 : Int32} {o : MS × Int32} (Heq : m_rsaveOp_L170 S x1 x2 = some o) (K0 : ∀ b : MS × Int32, o = b → ∀ (H : Heap) (locs : List Loc) (ls : Array Slot), va_P D cls (mw md mc b.1) H → va_D A (mw md mc b.1) → va_S A s.heap H locs → lv_has ls 7 [(0, .ref (md 100)), (1, .int b.2)] → W p l e ({ frames := 3, cells := 0, slots := 0, locals := 67 }) s m args below meth c H locs 0 0 Q (F0 m 203 ls [])) : ∀ (H : Heap) (locs : List Loc) (ls : Array Slot), va_P D cls (mw md mc S) H → va_D A (mw md mc S) → va_S A s.heap H locs → lv_has ls 7 [(0, .ref (md 100)), (1, .int x1), (2, .int x2)] → W p l e ({ frames := 3, cells := 0, slots := 0, locals := 67 }) s m args below meth c H locs 0 0 Q (F0 m 170 ls []) := by
  refine lp_w (G := fun a : MS × Int32 × Int32 => ∀ (H : Heap) (locs : List Loc) (ls : Array Slot), va_P D cls (mw md mc a.1) H → va_D A (mw md mc a.1) → va_S A s.heap H locs → lv_has ls 7 [(0, .ref (md 100)), (1, .int a.2.1), (2, .int a.2.2)] → W p l e ({ frames := 3, cells := 0, slots := 0, locals := 67 }) s m args below meth c H locs 0 0 Q (F0 m 170 ls [])) ?_ FU (S, x1, x2) Heq
  intro a o1 ho Ka Ke
  exact w_rsaveOp_B170 hC ho (fun b h => Ka b h) (fun b h => K0 b (Ke _ h).symm)
def m_rsaveOp_J147 (S : MS) (x1 : Int32) : Option MS := gd x1 4000 ((if S.a 11 x1.toNatClampNeg = 4 then gd x1 4000 (ob (m_rgroup S ((S.a 17 x1.toNatClampNeg).toInt64)) (fun o_4 => ob (m_rsaveOp_L170 o_4 x1 0) (fun b_6 => m_rsaveOp_J203 b_6.1 b_6.2))) else m_rsaveOp_J203 S x1))
set_option maxHeartbeats 4000000 in
set_option maxRecDepth 100000 in
theorem w_rsaveOp_J147 {p : Program} {l : Launch} {e : Env} {s : State} {m : MethodId} {args : Array Value} {below : List Frame} {meth : Method} {c : Code} {A : Nat → Prop} {D : va_G} {md : Nat → Nat} {mc : Nat → ClassId} {Q : State → Prop} (hC : MCx "JoinedTreesModel" prog_14_method_85_code 7 none p s m args meth c A D mc) {S : MS} {x1 : Int32} {o : MS} (Heq : m_rsaveOp_J147 S x1 = some o) (Kr : ∀ r : MS, o = r → ∀ (pc : Nat) (H : Heap) (locs : List Loc) (ls : Array Slot), decode prog_14_method_85_code pc = .ok (.return_, 1) → va_P D cls (mw md mc r) H → va_D A (mw md mc r) → va_S A s.heap H locs → W p l e ({ frames := 3, cells := 0, slots := 0, locals := 67 }) s m args below meth c H locs 0 0 Q (F0 m pc ls [])) : ∀ (H : Heap) (locs : List Loc) (ls : Array Slot), va_P D cls (mw md mc S) H → va_D A (mw md mc S) → va_S A s.heap H locs → lv_has ls 7 [(0, .ref (md 100)), (1, .int x1)] → W p l e ({ frames := 3, cells := 0, slots := 0, locals := 67 }) s m args below meth c H locs 0 0 Q (F0 m 147 ls []) := by
  intro H locs ls hP hD hS hl
  obtain ⟨hx, hb, hr, hml, hown, hts, hK, hA⟩ := id hC
  unfold m_rsaveOp_J147 at Heq
  refine lv_aload_n hx hb d_rsaveOp_147 rfl (lv_at hl 0 rfl) ?_
  refine va_get (D := D) (ci := 12) (v := .ref (md 11)) (C := R_MM) (T := F_MM) (N := 77) hx hb hts i_MM hown hK hP 0 rfl rfl 11 (by decide) (hts _ kw_1393) (fun _ h9 => h9) rfl d_rsaveOp_148 ?_
  refine lv_iload_n hx hb d_rsaveOp_151 rfl (lv_at hl 1 rfl) ?_
  obtain ⟨hi_1, Heq⟩ := gd_some Heq
  refine va_iald hx hb hK hP 7 0 rfl rfl (i := x1) hi_1 d_rsaveOp_152 ?_
  refine w_i (y := S.a 11 x1.toNatClampNeg) rfl ?_
  refine lv_iconst (v := 4) hx hb d_rsaveOp_153 (by decide) ?_
  refine lv_icmp_ne (tgt := 203) hx hb d_rsaveOp_154 (by decide) (fun c_2 => ?_) (fun c_2 => ?_)
  · replace Heq := (if_neg c_2).symm.trans Heq
    exact w_rsaveOp_J203 hC Heq Kr _ _ _ hP hD hS (lv_sub hl [0, 1] rfl)
  · replace Heq := (if_pos c_2).symm.trans Heq
    refine lv_aload_n hx hb d_rsaveOp_157 rfl (lv_at hl 0 rfl) ?_
    refine lv_aload_n hx hb d_rsaveOp_158 rfl (lv_at hl 0 rfl) ?_
    refine va_get (D := D) (ci := 12) (v := .ref (md 17)) (C := R_MM) (T := F_MM) (N := 77) hx hb hts i_MM hown hK hP 0 rfl rfl 17 (by decide) (hts _ kw_1399) (fun _ h9 => h9) rfl d_rsaveOp_159 ?_
    refine lv_iload_n hx hb d_rsaveOp_162 rfl (lv_at hl 1 rfl) ?_
    obtain ⟨hi_3, Heq⟩ := gd_some Heq
    refine va_iald hx hb hK hP 13 0 rfl rfl (i := x1) hi_3 d_rsaveOp_163 ?_
    refine w_i (y := S.a 17 x1.toNatClampNeg) rfl ?_
    refine lv_i2l hx hb d_rsaveOp_164 rfl ?_
    refine w_l (y := (S.a 17 x1.toNatClampNeg).toInt64) rfl ?_
    obtain ⟨o_4, h_5, Heq⟩ := ob_some Heq
    have hFc := fr_all hD hS hA
    refine va_callv (va_runV (As := [.long ((S.a 17 x1.toNatClampNeg).toInt64)]) (rest := []) ⟨hx, hb, hml, hown, hts⟩ (g_rgroup l D H.size h_5) (cw_v 1 hts kw_1950 kw_1947 kw_1949 kp_82 kw_11 rfl rfl (by decide +kernel) ⟨Nat.le_of_ble_eq_true rfl, Nat.le_of_ble_eq_true rfl⟩) ⟨g_blind, va_recv hK hP (ci := 12) (q0 := 0) rfl rfl, fun U hU hW => g_pre hU hW hP hK hD⟩ rfl rfl hl.1 rfl (lv_room (Nat.le_of_ble_eq_true rfl)) d_rsaveOp_165 ⟨Nat.le_of_ble_eq_true rfl, Nat.le_of_ble_eq_true rfl⟩) hS (fun q _ h => hFc q h) hFc (fun u t H1 locs ht hvm hw hB hz1 hk1 hS => ?_)
    obtain ⟨hP, -, hD1⟩ := hB
    rw [ht] at hP
    have hD := hD1.weaken (fun _ q _ h => hFc q.1 h)
    generalize H1 = H at hP hS ⊢
    refine W.cs (cells' := 0) (slots' := 0) rfl rfl ?_
    refine lv_iconst (v := 0) hx hb d_rsaveOp_168 (by decide) ?_
    refine lv_istore_n (lv' := [(2, .int 0), (0, .ref (md 100)), (1, .int x1)]) hx hb d_rsaveOp_169 rfl hl (by decide) rfl (fun ls hl => ?_)
    obtain ⟨b_6, h_7, Heq⟩ := ob_some Heq
    refine w_rsaveOp_L170 hC h_7 (fun b h => ?_) _ _ _ hP hD hS (lv_sub hl [1, 2, 0] rfl)
    subst h
    intro H locs ls hP hD hS hl
    exact w_rsaveOp_J203 hC Heq Kr _ _ _ hP hD hS (lv_sub hl [0, 1] rfl)
def m_rsaveOp_J137 (S : MS) (x1 : Int32) : Option MS := gd x1 4000 (ob (m_rlong2 S (S.n 22 x1.toNatClampNeg)) (fun o_2 => m_rsaveOp_J147 o_2 x1))
set_option maxHeartbeats 4000000 in
set_option maxRecDepth 100000 in
theorem w_rsaveOp_J137 {p : Program} {l : Launch} {e : Env} {s : State} {m : MethodId} {args : Array Value} {below : List Frame} {meth : Method} {c : Code} {A : Nat → Prop} {D : va_G} {md : Nat → Nat} {mc : Nat → ClassId} {Q : State → Prop} (hC : MCx "JoinedTreesModel" prog_14_method_85_code 7 none p s m args meth c A D mc) {S : MS} {x1 : Int32} {o : MS} (Heq : m_rsaveOp_J137 S x1 = some o) (Kr : ∀ r : MS, o = r → ∀ (pc : Nat) (H : Heap) (locs : List Loc) (ls : Array Slot), decode prog_14_method_85_code pc = .ok (.return_, 1) → va_P D cls (mw md mc r) H → va_D A (mw md mc r) → va_S A s.heap H locs → W p l e ({ frames := 3, cells := 0, slots := 0, locals := 67 }) s m args below meth c H locs 0 0 Q (F0 m pc ls [])) : ∀ (H : Heap) (locs : List Loc) (ls : Array Slot), va_P D cls (mw md mc S) H → va_D A (mw md mc S) → va_S A s.heap H locs → lv_has ls 7 [(0, .ref (md 100)), (1, .int x1)] → W p l e ({ frames := 3, cells := 0, slots := 0, locals := 67 }) s m args below meth c H locs 0 0 Q (F0 m 137 ls []) := by
  intro H locs ls hP hD hS hl
  obtain ⟨hx, hb, hr, hml, hown, hts, hK, hA⟩ := id hC
  unfold m_rsaveOp_J137 at Heq
  refine lv_aload_n hx hb d_rsaveOp_137 rfl (lv_at hl 0 rfl) ?_
  refine lv_aload_n hx hb d_rsaveOp_138 rfl (lv_at hl 0 rfl) ?_
  refine va_get (D := D) (ci := 12) (v := .ref (md 22)) (C := R_MM) (T := F_MM) (N := 77) hx hb hts i_MM hown hK hP 0 rfl rfl 22 (by decide) (hts _ kw_1404) (fun _ h9 => h9) rfl d_rsaveOp_139 ?_
  refine lv_iload_n hx hb d_rsaveOp_142 rfl (lv_at hl 1 rfl) ?_
  obtain ⟨hi_1, Heq⟩ := gd_some Heq
  refine va_lald hx hb hK hP 18 3 rfl rfl (i := x1) hi_1 d_rsaveOp_143 ?_
  refine w_l (y := S.n 22 x1.toNatClampNeg) rfl ?_
  obtain ⟨o_2, h_3, Heq⟩ := ob_some Heq
  have hFc := fr_all hD hS hA
  refine va_callv (va_runV (As := [.long (S.n 22 x1.toNatClampNeg)]) (rest := []) ⟨hx, hb, hml, hown, hts⟩ (g_rlong2 l D H.size h_3) (cw_v 1 hts kw_1967 kw_1964 kw_1966 kp_85 kw_11 rfl rfl (by decide +kernel) ⟨Nat.le_of_ble_eq_true rfl, Nat.le_of_ble_eq_true rfl⟩) ⟨g_blind, va_recv hK hP (ci := 12) (q0 := 0) rfl rfl, fun U hU hW => g_pre hU hW hP hK hD⟩ rfl rfl hl.1 rfl (lv_room (Nat.le_of_ble_eq_true rfl)) d_rsaveOp_144 ⟨Nat.le_of_ble_eq_true rfl, Nat.le_of_ble_eq_true rfl⟩) hS (fun q _ h => hFc q h) hFc (fun u t H1 locs ht hvm hw hB hz1 hk1 hS => ?_)
  obtain ⟨hP, -, hD1⟩ := hB
  rw [ht] at hP
  have hD := hD1.weaken (fun _ q _ h => hFc q.1 h)
  generalize H1 = H at hP hS ⊢
  refine W.cs (cells' := 0) (slots' := 0) rfl rfl ?_
  exact w_rsaveOp_J147 hC Heq Kr _ _ _ hP hD hS (lv_sub hl [0, 1] rfl)
def m_rsaveOp_J106 (S : MS) (x1 : Int32) : Option MS := gd x1 4000 ((if S.a 11 x1.toNatClampNeg = 3 then m_rsaveOp_J137 S x1 else gd x1 4000 ((if S.a 11 x1.toNatClampNeg = 5 then m_rsaveOp_J137 S x1 else gd x1 4000 ((if S.a 11 x1.toNatClampNeg = 10 then m_rsaveOp_J137 S x1 else m_rsaveOp_J147 S x1))))))
theorem d_rsaveOp_116 : decode prog_14_method_85_code 116 = .ok (.aload_n 0, 1) := by decide +kernel
theorem d_rsaveOp_117 : decode prog_14_method_85_code 117 = .ok (.getfield 29, 3) := by decide +kernel
theorem d_rsaveOp_120 : decode prog_14_method_85_code 120 = .ok (.iload_n 1, 1) := by decide +kernel
theorem d_rsaveOp_121 : decode prog_14_method_85_code 121 = .ok (.iaload, 1) := by decide +kernel
theorem d_rsaveOp_122 : decode prog_14_method_85_code 122 = .ok (.iconst 5, 1) := by decide +kernel
theorem d_rsaveOp_123 : decode prog_14_method_85_code 123 = .ok (.if_icmp .eq 14, 3) := by decide +kernel
theorem d_rsaveOp_126 : decode prog_14_method_85_code 126 = .ok (.aload_n 0, 1) := by decide +kernel
theorem d_rsaveOp_127 : decode prog_14_method_85_code 127 = .ok (.getfield 29, 3) := by decide +kernel
theorem d_rsaveOp_130 : decode prog_14_method_85_code 130 = .ok (.iload_n 1, 1) := by decide +kernel
theorem d_rsaveOp_131 : decode prog_14_method_85_code 131 = .ok (.iaload, 1) := by decide +kernel
theorem d_rsaveOp_132 : decode prog_14_method_85_code 132 = .ok (.bipush 10, 2) := by decide +kernel
theorem d_rsaveOp_134 : decode prog_14_method_85_code 134 = .ok (.if_icmp .ne 13, 3) := by decide +kernel
set_option maxHeartbeats 4000000 in
set_option maxRecDepth 100000 in
theorem w_rsaveOp_J106 {p : Program} {l : Launch} {e : Env} {s : State} {m : MethodId} {args : Array Value} {below : List Frame} {meth : Method} {c : Code} {A : Nat → Prop} {D : va_G} {md : Nat → Nat} {mc : Nat → ClassId} {Q : State → Prop} (hC : MCx "JoinedTreesModel" prog_14_method_85_code 7 none p s m args meth c A D mc) {S : MS} {x1 : Int32} {o : MS} (Heq : m_rsaveOp_J106 S x1 = some o) (Kr : ∀ r : MS, o = r → ∀ (pc : Nat) (H : Heap) (locs : List Loc) (ls : Array Slot), decode prog_14_method_85_code pc = .ok (.return_, 1) → va_P D cls (mw md mc r) H → va_D A (mw md mc r) → va_S A s.heap H locs → W p l e ({ frames := 3, cells := 0, slots := 0, locals := 67 }) s m args below meth c H locs 0 0 Q (F0 m pc ls [])) : ∀ (H : Heap) (locs : List Loc) (ls : Array Slot), va_P D cls (mw md mc S) H → va_D A (mw md mc S) → va_S A s.heap H locs → lv_has ls 7 [(0, .ref (md 100)), (1, .int x1)] → W p l e ({ frames := 3, cells := 0, slots := 0, locals := 67 }) s m args below meth c H locs 0 0 Q (F0 m 106 ls []) := by
  intro H locs ls hP hD hS hl
  obtain ⟨hx, hb, hr, hml, hown, hts, hK, hA⟩ := id hC
  unfold m_rsaveOp_J106 at Heq
  refine lv_aload_n hx hb d_rsaveOp_106 rfl (lv_at hl 0 rfl) ?_
  refine va_get (D := D) (ci := 12) (v := .ref (md 11)) (C := R_MM) (T := F_MM) (N := 77) hx hb hts i_MM hown hK hP 0 rfl rfl 11 (by decide) (hts _ kw_1393) (fun _ h9 => h9) rfl d_rsaveOp_107 ?_
  refine lv_iload_n hx hb d_rsaveOp_110 rfl (lv_at hl 1 rfl) ?_
  obtain ⟨hi_1, Heq⟩ := gd_some Heq
  refine va_iald hx hb hK hP 7 0 rfl rfl (i := x1) hi_1 d_rsaveOp_111 ?_
  refine w_i (y := S.a 11 x1.toNatClampNeg) rfl ?_
  refine lv_iconst (v := 3) hx hb d_rsaveOp_112 (by decide) ?_
  refine lv_icmp_eq (tgt := 137) hx hb d_rsaveOp_113 (by decide) (fun c_2 => ?_) (fun c_2 => ?_)
  · replace Heq := (if_pos c_2).symm.trans Heq
    exact w_rsaveOp_J137 hC Heq Kr _ _ _ hP hD hS (lv_sub hl [0, 1] rfl)
  · replace Heq := (if_neg c_2).symm.trans Heq
    refine lv_aload_n hx hb d_rsaveOp_116 rfl (lv_at hl 0 rfl) ?_
    refine va_get (D := D) (ci := 12) (v := .ref (md 11)) (C := R_MM) (T := F_MM) (N := 77) hx hb hts i_MM hown hK hP 0 rfl rfl 11 (by decide) (hts _ kw_1393) (fun _ h9 => h9) rfl d_rsaveOp_117 ?_
    refine lv_iload_n hx hb d_rsaveOp_120 rfl (lv_at hl 1 rfl) ?_
    obtain ⟨hi_3, Heq⟩ := gd_some Heq
    refine va_iald hx hb hK hP 7 0 rfl rfl (i := x1) hi_3 d_rsaveOp_121 ?_
    refine w_i (y := S.a 11 x1.toNatClampNeg) rfl ?_
    refine lv_iconst (v := 5) hx hb d_rsaveOp_122 (by decide) ?_
    refine lv_icmp_eq (tgt := 137) hx hb d_rsaveOp_123 (by decide) (fun c_4 => ?_) (fun c_4 => ?_)
    · replace Heq := (if_pos c_4).symm.trans Heq
      exact w_rsaveOp_J137 hC Heq Kr _ _ _ hP hD hS (lv_sub hl [0, 1] rfl)
    · replace Heq := (if_neg c_4).symm.trans Heq
      refine lv_aload_n hx hb d_rsaveOp_126 rfl (lv_at hl 0 rfl) ?_
      refine va_get (D := D) (ci := 12) (v := .ref (md 11)) (C := R_MM) (T := F_MM) (N := 77) hx hb hts i_MM hown hK hP 0 rfl rfl 11 (by decide) (hts _ kw_1393) (fun _ h9 => h9) rfl d_rsaveOp_127 ?_
      refine lv_iload_n hx hb d_rsaveOp_130 rfl (lv_at hl 1 rfl) ?_
      obtain ⟨hi_5, Heq⟩ := gd_some Heq
      refine va_iald hx hb hK hP 7 0 rfl rfl (i := x1) hi_5 d_rsaveOp_131 ?_
      refine w_i (y := S.a 11 x1.toNatClampNeg) rfl ?_
      refine lv_bipush (v := 10) hx hb d_rsaveOp_132 (by decide) ?_
      refine lv_icmp_ne (tgt := 147) hx hb d_rsaveOp_134 (by decide) (fun c_6 => ?_) (fun c_6 => ?_)
      · replace Heq := (if_neg c_6).symm.trans Heq
        exact w_rsaveOp_J147 hC Heq Kr _ _ _ hP hD hS (lv_sub hl [0, 1] rfl)
      · replace Heq := (if_pos c_6).symm.trans Heq
        exact w_rsaveOp_J137 hC Heq Kr _ _ _ hP hD hS (lv_sub hl [0, 1] rfl)
def m_rsaveOp_B59 (S : MS) (x1 : Int32) (x2 : Int32) : Option ((MS × Int32 × Int32) ⊕ (MS × Int32)) := gd x1 4000 ((if S.a 15 x1.toNatClampNeg ≤ x2 then some (.inr (S, x1)) else gd x1 4000 (gd ((S.a 14 x1.toNatClampNeg) + x2) 32876 (ob (m_rwrite S (S.a 26 (((S.a 14 x1.toNatClampNeg) + x2).toNatClampNeg))) (fun o_5 => some (.inl (o_5, x1, (x2 + 1))))))))
theorem d_rsaveOp_46 : decode prog_14_method_85_code 46 = .ok (.aload_n 0, 1) := by decide +kernel
theorem d_rsaveOp_47 : decode prog_14_method_85_code 47 = .ok (.aload_n 0, 1) := by decide +kernel
theorem d_rsaveOp_48 : decode prog_14_method_85_code 48 = .ok (.getfield 41, 3) := by decide +kernel
theorem d_rsaveOp_51 : decode prog_14_method_85_code 51 = .ok (.iload_n 1, 1) := by decide +kernel
theorem d_rsaveOp_52 : decode prog_14_method_85_code 52 = .ok (.iaload, 1) := by decide +kernel
theorem d_rsaveOp_53 : decode prog_14_method_85_code 53 = .ok (.i2l, 1) := by decide +kernel
theorem d_rsaveOp_54 : decode prog_14_method_85_code 54 = .ok (.invokevirtual 474, 3) := by decide +kernel
theorem d_rsaveOp_57 : decode prog_14_method_85_code 57 = .ok (.iconst 0, 1) := by decide +kernel
theorem d_rsaveOp_58 : decode prog_14_method_85_code 58 = .ok (.istore_n 2, 1) := by decide +kernel
theorem d_rsaveOp_59 : decode prog_14_method_85_code 59 = .ok (.iload_n 2, 1) := by decide +kernel
theorem d_rsaveOp_60 : decode prog_14_method_85_code 60 = .ok (.aload_n 0, 1) := by decide +kernel
theorem d_rsaveOp_61 : decode prog_14_method_85_code 61 = .ok (.getfield 41, 3) := by decide +kernel
theorem d_rsaveOp_64 : decode prog_14_method_85_code 64 = .ok (.iload_n 1, 1) := by decide +kernel
theorem d_rsaveOp_65 : decode prog_14_method_85_code 65 = .ok (.iaload, 1) := by decide +kernel
theorem d_rsaveOp_66 : decode prog_14_method_85_code 66 = .ok (.if_icmp .ge 26, 3) := by decide +kernel
theorem d_rsaveOp_69 : decode prog_14_method_85_code 69 = .ok (.aload_n 0, 1) := by decide +kernel
theorem d_rsaveOp_70 : decode prog_14_method_85_code 70 = .ok (.aload_n 0, 1) := by decide +kernel
theorem d_rsaveOp_71 : decode prog_14_method_85_code 71 = .ok (.getfield 72, 3) := by decide +kernel
theorem d_rsaveOp_74 : decode prog_14_method_85_code 74 = .ok (.aload_n 0, 1) := by decide +kernel
theorem d_rsaveOp_75 : decode prog_14_method_85_code 75 = .ok (.getfield 38, 3) := by decide +kernel
theorem d_rsaveOp_78 : decode prog_14_method_85_code 78 = .ok (.iload_n 1, 1) := by decide +kernel
theorem d_rsaveOp_79 : decode prog_14_method_85_code 79 = .ok (.iaload, 1) := by decide +kernel
theorem d_rsaveOp_80 : decode prog_14_method_85_code 80 = .ok (.iload_n 2, 1) := by decide +kernel
theorem d_rsaveOp_81 : decode prog_14_method_85_code 81 = .ok (.iadd, 1) := by decide +kernel
theorem d_rsaveOp_82 : decode prog_14_method_85_code 82 = .ok (.baload, 1) := by decide +kernel
theorem d_rsaveOp_83 : decode prog_14_method_85_code 83 = .ok (.invokevirtual 436, 3) := by decide +kernel
theorem d_rsaveOp_86 : decode prog_14_method_85_code 86 = .ok (.iinc 2 1, 3) := by decide +kernel
theorem d_rsaveOp_89 : decode prog_14_method_85_code 89 = .ok (.goto (-30), 3) := by decide +kernel
set_option maxHeartbeats 4000000 in
set_option maxRecDepth 100000 in
theorem w_rsaveOp_B59 {p : Program} {l : Launch} {e : Env} {s : State} {m : MethodId} {args : Array Value} {below : List Frame} {meth : Method} {c : Code} {A : Nat → Prop} {D : va_G} {md : Nat → Nat} {mc : Nat → ClassId} {Q : State → Prop} (hC : MCx "JoinedTreesModel" prog_14_method_85_code 7 none p s m args meth c A D mc) {S : MS} {x1 : Int32} {x2 : Int32} {o : ((MS × Int32 × Int32) ⊕ (MS × Int32))} (Heq : m_rsaveOp_B59 S x1 x2 = some o) (Ka : ∀ b : MS × Int32 × Int32, o = .inl b → ∀ (H : Heap) (locs : List Loc) (ls : Array Slot), va_P D cls (mw md mc b.1) H → va_D A (mw md mc b.1) → va_S A s.heap H locs → lv_has ls 7 [(0, .ref (md 100)), (1, .int b.2.1), (2, .int b.2.2)] → W p l e ({ frames := 3, cells := 0, slots := 0, locals := 67 }) s m args below meth c H locs 0 0 Q (F0 m 59 ls [])) (K0 : ∀ b : MS × Int32, o = .inr b → ∀ (H : Heap) (locs : List Loc) (ls : Array Slot), va_P D cls (mw md mc b.1) H → va_D A (mw md mc b.1) → va_S A s.heap H locs → lv_has ls 7 [(0, .ref (md 100)), (1, .int b.2)] → W p l e ({ frames := 3, cells := 0, slots := 0, locals := 67 }) s m args below meth c H locs 0 0 Q (F0 m 92 ls [])) : ∀ (H : Heap) (locs : List Loc) (ls : Array Slot), va_P D cls (mw md mc S) H → va_D A (mw md mc S) → va_S A s.heap H locs → lv_has ls 7 [(0, .ref (md 100)), (1, .int x1), (2, .int x2)] → W p l e ({ frames := 3, cells := 0, slots := 0, locals := 67 }) s m args below meth c H locs 0 0 Q (F0 m 59 ls []) := by
  intro H locs ls hP hD hS hl
  obtain ⟨hx, hb, hr, hml, hown, hts, hK, hA⟩ := id hC
  unfold m_rsaveOp_B59 at Heq
  refine lv_iload_n hx hb d_rsaveOp_59 rfl (lv_at hl 2 rfl) ?_
  refine lv_aload_n hx hb d_rsaveOp_60 rfl (lv_at hl 0 rfl) ?_
  refine va_get (D := D) (ci := 12) (v := .ref (md 15)) (C := R_MM) (T := F_MM) (N := 77) hx hb hts i_MM hown hK hP 0 rfl rfl 15 (by decide) (hts _ kw_1397) (fun _ h9 => h9) rfl d_rsaveOp_61 ?_
  refine lv_iload_n hx hb d_rsaveOp_64 rfl (lv_at hl 1 rfl) ?_
  obtain ⟨hi_1, Heq⟩ := gd_some Heq
  refine va_iald hx hb hK hP 11 0 rfl rfl (i := x1) hi_1 d_rsaveOp_65 ?_
  refine w_i (y := S.a 15 x1.toNatClampNeg) rfl ?_
  refine lv_icmp_ge (tgt := 92) hx hb d_rsaveOp_66 (by decide) (fun c_2 => ?_) (fun c_2 => ?_)
  · replace Heq := (if_pos c_2).symm.trans Heq
    exact K0 _ (Option.some.inj Heq).symm _ _ _ hP hD hS (lv_sub hl [0, 1] rfl)
  · replace Heq := (if_neg c_2).symm.trans Heq
    refine lv_aload_n hx hb d_rsaveOp_69 rfl (lv_at hl 0 rfl) ?_
    refine lv_aload_n hx hb d_rsaveOp_70 rfl (lv_at hl 0 rfl) ?_
    refine va_get (D := D) (ci := 12) (v := .ref (md 26)) (C := R_MM) (T := F_MM) (N := 77) hx hb hts i_MM hown hK hP 0 rfl rfl 26 (by decide) (hts _ kw_1408) (fun _ h9 => h9) rfl d_rsaveOp_71 ?_
    refine lv_aload_n hx hb d_rsaveOp_74 rfl (lv_at hl 0 rfl) ?_
    refine va_get (D := D) (ci := 12) (v := .ref (md 14)) (C := R_MM) (T := F_MM) (N := 77) hx hb hts i_MM hown hK hP 0 rfl rfl 14 (by decide) (hts _ kw_1396) (fun _ h9 => h9) rfl d_rsaveOp_75 ?_
    refine lv_iload_n hx hb d_rsaveOp_78 rfl (lv_at hl 1 rfl) ?_
    obtain ⟨hi_3, Heq⟩ := gd_some Heq
    refine va_iald hx hb hK hP 10 0 rfl rfl (i := x1) hi_3 d_rsaveOp_79 ?_
    refine w_i (y := S.a 14 x1.toNatClampNeg) rfl ?_
    refine lv_iload_n hx hb d_rsaveOp_80 rfl (lv_at hl 2 rfl) ?_
    refine lv_iadd hx hb d_rsaveOp_81 ?_
    refine w_i (y := (S.a 14 x1.toNatClampNeg) + x2) rfl ?_
    obtain ⟨hi_4, Heq⟩ := gd_some Heq
    refine va_bald hx hb hK hP 20 1 rfl rfl (i := (S.a 14 x1.toNatClampNeg) + x2) hi_4 d_rsaveOp_82 ?_
    refine w_i (y := S.a 26 (((S.a 14 x1.toNatClampNeg) + x2).toNatClampNeg)) rfl ?_
    obtain ⟨o_5, h_6, Heq⟩ := ob_some Heq
    have hFc := fr_all hD hS hA
    refine va_callv (va_runV (As := [.int (S.a 26 (((S.a 14 x1.toNatClampNeg) + x2).toNatClampNeg))]) (rest := []) ⟨hx, hb, hml, hown, hts⟩ (g_rwrite l D H.size h_6) (cw_v 1 hts kw_1918 kw_1915 kw_1917 kp_76 kw_11 rfl rfl (by decide +kernel) ⟨Nat.le_of_ble_eq_true rfl, Nat.le_of_ble_eq_true rfl⟩) ⟨g_blind, va_recv hK hP (ci := 12) (q0 := 0) rfl rfl, fun U hU hW => g_pre hU hW hP hK hD⟩ rfl rfl hl.1 rfl (lv_room (Nat.le_of_ble_eq_true rfl)) d_rsaveOp_83 ⟨Nat.le_of_ble_eq_true rfl, Nat.le_of_ble_eq_true rfl⟩) hS (fun q _ h => hFc q h) hFc (fun u t H1 locs ht hvm hw hB hz1 hk1 hS => ?_)
    obtain ⟨hP, -, hD1⟩ := hB
    rw [ht] at hP
    have hD := hD1.weaken (fun _ q _ h => hFc q.1 h)
    generalize H1 = H at hP hS ⊢
    refine W.cs (cells' := 0) (slots' := 0) rfl rfl ?_
    refine lv_iinc (v := x2 + 1) (lv' := [(2, .int (x2 + 1)), (0, .ref (md 100)), (1, .int x1)]) hx hb d_rsaveOp_86 hl (k := 2) rfl rfl (by decide) rfl (fun ls hl => ?_)
    refine lv_goto (tgt := 59) hx hb d_rsaveOp_89 (by decide) ?_
    exact Ka _ (Option.some.inj Heq).symm _ _ _ hP hD hS (lv_sub hl [1, 2, 0] rfl)
def m_rsaveOp_L59 (S : MS) (x1 : Int32) (x2 : Int32) : Option (MS × Int32) := lp (fun a : MS × Int32 × Int32 => m_rsaveOp_B59 a.1 a.2.1 a.2.2) FU (S, x1, x2)
theorem w_rsaveOp_L59 {p : Program} {l : Launch} {e : Env} {s : State} {m : MethodId} {args : Array Value} {below : List Frame} {meth : Method} {c : Code} {A : Nat → Prop} {D : va_G} {md : Nat → Nat} {mc : Nat → ClassId} {Q : State → Prop} (hC : MCx "JoinedTreesModel" prog_14_method_85_code 7 none p s m args meth c A D mc) {S : MS} {x1 : Int32} {x2 : Int32} {o : MS × Int32} (Heq : m_rsaveOp_L59 S x1 x2 = some o) (K0 : ∀ b : MS × Int32, o = b → ∀ (H : Heap) (locs : List Loc) (ls : Array Slot), va_P D cls (mw md mc b.1) H → va_D A (mw md mc b.1) → va_S A s.heap H locs → lv_has ls 7 [(0, .ref (md 100)), (1, .int b.2)] → W p l e ({ frames := 3, cells := 0, slots := 0, locals := 67 }) s m args below meth c H locs 0 0 Q (F0 m 92 ls [])) : ∀ (H : Heap) (locs : List Loc) (ls : Array Slot), va_P D cls (mw md mc S) H → va_D A (mw md mc S) → va_S A s.heap H locs → lv_has ls 7 [(0, .ref (md 100)), (1, .int x1), (2, .int x2)] → W p l e ({ frames := 3, cells := 0, slots := 0, locals := 67 }) s m args below meth c H locs 0 0 Q (F0 m 59 ls []) := by
  refine lp_w (G := fun a : MS × Int32 × Int32 => ∀ (H : Heap) (locs : List Loc) (ls : Array Slot), va_P D cls (mw md mc a.1) H → va_D A (mw md mc a.1) → va_S A s.heap H locs → lv_has ls 7 [(0, .ref (md 100)), (1, .int a.2.1), (2, .int a.2.2)] → W p l e ({ frames := 3, cells := 0, slots := 0, locals := 67 }) s m args below meth c H locs 0 0 Q (F0 m 59 ls [])) ?_ FU (S, x1, x2) Heq
  intro a o1 ho Ka Ke
  exact w_rsaveOp_B59 hC ho (fun b h => Ka b h) (fun b h => K0 b (Ke _ h).symm)
def m_rsaveOp_J33 (S : MS) (x1 : Int32) (t0 : Int32) (t1 : Int32) : Option MS := ob (m_rwrite S (t1 + t0)) (fun o_1 => gd x1 4000 ((if o_1.a 15 x1.toNatClampNeg ≤ 0 then gd x1 4000 (ob (m_rgroup o_1 ((o_1.a 10 x1.toNatClampNeg).toInt64)) (fun o_6 => m_rsaveOp_J106 o_6 x1)) else gd x1 4000 (ob (m_rgroup o_1 ((o_1.a 15 x1.toNatClampNeg).toInt64)) (fun o_9 => ob (m_rsaveOp_L59 o_9 x1 0) (fun b_11 => m_rsaveOp_J106 b_11.1 b_11.2))))))
theorem d_rsaveOp_92 : decode prog_14_method_85_code 92 = .ok (.goto 14, 3) := by decide +kernel
set_option maxHeartbeats 4000000 in
set_option maxRecDepth 100000 in
theorem w_rsaveOp_J33 {p : Program} {l : Launch} {e : Env} {s : State} {m : MethodId} {args : Array Value} {below : List Frame} {meth : Method} {c : Code} {A : Nat → Prop} {D : va_G} {md : Nat → Nat} {mc : Nat → ClassId} {Q : State → Prop} (hC : MCx "JoinedTreesModel" prog_14_method_85_code 7 none p s m args meth c A D mc) {S : MS} {x1 : Int32} {t0 : Int32} {t1 : Int32} {o : MS} (Heq : m_rsaveOp_J33 S x1 t0 t1 = some o) (Kr : ∀ r : MS, o = r → ∀ (pc : Nat) (H : Heap) (locs : List Loc) (ls : Array Slot), decode prog_14_method_85_code pc = .ok (.return_, 1) → va_P D cls (mw md mc r) H → va_D A (mw md mc r) → va_S A s.heap H locs → W p l e ({ frames := 3, cells := 0, slots := 0, locals := 67 }) s m args below meth c H locs 0 0 Q (F0 m pc ls [])) : ∀ (H : Heap) (locs : List Loc) (ls : Array Slot), va_P D cls (mw md mc S) H → va_D A (mw md mc S) → va_S A s.heap H locs → lv_has ls 7 [(0, .ref (md 100)), (1, .int x1)] → W p l e ({ frames := 3, cells := 0, slots := 0, locals := 67 }) s m args below meth c H locs 0 0 Q (F0 m 33 ls [.int t0, .int t1, .ref (md 100)]) := by
  intro H locs ls hP hD hS hl
  obtain ⟨hx, hb, hr, hml, hown, hts, hK, hA⟩ := id hC
  unfold m_rsaveOp_J33 at Heq
  refine lv_iadd hx hb d_rsaveOp_33 ?_
  refine w_i (y := t1 + t0) rfl ?_
  obtain ⟨o_1, h_2, Heq⟩ := ob_some Heq
  have hFc := fr_all hD hS hA
  refine va_callv (va_runV (As := [.int (t1 + t0)]) (rest := []) ⟨hx, hb, hml, hown, hts⟩ (g_rwrite l D H.size h_2) (cw_v 1 hts kw_1918 kw_1915 kw_1917 kp_76 kw_11 rfl rfl (by decide +kernel) ⟨Nat.le_of_ble_eq_true rfl, Nat.le_of_ble_eq_true rfl⟩) ⟨g_blind, va_recv hK hP (ci := 12) (q0 := 0) rfl rfl, fun U hU hW => g_pre hU hW hP hK hD⟩ rfl rfl hl.1 rfl (lv_room (Nat.le_of_ble_eq_true rfl)) d_rsaveOp_34 ⟨Nat.le_of_ble_eq_true rfl, Nat.le_of_ble_eq_true rfl⟩) hS (fun q _ h => hFc q h) hFc (fun u t H1 locs ht hvm hw hB hz1 hk1 hS => ?_)
  obtain ⟨hP, -, hD1⟩ := hB
  rw [ht] at hP
  have hD := hD1.weaken (fun _ q _ h => hFc q.1 h)
  generalize H1 = H at hP hS ⊢
  refine W.cs (cells' := 0) (slots' := 0) rfl rfl ?_
  refine lv_aload_n hx hb d_rsaveOp_37 rfl (lv_at hl 0 rfl) ?_
  refine va_get (D := D) (ci := 12) (v := .ref (md 15)) (C := R_MM) (T := F_MM) (N := 77) hx hb hts i_MM hown hK hP 0 rfl rfl 15 (by decide) (hts _ kw_1397) (fun _ h9 => h9) rfl d_rsaveOp_38 ?_
  refine lv_iload_n hx hb d_rsaveOp_41 rfl (lv_at hl 1 rfl) ?_
  obtain ⟨hi_3, Heq⟩ := gd_some Heq
  refine va_iald hx hb hK hP 11 0 rfl rfl (i := x1) hi_3 d_rsaveOp_42 ?_
  refine w_i (y := o_1.a 15 x1.toNatClampNeg) rfl ?_
  refine lv_if_le (tgt := 95) hx hb d_rsaveOp_43 (by decide) (fun c_4 => ?_) (fun c_4 => ?_)
  · replace Heq := (if_pos c_4).symm.trans Heq
    refine lv_aload_n hx hb d_rsaveOp_95 rfl (lv_at hl 0 rfl) ?_
    refine lv_aload_n hx hb d_rsaveOp_96 rfl (lv_at hl 0 rfl) ?_
    refine va_get (D := D) (ci := 12) (v := .ref (md 10)) (C := R_MM) (T := F_MM) (N := 77) hx hb hts i_MM hown hK hP 0 rfl rfl 10 (by decide) (hts _ kw_1392) (fun _ h9 => h9) rfl d_rsaveOp_97 ?_
    refine lv_iload_n hx hb d_rsaveOp_100 rfl (lv_at hl 1 rfl) ?_
    obtain ⟨hi_5, Heq⟩ := gd_some Heq
    refine va_iald hx hb hK hP 6 0 rfl rfl (i := x1) hi_5 d_rsaveOp_101 ?_
    refine w_i (y := o_1.a 10 x1.toNatClampNeg) rfl ?_
    refine lv_i2l hx hb d_rsaveOp_102 rfl ?_
    refine w_l (y := (o_1.a 10 x1.toNatClampNeg).toInt64) rfl ?_
    obtain ⟨o_6, h_7, Heq⟩ := ob_some Heq
    have hFc := fr_all hD hS hA
    refine va_callv (va_runV (As := [.long ((o_1.a 10 x1.toNatClampNeg).toInt64)]) (rest := []) ⟨hx, hb, hml, hown, hts⟩ (g_rgroup l D H.size h_7) (cw_v 1 hts kw_1950 kw_1947 kw_1949 kp_82 kw_11 rfl rfl (by decide +kernel) ⟨Nat.le_of_ble_eq_true rfl, Nat.le_of_ble_eq_true rfl⟩) ⟨g_blind, va_recv hK hP (ci := 12) (q0 := 0) rfl rfl, fun U hU hW => g_pre hU hW hP hK hD⟩ rfl rfl hl.1 rfl (lv_room (Nat.le_of_ble_eq_true rfl)) d_rsaveOp_103 ⟨Nat.le_of_ble_eq_true rfl, Nat.le_of_ble_eq_true rfl⟩) hS (fun q _ h => hFc q h) hFc (fun u t H1 locs ht hvm hw hB hz1 hk1 hS => ?_)
    obtain ⟨hP, -, hD1⟩ := hB
    rw [ht] at hP
    have hD := hD1.weaken (fun _ q _ h => hFc q.1 h)
    generalize H1 = H at hP hS ⊢
    refine W.cs (cells' := 0) (slots' := 0) rfl rfl ?_
    exact w_rsaveOp_J106 hC Heq Kr _ _ _ hP hD hS (lv_sub hl [0, 1] rfl)
  · replace Heq := (if_neg c_4).symm.trans Heq
    refine lv_aload_n hx hb d_rsaveOp_46 rfl (lv_at hl 0 rfl) ?_
    refine lv_aload_n hx hb d_rsaveOp_47 rfl (lv_at hl 0 rfl) ?_
    refine va_get (D := D) (ci := 12) (v := .ref (md 15)) (C := R_MM) (T := F_MM) (N := 77) hx hb hts i_MM hown hK hP 0 rfl rfl 15 (by decide) (hts _ kw_1397) (fun _ h9 => h9) rfl d_rsaveOp_48 ?_
    refine lv_iload_n hx hb d_rsaveOp_51 rfl (lv_at hl 1 rfl) ?_
    obtain ⟨hi_8, Heq⟩ := gd_some Heq
    refine va_iald hx hb hK hP 11 0 rfl rfl (i := x1) hi_8 d_rsaveOp_52 ?_
    refine w_i (y := o_1.a 15 x1.toNatClampNeg) rfl ?_
    refine lv_i2l hx hb d_rsaveOp_53 rfl ?_
    refine w_l (y := (o_1.a 15 x1.toNatClampNeg).toInt64) rfl ?_
    obtain ⟨o_9, h_10, Heq⟩ := ob_some Heq
    have hFc := fr_all hD hS hA
    refine va_callv (va_runV (As := [.long ((o_1.a 15 x1.toNatClampNeg).toInt64)]) (rest := []) ⟨hx, hb, hml, hown, hts⟩ (g_rgroup l D H.size h_10) (cw_v 1 hts kw_1950 kw_1947 kw_1949 kp_82 kw_11 rfl rfl (by decide +kernel) ⟨Nat.le_of_ble_eq_true rfl, Nat.le_of_ble_eq_true rfl⟩) ⟨g_blind, va_recv hK hP (ci := 12) (q0 := 0) rfl rfl, fun U hU hW => g_pre hU hW hP hK hD⟩ rfl rfl hl.1 rfl (lv_room (Nat.le_of_ble_eq_true rfl)) d_rsaveOp_54 ⟨Nat.le_of_ble_eq_true rfl, Nat.le_of_ble_eq_true rfl⟩) hS (fun q _ h => hFc q h) hFc (fun u t H1 locs ht hvm hw hB hz1 hk1 hS => ?_)
    obtain ⟨hP, -, hD1⟩ := hB
    rw [ht] at hP
    have hD := hD1.weaken (fun _ q _ h => hFc q.1 h)
    generalize H1 = H at hP hS ⊢
    refine W.cs (cells' := 0) (slots' := 0) rfl rfl ?_
    refine lv_iconst (v := 0) hx hb d_rsaveOp_57 (by decide) ?_
    refine lv_istore_n (lv' := [(2, .int 0), (0, .ref (md 100)), (1, .int x1)]) hx hb d_rsaveOp_58 rfl hl (by decide) rfl (fun ls hl => ?_)
    obtain ⟨b_11, h_12, Heq⟩ := ob_some Heq
    refine w_rsaveOp_L59 hC h_12 (fun b h => ?_) _ _ _ hP hD hS (lv_sub hl [1, 2, 0] rfl)
    subst h
    intro H locs ls hP hD hS hl
    refine lv_goto (tgt := 106) hx hb d_rsaveOp_92 (by decide) ?_
    exact w_rsaveOp_J106 hC Heq Kr _ _ _ hP hD hS (lv_sub hl [0, 1] rfl)
def m_rsaveOp_J0 (S : MS) (x1 : Int32) : Option MS := gd x1 4000 (ob (m_rgroup S ((S.a 9 x1.toNatClampNeg).toInt64)) (fun o_2 => gd x1 4000 (gd x1 4000 ((if o_2.a 20 x1.toNatClampNeg = 0 then m_rsaveOp_J33 o_2 x1 0 (o_2.a 11 x1.toNatClampNeg) else m_rsaveOp_J33 o_2 x1 16 (o_2.a 11 x1.toNatClampNeg))))))
theorem d_rsaveOp_27 : decode prog_14_method_85_code 27 = .ok (.bipush 16, 2) := by decide +kernel
theorem d_rsaveOp_29 : decode prog_14_method_85_code 29 = .ok (.goto 4, 3) := by decide +kernel
set_option maxHeartbeats 4000000 in
set_option maxRecDepth 100000 in
theorem w_rsaveOp_J0 {p : Program} {l : Launch} {e : Env} {s : State} {m : MethodId} {args : Array Value} {below : List Frame} {meth : Method} {c : Code} {A : Nat → Prop} {D : va_G} {md : Nat → Nat} {mc : Nat → ClassId} {Q : State → Prop} (hC : MCx "JoinedTreesModel" prog_14_method_85_code 7 none p s m args meth c A D mc) {S : MS} {x1 : Int32} {o : MS} (Heq : m_rsaveOp_J0 S x1 = some o) (Kr : ∀ r : MS, o = r → ∀ (pc : Nat) (H : Heap) (locs : List Loc) (ls : Array Slot), decode prog_14_method_85_code pc = .ok (.return_, 1) → va_P D cls (mw md mc r) H → va_D A (mw md mc r) → va_S A s.heap H locs → W p l e ({ frames := 3, cells := 0, slots := 0, locals := 67 }) s m args below meth c H locs 0 0 Q (F0 m pc ls [])) : ∀ (H : Heap) (locs : List Loc) (ls : Array Slot), va_P D cls (mw md mc S) H → va_D A (mw md mc S) → va_S A s.heap H locs → lv_has ls 7 [(0, .ref (md 100)), (1, .int x1)] → W p l e ({ frames := 3, cells := 0, slots := 0, locals := 67 }) s m args below meth c H locs 0 0 Q (F0 m 0 ls []) := by
  intro H locs ls hP hD hS hl
  obtain ⟨hx, hb, hr, hml, hown, hts, hK, hA⟩ := id hC
  unfold m_rsaveOp_J0 at Heq
  refine lv_aload_n hx hb d_rsaveOp_0 rfl (lv_at hl 0 rfl) ?_
  refine lv_aload_n hx hb d_rsaveOp_1 rfl (lv_at hl 0 rfl) ?_
  refine va_get (D := D) (ci := 12) (v := .ref (md 9)) (C := R_MM) (T := F_MM) (N := 77) hx hb hts i_MM hown hK hP 0 rfl rfl 9 (by decide) (hts _ kw_1391) (fun _ h9 => h9) rfl d_rsaveOp_2 ?_
  refine lv_iload_n hx hb d_rsaveOp_5 rfl (lv_at hl 1 rfl) ?_
  obtain ⟨hi_1, Heq⟩ := gd_some Heq
  refine va_iald hx hb hK hP 5 0 rfl rfl (i := x1) hi_1 d_rsaveOp_6 ?_
  refine w_i (y := S.a 9 x1.toNatClampNeg) rfl ?_
  refine lv_i2l hx hb d_rsaveOp_7 rfl ?_
  refine w_l (y := (S.a 9 x1.toNatClampNeg).toInt64) rfl ?_
  obtain ⟨o_2, h_3, Heq⟩ := ob_some Heq
  have hFc := fr_all hD hS hA
  refine va_callv (va_runV (As := [.long ((S.a 9 x1.toNatClampNeg).toInt64)]) (rest := []) ⟨hx, hb, hml, hown, hts⟩ (g_rgroup l D H.size h_3) (cw_v 1 hts kw_1950 kw_1947 kw_1949 kp_82 kw_11 rfl rfl (by decide +kernel) ⟨Nat.le_of_ble_eq_true rfl, Nat.le_of_ble_eq_true rfl⟩) ⟨g_blind, va_recv hK hP (ci := 12) (q0 := 0) rfl rfl, fun U hU hW => g_pre hU hW hP hK hD⟩ rfl rfl hl.1 rfl (lv_room (Nat.le_of_ble_eq_true rfl)) d_rsaveOp_8 ⟨Nat.le_of_ble_eq_true rfl, Nat.le_of_ble_eq_true rfl⟩) hS (fun q _ h => hFc q h) hFc (fun u t H1 locs ht hvm hw hB hz1 hk1 hS => ?_)
  obtain ⟨hP, -, hD1⟩ := hB
  rw [ht] at hP
  have hD := hD1.weaken (fun _ q _ h => hFc q.1 h)
  generalize H1 = H at hP hS ⊢
  refine W.cs (cells' := 0) (slots' := 0) rfl rfl ?_
  refine lv_aload_n hx hb d_rsaveOp_11 rfl (lv_at hl 0 rfl) ?_
  refine lv_aload_n hx hb d_rsaveOp_12 rfl (lv_at hl 0 rfl) ?_
  refine va_get (D := D) (ci := 12) (v := .ref (md 11)) (C := R_MM) (T := F_MM) (N := 77) hx hb hts i_MM hown hK hP 0 rfl rfl 11 (by decide) (hts _ kw_1393) (fun _ h9 => h9) rfl d_rsaveOp_13 ?_
  refine lv_iload_n hx hb d_rsaveOp_16 rfl (lv_at hl 1 rfl) ?_
  obtain ⟨hi_4, Heq⟩ := gd_some Heq
  refine va_iald hx hb hK hP 7 0 rfl rfl (i := x1) hi_4 d_rsaveOp_17 ?_
  refine w_i (y := o_2.a 11 x1.toNatClampNeg) rfl ?_
  refine lv_aload_n hx hb d_rsaveOp_18 rfl (lv_at hl 0 rfl) ?_
  refine va_get (D := D) (ci := 12) (v := .ref (md 20)) (C := R_MM) (T := F_MM) (N := 77) hx hb hts i_MM hown hK hP 0 rfl rfl 20 (by decide) (hts _ kw_1402) (fun _ h9 => h9) rfl d_rsaveOp_19 ?_
  refine lv_iload_n hx hb d_rsaveOp_22 rfl (lv_at hl 1 rfl) ?_
  obtain ⟨hi_5, Heq⟩ := gd_some Heq
  refine va_zald hx hb hK hP 16 2 rfl rfl (i := x1) hi_5 d_rsaveOp_23 ?_
  refine w_i (y := o_2.a 20 x1.toNatClampNeg) rfl ?_
  refine lv_if_eq (tgt := 32) hx hb d_rsaveOp_24 (by decide) (fun c_6 => ?_) (fun c_6 => ?_)
  · replace Heq := (if_pos c_6).symm.trans Heq
    refine lv_iconst (v := 0) hx hb d_rsaveOp_32 (by decide) ?_
    exact w_rsaveOp_J33 hC Heq Kr _ _ _ hP hD hS (lv_sub hl [0, 1] rfl)
  · replace Heq := (if_neg c_6).symm.trans Heq
    refine lv_bipush (v := 16) hx hb d_rsaveOp_27 (by decide) ?_
    refine lv_goto (tgt := 33) hx hb d_rsaveOp_29 (by decide) ?_
    exact w_rsaveOp_J33 hC Heq Kr _ _ _ hP hD hS (lv_sub hl [0, 1] rfl)
def m_rsaveOp (S : MS) (x1 : Int32) : Option MS := m_rsaveOp_J0 S x1
theorem g_rsaveOp (l : Launch) (D : va_G) (sz : Nat) {md : Nat → Nat} {mc : Nat → ClassId} {S : MS} {x1 : Int32} {o : MS} (Heq : m_rsaveOp S x1 = some o) : Met l ⟨"JoinedTreesModel", "saveOp", "(I)V"⟩ (Cond.code ⟨"JoinedTreesModel", "saveOp", "(I)V"⟩ prog_14_method_85_code 7 none :: gb) ({ frames := 3, cells := 0, slots := 0, locals := 67 }) (gPc D (mw md mc S) (mty mc) sz [.ref (md 100), .int x1]) (va_Qv (fun _ : Unit => True) (fun _ t => gO D (mw md mc o) (mty mc) (va_A (mw md mc S) sz) t) (va_A (mw md mc S) sz)) 0 0 (va_A (mw md mc S) sz) := by
  refine Met.ofW (cc := prog_14_method_85_code) (maxL := 7) (ret := none) (by decide) rfl ?_
  intro p e s m args below meth c s₁ B hml hv
  obtain ⟨rfl, hsz, hP, hK, hD0⟩ := hv
  have hx := B.exec
  have hb := B.bytes
  have hr := B.returns
  have hts : ∀ w9 ∈ gb, w9.before [.ref (md 100), .int x1].toArray s = true := fun w9 h => atoms_spec (ws := Cond.code ⟨"JoinedTreesModel", "saveOp", "(I)V"⟩ prog_14_method_85_code 7 none :: gb) B.pre w9 (List.mem_cons_of_mem _ h)
  have hown : s.vm.findClass "JoinedTreesModel" = some m.cls := findClass_of_methodNamed B.named
  have hlocks := B.notSynchronized
  subst hsz
  have hD := hD0.self (sz := s.heap.size)
  generalize hAe : va_A (mw md mc S) s.heap.size = A at hD ⊢
  have hA : ∀ q : Nat, s.heap.size ≤ q → A q := fun q h => by rw [← hAe]; exact Or.inr h
  have hS : va_S A s.heap s.heap [] := va_S.rf
  have hl := lv_entry ([.ref (md 100), .int x1]) (n := 7) (Nat.le_of_ble_eq_true rfl)
  rw [lg_entry_eq]
  generalize (lg_sl ([.ref (md 100), .int x1]) ++ List.replicate (7 - (lg_sl ([.ref (md 100), .int x1])).length) Slot.unset).toArray = ls at hl ⊢
  have hl : lv_has ls 7 [(0, .ref (md 100)), (1, .int x1)] := hl
  refine w_rsaveOp_J0 ⟨hx, hb, hr, hml, hown, hts, hK, hA⟩ Heq (fun r h pc H locs ls hd hP hD hS => ?_) _ _ _ hP hD hS (lv_sub hl [0, 1] rfl)
  subst h
  exact W.vret hx hb hr (fun t ht hW => ⟨⟨(), rfl, trivial, by rw [ht]; exact hP, va_K.moved hW.alike hK, hD⟩, hS.F ht⟩) hS.2.2 hd
def m_rsaveChange_J114 (S : MS) (x1 : Int32) (x2 : Int32) (x3 : Int32) (x4 : Int32) (x5 : Int32) : Option ((MS × Int32 × Int32 × Int32 × Int32 × Int32) ⊕ (MS × Int32 × Int32 × Int32)) := some (.inl (S, x1, x2, x3, x4, (x5 + 1)))
theorem d_rsaveChange_0 : decode prog_14_method_86_code 0 = .ok (.aload_n 0, 1) := by decide +kernel
theorem d_rsaveChange_1 : decode prog_14_method_86_code 1 = .ok (.aload_n 0, 1) := by decide +kernel
theorem d_rsaveChange_2 : decode prog_14_method_86_code 2 = .ok (.getfield 78, 3) := by decide +kernel
theorem d_rsaveChange_5 : decode prog_14_method_86_code 5 = .ok (.iload_n 1, 1) := by decide +kernel
theorem d_rsaveChange_6 : decode prog_14_method_86_code 6 = .ok (.iaload, 1) := by decide +kernel
theorem d_rsaveChange_7 : decode prog_14_method_86_code 7 = .ok (.i2l, 1) := by decide +kernel
theorem d_rsaveChange_8 : decode prog_14_method_86_code 8 = .ok (.invokevirtual 474, 3) := by decide +kernel
theorem d_rsaveChange_11 : decode prog_14_method_86_code 11 = .ok (.aload_n 0, 1) := by decide +kernel
theorem d_rsaveChange_12 : decode prog_14_method_86_code 12 = .ok (.aload_n 0, 1) := by decide +kernel
theorem d_rsaveChange_13 : decode prog_14_method_86_code 13 = .ok (.getfield 81, 3) := by decide +kernel
theorem d_rsaveChange_16 : decode prog_14_method_86_code 16 = .ok (.iload_n 1, 1) := by decide +kernel
theorem d_rsaveChange_17 : decode prog_14_method_86_code 17 = .ok (.iaload, 1) := by decide +kernel
theorem d_rsaveChange_18 : decode prog_14_method_86_code 18 = .ok (.i2l, 1) := by decide +kernel
theorem d_rsaveChange_19 : decode prog_14_method_86_code 19 = .ok (.invokevirtual 474, 3) := by decide +kernel
theorem d_rsaveChange_22 : decode prog_14_method_86_code 22 = .ok (.aload_n 0, 1) := by decide +kernel
theorem d_rsaveChange_23 : decode prog_14_method_86_code 23 = .ok (.aload_n 0, 1) := by decide +kernel
theorem d_rsaveChange_24 : decode prog_14_method_86_code 24 = .ok (.getfield 87, 3) := by decide +kernel
theorem d_rsaveChange_27 : decode prog_14_method_86_code 27 = .ok (.iload_n 1, 1) := by decide +kernel
theorem d_rsaveChange_28 : decode prog_14_method_86_code 28 = .ok (.iaload, 1) := by decide +kernel
theorem d_rsaveChange_29 : decode prog_14_method_86_code 29 = .ok (.i2l, 1) := by decide +kernel
theorem d_rsaveChange_30 : decode prog_14_method_86_code 30 = .ok (.invokevirtual 474, 3) := by decide +kernel
theorem d_rsaveChange_33 : decode prog_14_method_86_code 33 = .ok (.iconst 0, 1) := by decide +kernel
theorem d_rsaveChange_34 : decode prog_14_method_86_code 34 = .ok (.istore_n 2, 1) := by decide +kernel
theorem d_rsaveChange_35 : decode prog_14_method_86_code 35 = .ok (.iload_n 2, 1) := by decide +kernel
theorem d_rsaveChange_36 : decode prog_14_method_86_code 36 = .ok (.bipush 8, 2) := by decide +kernel
theorem d_rsaveChange_38 : decode prog_14_method_86_code 38 = .ok (.if_icmp .ge 94, 3) := by decide +kernel
theorem d_rsaveChange_41 : decode prog_14_method_86_code 41 = .ok (.iconst 1, 1) := by decide +kernel
theorem d_rsaveChange_42 : decode prog_14_method_86_code 42 = .ok (.istore_n 3, 1) := by decide +kernel
theorem d_rsaveChange_43 : decode prog_14_method_86_code 43 = .ok (.iload_n 3, 1) := by decide +kernel
theorem d_rsaveChange_44 : decode prog_14_method_86_code 44 = .ok (.sipush 1000, 3) := by decide +kernel
theorem d_rsaveChange_47 : decode prog_14_method_86_code 47 = .ok (.if_icmp .gt 79, 3) := by decide +kernel
theorem d_rsaveChange_50 : decode prog_14_method_86_code 50 = .ok (.aload_n 0, 1) := by decide +kernel
theorem d_rsaveChange_51 : decode prog_14_method_86_code 51 = .ok (.iload_n 2, 1) := by decide +kernel
theorem d_rsaveChange_52 : decode prog_14_method_86_code 52 = .ok (.iload_n 3, 1) := by decide +kernel
theorem d_rsaveChange_53 : decode prog_14_method_86_code 53 = .ok (.invokevirtual 399, 3) := by decide +kernel
theorem d_rsaveChange_56 : decode prog_14_method_86_code 56 = .ok (.istore 4, 2) := by decide +kernel
theorem d_rsaveChange_58 : decode prog_14_method_86_code 58 = .ok (.iload 4, 2) := by decide +kernel
theorem d_rsaveChange_60 : decode prog_14_method_86_code 60 = .ok (.ifCond .ge 6, 3) := by decide +kernel
theorem d_rsaveChange_66 : decode prog_14_method_86_code 66 = .ok (.iconst 0, 1) := by decide +kernel
theorem d_rsaveChange_67 : decode prog_14_method_86_code 67 = .ok (.istore 5, 2) := by decide +kernel
theorem d_rsaveChange_69 : decode prog_14_method_86_code 69 = .ok (.iload 5, 2) := by decide +kernel
theorem d_rsaveChange_71 : decode prog_14_method_86_code 71 = .ok (.aload_n 0, 1) := by decide +kernel
theorem d_rsaveChange_72 : decode prog_14_method_86_code 72 = .ok (.getfield 87, 3) := by decide +kernel
theorem d_rsaveChange_75 : decode prog_14_method_86_code 75 = .ok (.iload_n 1, 1) := by decide +kernel
theorem d_rsaveChange_76 : decode prog_14_method_86_code 76 = .ok (.iaload, 1) := by decide +kernel
theorem d_rsaveChange_77 : decode prog_14_method_86_code 77 = .ok (.if_icmp .ge 43, 3) := by decide +kernel
theorem d_rsaveChange_80 : decode prog_14_method_86_code 80 = .ok (.aload_n 0, 1) := by decide +kernel
theorem d_rsaveChange_81 : decode prog_14_method_86_code 81 = .ok (.getfield 90, 3) := by decide +kernel
theorem d_rsaveChange_84 : decode prog_14_method_86_code 84 = .ok (.aload_n 0, 1) := by decide +kernel
theorem d_rsaveChange_85 : decode prog_14_method_86_code 85 = .ok (.getfield 84, 3) := by decide +kernel
theorem d_rsaveChange_88 : decode prog_14_method_86_code 88 = .ok (.iload_n 1, 1) := by decide +kernel
theorem d_rsaveChange_89 : decode prog_14_method_86_code 89 = .ok (.iaload, 1) := by decide +kernel
theorem d_rsaveChange_90 : decode prog_14_method_86_code 90 = .ok (.iload 5, 2) := by decide +kernel
theorem d_rsaveChange_92 : decode prog_14_method_86_code 92 = .ok (.iadd, 1) := by decide +kernel
theorem d_rsaveChange_93 : decode prog_14_method_86_code 93 = .ok (.iaload, 1) := by decide +kernel
theorem d_rsaveChange_94 : decode prog_14_method_86_code 94 = .ok (.iload 4, 2) := by decide +kernel
theorem d_rsaveChange_96 : decode prog_14_method_86_code 96 = .ok (.if_icmp .eq 6, 3) := by decide +kernel
theorem d_rsaveChange_102 : decode prog_14_method_86_code 102 = .ok (.aload_n 0, 1) := by decide +kernel
theorem d_rsaveChange_103 : decode prog_14_method_86_code 103 = .ok (.iload_n 2, 1) := by decide +kernel
theorem d_rsaveChange_104 : decode prog_14_method_86_code 104 = .ok (.i2l, 1) := by decide +kernel
theorem d_rsaveChange_105 : decode prog_14_method_86_code 105 = .ok (.invokevirtual 474, 3) := by decide +kernel
theorem d_rsaveChange_108 : decode prog_14_method_86_code 108 = .ok (.aload_n 0, 1) := by decide +kernel
theorem d_rsaveChange_109 : decode prog_14_method_86_code 109 = .ok (.iload_n 3, 1) := by decide +kernel
theorem d_rsaveChange_110 : decode prog_14_method_86_code 110 = .ok (.i2l, 1) := by decide +kernel
theorem d_rsaveChange_111 : decode prog_14_method_86_code 111 = .ok (.invokevirtual 474, 3) := by decide +kernel
theorem d_rsaveChange_114 : decode prog_14_method_86_code 114 = .ok (.iinc 5 1, 3) := by decide +kernel
theorem d_rsaveChange_117 : decode prog_14_method_86_code 117 = .ok (.goto (-48), 3) := by decide +kernel
set_option maxHeartbeats 4000000 in
set_option maxRecDepth 100000 in
theorem w_rsaveChange_J114 {p : Program} {l : Launch} {e : Env} {s : State} {m : MethodId} {args : Array Value} {below : List Frame} {meth : Method} {c : Code} {A : Nat → Prop} {D : va_G} {md : Nat → Nat} {mc : Nat → ClassId} {Q : State → Prop} (hC : MCx "JoinedTreesModel" prog_14_method_86_code 6 none p s m args meth c A D mc) {S : MS} {x1 : Int32} {x2 : Int32} {x3 : Int32} {x4 : Int32} {x5 : Int32} {o : ((MS × Int32 × Int32 × Int32 × Int32 × Int32) ⊕ (MS × Int32 × Int32 × Int32))} (Heq : m_rsaveChange_J114 S x1 x2 x3 x4 x5 = some o) (Ka : ∀ b : MS × Int32 × Int32 × Int32 × Int32 × Int32, o = .inl b → ∀ (H : Heap) (locs : List Loc) (ls : Array Slot), va_P D cls (mw md mc b.1) H → va_D A (mw md mc b.1) → va_S A s.heap H locs → lv_has ls 6 [(0, .ref (md 100)), (1, .int b.2.1), (2, .int b.2.2.1), (3, .int b.2.2.2.1), (4, .int b.2.2.2.2.1), (5, .int b.2.2.2.2.2)] → W p l e ({ frames := 4, cells := 0, slots := 0, locals := 93 }) s m args below meth c H locs 0 0 Q (F0 m 69 ls [])) (K0 : ∀ b : MS × Int32 × Int32 × Int32, o = .inr b → ∀ (H : Heap) (locs : List Loc) (ls : Array Slot), va_P D cls (mw md mc b.1) H → va_D A (mw md mc b.1) → va_S A s.heap H locs → lv_has ls 6 [(0, .ref (md 100)), (1, .int b.2.1), (2, .int b.2.2.1), (3, .int b.2.2.2)] → W p l e ({ frames := 4, cells := 0, slots := 0, locals := 93 }) s m args below meth c H locs 0 0 Q (F0 m 120 ls [])) : ∀ (H : Heap) (locs : List Loc) (ls : Array Slot), va_P D cls (mw md mc S) H → va_D A (mw md mc S) → va_S A s.heap H locs → lv_has ls 6 [(0, .ref (md 100)), (1, .int x1), (2, .int x2), (3, .int x3), (4, .int x4), (5, .int x5)] → W p l e ({ frames := 4, cells := 0, slots := 0, locals := 93 }) s m args below meth c H locs 0 0 Q (F0 m 114 ls []) := by
  intro H locs ls hP hD hS hl
  obtain ⟨hx, hb, hr, hml, hown, hts, hK, hA⟩ := id hC
  unfold m_rsaveChange_J114 at Heq
  refine lv_iinc (v := x5 + 1) (lv' := [(5, .int (x5 + 1)), (0, .ref (md 100)), (1, .int x1), (2, .int x2), (3, .int x3), (4, .int x4)]) hx hb d_rsaveChange_114 hl (k := 5) rfl rfl (by decide) rfl (fun ls hl => ?_)
  refine lv_goto (tgt := 69) hx hb d_rsaveChange_117 (by decide) ?_
  exact Ka _ (Option.some.inj Heq).symm _ _ _ hP hD hS (lv_sub hl [1, 2, 3, 4, 5, 0] rfl)
def m_rsaveChange_B69 (S : MS) (x1 : Int32) (x2 : Int32) (x3 : Int32) (x4 : Int32) (x5 : Int32) : Option ((MS × Int32 × Int32 × Int32 × Int32 × Int32) ⊕ (MS × Int32 × Int32 × Int32)) := gd x1 1000 ((if S.a 32 x1.toNatClampNeg ≤ x5 then some (.inr (S, x1, x2, x3)) else gd x1 1000 (gd ((S.a 31 x1.toNatClampNeg) + x5) 10000 ((if S.a 33 (((S.a 31 x1.toNatClampNeg) + x5).toNatClampNeg) = x4 then ob (m_rgroup S x2.toInt64) (fun o_6 => ob (m_rgroup o_6 x3.toInt64) (fun o_8 => m_rsaveChange_J114 o_8 x1 x2 x3 x4 x5)) else m_rsaveChange_J114 S x1 x2 x3 x4 x5)))))
theorem d_rsaveChange_99 : decode prog_14_method_86_code 99 = .ok (.goto 15, 3) := by decide +kernel
set_option maxHeartbeats 4000000 in
set_option maxRecDepth 100000 in
theorem w_rsaveChange_B69 {p : Program} {l : Launch} {e : Env} {s : State} {m : MethodId} {args : Array Value} {below : List Frame} {meth : Method} {c : Code} {A : Nat → Prop} {D : va_G} {md : Nat → Nat} {mc : Nat → ClassId} {Q : State → Prop} (hC : MCx "JoinedTreesModel" prog_14_method_86_code 6 none p s m args meth c A D mc) {S : MS} {x1 : Int32} {x2 : Int32} {x3 : Int32} {x4 : Int32} {x5 : Int32} {o : ((MS × Int32 × Int32 × Int32 × Int32 × Int32) ⊕ (MS × Int32 × Int32 × Int32))} (Heq : m_rsaveChange_B69 S x1 x2 x3 x4 x5 = some o) (Ka : ∀ b : MS × Int32 × Int32 × Int32 × Int32 × Int32, o = .inl b → ∀ (H : Heap) (locs : List Loc) (ls : Array Slot), va_P D cls (mw md mc b.1) H → va_D A (mw md mc b.1) → va_S A s.heap H locs → lv_has ls 6 [(0, .ref (md 100)), (1, .int b.2.1), (2, .int b.2.2.1), (3, .int b.2.2.2.1), (4, .int b.2.2.2.2.1), (5, .int b.2.2.2.2.2)] → W p l e ({ frames := 4, cells := 0, slots := 0, locals := 93 }) s m args below meth c H locs 0 0 Q (F0 m 69 ls [])) (K0 : ∀ b : MS × Int32 × Int32 × Int32, o = .inr b → ∀ (H : Heap) (locs : List Loc) (ls : Array Slot), va_P D cls (mw md mc b.1) H → va_D A (mw md mc b.1) → va_S A s.heap H locs → lv_has ls 6 [(0, .ref (md 100)), (1, .int b.2.1), (2, .int b.2.2.1), (3, .int b.2.2.2)] → W p l e ({ frames := 4, cells := 0, slots := 0, locals := 93 }) s m args below meth c H locs 0 0 Q (F0 m 120 ls [])) : ∀ (H : Heap) (locs : List Loc) (ls : Array Slot), va_P D cls (mw md mc S) H → va_D A (mw md mc S) → va_S A s.heap H locs → lv_has ls 6 [(0, .ref (md 100)), (1, .int x1), (2, .int x2), (3, .int x3), (4, .int x4), (5, .int x5)] → W p l e ({ frames := 4, cells := 0, slots := 0, locals := 93 }) s m args below meth c H locs 0 0 Q (F0 m 69 ls []) := by
  intro H locs ls hP hD hS hl
  obtain ⟨hx, hb, hr, hml, hown, hts, hK, hA⟩ := id hC
  unfold m_rsaveChange_B69 at Heq
  refine lv_iload hx hb d_rsaveChange_69 (lv_at hl 5 rfl) ?_
  refine lv_aload_n hx hb d_rsaveChange_71 rfl (lv_at hl 0 rfl) ?_
  refine va_get (D := D) (ci := 12) (v := .ref (md 32)) (C := R_MM) (T := F_MM) (N := 77) hx hb hts i_MM hown hK hP 0 rfl rfl 32 (by decide) (hts _ kw_1414) (fun _ h9 => h9) rfl d_rsaveChange_72 ?_
  refine lv_iload_n hx hb d_rsaveChange_75 rfl (lv_at hl 1 rfl) ?_
  obtain ⟨hi_1, Heq⟩ := gd_some Heq
  refine va_iald hx hb hK hP 25 0 rfl rfl (i := x1) hi_1 d_rsaveChange_76 ?_
  refine w_i (y := S.a 32 x1.toNatClampNeg) rfl ?_
  refine lv_icmp_ge (tgt := 120) hx hb d_rsaveChange_77 (by decide) (fun c_2 => ?_) (fun c_2 => ?_)
  · replace Heq := (if_pos c_2).symm.trans Heq
    exact K0 _ (Option.some.inj Heq).symm _ _ _ hP hD hS (lv_sub hl [0, 1, 2, 3] rfl)
  · replace Heq := (if_neg c_2).symm.trans Heq
    refine lv_aload_n hx hb d_rsaveChange_80 rfl (lv_at hl 0 rfl) ?_
    refine va_get (D := D) (ci := 12) (v := .ref (md 33)) (C := R_MM) (T := F_MM) (N := 77) hx hb hts i_MM hown hK hP 0 rfl rfl 33 (by decide) (hts _ kw_1415) (fun _ h9 => h9) rfl d_rsaveChange_81 ?_
    refine lv_aload_n hx hb d_rsaveChange_84 rfl (lv_at hl 0 rfl) ?_
    refine va_get (D := D) (ci := 12) (v := .ref (md 31)) (C := R_MM) (T := F_MM) (N := 77) hx hb hts i_MM hown hK hP 0 rfl rfl 31 (by decide) (hts _ kw_1413) (fun _ h9 => h9) rfl d_rsaveChange_85 ?_
    refine lv_iload_n hx hb d_rsaveChange_88 rfl (lv_at hl 1 rfl) ?_
    obtain ⟨hi_3, Heq⟩ := gd_some Heq
    refine va_iald hx hb hK hP 24 0 rfl rfl (i := x1) hi_3 d_rsaveChange_89 ?_
    refine w_i (y := S.a 31 x1.toNatClampNeg) rfl ?_
    refine lv_iload hx hb d_rsaveChange_90 (lv_at hl 5 rfl) ?_
    refine lv_iadd hx hb d_rsaveChange_92 ?_
    refine w_i (y := (S.a 31 x1.toNatClampNeg) + x5) rfl ?_
    obtain ⟨hi_4, Heq⟩ := gd_some Heq
    refine va_iald hx hb hK hP 26 0 rfl rfl (i := (S.a 31 x1.toNatClampNeg) + x5) hi_4 d_rsaveChange_93 ?_
    refine w_i (y := S.a 33 (((S.a 31 x1.toNatClampNeg) + x5).toNatClampNeg)) rfl ?_
    refine lv_iload hx hb d_rsaveChange_94 (lv_at hl 4 rfl) ?_
    refine lv_icmp_eq (tgt := 102) hx hb d_rsaveChange_96 (by decide) (fun c_5 => ?_) (fun c_5 => ?_)
    · replace Heq := (if_pos c_5).symm.trans Heq
      refine lv_aload_n hx hb d_rsaveChange_102 rfl (lv_at hl 0 rfl) ?_
      refine lv_iload_n hx hb d_rsaveChange_103 rfl (lv_at hl 2 rfl) ?_
      refine lv_i2l hx hb d_rsaveChange_104 rfl ?_
      refine w_l (y := x2.toInt64) rfl ?_
      obtain ⟨o_6, h_7, Heq⟩ := ob_some Heq
      have hFc := fr_all hD hS hA
      refine va_callv (va_runV (As := [.long x2.toInt64]) (rest := []) ⟨hx, hb, hml, hown, hts⟩ (g_rgroup l D H.size h_7) (cw_v 1 hts kw_1950 kw_1947 kw_1949 kp_82 kw_11 rfl rfl (by decide +kernel) ⟨Nat.le_of_ble_eq_true rfl, Nat.le_of_ble_eq_true rfl⟩) ⟨g_blind, va_recv hK hP (ci := 12) (q0 := 0) rfl rfl, fun U hU hW => g_pre hU hW hP hK hD⟩ rfl rfl hl.1 rfl (lv_room (Nat.le_of_ble_eq_true rfl)) d_rsaveChange_105 ⟨Nat.le_of_ble_eq_true rfl, Nat.le_of_ble_eq_true rfl⟩) hS (fun q _ h => hFc q h) hFc (fun u t H1 locs ht hvm hw hB hz1 hk1 hS => ?_)
      obtain ⟨hP, -, hD1⟩ := hB
      rw [ht] at hP
      have hD := hD1.weaken (fun _ q _ h => hFc q.1 h)
      generalize H1 = H at hP hS ⊢
      refine W.cs (cells' := 0) (slots' := 0) rfl rfl ?_
      refine lv_aload_n hx hb d_rsaveChange_108 rfl (lv_at hl 0 rfl) ?_
      refine lv_iload_n hx hb d_rsaveChange_109 rfl (lv_at hl 3 rfl) ?_
      refine lv_i2l hx hb d_rsaveChange_110 rfl ?_
      refine w_l (y := x3.toInt64) rfl ?_
      obtain ⟨o_8, h_9, Heq⟩ := ob_some Heq
      have hFc := fr_all hD hS hA
      refine va_callv (va_runV (As := [.long x3.toInt64]) (rest := []) ⟨hx, hb, hml, hown, hts⟩ (g_rgroup l D H.size h_9) (cw_v 1 hts kw_1950 kw_1947 kw_1949 kp_82 kw_11 rfl rfl (by decide +kernel) ⟨Nat.le_of_ble_eq_true rfl, Nat.le_of_ble_eq_true rfl⟩) ⟨g_blind, va_recv hK hP (ci := 12) (q0 := 0) rfl rfl, fun U hU hW => g_pre hU hW hP hK hD⟩ rfl rfl hl.1 rfl (lv_room (Nat.le_of_ble_eq_true rfl)) d_rsaveChange_111 ⟨Nat.le_of_ble_eq_true rfl, Nat.le_of_ble_eq_true rfl⟩) hS (fun q _ h => hFc q h) hFc (fun u t H1 locs ht hvm hw hB hz1 hk1 hS => ?_)
      obtain ⟨hP, -, hD1⟩ := hB
      rw [ht] at hP
      have hD := hD1.weaken (fun _ q _ h => hFc q.1 h)
      generalize H1 = H at hP hS ⊢
      refine W.cs (cells' := 0) (slots' := 0) rfl rfl ?_
      exact w_rsaveChange_J114 hC Heq Ka K0 _ _ _ hP hD hS (lv_sub hl [0, 1, 2, 3, 4, 5] rfl)
    · replace Heq := (if_neg c_5).symm.trans Heq
      refine lv_goto (tgt := 114) hx hb d_rsaveChange_99 (by decide) ?_
      exact w_rsaveChange_J114 hC Heq Ka K0 _ _ _ hP hD hS (lv_sub hl [0, 1, 2, 3, 4, 5] rfl)
def m_rsaveChange_L69 (S : MS) (x1 : Int32) (x2 : Int32) (x3 : Int32) (x4 : Int32) (x5 : Int32) : Option (MS × Int32 × Int32 × Int32) := lp (fun a : MS × Int32 × Int32 × Int32 × Int32 × Int32 => m_rsaveChange_B69 a.1 a.2.1 a.2.2.1 a.2.2.2.1 a.2.2.2.2.1 a.2.2.2.2.2) FU (S, x1, x2, x3, x4, x5)
theorem w_rsaveChange_L69 {p : Program} {l : Launch} {e : Env} {s : State} {m : MethodId} {args : Array Value} {below : List Frame} {meth : Method} {c : Code} {A : Nat → Prop} {D : va_G} {md : Nat → Nat} {mc : Nat → ClassId} {Q : State → Prop} (hC : MCx "JoinedTreesModel" prog_14_method_86_code 6 none p s m args meth c A D mc) {S : MS} {x1 : Int32} {x2 : Int32} {x3 : Int32} {x4 : Int32} {x5 : Int32} {o : MS × Int32 × Int32 × Int32} (Heq : m_rsaveChange_L69 S x1 x2 x3 x4 x5 = some o) (K0 : ∀ b : MS × Int32 × Int32 × Int32, o = b → ∀ (H : Heap) (locs : List Loc) (ls : Array Slot), va_P D cls (mw md mc b.1) H → va_D A (mw md mc b.1) → va_S A s.heap H locs → lv_has ls 6 [(0, .ref (md 100)), (1, .int b.2.1), (2, .int b.2.2.1), (3, .int b.2.2.2)] → W p l e ({ frames := 4, cells := 0, slots := 0, locals := 93 }) s m args below meth c H locs 0 0 Q (F0 m 120 ls [])) : ∀ (H : Heap) (locs : List Loc) (ls : Array Slot), va_P D cls (mw md mc S) H → va_D A (mw md mc S) → va_S A s.heap H locs → lv_has ls 6 [(0, .ref (md 100)), (1, .int x1), (2, .int x2), (3, .int x3), (4, .int x4), (5, .int x5)] → W p l e ({ frames := 4, cells := 0, slots := 0, locals := 93 }) s m args below meth c H locs 0 0 Q (F0 m 69 ls []) := by
  refine lp_w (G := fun a : MS × Int32 × Int32 × Int32 × Int32 × Int32 => ∀ (H : Heap) (locs : List Loc) (ls : Array Slot), va_P D cls (mw md mc a.1) H → va_D A (mw md mc a.1) → va_S A s.heap H locs → lv_has ls 6 [(0, .ref (md 100)), (1, .int a.2.1), (2, .int a.2.2.1), (3, .int a.2.2.2.1), (4, .int a.2.2.2.2.1), (5, .int a.2.2.2.2.2)] → W p l e ({ frames := 4, cells := 0, slots := 0, locals := 93 }) s m args below meth c H locs 0 0 Q (F0 m 69 ls [])) ?_ FU (S, x1, x2, x3, x4, x5) Heq
  intro a o1 ho Ka Ke
  exact w_rsaveChange_B69 hC ho (fun b h => Ka b h) (fun b h => K0 b (Ke _ h).symm)
def m_rsaveChange_B43 (S : MS) (x1 : Int32) (x2 : Int32) (x3 : Int32) : Option ((MS × Int32 × Int32 × Int32) ⊕ (MS × Int32 × Int32)) := (if 1000 < x3 then some (.inr (S, x1, x2)) else ob (m_rfind S x2 x3) (fun o_2 => (if 0 ≤ o_2.2 then ob (m_rsaveChange_L69 o_2.1 x1 x2 x3 o_2.2 0) (fun b_5 => some (.inl (b_5.1, b_5.2.1, b_5.2.2.1, (b_5.2.2.2 + 1)))) else some (.inr (o_2.1, x1, x2)))))
theorem d_rsaveChange_120 : decode prog_14_method_86_code 120 = .ok (.iinc 3 1, 3) := by decide +kernel
theorem d_rsaveChange_123 : decode prog_14_method_86_code 123 = .ok (.goto (-80), 3) := by decide +kernel
theorem d_rsaveChange_63 : decode prog_14_method_86_code 63 = .ok (.goto 63, 3) := by decide +kernel
set_option maxHeartbeats 4000000 in
set_option maxRecDepth 100000 in
theorem w_rsaveChange_B43 {p : Program} {l : Launch} {e : Env} {s : State} {m : MethodId} {args : Array Value} {below : List Frame} {meth : Method} {c : Code} {A : Nat → Prop} {D : va_G} {md : Nat → Nat} {mc : Nat → ClassId} {Q : State → Prop} (hC : MCx "JoinedTreesModel" prog_14_method_86_code 6 none p s m args meth c A D mc) {S : MS} {x1 : Int32} {x2 : Int32} {x3 : Int32} {o : ((MS × Int32 × Int32 × Int32) ⊕ (MS × Int32 × Int32))} (Heq : m_rsaveChange_B43 S x1 x2 x3 = some o) (Ka : ∀ b : MS × Int32 × Int32 × Int32, o = .inl b → ∀ (H : Heap) (locs : List Loc) (ls : Array Slot), va_P D cls (mw md mc b.1) H → va_D A (mw md mc b.1) → va_S A s.heap H locs → lv_has ls 6 [(0, .ref (md 100)), (1, .int b.2.1), (2, .int b.2.2.1), (3, .int b.2.2.2)] → W p l e ({ frames := 4, cells := 0, slots := 0, locals := 93 }) s m args below meth c H locs 0 0 Q (F0 m 43 ls [])) (K0 : ∀ b : MS × Int32 × Int32, o = .inr b → ∀ (H : Heap) (locs : List Loc) (ls : Array Slot), va_P D cls (mw md mc b.1) H → va_D A (mw md mc b.1) → va_S A s.heap H locs → lv_has ls 6 [(0, .ref (md 100)), (1, .int b.2.1), (2, .int b.2.2)] → W p l e ({ frames := 4, cells := 0, slots := 0, locals := 93 }) s m args below meth c H locs 0 0 Q (F0 m 126 ls [])) : ∀ (H : Heap) (locs : List Loc) (ls : Array Slot), va_P D cls (mw md mc S) H → va_D A (mw md mc S) → va_S A s.heap H locs → lv_has ls 6 [(0, .ref (md 100)), (1, .int x1), (2, .int x2), (3, .int x3)] → W p l e ({ frames := 4, cells := 0, slots := 0, locals := 93 }) s m args below meth c H locs 0 0 Q (F0 m 43 ls []) := by
  intro H locs ls hP hD hS hl
  obtain ⟨hx, hb, hr, hml, hown, hts, hK, hA⟩ := id hC
  unfold m_rsaveChange_B43 at Heq
  refine lv_iload_n hx hb d_rsaveChange_43 rfl (lv_at hl 3 rfl) ?_
  refine lv_sipush (v := 1000) hx hb d_rsaveChange_44 (by decide) ?_
  refine lv_icmp_gt (tgt := 126) hx hb d_rsaveChange_47 (by decide) (fun c_1 => ?_) (fun c_1 => ?_)
  · replace Heq := (if_pos c_1).symm.trans Heq
    exact K0 _ (Option.some.inj Heq).symm _ _ _ hP hD hS (lv_sub hl [0, 1, 2] rfl)
  · replace Heq := (if_neg c_1).symm.trans Heq
    refine lv_aload_n hx hb d_rsaveChange_50 rfl (lv_at hl 0 rfl) ?_
    refine lv_iload_n hx hb d_rsaveChange_51 rfl (lv_at hl 2 rfl) ?_
    refine lv_iload_n hx hb d_rsaveChange_52 rfl (lv_at hl 3 rfl) ?_
    obtain ⟨o_2, h_3, Heq⟩ := ob_some Heq
    have hFc := fr_all hD hS hA
    refine va_calli (va_runV (As := [.int x2, .int x3]) (rest := []) ⟨hx, hb, hml, hown, hts⟩ (g_rfind l D H.size h_3) (cw_v 2 hts kw_1835 kw_1832 kw_1834 kp_66 kw_11 rfl rfl (by decide +kernel) ⟨Nat.le_of_ble_eq_true rfl, Nat.le_of_ble_eq_true rfl⟩) ⟨g_blind, va_recv hK hP (ci := 12) (q0 := 0) rfl rfl, fun U hU hW => g_pre hU hW hP hK hD⟩ rfl rfl hl.1 rfl (lv_room (Nat.le_of_ble_eq_true rfl)) d_rsaveChange_53 ⟨Nat.le_of_ble_eq_true rfl, Nat.le_of_ble_eq_true rfl⟩) hS (fun q _ h => hFc q h) hFc (fun rz u t H1 locs ht hvm hw hB hz1 hk1 hS => ?_)
    obtain ⟨hP, -, hD1⟩ := hB
    rw [ht] at hP
    have hD := hD1.weaken (fun _ q _ h => hFc q.1 h)
    generalize H1 = H at hP hS ⊢
    refine W.cs (cells' := 0) (slots' := 0) rfl rfl ?_
    subst hw
    refine lv_istore (lv' := [(4, .int o_2.2), (0, .ref (md 100)), (1, .int x1), (2, .int x2), (3, .int x3)]) hx hb d_rsaveChange_56 hl (by decide) rfl (fun ls hl => ?_)
    refine lv_iload hx hb d_rsaveChange_58 (lv_at hl 0 rfl) ?_
    refine lv_if_ge (tgt := 66) hx hb d_rsaveChange_60 (by decide) (fun c_4 => ?_) (fun c_4 => ?_)
    · replace Heq := (if_pos c_4).symm.trans Heq
      refine lv_iconst (v := 0) hx hb d_rsaveChange_66 (by decide) ?_
      refine lv_istore (lv' := [(5, .int 0), (4, .int o_2.2), (0, .ref (md 100)), (1, .int x1), (2, .int x2), (3, .int x3)]) hx hb d_rsaveChange_67 hl (by decide) rfl (fun ls hl => ?_)
      obtain ⟨b_5, h_6, Heq⟩ := ob_some Heq
      refine w_rsaveChange_L69 hC h_6 (fun b h => ?_) _ _ _ hP hD hS (lv_sub hl [2, 3, 4, 5, 1, 0] rfl)
      subst h
      intro H locs ls hP hD hS hl
      refine lv_iinc (v := b_5.2.2.2 + 1) (lv' := [(3, .int (b_5.2.2.2 + 1)), (0, .ref (md 100)), (1, .int b_5.2.1), (2, .int b_5.2.2.1)]) hx hb d_rsaveChange_120 hl (k := 3) rfl rfl (by decide) rfl (fun ls hl => ?_)
      refine lv_goto (tgt := 43) hx hb d_rsaveChange_123 (by decide) ?_
      exact Ka _ (Option.some.inj Heq).symm _ _ _ hP hD hS (lv_sub hl [1, 2, 3, 0] rfl)
    · replace Heq := (if_neg c_4).symm.trans Heq
      refine lv_goto (tgt := 126) hx hb d_rsaveChange_63 (by decide) ?_
      exact K0 _ (Option.some.inj Heq).symm _ _ _ hP hD hS (lv_sub hl [1, 2, 3] rfl)
def m_rsaveChange_L43 (S : MS) (x1 : Int32) (x2 : Int32) (x3 : Int32) : Option (MS × Int32 × Int32) := lp (fun a : MS × Int32 × Int32 × Int32 => m_rsaveChange_B43 a.1 a.2.1 a.2.2.1 a.2.2.2) FU (S, x1, x2, x3)
theorem w_rsaveChange_L43 {p : Program} {l : Launch} {e : Env} {s : State} {m : MethodId} {args : Array Value} {below : List Frame} {meth : Method} {c : Code} {A : Nat → Prop} {D : va_G} {md : Nat → Nat} {mc : Nat → ClassId} {Q : State → Prop} (hC : MCx "JoinedTreesModel" prog_14_method_86_code 6 none p s m args meth c A D mc) {S : MS} {x1 : Int32} {x2 : Int32} {x3 : Int32} {o : MS × Int32 × Int32} (Heq : m_rsaveChange_L43 S x1 x2 x3 = some o) (K0 : ∀ b : MS × Int32 × Int32, o = b → ∀ (H : Heap) (locs : List Loc) (ls : Array Slot), va_P D cls (mw md mc b.1) H → va_D A (mw md mc b.1) → va_S A s.heap H locs → lv_has ls 6 [(0, .ref (md 100)), (1, .int b.2.1), (2, .int b.2.2)] → W p l e ({ frames := 4, cells := 0, slots := 0, locals := 93 }) s m args below meth c H locs 0 0 Q (F0 m 126 ls [])) : ∀ (H : Heap) (locs : List Loc) (ls : Array Slot), va_P D cls (mw md mc S) H → va_D A (mw md mc S) → va_S A s.heap H locs → lv_has ls 6 [(0, .ref (md 100)), (1, .int x1), (2, .int x2), (3, .int x3)] → W p l e ({ frames := 4, cells := 0, slots := 0, locals := 93 }) s m args below meth c H locs 0 0 Q (F0 m 43 ls []) := by
  refine lp_w (G := fun a : MS × Int32 × Int32 × Int32 => ∀ (H : Heap) (locs : List Loc) (ls : Array Slot), va_P D cls (mw md mc a.1) H → va_D A (mw md mc a.1) → va_S A s.heap H locs → lv_has ls 6 [(0, .ref (md 100)), (1, .int a.2.1), (2, .int a.2.2.1), (3, .int a.2.2.2)] → W p l e ({ frames := 4, cells := 0, slots := 0, locals := 93 }) s m args below meth c H locs 0 0 Q (F0 m 43 ls [])) ?_ FU (S, x1, x2, x3) Heq
  intro a o1 ho Ka Ke
  exact w_rsaveChange_B43 hC ho (fun b h => Ka b h) (fun b h => K0 b (Ke _ h).symm)
def m_rsaveChange_J126 (S : MS) (x1 : Int32) (x2 : Int32) : Option ((MS × Int32 × Int32) ⊕ (MS × Int32)) := some (.inl (S, x1, (x2 + 1)))
theorem d_rsaveChange_126 : decode prog_14_method_86_code 126 = .ok (.iinc 2 1, 3) := by decide +kernel
theorem d_rsaveChange_129 : decode prog_14_method_86_code 129 = .ok (.goto (-94), 3) := by decide +kernel
set_option maxHeartbeats 4000000 in
set_option maxRecDepth 100000 in
theorem w_rsaveChange_J126 {p : Program} {l : Launch} {e : Env} {s : State} {m : MethodId} {args : Array Value} {below : List Frame} {meth : Method} {c : Code} {A : Nat → Prop} {D : va_G} {md : Nat → Nat} {mc : Nat → ClassId} {Q : State → Prop} (hC : MCx "JoinedTreesModel" prog_14_method_86_code 6 none p s m args meth c A D mc) {S : MS} {x1 : Int32} {x2 : Int32} {o : ((MS × Int32 × Int32) ⊕ (MS × Int32))} (Heq : m_rsaveChange_J126 S x1 x2 = some o) (Ka : ∀ b : MS × Int32 × Int32, o = .inl b → ∀ (H : Heap) (locs : List Loc) (ls : Array Slot), va_P D cls (mw md mc b.1) H → va_D A (mw md mc b.1) → va_S A s.heap H locs → lv_has ls 6 [(0, .ref (md 100)), (1, .int b.2.1), (2, .int b.2.2)] → W p l e ({ frames := 4, cells := 0, slots := 0, locals := 93 }) s m args below meth c H locs 0 0 Q (F0 m 35 ls [])) (K0 : ∀ b : MS × Int32, o = .inr b → ∀ (H : Heap) (locs : List Loc) (ls : Array Slot), va_P D cls (mw md mc b.1) H → va_D A (mw md mc b.1) → va_S A s.heap H locs → lv_has ls 6 [(0, .ref (md 100)), (1, .int b.2)] → W p l e ({ frames := 4, cells := 0, slots := 0, locals := 93 }) s m args below meth c H locs 0 0 Q (F0 m 132 ls [])) : ∀ (H : Heap) (locs : List Loc) (ls : Array Slot), va_P D cls (mw md mc S) H → va_D A (mw md mc S) → va_S A s.heap H locs → lv_has ls 6 [(0, .ref (md 100)), (1, .int x1), (2, .int x2)] → W p l e ({ frames := 4, cells := 0, slots := 0, locals := 93 }) s m args below meth c H locs 0 0 Q (F0 m 126 ls []) := by
  intro H locs ls hP hD hS hl
  obtain ⟨hx, hb, hr, hml, hown, hts, hK, hA⟩ := id hC
  unfold m_rsaveChange_J126 at Heq
  refine lv_iinc (v := x2 + 1) (lv' := [(2, .int (x2 + 1)), (0, .ref (md 100)), (1, .int x1)]) hx hb d_rsaveChange_126 hl (k := 2) rfl rfl (by decide) rfl (fun ls hl => ?_)
  refine lv_goto (tgt := 35) hx hb d_rsaveChange_129 (by decide) ?_
  exact Ka _ (Option.some.inj Heq).symm _ _ _ hP hD hS (lv_sub hl [1, 2, 0] rfl)
def m_rsaveChange_B35 (S : MS) (x1 : Int32) (x2 : Int32) : Option ((MS × Int32 × Int32) ⊕ (MS × Int32)) := (if 8 ≤ x2 then some (.inr (S, x1)) else ob (m_rsaveChange_L43 S x1 x2 1) (fun b_2 => m_rsaveChange_J126 b_2.1 b_2.2.1 b_2.2.2))
set_option maxHeartbeats 4000000 in
set_option maxRecDepth 100000 in
theorem w_rsaveChange_B35 {p : Program} {l : Launch} {e : Env} {s : State} {m : MethodId} {args : Array Value} {below : List Frame} {meth : Method} {c : Code} {A : Nat → Prop} {D : va_G} {md : Nat → Nat} {mc : Nat → ClassId} {Q : State → Prop} (hC : MCx "JoinedTreesModel" prog_14_method_86_code 6 none p s m args meth c A D mc) {S : MS} {x1 : Int32} {x2 : Int32} {o : ((MS × Int32 × Int32) ⊕ (MS × Int32))} (Heq : m_rsaveChange_B35 S x1 x2 = some o) (Ka : ∀ b : MS × Int32 × Int32, o = .inl b → ∀ (H : Heap) (locs : List Loc) (ls : Array Slot), va_P D cls (mw md mc b.1) H → va_D A (mw md mc b.1) → va_S A s.heap H locs → lv_has ls 6 [(0, .ref (md 100)), (1, .int b.2.1), (2, .int b.2.2)] → W p l e ({ frames := 4, cells := 0, slots := 0, locals := 93 }) s m args below meth c H locs 0 0 Q (F0 m 35 ls [])) (K0 : ∀ b : MS × Int32, o = .inr b → ∀ (H : Heap) (locs : List Loc) (ls : Array Slot), va_P D cls (mw md mc b.1) H → va_D A (mw md mc b.1) → va_S A s.heap H locs → lv_has ls 6 [(0, .ref (md 100)), (1, .int b.2)] → W p l e ({ frames := 4, cells := 0, slots := 0, locals := 93 }) s m args below meth c H locs 0 0 Q (F0 m 132 ls [])) : ∀ (H : Heap) (locs : List Loc) (ls : Array Slot), va_P D cls (mw md mc S) H → va_D A (mw md mc S) → va_S A s.heap H locs → lv_has ls 6 [(0, .ref (md 100)), (1, .int x1), (2, .int x2)] → W p l e ({ frames := 4, cells := 0, slots := 0, locals := 93 }) s m args below meth c H locs 0 0 Q (F0 m 35 ls []) := by
  intro H locs ls hP hD hS hl
  obtain ⟨hx, hb, hr, hml, hown, hts, hK, hA⟩ := id hC
  unfold m_rsaveChange_B35 at Heq
  refine lv_iload_n hx hb d_rsaveChange_35 rfl (lv_at hl 2 rfl) ?_
  refine lv_bipush (v := 8) hx hb d_rsaveChange_36 (by decide) ?_
  refine lv_icmp_ge (tgt := 132) hx hb d_rsaveChange_38 (by decide) (fun c_1 => ?_) (fun c_1 => ?_)
  · replace Heq := (if_pos c_1).symm.trans Heq
    exact K0 _ (Option.some.inj Heq).symm _ _ _ hP hD hS (lv_sub hl [0, 1] rfl)
  · replace Heq := (if_neg c_1).symm.trans Heq
    refine lv_iconst (v := 1) hx hb d_rsaveChange_41 (by decide) ?_
    refine lv_istore_n (lv' := [(3, .int 1), (0, .ref (md 100)), (1, .int x1), (2, .int x2)]) hx hb d_rsaveChange_42 rfl hl (by decide) rfl (fun ls hl => ?_)
    obtain ⟨b_2, h_3, Heq⟩ := ob_some Heq
    refine w_rsaveChange_L43 hC h_3 (fun b h => ?_) _ _ _ hP hD hS (lv_sub hl [1, 2, 3, 0] rfl)
    subst h
    intro H locs ls hP hD hS hl
    exact w_rsaveChange_J126 hC Heq Ka K0 _ _ _ hP hD hS (lv_sub hl [0, 1, 2] rfl)
def m_rsaveChange_L35 (S : MS) (x1 : Int32) (x2 : Int32) : Option (MS × Int32) := lp (fun a : MS × Int32 × Int32 => m_rsaveChange_B35 a.1 a.2.1 a.2.2) FU (S, x1, x2)
theorem w_rsaveChange_L35 {p : Program} {l : Launch} {e : Env} {s : State} {m : MethodId} {args : Array Value} {below : List Frame} {meth : Method} {c : Code} {A : Nat → Prop} {D : va_G} {md : Nat → Nat} {mc : Nat → ClassId} {Q : State → Prop} (hC : MCx "JoinedTreesModel" prog_14_method_86_code 6 none p s m args meth c A D mc) {S : MS} {x1 : Int32} {x2 : Int32} {o : MS × Int32} (Heq : m_rsaveChange_L35 S x1 x2 = some o) (K0 : ∀ b : MS × Int32, o = b → ∀ (H : Heap) (locs : List Loc) (ls : Array Slot), va_P D cls (mw md mc b.1) H → va_D A (mw md mc b.1) → va_S A s.heap H locs → lv_has ls 6 [(0, .ref (md 100)), (1, .int b.2)] → W p l e ({ frames := 4, cells := 0, slots := 0, locals := 93 }) s m args below meth c H locs 0 0 Q (F0 m 132 ls [])) : ∀ (H : Heap) (locs : List Loc) (ls : Array Slot), va_P D cls (mw md mc S) H → va_D A (mw md mc S) → va_S A s.heap H locs → lv_has ls 6 [(0, .ref (md 100)), (1, .int x1), (2, .int x2)] → W p l e ({ frames := 4, cells := 0, slots := 0, locals := 93 }) s m args below meth c H locs 0 0 Q (F0 m 35 ls []) := by
  refine lp_w (G := fun a : MS × Int32 × Int32 => ∀ (H : Heap) (locs : List Loc) (ls : Array Slot), va_P D cls (mw md mc a.1) H → va_D A (mw md mc a.1) → va_S A s.heap H locs → lv_has ls 6 [(0, .ref (md 100)), (1, .int a.2.1), (2, .int a.2.2)] → W p l e ({ frames := 4, cells := 0, slots := 0, locals := 93 }) s m args below meth c H locs 0 0 Q (F0 m 35 ls [])) ?_ FU (S, x1, x2) Heq
  intro a o1 ho Ka Ke
  exact w_rsaveChange_B35 hC ho (fun b h => Ka b h) (fun b h => K0 b (Ke _ h).symm)
def m_rsaveChange_J192 (S : MS) (x1 : Int32) (x2 : Int32) (x3 : Int32) (x4 : Int32) : Option ((MS × Int32 × Int32 × Int32 × Int32) ⊕ (MS × Int32 × Int32 × Int32)) := some (.inl (S, x1, x2, x3, (x4 + 1)))
theorem d_rsaveChange_132 : decode prog_14_method_86_code 132 = .ok (.iconst 0, 1) := by decide +kernel
theorem d_rsaveChange_133 : decode prog_14_method_86_code 133 = .ok (.istore_n 2, 1) := by decide +kernel
theorem d_rsaveChange_134 : decode prog_14_method_86_code 134 = .ok (.ldc_w 482, 3) := by decide +kernel
theorem d_rsaveChange_137 : decode prog_14_method_86_code 137 = .ok (.istore_n 3, 1) := by decide +kernel
theorem d_rsaveChange_138 : decode prog_14_method_86_code 138 = .ok (.iconst 0, 1) := by decide +kernel
theorem d_rsaveChange_139 : decode prog_14_method_86_code 139 = .ok (.istore 4, 2) := by decide +kernel
theorem d_rsaveChange_141 : decode prog_14_method_86_code 141 = .ok (.iload 4, 2) := by decide +kernel
theorem d_rsaveChange_143 : decode prog_14_method_86_code 143 = .ok (.aload_n 0, 1) := by decide +kernel
theorem d_rsaveChange_144 : decode prog_14_method_86_code 144 = .ok (.getfield 195, 3) := by decide +kernel
theorem d_rsaveChange_147 : decode prog_14_method_86_code 147 = .ok (.if_icmp .ge 51, 3) := by decide +kernel
theorem d_rsaveChange_150 : decode prog_14_method_86_code 150 = .ok (.aload_n 0, 1) := by decide +kernel
theorem d_rsaveChange_151 : decode prog_14_method_86_code 151 = .ok (.getfield 60, 3) := by decide +kernel
theorem d_rsaveChange_154 : decode prog_14_method_86_code 154 = .ok (.iload 4, 2) := by decide +kernel
theorem d_rsaveChange_156 : decode prog_14_method_86_code 156 = .ok (.baload, 1) := by decide +kernel
theorem d_rsaveChange_157 : decode prog_14_method_86_code 157 = .ok (.ifCond .ne 35, 3) := by decide +kernel
theorem d_rsaveChange_192 : decode prog_14_method_86_code 192 = .ok (.iinc 4 1, 3) := by decide +kernel
theorem d_rsaveChange_195 : decode prog_14_method_86_code 195 = .ok (.goto (-54), 3) := by decide +kernel
set_option maxHeartbeats 4000000 in
set_option maxRecDepth 100000 in
theorem w_rsaveChange_J192 {p : Program} {l : Launch} {e : Env} {s : State} {m : MethodId} {args : Array Value} {below : List Frame} {meth : Method} {c : Code} {A : Nat → Prop} {D : va_G} {md : Nat → Nat} {mc : Nat → ClassId} {Q : State → Prop} (hC : MCx "JoinedTreesModel" prog_14_method_86_code 6 none p s m args meth c A D mc) {S : MS} {x1 : Int32} {x2 : Int32} {x3 : Int32} {x4 : Int32} {o : ((MS × Int32 × Int32 × Int32 × Int32) ⊕ (MS × Int32 × Int32 × Int32))} (Heq : m_rsaveChange_J192 S x1 x2 x3 x4 = some o) (Ka : ∀ b : MS × Int32 × Int32 × Int32 × Int32, o = .inl b → ∀ (H : Heap) (locs : List Loc) (ls : Array Slot), va_P D cls (mw md mc b.1) H → va_D A (mw md mc b.1) → va_S A s.heap H locs → lv_has ls 6 [(0, .ref (md 100)), (1, .int b.2.1), (2, .int b.2.2.1), (3, .int b.2.2.2.1), (4, .int b.2.2.2.2)] → W p l e ({ frames := 4, cells := 0, slots := 0, locals := 93 }) s m args below meth c H locs 0 0 Q (F0 m 141 ls [])) (K0 : ∀ b : MS × Int32 × Int32 × Int32, o = .inr b → ∀ (H : Heap) (locs : List Loc) (ls : Array Slot), va_P D cls (mw md mc b.1) H → va_D A (mw md mc b.1) → va_S A s.heap H locs → lv_has ls 6 [(0, .ref (md 100)), (1, .int b.2.1), (2, .int b.2.2.1), (3, .int b.2.2.2)] → W p l e ({ frames := 4, cells := 0, slots := 0, locals := 93 }) s m args below meth c H locs 0 0 Q (F0 m 198 ls [])) : ∀ (H : Heap) (locs : List Loc) (ls : Array Slot), va_P D cls (mw md mc S) H → va_D A (mw md mc S) → va_S A s.heap H locs → lv_has ls 6 [(0, .ref (md 100)), (1, .int x1), (2, .int x2), (3, .int x3), (4, .int x4)] → W p l e ({ frames := 4, cells := 0, slots := 0, locals := 93 }) s m args below meth c H locs 0 0 Q (F0 m 192 ls []) := by
  intro H locs ls hP hD hS hl
  obtain ⟨hx, hb, hr, hml, hown, hts, hK, hA⟩ := id hC
  unfold m_rsaveChange_J192 at Heq
  refine lv_iinc (v := x4 + 1) (lv' := [(4, .int (x4 + 1)), (0, .ref (md 100)), (1, .int x1), (2, .int x2), (3, .int x3)]) hx hb d_rsaveChange_192 hl (k := 4) rfl rfl (by decide) rfl (fun ls hl => ?_)
  refine lv_goto (tgt := 141) hx hb d_rsaveChange_195 (by decide) ?_
  exact Ka _ (Option.some.inj Heq).symm _ _ _ hP hD hS (lv_sub hl [1, 2, 3, 4, 0] rfl)
def m_rsaveChange_B141 (S : MS) (x1 : Int32) (x2 : Int32) (x3 : Int32) (x4 : Int32) : Option ((MS × Int32 × Int32 × Int32 × Int32) ⊕ (MS × Int32 × Int32 × Int32)) := (if S.i 23 ≤ x4 then some (.inr (S, x1, x2, x3)) else gd x4 4000 ((if S.a 21 x4.toNatClampNeg = 0 then gd x4 4000 ((if S.a 13 x4.toNatClampNeg = x1 then gd x4 4000 (m_rsaveChange_J192 S x1 (x2 + 1) (if (S.a 8 x4.toNatClampNeg) / 8 < x3 then (S.a 8 x4.toNatClampNeg) / 8 else x3) x4) else m_rsaveChange_J192 S x1 x2 x3 x4)) else m_rsaveChange_J192 S x1 x2 x3 x4)))
theorem d_rsaveChange_160 : decode prog_14_method_86_code 160 = .ok (.aload_n 0, 1) := by decide +kernel
theorem d_rsaveChange_161 : decode prog_14_method_86_code 161 = .ok (.getfield 35, 3) := by decide +kernel
theorem d_rsaveChange_164 : decode prog_14_method_86_code 164 = .ok (.iload 4, 2) := by decide +kernel
theorem d_rsaveChange_166 : decode prog_14_method_86_code 166 = .ok (.iaload, 1) := by decide +kernel
theorem d_rsaveChange_167 : decode prog_14_method_86_code 167 = .ok (.iload_n 1, 1) := by decide +kernel
theorem d_rsaveChange_168 : decode prog_14_method_86_code 168 = .ok (.if_icmp .eq 6, 3) := by decide +kernel
theorem d_rsaveChange_174 : decode prog_14_method_86_code 174 = .ok (.iinc 2 1, 3) := by decide +kernel
theorem d_rsaveChange_177 : decode prog_14_method_86_code 177 = .ok (.iload_n 3, 1) := by decide +kernel
theorem d_rsaveChange_178 : decode prog_14_method_86_code 178 = .ok (.aload_n 0, 1) := by decide +kernel
theorem d_rsaveChange_179 : decode prog_14_method_86_code 179 = .ok (.getfield 19, 3) := by decide +kernel
theorem d_rsaveChange_182 : decode prog_14_method_86_code 182 = .ok (.iload 4, 2) := by decide +kernel
theorem d_rsaveChange_184 : decode prog_14_method_86_code 184 = .ok (.iaload, 1) := by decide +kernel
theorem d_rsaveChange_185 : decode prog_14_method_86_code 185 = .ok (.bipush 8, 2) := by decide +kernel
theorem d_rsaveChange_187 : decode prog_14_method_86_code 187 = .ok (.idiv, 1) := by decide +kernel
theorem d_rsaveChange_188 : decode prog_14_method_86_code 188 = .ok (.invokestatic 483, 3) := by decide +kernel
theorem d_rsaveChange_191 : decode prog_14_method_86_code 191 = .ok (.istore_n 3, 1) := by decide +kernel
theorem d_rsaveChange_171 : decode prog_14_method_86_code 171 = .ok (.goto 21, 3) := by decide +kernel
set_option maxHeartbeats 4000000 in
set_option maxRecDepth 100000 in
theorem w_rsaveChange_B141 {p : Program} {l : Launch} {e : Env} {s : State} {m : MethodId} {args : Array Value} {below : List Frame} {meth : Method} {c : Code} {A : Nat → Prop} {D : va_G} {md : Nat → Nat} {mc : Nat → ClassId} {Q : State → Prop} (hC : MCx "JoinedTreesModel" prog_14_method_86_code 6 none p s m args meth c A D mc) {S : MS} {x1 : Int32} {x2 : Int32} {x3 : Int32} {x4 : Int32} {o : ((MS × Int32 × Int32 × Int32 × Int32) ⊕ (MS × Int32 × Int32 × Int32))} (Heq : m_rsaveChange_B141 S x1 x2 x3 x4 = some o) (Ka : ∀ b : MS × Int32 × Int32 × Int32 × Int32, o = .inl b → ∀ (H : Heap) (locs : List Loc) (ls : Array Slot), va_P D cls (mw md mc b.1) H → va_D A (mw md mc b.1) → va_S A s.heap H locs → lv_has ls 6 [(0, .ref (md 100)), (1, .int b.2.1), (2, .int b.2.2.1), (3, .int b.2.2.2.1), (4, .int b.2.2.2.2)] → W p l e ({ frames := 4, cells := 0, slots := 0, locals := 93 }) s m args below meth c H locs 0 0 Q (F0 m 141 ls [])) (K0 : ∀ b : MS × Int32 × Int32 × Int32, o = .inr b → ∀ (H : Heap) (locs : List Loc) (ls : Array Slot), va_P D cls (mw md mc b.1) H → va_D A (mw md mc b.1) → va_S A s.heap H locs → lv_has ls 6 [(0, .ref (md 100)), (1, .int b.2.1), (2, .int b.2.2.1), (3, .int b.2.2.2)] → W p l e ({ frames := 4, cells := 0, slots := 0, locals := 93 }) s m args below meth c H locs 0 0 Q (F0 m 198 ls [])) : ∀ (H : Heap) (locs : List Loc) (ls : Array Slot), va_P D cls (mw md mc S) H → va_D A (mw md mc S) → va_S A s.heap H locs → lv_has ls 6 [(0, .ref (md 100)), (1, .int x1), (2, .int x2), (3, .int x3), (4, .int x4)] → W p l e ({ frames := 4, cells := 0, slots := 0, locals := 93 }) s m args below meth c H locs 0 0 Q (F0 m 141 ls []) := by
  intro H locs ls hP hD hS hl
  obtain ⟨hx, hb, hr, hml, hown, hts, hK, hA⟩ := id hC
  unfold m_rsaveChange_B141 at Heq
  refine lv_iload hx hb d_rsaveChange_141 (lv_at hl 4 rfl) ?_
  refine lv_aload_n hx hb d_rsaveChange_143 rfl (lv_at hl 0 rfl) ?_
  refine va_get (D := D) (ci := 12) (v := .int (S.i 23)) (C := R_MM) (T := F_MM) (N := 77) hx hb hts i_MM hown hK hP 0 rfl rfl 23 (by decide) (hts _ kw_1405) (fun _ h9 => h9) rfl d_rsaveChange_144 ?_
  refine lv_icmp_ge (tgt := 198) hx hb d_rsaveChange_147 (by decide) (fun c_1 => ?_) (fun c_1 => ?_)
  · replace Heq := (if_pos c_1).symm.trans Heq
    exact K0 _ (Option.some.inj Heq).symm _ _ _ hP hD hS (lv_sub hl [0, 1, 2, 3] rfl)
  · replace Heq := (if_neg c_1).symm.trans Heq
    refine lv_aload_n hx hb d_rsaveChange_150 rfl (lv_at hl 0 rfl) ?_
    refine va_get (D := D) (ci := 12) (v := .ref (md 21)) (C := R_MM) (T := F_MM) (N := 77) hx hb hts i_MM hown hK hP 0 rfl rfl 21 (by decide) (hts _ kw_1403) (fun _ h9 => h9) rfl d_rsaveChange_151 ?_
    refine lv_iload hx hb d_rsaveChange_154 (lv_at hl 4 rfl) ?_
    obtain ⟨hi_2, Heq⟩ := gd_some Heq
    refine va_zald hx hb hK hP 17 2 rfl rfl (i := x4) hi_2 d_rsaveChange_156 ?_
    refine w_i (y := S.a 21 x4.toNatClampNeg) rfl ?_
    refine lv_if_ne (tgt := 192) hx hb d_rsaveChange_157 (by decide) (fun c_3 => ?_) (fun c_3 => ?_)
    · replace Heq := (if_neg c_3).symm.trans Heq
      exact w_rsaveChange_J192 hC Heq Ka K0 _ _ _ hP hD hS (lv_sub hl [0, 1, 2, 3, 4] rfl)
    · replace Heq := (if_pos c_3).symm.trans Heq
      refine lv_aload_n hx hb d_rsaveChange_160 rfl (lv_at hl 0 rfl) ?_
      refine va_get (D := D) (ci := 12) (v := .ref (md 13)) (C := R_MM) (T := F_MM) (N := 77) hx hb hts i_MM hown hK hP 0 rfl rfl 13 (by decide) (hts _ kw_1395) (fun _ h9 => h9) rfl d_rsaveChange_161 ?_
      refine lv_iload hx hb d_rsaveChange_164 (lv_at hl 4 rfl) ?_
      obtain ⟨hi_4, Heq⟩ := gd_some Heq
      refine va_iald hx hb hK hP 9 0 rfl rfl (i := x4) hi_4 d_rsaveChange_166 ?_
      refine w_i (y := S.a 13 x4.toNatClampNeg) rfl ?_
      refine lv_iload_n hx hb d_rsaveChange_167 rfl (lv_at hl 1 rfl) ?_
      refine lv_icmp_eq (tgt := 174) hx hb d_rsaveChange_168 (by decide) (fun c_5 => ?_) (fun c_5 => ?_)
      · replace Heq := (if_pos c_5).symm.trans Heq
        refine lv_iinc (v := x2 + 1) (lv' := [(2, .int (x2 + 1)), (0, .ref (md 100)), (1, .int x1), (3, .int x3), (4, .int x4)]) hx hb d_rsaveChange_174 hl (k := 2) rfl rfl (by decide) rfl (fun ls hl => ?_)
        refine lv_iload_n hx hb d_rsaveChange_177 rfl (lv_at hl 3 rfl) ?_
        refine lv_aload_n hx hb d_rsaveChange_178 rfl (lv_at hl 1 rfl) ?_
        refine va_get (D := D) (ci := 12) (v := .ref (md 8)) (C := R_MM) (T := F_MM) (N := 77) hx hb hts i_MM hown hK hP 0 rfl rfl 8 (by decide) (hts _ kw_1390) (fun _ h9 => h9) rfl d_rsaveChange_179 ?_
        refine lv_iload hx hb d_rsaveChange_182 (lv_at hl 4 rfl) ?_
        obtain ⟨hi_6, Heq⟩ := gd_some Heq
        refine va_iald hx hb hK hP 4 0 rfl rfl (i := x4) hi_6 d_rsaveChange_184 ?_
        refine w_i (y := S.a 8 x4.toNatClampNeg) rfl ?_
        refine lv_bipush (v := 8) hx hb d_rsaveChange_185 (by decide) ?_
        refine lv_idiv hx hb d_rsaveChange_187 (by decide) ?_
        refine w_i (y := (S.a 8 x4.toNatClampNeg) / 8) rfl ?_
        refine va_mmin hx hb (hml.trans hl.1.symm) hown (hts _ kw_1957) (hts _ kw_1958) (hts _ kw_21) (hts _ kw_1959) (Nat.le_of_ble_eq_true rfl) (Nat.le_of_ble_eq_true rfl) (Nat.le_of_ble_eq_true rfl) (Nat.le_of_ble_eq_true rfl) d_rsaveChange_188 ?_
        refine lv_istore_n (lv' := [(3, .int (if (S.a 8 x4.toNatClampNeg) / 8 < x3 then (S.a 8 x4.toNatClampNeg) / 8 else x3)), (2, .int (x2 + 1)), (0, .ref (md 100)), (1, .int x1), (4, .int x4)]) hx hb d_rsaveChange_191 rfl hl (by decide) rfl (fun ls hl => ?_)
        exact w_rsaveChange_J192 hC Heq Ka K0 _ _ _ hP hD hS (lv_sub hl [2, 3, 1, 0, 4] rfl)
      · replace Heq := (if_neg c_5).symm.trans Heq
        refine lv_goto (tgt := 192) hx hb d_rsaveChange_171 (by decide) ?_
        exact w_rsaveChange_J192 hC Heq Ka K0 _ _ _ hP hD hS (lv_sub hl [0, 1, 2, 3, 4] rfl)
def m_rsaveChange_L141 (S : MS) (x1 : Int32) (x2 : Int32) (x3 : Int32) (x4 : Int32) : Option (MS × Int32 × Int32 × Int32) := lp (fun a : MS × Int32 × Int32 × Int32 × Int32 => m_rsaveChange_B141 a.1 a.2.1 a.2.2.1 a.2.2.2.1 a.2.2.2.2) FU (S, x1, x2, x3, x4)
theorem w_rsaveChange_L141 {p : Program} {l : Launch} {e : Env} {s : State} {m : MethodId} {args : Array Value} {below : List Frame} {meth : Method} {c : Code} {A : Nat → Prop} {D : va_G} {md : Nat → Nat} {mc : Nat → ClassId} {Q : State → Prop} (hC : MCx "JoinedTreesModel" prog_14_method_86_code 6 none p s m args meth c A D mc) {S : MS} {x1 : Int32} {x2 : Int32} {x3 : Int32} {x4 : Int32} {o : MS × Int32 × Int32 × Int32} (Heq : m_rsaveChange_L141 S x1 x2 x3 x4 = some o) (K0 : ∀ b : MS × Int32 × Int32 × Int32, o = b → ∀ (H : Heap) (locs : List Loc) (ls : Array Slot), va_P D cls (mw md mc b.1) H → va_D A (mw md mc b.1) → va_S A s.heap H locs → lv_has ls 6 [(0, .ref (md 100)), (1, .int b.2.1), (2, .int b.2.2.1), (3, .int b.2.2.2)] → W p l e ({ frames := 4, cells := 0, slots := 0, locals := 93 }) s m args below meth c H locs 0 0 Q (F0 m 198 ls [])) : ∀ (H : Heap) (locs : List Loc) (ls : Array Slot), va_P D cls (mw md mc S) H → va_D A (mw md mc S) → va_S A s.heap H locs → lv_has ls 6 [(0, .ref (md 100)), (1, .int x1), (2, .int x2), (3, .int x3), (4, .int x4)] → W p l e ({ frames := 4, cells := 0, slots := 0, locals := 93 }) s m args below meth c H locs 0 0 Q (F0 m 141 ls []) := by
  refine lp_w (G := fun a : MS × Int32 × Int32 × Int32 × Int32 => ∀ (H : Heap) (locs : List Loc) (ls : Array Slot), va_P D cls (mw md mc a.1) H → va_D A (mw md mc a.1) → va_S A s.heap H locs → lv_has ls 6 [(0, .ref (md 100)), (1, .int a.2.1), (2, .int a.2.2.1), (3, .int a.2.2.2.1), (4, .int a.2.2.2.2)] → W p l e ({ frames := 4, cells := 0, slots := 0, locals := 93 }) s m args below meth c H locs 0 0 Q (F0 m 141 ls [])) ?_ FU (S, x1, x2, x3, x4) Heq
  intro a o1 ho Ka Ke
  exact w_rsaveChange_B141 hC ho (fun b h => Ka b h) (fun b h => K0 b (Ke _ h).symm)
def m_rsaveChange_J264 (S : MS) (x1 : Int32) (x4 : Int32) : Option ((MS × Int32 × Int32) ⊕ MS) := some (.inl (S, x1, (x4 + 1)))
theorem d_rsaveChange_198 : decode prog_14_method_86_code 198 = .ok (.aload_n 0, 1) := by decide +kernel
theorem d_rsaveChange_199 : decode prog_14_method_86_code 199 = .ok (.iload_n 3, 1) := by decide +kernel
theorem d_rsaveChange_200 : decode prog_14_method_86_code 200 = .ok (.i2l, 1) := by decide +kernel
theorem d_rsaveChange_201 : decode prog_14_method_86_code 201 = .ok (.invokevirtual 474, 3) := by decide +kernel
theorem d_rsaveChange_204 : decode prog_14_method_86_code 204 = .ok (.aload_n 0, 1) := by decide +kernel
theorem d_rsaveChange_205 : decode prog_14_method_86_code 205 = .ok (.iload_n 2, 1) := by decide +kernel
theorem d_rsaveChange_206 : decode prog_14_method_86_code 206 = .ok (.i2l, 1) := by decide +kernel
theorem d_rsaveChange_207 : decode prog_14_method_86_code 207 = .ok (.invokevirtual 474, 3) := by decide +kernel
theorem d_rsaveChange_210 : decode prog_14_method_86_code 210 = .ok (.iconst 0, 1) := by decide +kernel
theorem d_rsaveChange_211 : decode prog_14_method_86_code 211 = .ok (.istore 4, 2) := by decide +kernel
theorem d_rsaveChange_213 : decode prog_14_method_86_code 213 = .ok (.iload 4, 2) := by decide +kernel
theorem d_rsaveChange_215 : decode prog_14_method_86_code 215 = .ok (.aload_n 0, 1) := by decide +kernel
theorem d_rsaveChange_216 : decode prog_14_method_86_code 216 = .ok (.getfield 195, 3) := by decide +kernel
theorem d_rsaveChange_219 : decode prog_14_method_86_code 219 = .ok (.if_icmp .ge 51, 3) := by decide +kernel
theorem d_rsaveChange_222 : decode prog_14_method_86_code 222 = .ok (.aload_n 0, 1) := by decide +kernel
theorem d_rsaveChange_223 : decode prog_14_method_86_code 223 = .ok (.getfield 60, 3) := by decide +kernel
theorem d_rsaveChange_226 : decode prog_14_method_86_code 226 = .ok (.aload_n 0, 1) := by decide +kernel
theorem d_rsaveChange_227 : decode prog_14_method_86_code 227 = .ok (.getfield 75, 3) := by decide +kernel
theorem d_rsaveChange_230 : decode prog_14_method_86_code 230 = .ok (.iload 4, 2) := by decide +kernel
theorem d_rsaveChange_232 : decode prog_14_method_86_code 232 = .ok (.iaload, 1) := by decide +kernel
theorem d_rsaveChange_233 : decode prog_14_method_86_code 233 = .ok (.baload, 1) := by decide +kernel
theorem d_rsaveChange_234 : decode prog_14_method_86_code 234 = .ok (.ifCond .ne 30, 3) := by decide +kernel
theorem d_rsaveChange_264 : decode prog_14_method_86_code 264 = .ok (.iinc 4 1, 3) := by decide +kernel
theorem d_rsaveChange_267 : decode prog_14_method_86_code 267 = .ok (.goto (-54), 3) := by decide +kernel
set_option maxHeartbeats 4000000 in
set_option maxRecDepth 100000 in
theorem w_rsaveChange_J264 {p : Program} {l : Launch} {e : Env} {s : State} {m : MethodId} {args : Array Value} {below : List Frame} {meth : Method} {c : Code} {A : Nat → Prop} {D : va_G} {md : Nat → Nat} {mc : Nat → ClassId} {Q : State → Prop} (hC : MCx "JoinedTreesModel" prog_14_method_86_code 6 none p s m args meth c A D mc) {S : MS} {x1 : Int32} {x4 : Int32} {o : ((MS × Int32 × Int32) ⊕ MS)} (Heq : m_rsaveChange_J264 S x1 x4 = some o) (Ka : ∀ b : MS × Int32 × Int32, o = .inl b → ∀ (H : Heap) (locs : List Loc) (ls : Array Slot), va_P D cls (mw md mc b.1) H → va_D A (mw md mc b.1) → va_S A s.heap H locs → lv_has ls 6 [(0, .ref (md 100)), (1, .int b.2.1), (4, .int b.2.2)] → W p l e ({ frames := 4, cells := 0, slots := 0, locals := 93 }) s m args below meth c H locs 0 0 Q (F0 m 213 ls [])) (K0 : ∀ b : MS, o = .inr b → ∀ (H : Heap) (locs : List Loc) (ls : Array Slot), va_P D cls (mw md mc b) H → va_D A (mw md mc b) → va_S A s.heap H locs → lv_has ls 6 [(0, .ref (md 100))] → W p l e ({ frames := 4, cells := 0, slots := 0, locals := 93 }) s m args below meth c H locs 0 0 Q (F0 m 270 ls [])) : ∀ (H : Heap) (locs : List Loc) (ls : Array Slot), va_P D cls (mw md mc S) H → va_D A (mw md mc S) → va_S A s.heap H locs → lv_has ls 6 [(0, .ref (md 100)), (1, .int x1), (4, .int x4)] → W p l e ({ frames := 4, cells := 0, slots := 0, locals := 93 }) s m args below meth c H locs 0 0 Q (F0 m 264 ls []) := by
  intro H locs ls hP hD hS hl
  obtain ⟨hx, hb, hr, hml, hown, hts, hK, hA⟩ := id hC
  unfold m_rsaveChange_J264 at Heq
  refine lv_iinc (v := x4 + 1) (lv' := [(4, .int (x4 + 1)), (0, .ref (md 100)), (1, .int x1)]) hx hb d_rsaveChange_264 hl (k := 2) rfl rfl (by decide) rfl (fun ls hl => ?_)
  refine lv_goto (tgt := 213) hx hb d_rsaveChange_267 (by decide) ?_
  exact Ka _ (Option.some.inj Heq).symm _ _ _ hP hD hS (lv_sub hl [1, 2, 0] rfl)
def m_rsaveChange_B213 (S : MS) (x1 : Int32) (x4 : Int32) : Option ((MS × Int32 × Int32) ⊕ MS) := (if S.i 23 ≤ x4 then some (.inr (S)) else gd x4 4000 (gd (S.a 28 x4.toNatClampNeg) 4000 ((if S.a 21 ((S.a 28 x4.toNatClampNeg).toNatClampNeg) = 0 then gd x4 4000 (gd (S.a 28 x4.toNatClampNeg) 4000 ((if S.a 13 ((S.a 28 x4.toNatClampNeg).toNatClampNeg) = x1 then gd x4 4000 (ob (m_rsaveOp S (S.a 28 x4.toNatClampNeg)) (fun o_9 => m_rsaveChange_J264 o_9 x1 x4)) else m_rsaveChange_J264 S x1 x4))) else m_rsaveChange_J264 S x1 x4))))
theorem d_rsaveChange_237 : decode prog_14_method_86_code 237 = .ok (.aload_n 0, 1) := by decide +kernel
theorem d_rsaveChange_238 : decode prog_14_method_86_code 238 = .ok (.getfield 35, 3) := by decide +kernel
theorem d_rsaveChange_241 : decode prog_14_method_86_code 241 = .ok (.aload_n 0, 1) := by decide +kernel
theorem d_rsaveChange_242 : decode prog_14_method_86_code 242 = .ok (.getfield 75, 3) := by decide +kernel
theorem d_rsaveChange_245 : decode prog_14_method_86_code 245 = .ok (.iload 4, 2) := by decide +kernel
theorem d_rsaveChange_247 : decode prog_14_method_86_code 247 = .ok (.iaload, 1) := by decide +kernel
theorem d_rsaveChange_248 : decode prog_14_method_86_code 248 = .ok (.iaload, 1) := by decide +kernel
theorem d_rsaveChange_249 : decode prog_14_method_86_code 249 = .ok (.iload_n 1, 1) := by decide +kernel
theorem d_rsaveChange_250 : decode prog_14_method_86_code 250 = .ok (.if_icmp .ne 14, 3) := by decide +kernel
theorem d_rsaveChange_253 : decode prog_14_method_86_code 253 = .ok (.aload_n 0, 1) := by decide +kernel
theorem d_rsaveChange_254 : decode prog_14_method_86_code 254 = .ok (.aload_n 0, 1) := by decide +kernel
theorem d_rsaveChange_255 : decode prog_14_method_86_code 255 = .ok (.getfield 75, 3) := by decide +kernel
theorem d_rsaveChange_258 : decode prog_14_method_86_code 258 = .ok (.iload 4, 2) := by decide +kernel
theorem d_rsaveChange_260 : decode prog_14_method_86_code 260 = .ok (.iaload, 1) := by decide +kernel
theorem d_rsaveChange_261 : decode prog_14_method_86_code 261 = .ok (.invokevirtual 486, 3) := by decide +kernel
set_option maxHeartbeats 4000000 in
set_option maxRecDepth 100000 in
theorem w_rsaveChange_B213 {p : Program} {l : Launch} {e : Env} {s : State} {m : MethodId} {args : Array Value} {below : List Frame} {meth : Method} {c : Code} {A : Nat → Prop} {D : va_G} {md : Nat → Nat} {mc : Nat → ClassId} {Q : State → Prop} (hC : MCx "JoinedTreesModel" prog_14_method_86_code 6 none p s m args meth c A D mc) {S : MS} {x1 : Int32} {x4 : Int32} {o : ((MS × Int32 × Int32) ⊕ MS)} (Heq : m_rsaveChange_B213 S x1 x4 = some o) (Ka : ∀ b : MS × Int32 × Int32, o = .inl b → ∀ (H : Heap) (locs : List Loc) (ls : Array Slot), va_P D cls (mw md mc b.1) H → va_D A (mw md mc b.1) → va_S A s.heap H locs → lv_has ls 6 [(0, .ref (md 100)), (1, .int b.2.1), (4, .int b.2.2)] → W p l e ({ frames := 4, cells := 0, slots := 0, locals := 93 }) s m args below meth c H locs 0 0 Q (F0 m 213 ls [])) (K0 : ∀ b : MS, o = .inr b → ∀ (H : Heap) (locs : List Loc) (ls : Array Slot), va_P D cls (mw md mc b) H → va_D A (mw md mc b) → va_S A s.heap H locs → lv_has ls 6 [(0, .ref (md 100))] → W p l e ({ frames := 4, cells := 0, slots := 0, locals := 93 }) s m args below meth c H locs 0 0 Q (F0 m 270 ls [])) : ∀ (H : Heap) (locs : List Loc) (ls : Array Slot), va_P D cls (mw md mc S) H → va_D A (mw md mc S) → va_S A s.heap H locs → lv_has ls 6 [(0, .ref (md 100)), (1, .int x1), (4, .int x4)] → W p l e ({ frames := 4, cells := 0, slots := 0, locals := 93 }) s m args below meth c H locs 0 0 Q (F0 m 213 ls []) := by
  intro H locs ls hP hD hS hl
  obtain ⟨hx, hb, hr, hml, hown, hts, hK, hA⟩ := id hC
  unfold m_rsaveChange_B213 at Heq
  refine lv_iload hx hb d_rsaveChange_213 (lv_at hl 2 rfl) ?_
  refine lv_aload_n hx hb d_rsaveChange_215 rfl (lv_at hl 0 rfl) ?_
  refine va_get (D := D) (ci := 12) (v := .int (S.i 23)) (C := R_MM) (T := F_MM) (N := 77) hx hb hts i_MM hown hK hP 0 rfl rfl 23 (by decide) (hts _ kw_1405) (fun _ h9 => h9) rfl d_rsaveChange_216 ?_
  refine lv_icmp_ge (tgt := 270) hx hb d_rsaveChange_219 (by decide) (fun c_1 => ?_) (fun c_1 => ?_)
  · replace Heq := (if_pos c_1).symm.trans Heq
    exact K0 _ (Option.some.inj Heq).symm _ _ _ hP hD hS (lv_sub hl [0] rfl)
  · replace Heq := (if_neg c_1).symm.trans Heq
    refine lv_aload_n hx hb d_rsaveChange_222 rfl (lv_at hl 0 rfl) ?_
    refine va_get (D := D) (ci := 12) (v := .ref (md 21)) (C := R_MM) (T := F_MM) (N := 77) hx hb hts i_MM hown hK hP 0 rfl rfl 21 (by decide) (hts _ kw_1403) (fun _ h9 => h9) rfl d_rsaveChange_223 ?_
    refine lv_aload_n hx hb d_rsaveChange_226 rfl (lv_at hl 0 rfl) ?_
    refine va_get (D := D) (ci := 12) (v := .ref (md 28)) (C := R_MM) (T := F_MM) (N := 77) hx hb hts i_MM hown hK hP 0 rfl rfl 28 (by decide) (hts _ kw_1410) (fun _ h9 => h9) rfl d_rsaveChange_227 ?_
    refine lv_iload hx hb d_rsaveChange_230 (lv_at hl 2 rfl) ?_
    obtain ⟨hi_2, Heq⟩ := gd_some Heq
    refine va_iald hx hb hK hP 21 0 rfl rfl (i := x4) hi_2 d_rsaveChange_232 ?_
    refine w_i (y := S.a 28 x4.toNatClampNeg) rfl ?_
    obtain ⟨hi_3, Heq⟩ := gd_some Heq
    refine va_zald hx hb hK hP 17 2 rfl rfl (i := S.a 28 x4.toNatClampNeg) hi_3 d_rsaveChange_233 ?_
    refine w_i (y := S.a 21 ((S.a 28 x4.toNatClampNeg).toNatClampNeg)) rfl ?_
    refine lv_if_ne (tgt := 264) hx hb d_rsaveChange_234 (by decide) (fun c_4 => ?_) (fun c_4 => ?_)
    · replace Heq := (if_neg c_4).symm.trans Heq
      exact w_rsaveChange_J264 hC Heq Ka K0 _ _ _ hP hD hS (lv_sub hl [0, 1, 2] rfl)
    · replace Heq := (if_pos c_4).symm.trans Heq
      refine lv_aload_n hx hb d_rsaveChange_237 rfl (lv_at hl 0 rfl) ?_
      refine va_get (D := D) (ci := 12) (v := .ref (md 13)) (C := R_MM) (T := F_MM) (N := 77) hx hb hts i_MM hown hK hP 0 rfl rfl 13 (by decide) (hts _ kw_1395) (fun _ h9 => h9) rfl d_rsaveChange_238 ?_
      refine lv_aload_n hx hb d_rsaveChange_241 rfl (lv_at hl 0 rfl) ?_
      refine va_get (D := D) (ci := 12) (v := .ref (md 28)) (C := R_MM) (T := F_MM) (N := 77) hx hb hts i_MM hown hK hP 0 rfl rfl 28 (by decide) (hts _ kw_1410) (fun _ h9 => h9) rfl d_rsaveChange_242 ?_
      refine lv_iload hx hb d_rsaveChange_245 (lv_at hl 2 rfl) ?_
      obtain ⟨hi_5, Heq⟩ := gd_some Heq
      refine va_iald hx hb hK hP 21 0 rfl rfl (i := x4) hi_5 d_rsaveChange_247 ?_
      refine w_i (y := S.a 28 x4.toNatClampNeg) rfl ?_
      obtain ⟨hi_6, Heq⟩ := gd_some Heq
      refine va_iald hx hb hK hP 9 0 rfl rfl (i := S.a 28 x4.toNatClampNeg) hi_6 d_rsaveChange_248 ?_
      refine w_i (y := S.a 13 ((S.a 28 x4.toNatClampNeg).toNatClampNeg)) rfl ?_
      refine lv_iload_n hx hb d_rsaveChange_249 rfl (lv_at hl 1 rfl) ?_
      refine lv_icmp_ne (tgt := 264) hx hb d_rsaveChange_250 (by decide) (fun c_7 => ?_) (fun c_7 => ?_)
      · replace Heq := (if_neg c_7).symm.trans Heq
        exact w_rsaveChange_J264 hC Heq Ka K0 _ _ _ hP hD hS (lv_sub hl [0, 1, 2] rfl)
      · replace Heq := (if_pos c_7).symm.trans Heq
        refine lv_aload_n hx hb d_rsaveChange_253 rfl (lv_at hl 0 rfl) ?_
        refine lv_aload_n hx hb d_rsaveChange_254 rfl (lv_at hl 0 rfl) ?_
        refine va_get (D := D) (ci := 12) (v := .ref (md 28)) (C := R_MM) (T := F_MM) (N := 77) hx hb hts i_MM hown hK hP 0 rfl rfl 28 (by decide) (hts _ kw_1410) (fun _ h9 => h9) rfl d_rsaveChange_255 ?_
        refine lv_iload hx hb d_rsaveChange_258 (lv_at hl 2 rfl) ?_
        obtain ⟨hi_8, Heq⟩ := gd_some Heq
        refine va_iald hx hb hK hP 21 0 rfl rfl (i := x4) hi_8 d_rsaveChange_260 ?_
        refine w_i (y := S.a 28 x4.toNatClampNeg) rfl ?_
        obtain ⟨o_9, h_10, Heq⟩ := ob_some Heq
        have hFc := fr_all hD hS hA
        refine va_callv (va_runV (As := [.int (S.a 28 x4.toNatClampNeg)]) (rest := []) ⟨hx, hb, hml, hown, hts⟩ (g_rsaveOp l D H.size h_10) (cw_v 1 hts kw_1963 kw_1960 kw_1962 kp_84 kw_11 rfl rfl (by decide +kernel) ⟨Nat.le_of_ble_eq_true rfl, Nat.le_of_ble_eq_true rfl⟩) ⟨g_blind, va_recv hK hP (ci := 12) (q0 := 0) rfl rfl, fun U hU hW => g_pre hU hW hP hK hD⟩ rfl rfl hl.1 rfl (lv_room (Nat.le_of_ble_eq_true rfl)) d_rsaveChange_261 ⟨Nat.le_of_ble_eq_true rfl, Nat.le_of_ble_eq_true rfl⟩) hS (fun q _ h => hFc q h) hFc (fun u t H1 locs ht hvm hw hB hz1 hk1 hS => ?_)
        obtain ⟨hP, -, hD1⟩ := hB
        rw [ht] at hP
        have hD := hD1.weaken (fun _ q _ h => hFc q.1 h)
        generalize H1 = H at hP hS ⊢
        refine W.cs (cells' := 0) (slots' := 0) rfl rfl ?_
        exact w_rsaveChange_J264 hC Heq Ka K0 _ _ _ hP hD hS (lv_sub hl [0, 1, 2] rfl)
def m_rsaveChange_L213 (S : MS) (x1 : Int32) (x4 : Int32) : Option MS := lp (fun a : MS × Int32 × Int32 => m_rsaveChange_B213 a.1 a.2.1 a.2.2) FU (S, x1, x4)
theorem w_rsaveChange_L213 {p : Program} {l : Launch} {e : Env} {s : State} {m : MethodId} {args : Array Value} {below : List Frame} {meth : Method} {c : Code} {A : Nat → Prop} {D : va_G} {md : Nat → Nat} {mc : Nat → ClassId} {Q : State → Prop} (hC : MCx "JoinedTreesModel" prog_14_method_86_code 6 none p s m args meth c A D mc) {S : MS} {x1 : Int32} {x4 : Int32} {o : MS} (Heq : m_rsaveChange_L213 S x1 x4 = some o) (K0 : ∀ b : MS, o = b → ∀ (H : Heap) (locs : List Loc) (ls : Array Slot), va_P D cls (mw md mc b) H → va_D A (mw md mc b) → va_S A s.heap H locs → lv_has ls 6 [(0, .ref (md 100))] → W p l e ({ frames := 4, cells := 0, slots := 0, locals := 93 }) s m args below meth c H locs 0 0 Q (F0 m 270 ls [])) : ∀ (H : Heap) (locs : List Loc) (ls : Array Slot), va_P D cls (mw md mc S) H → va_D A (mw md mc S) → va_S A s.heap H locs → lv_has ls 6 [(0, .ref (md 100)), (1, .int x1), (4, .int x4)] → W p l e ({ frames := 4, cells := 0, slots := 0, locals := 93 }) s m args below meth c H locs 0 0 Q (F0 m 213 ls []) := by
  refine lp_w (G := fun a : MS × Int32 × Int32 => ∀ (H : Heap) (locs : List Loc) (ls : Array Slot), va_P D cls (mw md mc a.1) H → va_D A (mw md mc a.1) → va_S A s.heap H locs → lv_has ls 6 [(0, .ref (md 100)), (1, .int a.2.1), (4, .int a.2.2)] → W p l e ({ frames := 4, cells := 0, slots := 0, locals := 93 }) s m args below meth c H locs 0 0 Q (F0 m 213 ls [])) ?_ FU (S, x1, x4) Heq
  intro a o1 ho Ka Ke
  exact w_rsaveChange_B213 hC ho (fun b h => Ka b h) (fun b h => K0 b (Ke _ h).symm)
def m_rsaveChange_J0 (S : MS) (x1 : Int32) : Option MS := gd x1 1000 (ob (m_rgroup S ((S.a 29 x1.toNatClampNeg).toInt64)) (fun o_2 => gd x1 1000 (ob (m_rgroup o_2 ((o_2.a 30 x1.toNatClampNeg).toInt64)) (fun o_5 => gd x1 1000 (ob (m_rgroup o_5 ((o_5.a 32 x1.toNatClampNeg).toInt64)) (fun o_8 => ob (m_rsaveChange_L35 o_8 x1 0) (fun b_10 => ob (m_rsaveChange_L141 b_10.1 b_10.2 0 2147483647 0) (fun b_12 => ob (m_rgroup b_12.1 b_12.2.2.2.toInt64) (fun o_14 => ob (m_rgroup o_14 b_12.2.2.1.toInt64) (fun o_16 => ob (m_rsaveChange_L213 o_16 b_12.2.1 0) (fun b_18 => some b_18)))))))))))
theorem d_rsaveChange_270 : decode prog_14_method_86_code 270 = .ok (.return_, 1) := by decide +kernel
set_option maxHeartbeats 4000000 in
set_option maxRecDepth 100000 in
theorem w_rsaveChange_J0 {p : Program} {l : Launch} {e : Env} {s : State} {m : MethodId} {args : Array Value} {below : List Frame} {meth : Method} {c : Code} {A : Nat → Prop} {D : va_G} {md : Nat → Nat} {mc : Nat → ClassId} {Q : State → Prop} (hC : MCx "JoinedTreesModel" prog_14_method_86_code 6 none p s m args meth c A D mc) {S : MS} {x1 : Int32} {o : MS} (Heq : m_rsaveChange_J0 S x1 = some o) (Kr : ∀ r : MS, o = r → ∀ (pc : Nat) (H : Heap) (locs : List Loc) (ls : Array Slot), decode prog_14_method_86_code pc = .ok (.return_, 1) → va_P D cls (mw md mc r) H → va_D A (mw md mc r) → va_S A s.heap H locs → W p l e ({ frames := 4, cells := 0, slots := 0, locals := 93 }) s m args below meth c H locs 0 0 Q (F0 m pc ls [])) : ∀ (H : Heap) (locs : List Loc) (ls : Array Slot), va_P D cls (mw md mc S) H → va_D A (mw md mc S) → va_S A s.heap H locs → lv_has ls 6 [(0, .ref (md 100)), (1, .int x1)] → W p l e ({ frames := 4, cells := 0, slots := 0, locals := 93 }) s m args below meth c H locs 0 0 Q (F0 m 0 ls []) := by
  intro H locs ls hP hD hS hl
  obtain ⟨hx, hb, hr, hml, hown, hts, hK, hA⟩ := id hC
  unfold m_rsaveChange_J0 at Heq
  refine lv_aload_n hx hb d_rsaveChange_0 rfl (lv_at hl 0 rfl) ?_
  refine lv_aload_n hx hb d_rsaveChange_1 rfl (lv_at hl 0 rfl) ?_
  refine va_get (D := D) (ci := 12) (v := .ref (md 29)) (C := R_MM) (T := F_MM) (N := 77) hx hb hts i_MM hown hK hP 0 rfl rfl 29 (by decide) (hts _ kw_1411) (fun _ h9 => h9) rfl d_rsaveChange_2 ?_
  refine lv_iload_n hx hb d_rsaveChange_5 rfl (lv_at hl 1 rfl) ?_
  obtain ⟨hi_1, Heq⟩ := gd_some Heq
  refine va_iald hx hb hK hP 22 0 rfl rfl (i := x1) hi_1 d_rsaveChange_6 ?_
  refine w_i (y := S.a 29 x1.toNatClampNeg) rfl ?_
  refine lv_i2l hx hb d_rsaveChange_7 rfl ?_
  refine w_l (y := (S.a 29 x1.toNatClampNeg).toInt64) rfl ?_
  obtain ⟨o_2, h_3, Heq⟩ := ob_some Heq
  have hFc := fr_all hD hS hA
  refine va_callv (va_runV (As := [.long ((S.a 29 x1.toNatClampNeg).toInt64)]) (rest := []) ⟨hx, hb, hml, hown, hts⟩ (g_rgroup l D H.size h_3) (cw_v 1 hts kw_1950 kw_1947 kw_1949 kp_82 kw_11 rfl rfl (by decide +kernel) ⟨Nat.le_of_ble_eq_true rfl, Nat.le_of_ble_eq_true rfl⟩) ⟨g_blind, va_recv hK hP (ci := 12) (q0 := 0) rfl rfl, fun U hU hW => g_pre hU hW hP hK hD⟩ rfl rfl hl.1 rfl (lv_room (Nat.le_of_ble_eq_true rfl)) d_rsaveChange_8 ⟨Nat.le_of_ble_eq_true rfl, Nat.le_of_ble_eq_true rfl⟩) hS (fun q _ h => hFc q h) hFc (fun u t H1 locs ht hvm hw hB hz1 hk1 hS => ?_)
  obtain ⟨hP, -, hD1⟩ := hB
  rw [ht] at hP
  have hD := hD1.weaken (fun _ q _ h => hFc q.1 h)
  generalize H1 = H at hP hS ⊢
  refine W.cs (cells' := 0) (slots' := 0) rfl rfl ?_
  refine lv_aload_n hx hb d_rsaveChange_11 rfl (lv_at hl 0 rfl) ?_
  refine lv_aload_n hx hb d_rsaveChange_12 rfl (lv_at hl 0 rfl) ?_
  refine va_get (D := D) (ci := 12) (v := .ref (md 30)) (C := R_MM) (T := F_MM) (N := 77) hx hb hts i_MM hown hK hP 0 rfl rfl 30 (by decide) (hts _ kw_1412) (fun _ h9 => h9) rfl d_rsaveChange_13 ?_
  refine lv_iload_n hx hb d_rsaveChange_16 rfl (lv_at hl 1 rfl) ?_
  obtain ⟨hi_4, Heq⟩ := gd_some Heq
  refine va_iald hx hb hK hP 23 0 rfl rfl (i := x1) hi_4 d_rsaveChange_17 ?_
  refine w_i (y := o_2.a 30 x1.toNatClampNeg) rfl ?_
  refine lv_i2l hx hb d_rsaveChange_18 rfl ?_
  refine w_l (y := (o_2.a 30 x1.toNatClampNeg).toInt64) rfl ?_
  obtain ⟨o_5, h_6, Heq⟩ := ob_some Heq
  have hFc := fr_all hD hS hA
  refine va_callv (va_runV (As := [.long ((o_2.a 30 x1.toNatClampNeg).toInt64)]) (rest := []) ⟨hx, hb, hml, hown, hts⟩ (g_rgroup l D H.size h_6) (cw_v 1 hts kw_1950 kw_1947 kw_1949 kp_82 kw_11 rfl rfl (by decide +kernel) ⟨Nat.le_of_ble_eq_true rfl, Nat.le_of_ble_eq_true rfl⟩) ⟨g_blind, va_recv hK hP (ci := 12) (q0 := 0) rfl rfl, fun U hU hW => g_pre hU hW hP hK hD⟩ rfl rfl hl.1 rfl (lv_room (Nat.le_of_ble_eq_true rfl)) d_rsaveChange_19 ⟨Nat.le_of_ble_eq_true rfl, Nat.le_of_ble_eq_true rfl⟩) hS (fun q _ h => hFc q h) hFc (fun u t H1 locs ht hvm hw hB hz1 hk1 hS => ?_)
  obtain ⟨hP, -, hD1⟩ := hB
  rw [ht] at hP
  have hD := hD1.weaken (fun _ q _ h => hFc q.1 h)
  generalize H1 = H at hP hS ⊢
  refine W.cs (cells' := 0) (slots' := 0) rfl rfl ?_
  refine lv_aload_n hx hb d_rsaveChange_22 rfl (lv_at hl 0 rfl) ?_
  refine lv_aload_n hx hb d_rsaveChange_23 rfl (lv_at hl 0 rfl) ?_
  refine va_get (D := D) (ci := 12) (v := .ref (md 32)) (C := R_MM) (T := F_MM) (N := 77) hx hb hts i_MM hown hK hP 0 rfl rfl 32 (by decide) (hts _ kw_1414) (fun _ h9 => h9) rfl d_rsaveChange_24 ?_
  refine lv_iload_n hx hb d_rsaveChange_27 rfl (lv_at hl 1 rfl) ?_
  obtain ⟨hi_7, Heq⟩ := gd_some Heq
  refine va_iald hx hb hK hP 25 0 rfl rfl (i := x1) hi_7 d_rsaveChange_28 ?_
  refine w_i (y := o_5.a 32 x1.toNatClampNeg) rfl ?_
  refine lv_i2l hx hb d_rsaveChange_29 rfl ?_
  refine w_l (y := (o_5.a 32 x1.toNatClampNeg).toInt64) rfl ?_
  obtain ⟨o_8, h_9, Heq⟩ := ob_some Heq
  have hFc := fr_all hD hS hA
  refine va_callv (va_runV (As := [.long ((o_5.a 32 x1.toNatClampNeg).toInt64)]) (rest := []) ⟨hx, hb, hml, hown, hts⟩ (g_rgroup l D H.size h_9) (cw_v 1 hts kw_1950 kw_1947 kw_1949 kp_82 kw_11 rfl rfl (by decide +kernel) ⟨Nat.le_of_ble_eq_true rfl, Nat.le_of_ble_eq_true rfl⟩) ⟨g_blind, va_recv hK hP (ci := 12) (q0 := 0) rfl rfl, fun U hU hW => g_pre hU hW hP hK hD⟩ rfl rfl hl.1 rfl (lv_room (Nat.le_of_ble_eq_true rfl)) d_rsaveChange_30 ⟨Nat.le_of_ble_eq_true rfl, Nat.le_of_ble_eq_true rfl⟩) hS (fun q _ h => hFc q h) hFc (fun u t H1 locs ht hvm hw hB hz1 hk1 hS => ?_)
  obtain ⟨hP, -, hD1⟩ := hB
  rw [ht] at hP
  have hD := hD1.weaken (fun _ q _ h => hFc q.1 h)
  generalize H1 = H at hP hS ⊢
  refine W.cs (cells' := 0) (slots' := 0) rfl rfl ?_
  refine lv_iconst (v := 0) hx hb d_rsaveChange_33 (by decide) ?_
  refine lv_istore_n (lv' := [(2, .int 0), (0, .ref (md 100)), (1, .int x1)]) hx hb d_rsaveChange_34 rfl hl (by decide) rfl (fun ls hl => ?_)
  obtain ⟨b_10, h_11, Heq⟩ := ob_some Heq
  refine w_rsaveChange_L35 hC h_11 (fun b h => ?_) _ _ _ hP hD hS (lv_sub hl [1, 2, 0] rfl)
  subst h
  intro H locs ls hP hD hS hl
  refine lv_iconst (v := 0) hx hb d_rsaveChange_132 (by decide) ?_
  refine lv_istore_n (lv' := [(2, .int 0), (0, .ref (md 100)), (1, .int b_10.2)]) hx hb d_rsaveChange_133 rfl hl (by decide) rfl (fun ls hl => ?_)
  refine lv_ldcw (v := 2147483647) hx hb hown (hts _ kw_1956) d_rsaveChange_134 ?_
  refine lv_istore_n (lv' := [(3, .int 2147483647), (2, .int 0), (0, .ref (md 100)), (1, .int b_10.2)]) hx hb d_rsaveChange_137 rfl hl (by decide) rfl (fun ls hl => ?_)
  refine lv_iconst (v := 0) hx hb d_rsaveChange_138 (by decide) ?_
  refine lv_istore (lv' := [(4, .int 0), (3, .int 2147483647), (2, .int 0), (0, .ref (md 100)), (1, .int b_10.2)]) hx hb d_rsaveChange_139 hl (by decide) rfl (fun ls hl => ?_)
  obtain ⟨b_12, h_13, Heq⟩ := ob_some Heq
  refine w_rsaveChange_L141 hC h_13 (fun b h => ?_) _ _ _ hP hD hS (lv_sub hl [3, 4, 2, 1, 0] rfl)
  subst h
  intro H locs ls hP hD hS hl
  refine lv_aload_n hx hb d_rsaveChange_198 rfl (lv_at hl 0 rfl) ?_
  refine lv_iload_n hx hb d_rsaveChange_199 rfl (lv_at hl 3 rfl) ?_
  refine lv_i2l hx hb d_rsaveChange_200 rfl ?_
  refine w_l (y := b_12.2.2.2.toInt64) rfl ?_
  obtain ⟨o_14, h_15, Heq⟩ := ob_some Heq
  have hFc := fr_all hD hS hA
  refine va_callv (va_runV (As := [.long b_12.2.2.2.toInt64]) (rest := []) ⟨hx, hb, hml, hown, hts⟩ (g_rgroup l D H.size h_15) (cw_v 1 hts kw_1950 kw_1947 kw_1949 kp_82 kw_11 rfl rfl (by decide +kernel) ⟨Nat.le_of_ble_eq_true rfl, Nat.le_of_ble_eq_true rfl⟩) ⟨g_blind, va_recv hK hP (ci := 12) (q0 := 0) rfl rfl, fun U hU hW => g_pre hU hW hP hK hD⟩ rfl rfl hl.1 rfl (lv_room (Nat.le_of_ble_eq_true rfl)) d_rsaveChange_201 ⟨Nat.le_of_ble_eq_true rfl, Nat.le_of_ble_eq_true rfl⟩) hS (fun q _ h => hFc q h) hFc (fun u t H1 locs ht hvm hw hB hz1 hk1 hS => ?_)
  obtain ⟨hP, -, hD1⟩ := hB
  rw [ht] at hP
  have hD := hD1.weaken (fun _ q _ h => hFc q.1 h)
  generalize H1 = H at hP hS ⊢
  refine W.cs (cells' := 0) (slots' := 0) rfl rfl ?_
  refine lv_aload_n hx hb d_rsaveChange_204 rfl (lv_at hl 0 rfl) ?_
  refine lv_iload_n hx hb d_rsaveChange_205 rfl (lv_at hl 2 rfl) ?_
  refine lv_i2l hx hb d_rsaveChange_206 rfl ?_
  refine w_l (y := b_12.2.2.1.toInt64) rfl ?_
  obtain ⟨o_16, h_17, Heq⟩ := ob_some Heq
  have hFc := fr_all hD hS hA
  refine va_callv (va_runV (As := [.long b_12.2.2.1.toInt64]) (rest := []) ⟨hx, hb, hml, hown, hts⟩ (g_rgroup l D H.size h_17) (cw_v 1 hts kw_1950 kw_1947 kw_1949 kp_82 kw_11 rfl rfl (by decide +kernel) ⟨Nat.le_of_ble_eq_true rfl, Nat.le_of_ble_eq_true rfl⟩) ⟨g_blind, va_recv hK hP (ci := 12) (q0 := 0) rfl rfl, fun U hU hW => g_pre hU hW hP hK hD⟩ rfl rfl hl.1 rfl (lv_room (Nat.le_of_ble_eq_true rfl)) d_rsaveChange_207 ⟨Nat.le_of_ble_eq_true rfl, Nat.le_of_ble_eq_true rfl⟩) hS (fun q _ h => hFc q h) hFc (fun u t H1 locs ht hvm hw hB hz1 hk1 hS => ?_)
  obtain ⟨hP, -, hD1⟩ := hB
  rw [ht] at hP
  have hD := hD1.weaken (fun _ q _ h => hFc q.1 h)
  generalize H1 = H at hP hS ⊢
  refine W.cs (cells' := 0) (slots' := 0) rfl rfl ?_
  refine lv_iconst (v := 0) hx hb d_rsaveChange_210 (by decide) ?_
  refine lv_istore (lv' := [(4, .int 0), (0, .ref (md 100)), (1, .int b_12.2.1), (2, .int b_12.2.2.1), (3, .int b_12.2.2.2)]) hx hb d_rsaveChange_211 hl (by decide) rfl (fun ls hl => ?_)
  obtain ⟨b_18, h_19, Heq⟩ := ob_some Heq
  refine w_rsaveChange_L213 hC h_19 (fun b h => ?_) _ _ _ hP hD hS (lv_sub hl [1, 2, 0] rfl)
  subst h
  intro H locs ls hP hD hS hl
  exact Kr _ (Option.some.inj Heq).symm 270 _ _ _ d_rsaveChange_270 hP hD hS
def m_rsaveChange (S : MS) (x1 : Int32) : Option MS := m_rsaveChange_J0 S x1
theorem g_rsaveChange (l : Launch) (D : va_G) (sz : Nat) {md : Nat → Nat} {mc : Nat → ClassId} {S : MS} {x1 : Int32} {o : MS} (Heq : m_rsaveChange S x1 = some o) : Met l ⟨"JoinedTreesModel", "saveChange", "(I)V"⟩ (Cond.code ⟨"JoinedTreesModel", "saveChange", "(I)V"⟩ prog_14_method_86_code 6 none :: gb) ({ frames := 4, cells := 0, slots := 0, locals := 93 }) (gPc D (mw md mc S) (mty mc) sz [.ref (md 100), .int x1]) (va_Qv (fun _ : Unit => True) (fun _ t => gO D (mw md mc o) (mty mc) (va_A (mw md mc S) sz) t) (va_A (mw md mc S) sz)) 0 0 (va_A (mw md mc S) sz) := by
  refine Met.ofW (cc := prog_14_method_86_code) (maxL := 6) (ret := none) (by decide) rfl ?_
  intro p e s m args below meth c s₁ B hml hv
  obtain ⟨rfl, hsz, hP, hK, hD0⟩ := hv
  have hx := B.exec
  have hb := B.bytes
  have hr := B.returns
  have hts : ∀ w9 ∈ gb, w9.before [.ref (md 100), .int x1].toArray s = true := fun w9 h => atoms_spec (ws := Cond.code ⟨"JoinedTreesModel", "saveChange", "(I)V"⟩ prog_14_method_86_code 6 none :: gb) B.pre w9 (List.mem_cons_of_mem _ h)
  have hown : s.vm.findClass "JoinedTreesModel" = some m.cls := findClass_of_methodNamed B.named
  have hlocks := B.notSynchronized
  subst hsz
  have hD := hD0.self (sz := s.heap.size)
  generalize hAe : va_A (mw md mc S) s.heap.size = A at hD ⊢
  have hA : ∀ q : Nat, s.heap.size ≤ q → A q := fun q h => by rw [← hAe]; exact Or.inr h
  have hS : va_S A s.heap s.heap [] := va_S.rf
  have hl := lv_entry ([.ref (md 100), .int x1]) (n := 6) (Nat.le_of_ble_eq_true rfl)
  rw [lg_entry_eq]
  generalize (lg_sl ([.ref (md 100), .int x1]) ++ List.replicate (6 - (lg_sl ([.ref (md 100), .int x1])).length) Slot.unset).toArray = ls at hl ⊢
  have hl : lv_has ls 6 [(0, .ref (md 100)), (1, .int x1)] := hl
  refine w_rsaveChange_J0 ⟨hx, hb, hr, hml, hown, hts, hK, hA⟩ Heq (fun r h pc H locs ls hd hP hD hS => ?_) _ _ _ hP hD hS (lv_sub hl [0, 1] rfl)
  subst h
  exact W.vret hx hb hr (fun t ht hW => ⟨⟨(), rfl, trivial, by rw [ht]; exact hP, va_K.moved hW.alike hK, hD⟩, hS.F ht⟩) hS.2.2 hd
