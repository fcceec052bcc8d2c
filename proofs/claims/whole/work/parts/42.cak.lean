def m_cWr_writeLetters_B2 (N : Nat → Nat) (x0 : Nat) (S : CS) (x1 : Int32) (x2 : Int32) (x3 : Int32) : Option ((CS × Int32 × Int32 × Int32) ⊕ CS) := (if x2 ≤ x3 then some (.inr (S)) else gl x0 (N 2) (gn (S.r 2 0 x0) (N 10) (fun j_2 => gn (S.r 10 0 j_2) (N 8) (fun j_5 => gn (S.r 8 2 j_5) (N 5) (fun j_8 => ob (m_cRw_at N j_8 S (x1 + x3)) (fun o_11 => ob (m_cWr_writeLetter N x0 o_11.1 o_11.2) (fun o_13 => some (.inl (o_13, x1, x2, (x3 + 1))))))))))
theorem d_cWr_writeLetters_0 : decode prog_4_method_8_code 0 = .ok (.iconst 0, 1) := by decide +kernel
theorem d_cWr_writeLetters_1 : decode prog_4_method_8_code 1 = .ok (.istore_n 3, 1) := by decide +kernel
theorem d_cWr_writeLetters_2 : decode prog_4_method_8_code 2 = .ok (.iload_n 3, 1) := by decide +kernel
theorem d_cWr_writeLetters_3 : decode prog_4_method_8_code 3 = .ok (.iload_n 2, 1) := by decide +kernel
theorem d_cWr_writeLetters_4 : decode prog_4_method_8_code 4 = .ok (.if_icmp .ge 29, 3) := by decide +kernel
theorem d_cWr_writeLetters_7 : decode prog_4_method_8_code 7 = .ok (.aload_n 0, 1) := by decide +kernel
theorem d_cWr_writeLetters_8 : decode prog_4_method_8_code 8 = .ok (.aload_n 0, 1) := by decide +kernel
theorem d_cWr_writeLetters_9 : decode prog_4_method_8_code 9 = .ok (.getfield 20, 3) := by decide +kernel
theorem d_cWr_writeLetters_12 : decode prog_4_method_8_code 12 = .ok (.getfield 123, 3) := by decide +kernel
theorem d_cWr_writeLetters_15 : decode prog_4_method_8_code 15 = .ok (.getfield 127, 3) := by decide +kernel
theorem d_cWr_writeLetters_18 : decode prog_4_method_8_code 18 = .ok (.iload_n 1, 1) := by decide +kernel
theorem d_cWr_writeLetters_19 : decode prog_4_method_8_code 19 = .ok (.iload_n 3, 1) := by decide +kernel
theorem d_cWr_writeLetters_20 : decode prog_4_method_8_code 20 = .ok (.iadd, 1) := by decide +kernel
theorem d_cWr_writeLetters_21 : decode prog_4_method_8_code 21 = .ok (.invokevirtual 76, 3) := by decide +kernel
theorem d_cWr_writeLetters_24 : decode prog_4_method_8_code 24 = .ok (.invokevirtual 132, 3) := by decide +kernel
theorem d_cWr_writeLetters_27 : decode prog_4_method_8_code 27 = .ok (.iinc 3 1, 3) := by decide +kernel
theorem d_cWr_writeLetters_30 : decode prog_4_method_8_code 30 = .ok (.goto (-28), 3) := by decide +kernel
set_option maxHeartbeats 4000000 in
set_option maxRecDepth 100000 in
theorem w_cWr_writeLetters_B2 {p : Program} {l : Launch} {e : Env} {s : State} {m : MethodId} {args : Array Value} {below : List Frame} {meth : Method} {c : Code} {A : Nat → Prop} {D : va_G} {ad : Nat → Nat → Nat} {cc : Nat → ClassId} {sad sav : Nat → Nat} {Q : State → Prop} (hC : MCc sad sav "JoinedTrees$JsonWriter" prog_4_method_8_code 4 none p s m args meth c A D cc) {N : Nat → Nat} {x0 : Nat} {S : CS} {x1 : Int32} {x2 : Int32} {x3 : Int32} {o : ((CS × Int32 × Int32 × Int32) ⊕ CS)} (Heq : m_cWr_writeLetters_B2 N x0 S x1 x2 x3 = some o) (Ka : ∀ b : CS × Int32 × Int32 × Int32, o = .inl b → ∀ (H : Heap) (locs : List Loc) (ls : Array Slot), va_P D cls (cw ad cc N b.1) H → va_D A (cw ad cc N b.1) → va_S A s.heap H locs → lv_has ls 4 [(0, .ref (ad 2 x0)), (1, .int b.2.1), (2, .int b.2.2.1), (3, .int b.2.2.2)] → W p l e ({ frames := 2, cells := 0, slots := 0, locals := 44 }) s m args below meth c H locs 0 0 Q (F0 m 2 ls [])) (K0 : ∀ b : CS, o = .inr b → ∀ (H : Heap) (locs : List Loc) (ls : Array Slot), va_P D cls (cw ad cc N b) H → va_D A (cw ad cc N b) → va_S A s.heap H locs → lv_has ls 4 [(0, .ref (ad 2 x0))] → W p l e ({ frames := 2, cells := 0, slots := 0, locals := 44 }) s m args below meth c H locs 0 0 Q (F0 m 33 ls [])) : ∀ (H : Heap) (locs : List Loc) (ls : Array Slot), va_P D cls (cw ad cc N S) H → va_D A (cw ad cc N S) → va_S A s.heap H locs → lv_has ls 4 [(0, .ref (ad 2 x0)), (1, .int x1), (2, .int x2), (3, .int x3)] → W p l e ({ frames := 2, cells := 0, slots := 0, locals := 44 }) s m args below meth c H locs 0 0 Q (F0 m 2 ls []) := by
  intro H locs ls hP hD hS hl
  obtain ⟨hx, hb, hr, hml, hown, hts, hK, hA, hev, hE, hN, hNS⟩ := id hC
  unfold m_cWr_writeLetters_B2 at Heq
  refine lv_iload_n hx hb d_cWr_writeLetters_2 rfl (lv_at hl 3 rfl) ?_
  refine lv_iload_n hx hb d_cWr_writeLetters_3 rfl (lv_at hl 2 rfl) ?_
  refine lv_icmp_ge (tgt := 33) hx hb d_cWr_writeLetters_4 (by decide) (fun c_1 => ?_) (fun c_1 => ?_)
  · replace Heq := (if_pos c_1).symm.trans Heq
    exact K0 _ (Option.some.inj Heq).symm _ _ _ hP hD hS (lv_sub hl [0] rfl)
  · replace Heq := (if_neg c_1).symm.trans Heq
    refine lv_aload_n hx hb d_cWr_writeLetters_7 rfl (lv_at hl 0 rfl) ?_
    refine lv_aload_n hx hb d_cWr_writeLetters_8 rfl (lv_at hl 0 rfl) ?_
    obtain ⟨hl_x0_2, Heq⟩ := gl_some Heq
    refine va_get (D := D) (ci := 2) (v := rv ad 10 (S.r 2 0 x0)) (C := R_Wr) (T := F_Wr) (N := 2) hx hb hts i_Wr hown hK hP (cPos N 2 x0) (cw_obj (k := 2) (by decide) hl_x0_2) rfl 0 (by decide) (hts _ kw_385) (fun _ h9 => h9) rfl d_cWr_writeLetters_9 ?_
    obtain ⟨j_2, hj_3, hl_4, Heq⟩ := gn_some Heq
    refine w_s (st' := [.ref (ad 10 j_2), .ref (ad 2 x0)]) (congrArg (fun z9 : Option Nat => [rv ad 10 z9, .ref (ad 2 x0)]) hj_3) ?_
    refine va_get (D := D) (ci := 10) (v := rv ad 8 (S.r 10 0 j_2)) (C := R_Vw) (T := F_Vw) (N := 5) hx hb hts i_Vw hown hK hP (cPos N 10 j_2) (cw_obj (k := 10) (by decide) hl_4) rfl 0 (by decide) (hts _ kw_262) (fun _ h9 => h9) rfl d_cWr_writeLetters_12 ?_
    obtain ⟨j_5, hj_6, hl_7, Heq⟩ := gn_some Heq
    refine w_s (st' := [.ref (ad 8 j_5), .ref (ad 2 x0)]) (congrArg (fun z9 : Option Nat => [rv ad 8 z9, .ref (ad 2 x0)]) hj_6) ?_
    refine va_get (D := D) (ci := 8) (v := rv ad 5 (S.r 8 2 j_5)) (C := R_St) (T := F_St) (N := 6) hx hb hts i_St hown hK hP (cPos N 8 j_5) (cw_obj (k := 8) (by decide) hl_7) rfl 2 (by decide) (hts _ kw_169) (fun _ h9 => h9) rfl d_cWr_writeLetters_15 ?_
    refine lv_iload_n hx hb d_cWr_writeLetters_18 rfl (lv_at hl 1 rfl) ?_
    refine lv_iload_n hx hb d_cWr_writeLetters_19 rfl (lv_at hl 3 rfl) ?_
    refine lv_iadd hx hb d_cWr_writeLetters_20 ?_
    refine w_i (y := x1 + x3) rfl ?_
    obtain ⟨j_8, hj_9, hl_10, Heq⟩ := gn_some Heq
    refine w_s (st' := [.int (x1 + x3), .ref (ad 5 j_8), .ref (ad 2 x0)]) (congrArg (fun z9 : Option Nat => [.int (x1 + x3), rv ad 5 z9, .ref (ad 2 x0)]) hj_9) ?_
    obtain ⟨o_11, h_12, Heq⟩ := ob_some Heq
    have hFc := fr_all hD hS hA
    refine va_calli (va_runV (As := [.int (x1 + x3)]) (rest := [.ref (ad 2 x0)]) ⟨hx, hb, hml, hown, hts⟩ (g_cRw_at l D H.size (ad := ad) (cc := cc) (sad := sad) (sav := sav) h_12) (cw_v 1 hts kw_689 kw_1239 kw_687 kw_688 kw_4 rfl rfl (by decide +kernel) ⟨Nat.le_of_ble_eq_true rfl, Nat.le_of_ble_eq_true rfl⟩) ⟨c_blind, va_recv hK hP (ci := 5) (q0 := cPos N 5 j_8) rfl (cw_obj (k := 5) (by decide) hl_10), fun U hU hW => c_pre hU hW hP hK hD hev hE hN hNS hS hFc⟩ rfl rfl hl.1 rfl (lv_room (Nat.le_of_ble_eq_true rfl)) d_cWr_writeLetters_21 ⟨Nat.le_of_ble_eq_true rfl, Nat.le_of_ble_eq_true rfl⟩) hS (fun q _ h => hFc q h) hFc (fun rz u t H1 locs ht hvm hw hB hz1 hk1 hS => ?_)
    obtain ⟨hP, -, hD1⟩ := hB
    rw [ht] at hP
    have hD := hD1.weaken (fun _ q _ h => hFc q.1 h)
    generalize H1 = H at hP hS ⊢
    refine W.cs (cells' := 0) (slots' := 0) rfl rfl ?_
    subst hw
    obtain ⟨o_13, h_14, Heq⟩ := ob_some Heq
    have hFc := fr_all hD hS hA
    refine va_callv (va_runV (As := [.int o_11.2]) (rest := []) ⟨hx, hb, hml, hown, hts⟩ (g_cWr_writeLetter l D H.size (ad := ad) (cc := cc) (sad := sad) (sav := sav) h_14) (cw_v 1 hts kw_1243 kw_1240 kw_1241 kw_1242 kw_9 rfl rfl (by decide +kernel) ⟨Nat.le_of_ble_eq_true rfl, Nat.le_of_ble_eq_true rfl⟩) ⟨c_blind, va_recv hK hP (ci := 2) (q0 := cPos N 2 x0) rfl (cw_obj (k := 2) (by decide) hl_x0_2), fun U hU hW => c_pre hU hW hP hK hD hev hE hN hNS hS hFc⟩ rfl rfl hl.1 rfl (lv_room (Nat.le_of_ble_eq_true rfl)) d_cWr_writeLetters_24 ⟨Nat.le_of_ble_eq_true rfl, Nat.le_of_ble_eq_true rfl⟩) hS (fun q _ h => hFc q h) hFc (fun u t H1 locs ht hvm hw hB hz1 hk1 hS => ?_)
    obtain ⟨hP, -, hD1⟩ := hB
    rw [ht] at hP
    have hD := hD1.weaken (fun _ q _ h => hFc q.1 h)
    generalize H1 = H at hP hS ⊢
    refine W.cs (cells' := 0) (slots' := 0) rfl rfl ?_
    refine lv_iinc (v := x3 + 1) (lv' := [(3, .int (x3 + 1)), (0, .ref (ad 2 x0)), (1, .int x1), (2, .int x2)]) hx hb d_cWr_writeLetters_27 hl (k := 3) rfl rfl (by decide) rfl (fun ls hl => ?_)
    refine lv_goto (tgt := 2) hx hb d_cWr_writeLetters_30 (by decide) ?_
    exact Ka _ (Option.some.inj Heq).symm _ _ _ hP hD hS (lv_sub hl [1, 2, 3, 0] rfl)
def m_cWr_writeLetters_L2 (N : Nat → Nat) (x0 : Nat) (S : CS) (x1 : Int32) (x2 : Int32) (x3 : Int32) : Option CS := lp (fun a : CS × Int32 × Int32 × Int32 => m_cWr_writeLetters_B2 N x0 a.1 a.2.1 a.2.2.1 a.2.2.2) FU (S, x1, x2, x3)
theorem w_cWr_writeLetters_L2 {p : Program} {l : Launch} {e : Env} {s : State} {m : MethodId} {args : Array Value} {below : List Frame} {meth : Method} {c : Code} {A : Nat → Prop} {D : va_G} {ad : Nat → Nat → Nat} {cc : Nat → ClassId} {sad sav : Nat → Nat} {Q : State → Prop} (hC : MCc sad sav "JoinedTrees$JsonWriter" prog_4_method_8_code 4 none p s m args meth c A D cc) {N : Nat → Nat} {x0 : Nat} {S : CS} {x1 : Int32} {x2 : Int32} {x3 : Int32} {o : CS} (Heq : m_cWr_writeLetters_L2 N x0 S x1 x2 x3 = some o) (K0 : ∀ b : CS, o = b → ∀ (H : Heap) (locs : List Loc) (ls : Array Slot), va_P D cls (cw ad cc N b) H → va_D A (cw ad cc N b) → va_S A s.heap H locs → lv_has ls 4 [(0, .ref (ad 2 x0))] → W p l e ({ frames := 2, cells := 0, slots := 0, locals := 44 }) s m args below meth c H locs 0 0 Q (F0 m 33 ls [])) : ∀ (H : Heap) (locs : List Loc) (ls : Array Slot), va_P D cls (cw ad cc N S) H → va_D A (cw ad cc N S) → va_S A s.heap H locs → lv_has ls 4 [(0, .ref (ad 2 x0)), (1, .int x1), (2, .int x2), (3, .int x3)] → W p l e ({ frames := 2, cells := 0, slots := 0, locals := 44 }) s m args below meth c H locs 0 0 Q (F0 m 2 ls []) := by
  refine lp_w (G := fun a : CS × Int32 × Int32 × Int32 => ∀ (H : Heap) (locs : List Loc) (ls : Array Slot), va_P D cls (cw ad cc N a.1) H → va_D A (cw ad cc N a.1) → va_S A s.heap H locs → lv_has ls 4 [(0, .ref (ad 2 x0)), (1, .int a.2.1), (2, .int a.2.2.1), (3, .int a.2.2.2)] → W p l e ({ frames := 2, cells := 0, slots := 0, locals := 44 }) s m args below meth c H locs 0 0 Q (F0 m 2 ls [])) ?_ FU (S, x1, x2, x3) Heq
  intro a o1 ho Ka Ke
  exact w_cWr_writeLetters_B2 hC ho (fun b h => Ka b h) (fun b h => K0 b (Ke _ h).symm)
def m_cWr_writeLetters_J0 (N : Nat → Nat) (x0 : Nat) (S : CS) (x1 : Int32) (x2 : Int32) : Option CS := ob (m_cWr_writeLetters_L2 N x0 S x1 x2 0) (fun b_1 => some b_1)
theorem d_cWr_writeLetters_33 : decode prog_4_method_8_code 33 = .ok (.return_, 1) := by decide +kernel
set_option maxHeartbeats 4000000 in
set_option maxRecDepth 100000 in
theorem w_cWr_writeLetters_J0 {p : Program} {l : Launch} {e : Env} {s : State} {m : MethodId} {args : Array Value} {below : List Frame} {meth : Method} {c : Code} {A : Nat → Prop} {D : va_G} {ad : Nat → Nat → Nat} {cc : Nat → ClassId} {sad sav : Nat → Nat} {Q : State → Prop} (hC : MCc sad sav "JoinedTrees$JsonWriter" prog_4_method_8_code 4 none p s m args meth c A D cc) {N : Nat → Nat} {x0 : Nat} {S : CS} {x1 : Int32} {x2 : Int32} {o : CS} (Heq : m_cWr_writeLetters_J0 N x0 S x1 x2 = some o) (Kr : ∀ r : CS, o = r → ∀ (pc : Nat) (H : Heap) (locs : List Loc) (ls : Array Slot), decode prog_4_method_8_code pc = .ok (.return_, 1) → va_P D cls (cw ad cc N r) H → va_D A (cw ad cc N r) → va_S A s.heap H locs → W p l e ({ frames := 2, cells := 0, slots := 0, locals := 44 }) s m args below meth c H locs 0 0 Q (F0 m pc ls [])) : ∀ (H : Heap) (locs : List Loc) (ls : Array Slot), va_P D cls (cw ad cc N S) H → va_D A (cw ad cc N S) → va_S A s.heap H locs → lv_has ls 4 [(0, .ref (ad 2 x0)), (1, .int x1), (2, .int x2)] → W p l e ({ frames := 2, cells := 0, slots := 0, locals := 44 }) s m args below meth c H locs 0 0 Q (F0 m 0 ls []) := by
  intro H locs ls hP hD hS hl
  obtain ⟨hx, hb, hr, hml, hown, hts, hK, hA, hev, hE, hN, hNS⟩ := id hC
  unfold m_cWr_writeLetters_J0 at Heq
  refine lv_iconst (v := 0) hx hb d_cWr_writeLetters_0 (by decide) ?_
  refine lv_istore_n (lv' := [(3, .int 0), (0, .ref (ad 2 x0)), (1, .int x1), (2, .int x2)]) hx hb d_cWr_writeLetters_1 rfl hl (by decide) rfl (fun ls hl => ?_)
  obtain ⟨b_1, h_2, Heq⟩ := ob_some Heq
  refine w_cWr_writeLetters_L2 hC h_2 (fun b h => ?_) _ _ _ hP hD hS (lv_sub hl [1, 2, 3, 0] rfl)
  subst h
  intro H locs ls hP hD hS hl
  exact Kr _ (Option.some.inj Heq).symm 33 _ _ _ d_cWr_writeLetters_33 hP hD hS
def m_cWr_writeLetters (N : Nat → Nat) (x0 : Nat) (S : CS) (x1 : Int32) (x2 : Int32) : Option CS := m_cWr_writeLetters_J0 N x0 S x1 x2
set_option maxHeartbeats 4000000 in
theorem g_cWr_writeLetters (l : Launch) (D : va_G) (sz : Nat) {ad : Nat → Nat → Nat} {cc : Nat → ClassId} {sad sav : Nat → Nat} {N : Nat → Nat} {x0 : Nat} {S : CS} {x1 : Int32} {x2 : Int32} {o : CS} (Heq : m_cWr_writeLetters N x0 S x1 x2 = some o) : Met l ⟨"JoinedTrees$JsonWriter", "writeLetters", "(II)V"⟩ (Cond.code ⟨"JoinedTrees$JsonWriter", "writeLetters", "(II)V"⟩ prog_4_method_8_code 4 none :: gb) ({ frames := 2, cells := 0, slots := 0, locals := 44 }) (cPc sad sav D (cw ad cc N S) (cty cc) sz [.ref (ad 2 x0), .int x1, .int x2]) (va_Qv (fun _ : Unit => True) (fun _ t => gO D (cw ad cc N o) (cty cc) (va_A (cw ad cc N S) sz) t) (va_A (cw ad cc N S) sz)) 0 0 (va_A (cw ad cc N S) sz) := by
  refine Met.ofW (cc := prog_4_method_8_code) (maxL := 4) (ret := none) (by decide) rfl ?_
  intro p e s m args below meth c s₁ B hml hv
  obtain ⟨rfl, hsz, hP, hK, hD0, hev, hE, hN⟩ := hv
  have hx := B.exec
  have hb := B.bytes
  have hr := B.returns
  have hts : ∀ w9 ∈ gb, w9.before [.ref (ad 2 x0), .int x1, .int x2].toArray s = true := fun w9 h => atoms_spec (ws := Cond.code ⟨"JoinedTrees$JsonWriter", "writeLetters", "(II)V"⟩ prog_4_method_8_code 4 none :: gb) B.pre w9 (List.mem_cons_of_mem _ h)
  have hown : s.vm.findClass "JoinedTrees$JsonWriter" = some m.cls := findClass_of_methodNamed B.named
  have hlocks := B.notSynchronized
  have hNS := ns_of hP
  subst hsz
  have hD := hD0.self (sz := s.heap.size)
  generalize hAe : va_A (cw ad cc N S) s.heap.size = A at hD hev hE hNS ⊢
  have hA : ∀ q : Nat, s.heap.size ≤ q → A q := fun q h => by rw [← hAe]; exact Or.inr h
  have hS : va_S A s.heap s.heap [] := va_S.rf
  obtain ⟨ls, hl, hle⟩ : ∃ ls : Array Slot, lv_has ls 4 [(0, .ref (ad 2 x0)), (1, .int x1), (2, .int x2)] ∧ entryFrame m ([.ref (ad 2 x0), .int x1, .int x2] : List Value).toArray 4 = F0 m 0 ls [] := by
    exact ⟨_, lv_entry (n := 4) _ (Nat.le_of_ble_eq_true rfl), lg_entry_eq ..⟩
  rw [hle]
  refine w_cWr_writeLetters_J0 ⟨hx, hb, hr, hml, hown, hts, hK, hA, hev, hE, hN, hNS⟩ Heq (fun r h pc H locs ls hd hP hD hS => ?_) _ _ _ hP hD hS (lv_sub hl [0, 1, 2] rfl)
  subst h
  exact W.vret hx hb hr (fun t ht hW => ⟨⟨(), rfl, trivial, by rw [ht]; exact hP, va_K.moved hW.alike hK, hD⟩, hS.F ht⟩) hS.2.2 hd
def m_cWr_writeElements_J42 (N : Nat → Nat) (x0 : Nat) (S : CS) (x2 : Option Nat) : Option ((CS × Option Nat) ⊕ CS) := gn x2 (N 7) (fun j_1 => some (.inl (S, (S.r 7 2 j_1))))
theorem d_cWr_writeElements_0 : decode prog_4_method_7_code 0 = .ok (.aload_n 1, 1) := by decide +kernel
theorem d_cWr_writeElements_1 : decode prog_4_method_7_code 1 = .ok (.getfield 70, 3) := by decide +kernel
theorem d_cWr_writeElements_4 : decode prog_4_method_7_code 4 = .ok (.astore_n 2, 1) := by decide +kernel
theorem d_cWr_writeElements_5 : decode prog_4_method_7_code 5 = .ok (.aload_n 2, 1) := by decide +kernel
theorem d_cWr_writeElements_6 : decode prog_4_method_7_code 6 = .ok (.ifnull 44, 3) := by decide +kernel
theorem d_cWr_writeElements_9 : decode prog_4_method_7_code 9 = .ok (.aload_n 0, 1) := by decide +kernel
theorem d_cWr_writeElements_10 : decode prog_4_method_7_code 10 = .ok (.getfield 20, 3) := by decide +kernel
theorem d_cWr_writeElements_13 : decode prog_4_method_7_code 13 = .ok (.aload_n 2, 1) := by decide +kernel
theorem d_cWr_writeElements_14 : decode prog_4_method_7_code 14 = .ok (.invokevirtual 45, 3) := by decide +kernel
theorem d_cWr_writeElements_17 : decode prog_4_method_7_code 17 = .ok (.astore_n 3, 1) := by decide +kernel
theorem d_cWr_writeElements_18 : decode prog_4_method_7_code 18 = .ok (.aload_n 3, 1) := by decide +kernel
theorem d_cWr_writeElements_19 : decode prog_4_method_7_code 19 = .ok (.ifnull 23, 3) := by decide +kernel
theorem d_cWr_writeElements_42 : decode prog_4_method_7_code 42 = .ok (.aload_n 2, 1) := by decide +kernel
theorem d_cWr_writeElements_43 : decode prog_4_method_7_code 43 = .ok (.getfield 58, 3) := by decide +kernel
theorem d_cWr_writeElements_46 : decode prog_4_method_7_code 46 = .ok (.astore_n 2, 1) := by decide +kernel
theorem d_cWr_writeElements_47 : decode prog_4_method_7_code 47 = .ok (.goto (-42), 3) := by decide +kernel
set_option maxHeartbeats 4000000 in
set_option maxRecDepth 100000 in
theorem w_cWr_writeElements_J42 {p : Program} {l : Launch} {e : Env} {s : State} {m : MethodId} {args : Array Value} {below : List Frame} {meth : Method} {c : Code} {A : Nat → Prop} {D : va_G} {ad : Nat → Nat → Nat} {cc : Nat → ClassId} {sad sav : Nat → Nat} {Q : State → Prop} (hC : MCc sad sav "JoinedTrees$JsonWriter" prog_4_method_7_code 4 none p s m args meth c A D cc) {N : Nat → Nat} {x0 : Nat} {S : CS} {x2 : Option Nat} {o : ((CS × Option Nat) ⊕ CS)} (Heq : m_cWr_writeElements_J42 N x0 S x2 = some o) (Ka : ∀ b : CS × Option Nat, o = .inl b → ∀ (H : Heap) (locs : List Loc) (ls : Array Slot), va_P D cls (cw ad cc N b.1) H → va_D A (cw ad cc N b.1) → va_S A s.heap H locs → lv_has ls 4 [(0, .ref (ad 2 x0)), (2, rv ad 7 b.2)] → W p l e ({ frames := 3, cells := 0, slots := 0, locals := 67 }) s m args below meth c H locs 0 0 Q (F0 m 5 ls [])) (K0 : ∀ b : CS, o = .inr b → ∀ (H : Heap) (locs : List Loc) (ls : Array Slot), va_P D cls (cw ad cc N b) H → va_D A (cw ad cc N b) → va_S A s.heap H locs → lv_has ls 4 [(0, .ref (ad 2 x0))] → W p l e ({ frames := 3, cells := 0, slots := 0, locals := 67 }) s m args below meth c H locs 0 0 Q (F0 m 50 ls [])) : ∀ (H : Heap) (locs : List Loc) (ls : Array Slot), va_P D cls (cw ad cc N S) H → va_D A (cw ad cc N S) → va_S A s.heap H locs → lv_has ls 4 [(0, .ref (ad 2 x0)), (2, rv ad 7 x2)] → W p l e ({ frames := 3, cells := 0, slots := 0, locals := 67 }) s m args below meth c H locs 0 0 Q (F0 m 42 ls []) := by
  intro H locs ls hP hD hS hl
  obtain ⟨hx, hb, hr, hml, hown, hts, hK, hA, hev, hE, hN, hNS⟩ := id hC
  unfold m_cWr_writeElements_J42 at Heq
  refine tx_aload_n (x := x2.map (ad 7)) hx hb d_cWr_writeElements_42 rfl (lv_at hl 1 rfl) ?_
  refine w_v (y := rv ad 7 x2) rfl ?_
  obtain ⟨j_1, hj_2, hl_3, Heq⟩ := gn_some Heq
  refine w_s (st' := [.ref (ad 7 j_1)]) (congrArg (fun z9 : Option Nat => [rv ad 7 z9]) hj_2) ?_
  refine va_get (D := D) (ci := 7) (v := rv ad 7 (S.r 7 2 j_1)) (C := R_Sp) (T := F_Sp) (N := 3) hx hb hts i_Sp hown hK hP (cPos N 7 j_1) (cw_obj (k := 7) (by decide) hl_3) rfl 2 (by decide) (hts _ kw_746) (fun _ h9 => h9) rfl d_cWr_writeElements_43 ?_
  refine tx_astore_n (x := (S.r 7 2 j_1).map (ad 7)) (lv' := [(2, rv ad 7 (S.r 7 2 j_1)), (0, .ref (ad 2 x0))]) hx hb d_cWr_writeElements_46 rfl hl (by decide) rfl (fun ls hl => ?_)
  refine lv_goto (tgt := 5) hx hb d_cWr_writeElements_47 (by decide) ?_
  exact Ka _ (Option.some.inj Heq).symm _ _ _ hP hD hS (lv_sub hl [1, 0] rfl)
def m_cWr_writeElements_B5 (N : Nat → Nat) (x0 : Nat) (S : CS) (x2 : Option Nat) : Option ((CS × Option Nat) ⊕ CS) := on x2 (some (.inr (S))) (fun j_1 => gl x0 (N 2) (gl j_1 (N 7) (gn (S.r 2 0 x0) (N 10) (fun j_3 => ob (m_cVw_top N j_3 S j_1) (fun o_6 => on o_6.2 (m_cWr_writeElements_J42 N x0 o_6.1 x2) (fun j_8 => gl j_8 (N 3) ((if o_6.1.i 3 2 j_8 = 4 then ob (m_cWr_writeLetters N x0 o_6.1 (o_6.1.i 3 8 j_8) (o_6.1.i 3 10 j_8)) (fun o_11 => m_cWr_writeElements_J42 N x0 o_11 x2) else m_cWr_writeElements_J42 N x0 o_6.1 x2))))))))
theorem d_cWr_writeElements_22 : decode prog_4_method_7_code 22 = .ok (.aload_n 3, 1) := by decide +kernel
theorem d_cWr_writeElements_23 : decode prog_4_method_7_code 23 = .ok (.getfield 27, 3) := by decide +kernel
theorem d_cWr_writeElements_26 : decode prog_4_method_7_code 26 = .ok (.iconst 4, 1) := by decide +kernel
theorem d_cWr_writeElements_27 : decode prog_4_method_7_code 27 = .ok (.if_icmp .ne 15, 3) := by decide +kernel
theorem d_cWr_writeElements_30 : decode prog_4_method_7_code 30 = .ok (.aload_n 0, 1) := by decide +kernel
theorem d_cWr_writeElements_31 : decode prog_4_method_7_code 31 = .ok (.aload_n 3, 1) := by decide +kernel
theorem d_cWr_writeElements_32 : decode prog_4_method_7_code 32 = .ok (.getfield 80, 3) := by decide +kernel
theorem d_cWr_writeElements_35 : decode prog_4_method_7_code 35 = .ok (.aload_n 3, 1) := by decide +kernel
theorem d_cWr_writeElements_36 : decode prog_4_method_7_code 36 = .ok (.getfield 100, 3) := by decide +kernel
theorem d_cWr_writeElements_39 : decode prog_4_method_7_code 39 = .ok (.invokevirtual 86, 3) := by decide +kernel
set_option maxHeartbeats 4000000 in
set_option maxRecDepth 100000 in
theorem w_cWr_writeElements_B5 {p : Program} {l : Launch} {e : Env} {s : State} {m : MethodId} {args : Array Value} {below : List Frame} {meth : Method} {c : Code} {A : Nat → Prop} {D : va_G} {ad : Nat → Nat → Nat} {cc : Nat → ClassId} {sad sav : Nat → Nat} {Q : State → Prop} (hC : MCc sad sav "JoinedTrees$JsonWriter" prog_4_method_7_code 4 none p s m args meth c A D cc) {N : Nat → Nat} {x0 : Nat} {S : CS} {x2 : Option Nat} {o : ((CS × Option Nat) ⊕ CS)} (Heq : m_cWr_writeElements_B5 N x0 S x2 = some o) (Ka : ∀ b : CS × Option Nat, o = .inl b → ∀ (H : Heap) (locs : List Loc) (ls : Array Slot), va_P D cls (cw ad cc N b.1) H → va_D A (cw ad cc N b.1) → va_S A s.heap H locs → lv_has ls 4 [(0, .ref (ad 2 x0)), (2, rv ad 7 b.2)] → W p l e ({ frames := 3, cells := 0, slots := 0, locals := 67 }) s m args below meth c H locs 0 0 Q (F0 m 5 ls [])) (K0 : ∀ b : CS, o = .inr b → ∀ (H : Heap) (locs : List Loc) (ls : Array Slot), va_P D cls (cw ad cc N b) H → va_D A (cw ad cc N b) → va_S A s.heap H locs → lv_has ls 4 [(0, .ref (ad 2 x0))] → W p l e ({ frames := 3, cells := 0, slots := 0, locals := 67 }) s m args below meth c H locs 0 0 Q (F0 m 50 ls [])) : ∀ (H : Heap) (locs : List Loc) (ls : Array Slot), va_P D cls (cw ad cc N S) H → va_D A (cw ad cc N S) → va_S A s.heap H locs → lv_has ls 4 [(0, .ref (ad 2 x0)), (2, rv ad 7 x2)] → W p l e ({ frames := 3, cells := 0, slots := 0, locals := 67 }) s m args below meth c H locs 0 0 Q (F0 m 5 ls []) := by
  intro H locs ls hP hD hS hl
  obtain ⟨hx, hb, hr, hml, hown, hts, hK, hA, hev, hE, hN, hNS⟩ := id hC
  unfold m_cWr_writeElements_B5 at Heq
  refine tx_aload_n (x := x2.map (ad 7)) hx hb d_cWr_writeElements_5 rfl (lv_at hl 1 rfl) ?_
  refine w_v (y := rv ad 7 x2) rfl ?_
  rcases on_some Heq with ⟨hj_2, Heq⟩ | ⟨j_1, hj_2, Heq⟩
  · refine w_s (st' := [.null]) (congrArg (fun z9 : Option Nat => [rv ad 7 z9]) hj_2) ?_
    refine lv_ifnullN (tgt := 50) hx hb d_cWr_writeElements_6 (by decide) ?_
    exact K0 _ (Option.some.inj Heq).symm _ _ _ hP hD hS (lv_sub hl [0] rfl)
  · refine w_s (st' := [.ref (ad 7 j_1)]) (congrArg (fun z9 : Option Nat => [rv ad 7 z9]) hj_2) ?_
    refine lv_ifnull hx hb d_cWr_writeElements_6 ?_
    refine lv_aload_n hx hb d_cWr_writeElements_9 rfl (lv_at hl 0 rfl) ?_
    obtain ⟨hl_x0_2, Heq⟩ := gl_some Heq
    refine va_get (D := D) (ci := 2) (v := rv ad 10 (S.r 2 0 x0)) (C := R_Wr) (T := F_Wr) (N := 2) hx hb hts i_Wr hown hK hP (cPos N 2 x0) (cw_obj (k := 2) (by decide) hl_x0_2) rfl 0 (by decide) (hts _ kw_385) (fun _ h9 => h9) rfl d_cWr_writeElements_10 ?_
    refine tx_aload_n (x := x2.map (ad 7)) hx hb d_cWr_writeElements_13 rfl (lv_at hl 1 rfl) ?_
    refine w_v (y := rv ad 7 x2) rfl ?_
    refine w_s (st' := [.ref (ad 7 j_1), rv ad 10 (S.r 2 0 x0)]) (congrArg (fun z9 : Option Nat => [rv ad 7 z9, rv ad 10 (S.r 2 0 x0)]) hj_2) ?_
    obtain ⟨hl_j_1_7, Heq⟩ := gl_some Heq
    obtain ⟨j_3, hj_4, hl_5, Heq⟩ := gn_some Heq
    refine w_s (st' := [.ref (ad 7 j_1), .ref (ad 10 j_3)]) (congrArg (fun z9 : Option Nat => [.ref (ad 7 j_1), rv ad 10 z9]) hj_4) ?_
    obtain ⟨o_6, h_7, Heq⟩ := ob_some Heq
    have hFc := fr_all hD hS hA
    refine va_callq (va_runV (As := [.ref (ad 7 j_1)]) (rest := []) ⟨hx, hb, hml, hown, hts⟩ (g_cVw_top l D H.size (ad := ad) (cc := cc) (sad := sad) (sav := sav) h_7) (cw_v 1 hts kw_784 kw_1251 kw_782 kw_783 kw_6 rfl rfl (by decide +kernel) ⟨Nat.le_of_ble_eq_true rfl, Nat.le_of_ble_eq_true rfl⟩) ⟨c_blind, va_recv hK hP (ci := 10) (q0 := cPos N 10 j_3) rfl (cw_obj (k := 10) (by decide) hl_5), fun U hU hW => c_pre hU hW hP hK hD hev hE hN hNS hS hFc⟩ rfl rfl hl.1 rfl (lv_room (Nat.le_of_ble_eq_true rfl)) d_cWr_writeElements_14 ⟨Nat.le_of_ble_eq_true rfl, Nat.le_of_ble_eq_true rfl⟩) hS (fun q _ h => hFc q h) hFc (fun rz u t H1 locs ht hvm hw hB hz1 hk1 hS => ?_)
    obtain ⟨hP, -, hD1⟩ := hB
    rw [ht] at hP
    have hD := hD1.weaken (fun _ q _ h => hFc q.1 h)
    generalize H1 = H at hP hS ⊢
    refine W.cs (cells' := 0) (slots' := 0) rfl rfl ?_
    subst hw
    refine w_v (y := rv ad 3 o_6.2) rfl ?_
    refine tx_astore_n (i := 3) (x := o_6.2.map (ad 3)) (lv' := [(3, rv ad 3 o_6.2), (0, .ref (ad 2 x0)), (2, rv ad 7 x2)]) hx hb d_cWr_writeElements_17 rfl hl (by decide) (by simp [rv, rf_cat]) (fun ls hl => ?_)
    refine tx_aload_n (x := o_6.2.map (ad 3)) hx hb d_cWr_writeElements_18 rfl (lv_at hl 0 rfl) ?_
    refine w_v (y := rv ad 3 o_6.2) rfl ?_
    rcases on_some Heq with ⟨hj_9, Heq⟩ | ⟨j_8, hj_9, Heq⟩
    · refine w_s (st' := [.null]) (congrArg (fun z9 : Option Nat => [rv ad 3 z9]) hj_9) ?_
      refine lv_ifnullN (tgt := 42) hx hb d_cWr_writeElements_19 (by decide) ?_
      exact w_cWr_writeElements_J42 hC Heq Ka K0 _ _ _ hP hD hS (lv_sub hl [1, 2] rfl)
    · refine w_s (st' := [.ref (ad 3 j_8)]) (congrArg (fun z9 : Option Nat => [rv ad 3 z9]) hj_9) ?_
      refine lv_ifnull hx hb d_cWr_writeElements_19 ?_
      refine tx_aload_n (x := o_6.2.map (ad 3)) hx hb d_cWr_writeElements_22 rfl (lv_at hl 0 rfl) ?_
      refine w_v (y := rv ad 3 o_6.2) rfl ?_
      refine w_s (st' := [.ref (ad 3 j_8)]) (congrArg (fun z9 : Option Nat => [rv ad 3 z9]) hj_9) ?_
      obtain ⟨hl_j_8_3, Heq⟩ := gl_some Heq
      refine va_get (D := D) (ci := 3) (v := .int (o_6.1.i 3 2 j_8)) (C := R_Op) (T := F_Op) (N := 15) hx hb hts i_Op hown hK hP (cPos N 3 j_8) (cw_obj (k := 3) (by decide) hl_j_8_3) rfl 2 (by decide) (hts _ kw_60) (fun _ h9 => h9) rfl d_cWr_writeElements_23 ?_
      refine lv_iconst (v := 4) hx hb d_cWr_writeElements_26 (by decide) ?_
      refine lv_icmp_ne (tgt := 42) hx hb d_cWr_writeElements_27 (by decide) (fun c_10 => ?_) (fun c_10 => ?_)
      · replace Heq := (if_neg c_10).symm.trans Heq
        exact w_cWr_writeElements_J42 hC Heq Ka K0 _ _ _ hP hD hS (lv_sub hl [1, 2] rfl)
      · replace Heq := (if_pos c_10).symm.trans Heq
        refine lv_aload_n hx hb d_cWr_writeElements_30 rfl (lv_at hl 1 rfl) ?_
        refine tx_aload_n (x := o_6.2.map (ad 3)) hx hb d_cWr_writeElements_31 rfl (lv_at hl 0 rfl) ?_
        refine w_v (y := rv ad 3 o_6.2) rfl ?_
        refine w_s (st' := [.ref (ad 3 j_8), .ref (ad 2 x0)]) (congrArg (fun z9 : Option Nat => [rv ad 3 z9, .ref (ad 2 x0)]) hj_9) ?_
        refine va_get (D := D) (ci := 3) (v := .int (o_6.1.i 3 8 j_8)) (C := R_Op) (T := F_Op) (N := 15) hx hb hts i_Op hown hK hP (cPos N 3 j_8) (cw_obj (k := 3) (by decide) hl_j_8_3) rfl 8 (by decide) (hts _ kw_79) (fun _ h9 => h9) rfl d_cWr_writeElements_32 ?_
        refine tx_aload_n (x := o_6.2.map (ad 3)) hx hb d_cWr_writeElements_35 rfl (lv_at hl 0 rfl) ?_
        refine w_v (y := rv ad 3 o_6.2) rfl ?_
        refine w_s (st' := [.ref (ad 3 j_8), .int (o_6.1.i 3 8 j_8), .ref (ad 2 x0)]) (congrArg (fun z9 : Option Nat => [rv ad 3 z9, .int (o_6.1.i 3 8 j_8), .ref (ad 2 x0)]) hj_9) ?_
        refine va_get (D := D) (ci := 3) (v := .int (o_6.1.i 3 10 j_8)) (C := R_Op) (T := F_Op) (N := 15) hx hb hts i_Op hown hK hP (cPos N 3 j_8) (cw_obj (k := 3) (by decide) hl_j_8_3) rfl 10 (by decide) (hts _ kw_87) (fun _ h9 => h9) rfl d_cWr_writeElements_36 ?_
        obtain ⟨o_11, h_12, Heq⟩ := ob_some Heq
        have hFc := fr_all hD hS hA
        refine va_callv (va_runV (As := [.int (o_6.1.i 3 8 j_8), .int (o_6.1.i 3 10 j_8)]) (rest := []) ⟨hx, hb, hml, hown, hts⟩ (g_cWr_writeLetters l D H.size (ad := ad) (cc := cc) (sad := sad) (sav := sav) h_12) (cw_v 2 hts kw_1238 kw_1235 kw_1236 kw_1237 kw_9 rfl rfl (by decide +kernel) ⟨Nat.le_of_ble_eq_true rfl, Nat.le_of_ble_eq_true rfl⟩) ⟨c_blind, va_recv hK hP (ci := 2) (q0 := cPos N 2 x0) rfl (cw_obj (k := 2) (by decide) hl_x0_2), fun U hU hW => c_pre hU hW hP hK hD hev hE hN hNS hS hFc⟩ rfl rfl hl.1 rfl (lv_room (Nat.le_of_ble_eq_true rfl)) d_cWr_writeElements_39 ⟨Nat.le_of_ble_eq_true rfl, Nat.le_of_ble_eq_true rfl⟩) hS (fun q _ h => hFc q h) hFc (fun u t H1 locs ht hvm hw hB hz1 hk1 hS => ?_)
        obtain ⟨hP, -, hD1⟩ := hB
        rw [ht] at hP
        have hD := hD1.weaken (fun _ q _ h => hFc q.1 h)
        generalize H1 = H at hP hS ⊢
        refine W.cs (cells' := 0) (slots' := 0) rfl rfl ?_
        exact w_cWr_writeElements_J42 hC Heq Ka K0 _ _ _ hP hD hS (lv_sub hl [1, 2] rfl)
def m_cWr_writeElements_L5 (N : Nat → Nat) (x0 : Nat) (S : CS) (x2 : Option Nat) : Option CS := lp (fun a : CS × Option Nat => m_cWr_writeElements_B5 N x0 a.1 a.2) FU (S, x2)
theorem w_cWr_writeElements_L5 {p : Program} {l : Launch} {e : Env} {s : State} {m : MethodId} {args : Array Value} {below : List Frame} {meth : Method} {c : Code} {A : Nat → Prop} {D : va_G} {ad : Nat → Nat → Nat} {cc : Nat → ClassId} {sad sav : Nat → Nat} {Q : State → Prop} (hC : MCc sad sav "JoinedTrees$JsonWriter" prog_4_method_7_code 4 none p s m args meth c A D cc) {N : Nat → Nat} {x0 : Nat} {S : CS} {x2 : Option Nat} {o : CS} (Heq : m_cWr_writeElements_L5 N x0 S x2 = some o) (K0 : ∀ b : CS, o = b → ∀ (H : Heap) (locs : List Loc) (ls : Array Slot), va_P D cls (cw ad cc N b) H → va_D A (cw ad cc N b) → va_S A s.heap H locs → lv_has ls 4 [(0, .ref (ad 2 x0))] → W p l e ({ frames := 3, cells := 0, slots := 0, locals := 67 }) s m args below meth c H locs 0 0 Q (F0 m 50 ls [])) : ∀ (H : Heap) (locs : List Loc) (ls : Array Slot), va_P D cls (cw ad cc N S) H → va_D A (cw ad cc N S) → va_S A s.heap H locs → lv_has ls 4 [(0, .ref (ad 2 x0)), (2, rv ad 7 x2)] → W p l e ({ frames := 3, cells := 0, slots := 0, locals := 67 }) s m args below meth c H locs 0 0 Q (F0 m 5 ls []) := by
  refine lp_w (G := fun a : CS × Option Nat => ∀ (H : Heap) (locs : List Loc) (ls : Array Slot), va_P D cls (cw ad cc N a.1) H → va_D A (cw ad cc N a.1) → va_S A s.heap H locs → lv_has ls 4 [(0, .ref (ad 2 x0)), (2, rv ad 7 a.2)] → W p l e ({ frames := 3, cells := 0, slots := 0, locals := 67 }) s m args below meth c H locs 0 0 Q (F0 m 5 ls [])) ?_ FU (S, x2) Heq
  intro a o1 ho Ka Ke
  exact w_cWr_writeElements_B5 hC ho (fun b h => Ka b h) (fun b h => K0 b (Ke _ h).symm)
def m_cWr_writeElements_J0 (N : Nat → Nat) (x0 : Nat) (S : CS) (x1 : Nat) : Option CS := gl x1 (N 3) (ob (m_cWr_writeElements_L5 N x0 S (S.r 3 13 x1)) (fun b_1 => some b_1))
theorem d_cWr_writeElements_50 : decode prog_4_method_7_code 50 = .ok (.return_, 1) := by decide +kernel
set_option maxHeartbeats 4000000 in
set_option maxRecDepth 100000 in
theorem w_cWr_writeElements_J0 {p : Program} {l : Launch} {e : Env} {s : State} {m : MethodId} {args : Array Value} {below : List Frame} {meth : Method} {c : Code} {A : Nat → Prop} {D : va_G} {ad : Nat → Nat → Nat} {cc : Nat → ClassId} {sad sav : Nat → Nat} {Q : State → Prop} (hC : MCc sad sav "JoinedTrees$JsonWriter" prog_4_method_7_code 4 none p s m args meth c A D cc) {N : Nat → Nat} {x0 : Nat} {S : CS} {x1 : Nat} {o : CS} (Heq : m_cWr_writeElements_J0 N x0 S x1 = some o) (Kr : ∀ r : CS, o = r → ∀ (pc : Nat) (H : Heap) (locs : List Loc) (ls : Array Slot), decode prog_4_method_7_code pc = .ok (.return_, 1) → va_P D cls (cw ad cc N r) H → va_D A (cw ad cc N r) → va_S A s.heap H locs → W p l e ({ frames := 3, cells := 0, slots := 0, locals := 67 }) s m args below meth c H locs 0 0 Q (F0 m pc ls [])) : ∀ (H : Heap) (locs : List Loc) (ls : Array Slot), va_P D cls (cw ad cc N S) H → va_D A (cw ad cc N S) → va_S A s.heap H locs → lv_has ls 4 [(0, .ref (ad 2 x0)), (1, .ref (ad 3 x1))] → W p l e ({ frames := 3, cells := 0, slots := 0, locals := 67 }) s m args below meth c H locs 0 0 Q (F0 m 0 ls []) := by
  intro H locs ls hP hD hS hl
  obtain ⟨hx, hb, hr, hml, hown, hts, hK, hA, hev, hE, hN, hNS⟩ := id hC
  unfold m_cWr_writeElements_J0 at Heq
  refine lv_aload_n hx hb d_cWr_writeElements_0 rfl (lv_at hl 1 rfl) ?_
  obtain ⟨hl_x1_3, Heq⟩ := gl_some Heq
  refine va_get (D := D) (ci := 3) (v := rv ad 7 (S.r 3 13 x1)) (C := R_Op) (T := F_Op) (N := 15) hx hb hts i_Op hown hK hP (cPos N 3 x1) (cw_obj (k := 3) (by decide) hl_x1_3) rfl 13 (by decide) (hts _ kw_98) (fun _ h9 => h9) rfl d_cWr_writeElements_1 ?_
  refine tx_astore_n (x := (S.r 3 13 x1).map (ad 7)) (lv' := [(2, rv ad 7 (S.r 3 13 x1)), (0, .ref (ad 2 x0)), (1, .ref (ad 3 x1))]) hx hb d_cWr_writeElements_4 rfl hl (by decide) rfl (fun ls hl => ?_)
  obtain ⟨b_1, h_2, Heq⟩ := ob_some Heq
  refine w_cWr_writeElements_L5 hC h_2 (fun b h => ?_) _ _ _ hP hD hS (lv_sub hl [1, 0] rfl)
  subst h
  intro H locs ls hP hD hS hl
  exact Kr _ (Option.some.inj Heq).symm 50 _ _ _ d_cWr_writeElements_50 hP hD hS
def m_cWr_writeElements (N : Nat → Nat) (x0 : Nat) (S : CS) (x1 : Nat) : Option CS := m_cWr_writeElements_J0 N x0 S x1
set_option maxHeartbeats 4000000 in
theorem g_cWr_writeElements (l : Launch) (D : va_G) (sz : Nat) {ad : Nat → Nat → Nat} {cc : Nat → ClassId} {sad sav : Nat → Nat} {N : Nat → Nat} {x0 : Nat} {S : CS} {x1 : Nat} {o : CS} (Heq : m_cWr_writeElements N x0 S x1 = some o) : Met l ⟨"JoinedTrees$JsonWriter", "writeElements", "(LJoinedTrees$Op;)V"⟩ (Cond.code ⟨"JoinedTrees$JsonWriter", "writeElements", "(LJoinedTrees$Op;)V"⟩ prog_4_method_7_code 4 none :: gb) ({ frames := 3, cells := 0, slots := 0, locals := 67 }) (cPc sad sav D (cw ad cc N S) (cty cc) sz [.ref (ad 2 x0), .ref (ad 3 x1)]) (va_Qv (fun _ : Unit => True) (fun _ t => gO D (cw ad cc N o) (cty cc) (va_A (cw ad cc N S) sz) t) (va_A (cw ad cc N S) sz)) 0 0 (va_A (cw ad cc N S) sz) := by
  refine Met.ofW (cc := prog_4_method_7_code) (maxL := 4) (ret := none) (by decide) rfl ?_
  intro p e s m args below meth c s₁ B hml hv
  obtain ⟨rfl, hsz, hP, hK, hD0, hev, hE, hN⟩ := hv
  have hx := B.exec
  have hb := B.bytes
  have hr := B.returns
  have hts : ∀ w9 ∈ gb, w9.before [.ref (ad 2 x0), .ref (ad 3 x1)].toArray s = true := fun w9 h => atoms_spec (ws := Cond.code ⟨"JoinedTrees$JsonWriter", "writeElements", "(LJoinedTrees$Op;)V"⟩ prog_4_method_7_code 4 none :: gb) B.pre w9 (List.mem_cons_of_mem _ h)
  have hown : s.vm.findClass "JoinedTrees$JsonWriter" = some m.cls := findClass_of_methodNamed B.named
  have hlocks := B.notSynchronized
  have hNS := ns_of hP
  subst hsz
  have hD := hD0.self (sz := s.heap.size)
  generalize hAe : va_A (cw ad cc N S) s.heap.size = A at hD hev hE hNS ⊢
  have hA : ∀ q : Nat, s.heap.size ≤ q → A q := fun q h => by rw [← hAe]; exact Or.inr h
  have hS : va_S A s.heap s.heap [] := va_S.rf
  obtain ⟨ls, hl, hle⟩ : ∃ ls : Array Slot, lv_has ls 4 [(0, .ref (ad 2 x0)), (1, .ref (ad 3 x1))] ∧ entryFrame m ([.ref (ad 2 x0), .ref (ad 3 x1)] : List Value).toArray 4 = F0 m 0 ls [] := by
    exact ⟨_, lv_entry (n := 4) _ (Nat.le_of_ble_eq_true rfl), lg_entry_eq ..⟩
  rw [hle]
  refine w_cWr_writeElements_J0 ⟨hx, hb, hr, hml, hown, hts, hK, hA, hev, hE, hN, hNS⟩ Heq (fun r h pc H locs ls hd hP hD hS => ?_) _ _ _ hP hD hS (lv_sub hl [0, 1] rfl)
  subst h
  exact W.vret hx hb hr (fun t ht hW => ⟨⟨(), rfl, trivial, by rw [ht]; exact hP, va_K.moved hW.alike hK, hD⟩, hS.F ht⟩) hS.2.2 hd
def m_cWr_writeLong_B34 (N : Nat → Nat) (x0 : Nat) (S : CS) (x3 : Int64) (x5 : Int64) (x7 : Int32) : Option ((CS × Int64 × Int64 × Int32) ⊕ (CS × Int64 × Int64)) := (if 18 ≤ x7 then some (.inr (S, x3, x5)) else (if x5 = 0 then none else (if 0 < lg_cmp (x3 / x5) (-10) then some (.inr (S, x3, x5)) else some (.inl (S, x3, (x5 * 10), (x7 + 1))))))
theorem d_cWr_writeLong_0 : decode prog_4_method_11_code 0 = .ok (.lload_n 1, 1) := by decide +kernel
theorem d_cWr_writeLong_1 : decode prog_4_method_11_code 1 = .ok (.lconst 0, 1) := by decide +kernel
theorem d_cWr_writeLong_2 : decode prog_4_method_11_code 2 = .ok (.lcmp, 1) := by decide +kernel
theorem d_cWr_writeLong_3 : decode prog_4_method_11_code 3 = .ok (.ifCond .ge 12, 3) := by decide +kernel
theorem d_cWr_writeLong_15 : decode prog_4_method_11_code 15 = .ok (.lload_n 1, 1) := by decide +kernel
theorem d_cWr_writeLong_16 : decode prog_4_method_11_code 16 = .ok (.lconst 0, 1) := by decide +kernel
theorem d_cWr_writeLong_17 : decode prog_4_method_11_code 17 = .ok (.lcmp, 1) := by decide +kernel
theorem d_cWr_writeLong_18 : decode prog_4_method_11_code 18 = .ok (.ifCond .ge 7, 3) := by decide +kernel
theorem d_cWr_writeLong_25 : decode prog_4_method_11_code 25 = .ok (.lload_n 1, 1) := by decide +kernel
theorem d_cWr_writeLong_26 : decode prog_4_method_11_code 26 = .ok (.lneg, 1) := by decide +kernel
theorem d_cWr_writeLong_27 : decode prog_4_method_11_code 27 = .ok (.lstore_n 3, 1) := by decide +kernel
theorem d_cWr_writeLong_28 : decode prog_4_method_11_code 28 = .ok (.lconst 1, 1) := by decide +kernel
theorem d_cWr_writeLong_29 : decode prog_4_method_11_code 29 = .ok (.lstore 5, 2) := by decide +kernel
theorem d_cWr_writeLong_31 : decode prog_4_method_11_code 31 = .ok (.iconst 0, 1) := by decide +kernel
theorem d_cWr_writeLong_32 : decode prog_4_method_11_code 32 = .ok (.istore 7, 2) := by decide +kernel
theorem d_cWr_writeLong_34 : decode prog_4_method_11_code 34 = .ok (.iload 7, 2) := by decide +kernel
theorem d_cWr_writeLong_36 : decode prog_4_method_11_code 36 = .ok (.bipush 18, 2) := by decide +kernel
theorem d_cWr_writeLong_38 : decode prog_4_method_11_code 38 = .ok (.if_icmp .ge 28, 3) := by decide +kernel
theorem d_cWr_writeLong_41 : decode prog_4_method_11_code 41 = .ok (.lload_n 3, 1) := by decide +kernel
theorem d_cWr_writeLong_42 : decode prog_4_method_11_code 42 = .ok (.lload 5, 2) := by decide +kernel
theorem d_cWr_writeLong_44 : decode prog_4_method_11_code 44 = .ok (.ldiv, 1) := by decide +kernel
theorem d_cWr_writeLong_45 : decode prog_4_method_11_code 45 = .ok (.ldc2_w 138, 3) := by decide +kernel
theorem d_cWr_writeLong_48 : decode prog_4_method_11_code 48 = .ok (.lcmp, 1) := by decide +kernel
theorem d_cWr_writeLong_49 : decode prog_4_method_11_code 49 = .ok (.ifCond .gt 17, 3) := by decide +kernel
theorem d_cWr_writeLong_52 : decode prog_4_method_11_code 52 = .ok (.lload 5, 2) := by decide +kernel
theorem d_cWr_writeLong_54 : decode prog_4_method_11_code 54 = .ok (.ldc2_w 140, 3) := by decide +kernel
theorem d_cWr_writeLong_57 : decode prog_4_method_11_code 57 = .ok (.lmul, 1) := by decide +kernel
theorem d_cWr_writeLong_58 : decode prog_4_method_11_code 58 = .ok (.lstore 5, 2) := by decide +kernel
theorem d_cWr_writeLong_60 : decode prog_4_method_11_code 60 = .ok (.iinc 7 1, 3) := by decide +kernel
theorem d_cWr_writeLong_63 : decode prog_4_method_11_code 63 = .ok (.goto (-29), 3) := by decide +kernel
set_option maxHeartbeats 4000000 in
set_option maxRecDepth 100000 in
theorem w_cWr_writeLong_B34 {p : Program} {l : Launch} {e : Env} {s : State} {m : MethodId} {args : Array Value} {below : List Frame} {meth : Method} {c : Code} {A : Nat → Prop} {D : va_G} {ad : Nat → Nat → Nat} {cc : Nat → ClassId} {sad sav : Nat → Nat} {Q : State → Prop} (hC : MCc sad sav "JoinedTrees$JsonWriter" prog_4_method_11_code 8 none p s m args meth c A D cc) {N : Nat → Nat} {x0 : Nat} {S : CS} {x3 : Int64} {x5 : Int64} {x7 : Int32} {o : ((CS × Int64 × Int64 × Int32) ⊕ (CS × Int64 × Int64))} (Heq : m_cWr_writeLong_B34 N x0 S x3 x5 x7 = some o) (Ka : ∀ b : CS × Int64 × Int64 × Int32, o = .inl b → ∀ (H : Heap) (locs : List Loc) (ls : Array Slot), va_P D cls (cw ad cc N b.1) H → va_D A (cw ad cc N b.1) → va_S A s.heap H locs → lv_has ls 8 [(0, .ref (ad 2 x0)), (3, .long b.2.1), (5, .long b.2.2.1), (7, .int b.2.2.2)] → W p l e ({ frames := 1, cells := 0, slots := 0, locals := 21 }) s m args below meth c H locs 0 0 Q (F0 m 34 ls [])) (K0 : ∀ b : CS × Int64 × Int64, o = .inr b → ∀ (H : Heap) (locs : List Loc) (ls : Array Slot), va_P D cls (cw ad cc N b.1) H → va_D A (cw ad cc N b.1) → va_S A s.heap H locs → lv_has ls 8 [(0, .ref (ad 2 x0)), (3, .long b.2.1), (5, .long b.2.2)] → W p l e ({ frames := 1, cells := 0, slots := 0, locals := 21 }) s m args below meth c H locs 0 0 Q (F0 m 66 ls [])) : ∀ (H : Heap) (locs : List Loc) (ls : Array Slot), va_P D cls (cw ad cc N S) H → va_D A (cw ad cc N S) → va_S A s.heap H locs → lv_has ls 8 [(0, .ref (ad 2 x0)), (3, .long x3), (5, .long x5), (7, .int x7)] → W p l e ({ frames := 1, cells := 0, slots := 0, locals := 21 }) s m args below meth c H locs 0 0 Q (F0 m 34 ls []) := by
  intro H locs ls hP hD hS hl
  obtain ⟨hx, hb, hr, hml, hown, hts, hK, hA, hev, hE, hN, hNS⟩ := id hC
  unfold m_cWr_writeLong_B34 at Heq
  refine lv_iload hx hb d_cWr_writeLong_34 (lv_at hl 3 rfl) ?_
  refine lv_bipush (v := 18) hx hb d_cWr_writeLong_36 (by decide) ?_
  refine lv_icmp_ge (tgt := 66) hx hb d_cWr_writeLong_38 (by decide) (fun c_1 => ?_) (fun c_1 => ?_)
  · replace Heq := (if_pos c_1).symm.trans Heq
    exact K0 _ (Option.some.inj Heq).symm _ _ _ hP hD hS (lv_sub hl [0, 1, 2] rfl)
  · replace Heq := (if_neg c_1).symm.trans Heq
    refine lv_lload_n hx hb d_cWr_writeLong_41 rfl (lv_at hl 1 rfl) ?_
    refine lv_lload hx hb d_cWr_writeLong_42 (lv_at hl 2 rfl) ?_
    by_cases hz_2 : x5 = 0
    · rw [if_pos hz_2] at Heq; cases Heq
    replace Heq := (if_neg hz_2).symm.trans Heq
    refine lv_ldiv hx hb d_cWr_writeLong_44 hz_2 ?_
    refine w_l (y := x3 / x5) rfl ?_
    refine lv_ldc2 (v := (-10)) hx hb hown (hts _ kw_1257) d_cWr_writeLong_45 ?_
    refine W.lcmp hx hb d_cWr_writeLong_48 ?_
    refine w_i (y := lg_cmp (x3 / x5) (-10)) rfl ?_
    refine lv_if_gt (tgt := 66) hx hb d_cWr_writeLong_49 (by decide) (fun c_3 => ?_) (fun c_3 => ?_)
    · replace Heq := (if_pos c_3).symm.trans Heq
      exact K0 _ (Option.some.inj Heq).symm _ _ _ hP hD hS (lv_sub hl [0, 1, 2] rfl)
    · replace Heq := (if_neg c_3).symm.trans Heq
      refine lv_lload hx hb d_cWr_writeLong_52 (lv_at hl 2 rfl) ?_
      refine lv_ldc2 (v := 10) hx hb hown (hts _ kw_1258) d_cWr_writeLong_54 ?_
      refine lv_lmul hx hb d_cWr_writeLong_57 ?_
      refine w_l (y := x5 * 10) rfl ?_
      refine lv_lstore (lv' := [(5, .long (x5 * 10)), (0, .ref (ad 2 x0)), (3, .long x3), (7, .int x7)]) hx hb d_cWr_writeLong_58 hl (by decide) rfl (fun ls hl => ?_)
      refine lv_iinc (v := x7 + 1) (lv' := [(7, .int (x7 + 1)), (5, .long (x5 * 10)), (0, .ref (ad 2 x0)), (3, .long x3)]) hx hb d_cWr_writeLong_60 hl (k := 3) rfl rfl (by decide) rfl (fun ls hl => ?_)
      refine lv_goto (tgt := 34) hx hb d_cWr_writeLong_63 (by decide) ?_
      exact Ka _ (Option.some.inj Heq).symm _ _ _ hP hD hS (lv_sub hl [2, 3, 1, 0] rfl)
def m_cWr_writeLong_L34 (N : Nat → Nat) (x0 : Nat) (S : CS) (x3 : Int64) (x5 : Int64) (x7 : Int32) : Option (CS × Int64 × Int64) := lp (fun a : CS × Int64 × Int64 × Int32 => m_cWr_writeLong_B34 N x0 a.1 a.2.1 a.2.2.1 a.2.2.2) FU (S, x3, x5, x7)
theorem w_cWr_writeLong_L34 {p : Program} {l : Launch} {e : Env} {s : State} {m : MethodId} {args : Array Value} {below : List Frame} {meth : Method} {c : Code} {A : Nat → Prop} {D : va_G} {ad : Nat → Nat → Nat} {cc : Nat → ClassId} {sad sav : Nat → Nat} {Q : State → Prop} (hC : MCc sad sav "JoinedTrees$JsonWriter" prog_4_method_11_code 8 none p s m args meth c A D cc) {N : Nat → Nat} {x0 : Nat} {S : CS} {x3 : Int64} {x5 : Int64} {x7 : Int32} {o : CS × Int64 × Int64} (Heq : m_cWr_writeLong_L34 N x0 S x3 x5 x7 = some o) (K0 : ∀ b : CS × Int64 × Int64, o = b → ∀ (H : Heap) (locs : List Loc) (ls : Array Slot), va_P D cls (cw ad cc N b.1) H → va_D A (cw ad cc N b.1) → va_S A s.heap H locs → lv_has ls 8 [(0, .ref (ad 2 x0)), (3, .long b.2.1), (5, .long b.2.2)] → W p l e ({ frames := 1, cells := 0, slots := 0, locals := 21 }) s m args below meth c H locs 0 0 Q (F0 m 66 ls [])) : ∀ (H : Heap) (locs : List Loc) (ls : Array Slot), va_P D cls (cw ad cc N S) H → va_D A (cw ad cc N S) → va_S A s.heap H locs → lv_has ls 8 [(0, .ref (ad 2 x0)), (3, .long x3), (5, .long x5), (7, .int x7)] → W p l e ({ frames := 1, cells := 0, slots := 0, locals := 21 }) s m args below meth c H locs 0 0 Q (F0 m 34 ls []) := by
  refine lp_w (G := fun a : CS × Int64 × Int64 × Int32 => ∀ (H : Heap) (locs : List Loc) (ls : Array Slot), va_P D cls (cw ad cc N a.1) H → va_D A (cw ad cc N a.1) → va_S A s.heap H locs → lv_has ls 8 [(0, .ref (ad 2 x0)), (3, .long a.2.1), (5, .long a.2.2.1), (7, .int a.2.2.2)] → W p l e ({ frames := 1, cells := 0, slots := 0, locals := 21 }) s m args below meth c H locs 0 0 Q (F0 m 34 ls [])) ?_ FU (S, x3, x5, x7) Heq
  intro a o1 ho Ka Ke
  exact w_cWr_writeLong_B34 hC ho (fun b h => Ka b h) (fun b h => K0 b (Ke _ h).symm)
def m_cWr_writeLong_B69 (N : Nat → Nat) (x0 : Nat) (S : CS) (x3 : Int64) (x5 : Int64) (x7 : Int32) : Option ((CS × Int64 × Int64 × Int32) ⊕ CS) := (if 19 ≤ x7 then some (.inr (S)) else (if lg_cmp x5 0 ≤ 0 then some (.inr (S)) else gl x0 (N 2) ((if x5 = 0 then none else gn (S.r 2 1 x0) (N 5) (fun j_4 => ob (m_cRw_write N j_4 S (48 - (((x3 / x5) - (x3 / x5) / 10 * 10).toInt32))) (fun o_7 => some (.inl (o_7, x3, (x5 / 10), (x7 + 1)))))))))
theorem d_cWr_writeLong_66 : decode prog_4_method_11_code 66 = .ok (.iconst 0, 1) := by decide +kernel
theorem d_cWr_writeLong_67 : decode prog_4_method_11_code 67 = .ok (.istore 7, 2) := by decide +kernel
theorem d_cWr_writeLong_69 : decode prog_4_method_11_code 69 = .ok (.iload 7, 2) := by decide +kernel
theorem d_cWr_writeLong_71 : decode prog_4_method_11_code 71 = .ok (.bipush 19, 2) := by decide +kernel
theorem d_cWr_writeLong_73 : decode prog_4_method_11_code 73 = .ok (.if_icmp .ge 43, 3) := by decide +kernel
theorem d_cWr_writeLong_76 : decode prog_4_method_11_code 76 = .ok (.lload 5, 2) := by decide +kernel
theorem d_cWr_writeLong_78 : decode prog_4_method_11_code 78 = .ok (.lconst 0, 1) := by decide +kernel
theorem d_cWr_writeLong_79 : decode prog_4_method_11_code 79 = .ok (.lcmp, 1) := by decide +kernel
theorem d_cWr_writeLong_80 : decode prog_4_method_11_code 80 = .ok (.ifCond .le 36, 3) := by decide +kernel
theorem d_cWr_writeLong_83 : decode prog_4_method_11_code 83 = .ok (.aload_n 0, 1) := by decide +kernel
theorem d_cWr_writeLong_84 : decode prog_4_method_11_code 84 = .ok (.getfield 14, 3) := by decide +kernel
theorem d_cWr_writeLong_87 : decode prog_4_method_11_code 87 = .ok (.bipush 48, 2) := by decide +kernel
theorem d_cWr_writeLong_89 : decode prog_4_method_11_code 89 = .ok (.lload_n 3, 1) := by decide +kernel
theorem d_cWr_writeLong_90 : decode prog_4_method_11_code 90 = .ok (.lload 5, 2) := by decide +kernel
theorem d_cWr_writeLong_92 : decode prog_4_method_11_code 92 = .ok (.ldiv, 1) := by decide +kernel
theorem d_cWr_writeLong_93 : decode prog_4_method_11_code 93 = .ok (.ldc2_w 140, 3) := by decide +kernel
theorem d_cWr_writeLong_96 : decode prog_4_method_11_code 96 = .ok (.lrem, 1) := by decide +kernel
theorem d_cWr_writeLong_97 : decode prog_4_method_11_code 97 = .ok (.l2i, 1) := by decide +kernel
theorem d_cWr_writeLong_98 : decode prog_4_method_11_code 98 = .ok (.isub, 1) := by decide +kernel
theorem d_cWr_writeLong_99 : decode prog_4_method_11_code 99 = .ok (.invokevirtual 51, 3) := by decide +kernel
theorem d_cWr_writeLong_102 : decode prog_4_method_11_code 102 = .ok (.lload 5, 2) := by decide +kernel
theorem d_cWr_writeLong_104 : decode prog_4_method_11_code 104 = .ok (.ldc2_w 140, 3) := by decide +kernel
theorem d_cWr_writeLong_107 : decode prog_4_method_11_code 107 = .ok (.ldiv, 1) := by decide +kernel
theorem d_cWr_writeLong_108 : decode prog_4_method_11_code 108 = .ok (.lstore 5, 2) := by decide +kernel
theorem d_cWr_writeLong_110 : decode prog_4_method_11_code 110 = .ok (.iinc 7 1, 3) := by decide +kernel
theorem d_cWr_writeLong_113 : decode prog_4_method_11_code 113 = .ok (.goto (-44), 3) := by decide +kernel
set_option maxHeartbeats 4000000 in
set_option maxRecDepth 100000 in
theorem w_cWr_writeLong_B69 {p : Program} {l : Launch} {e : Env} {s : State} {m : MethodId} {args : Array Value} {below : List Frame} {meth : Method} {c : Code} {A : Nat → Prop} {D : va_G} {ad : Nat → Nat → Nat} {cc : Nat → ClassId} {sad sav : Nat → Nat} {Q : State → Prop} (hC : MCc sad sav "JoinedTrees$JsonWriter" prog_4_method_11_code 8 none p s m args meth c A D cc) {N : Nat → Nat} {x0 : Nat} {S : CS} {x3 : Int64} {x5 : Int64} {x7 : Int32} {o : ((CS × Int64 × Int64 × Int32) ⊕ CS)} (Heq : m_cWr_writeLong_B69 N x0 S x3 x5 x7 = some o) (Ka : ∀ b : CS × Int64 × Int64 × Int32, o = .inl b → ∀ (H : Heap) (locs : List Loc) (ls : Array Slot), va_P D cls (cw ad cc N b.1) H → va_D A (cw ad cc N b.1) → va_S A s.heap H locs → lv_has ls 8 [(0, .ref (ad 2 x0)), (3, .long b.2.1), (5, .long b.2.2.1), (7, .int b.2.2.2)] → W p l e ({ frames := 1, cells := 0, slots := 0, locals := 21 }) s m args below meth c H locs 0 0 Q (F0 m 69 ls [])) (K0 : ∀ b : CS, o = .inr b → ∀ (H : Heap) (locs : List Loc) (ls : Array Slot), va_P D cls (cw ad cc N b) H → va_D A (cw ad cc N b) → va_S A s.heap H locs → lv_has ls 8 [(0, .ref (ad 2 x0))] → W p l e ({ frames := 1, cells := 0, slots := 0, locals := 21 }) s m args below meth c H locs 0 0 Q (F0 m 116 ls [])) : ∀ (H : Heap) (locs : List Loc) (ls : Array Slot), va_P D cls (cw ad cc N S) H → va_D A (cw ad cc N S) → va_S A s.heap H locs → lv_has ls 8 [(0, .ref (ad 2 x0)), (3, .long x3), (5, .long x5), (7, .int x7)] → W p l e ({ frames := 1, cells := 0, slots := 0, locals := 21 }) s m args below meth c H locs 0 0 Q (F0 m 69 ls []) := by
  intro H locs ls hP hD hS hl
  obtain ⟨hx, hb, hr, hml, hown, hts, hK, hA, hev, hE, hN, hNS⟩ := id hC
  unfold m_cWr_writeLong_B69 at Heq
  refine lv_iload hx hb d_cWr_writeLong_69 (lv_at hl 3 rfl) ?_
  refine lv_bipush (v := 19) hx hb d_cWr_writeLong_71 (by decide) ?_
  refine lv_icmp_ge (tgt := 116) hx hb d_cWr_writeLong_73 (by decide) (fun c_1 => ?_) (fun c_1 => ?_)
  · replace Heq := (if_pos c_1).symm.trans Heq
    exact K0 _ (Option.some.inj Heq).symm _ _ _ hP hD hS (lv_sub hl [0] rfl)
  · replace Heq := (if_neg c_1).symm.trans Heq
    refine lv_lload hx hb d_cWr_writeLong_76 (lv_at hl 2 rfl) ?_
    refine lv_lconst (v := 0) hx hb d_cWr_writeLong_78 (by decide) ?_
    refine W.lcmp hx hb d_cWr_writeLong_79 ?_
    refine w_i (y := lg_cmp x5 0) rfl ?_
    refine lv_if_le (tgt := 116) hx hb d_cWr_writeLong_80 (by decide) (fun c_2 => ?_) (fun c_2 => ?_)
    · replace Heq := (if_pos c_2).symm.trans Heq
      exact K0 _ (Option.some.inj Heq).symm _ _ _ hP hD hS (lv_sub hl [0] rfl)
    · replace Heq := (if_neg c_2).symm.trans Heq
      refine lv_aload_n hx hb d_cWr_writeLong_83 rfl (lv_at hl 0 rfl) ?_
      obtain ⟨hl_x0_2, Heq⟩ := gl_some Heq
      refine va_get (D := D) (ci := 2) (v := rv ad 5 (S.r 2 1 x0)) (C := R_Wr) (T := F_Wr) (N := 2) hx hb hts i_Wr hown hK hP (cPos N 2 x0) (cw_obj (k := 2) (by decide) hl_x0_2) rfl 1 (by decide) (hts _ kw_386) (fun _ h9 => h9) rfl d_cWr_writeLong_84 ?_
      refine lv_bipush (v := 48) hx hb d_cWr_writeLong_87 (by decide) ?_
      refine lv_lload_n hx hb d_cWr_writeLong_89 rfl (lv_at hl 1 rfl) ?_
      refine lv_lload hx hb d_cWr_writeLong_90 (lv_at hl 2 rfl) ?_
      by_cases hz_3 : x5 = 0
      · rw [if_pos hz_3] at Heq; cases Heq
      replace Heq := (if_neg hz_3).symm.trans Heq
      refine lv_ldiv hx hb d_cWr_writeLong_92 hz_3 ?_
      refine w_l (y := x3 / x5) rfl ?_
      refine lv_ldc2 (v := 10) hx hb hown (hts _ kw_1258) d_cWr_writeLong_93 ?_
      refine lv_lrem hx hb d_cWr_writeLong_96 (by decide) ?_
      refine w_l (y := (x3 / x5) - (x3 / x5) / 10 * 10) rfl ?_
      refine lv_l2i hx hb d_cWr_writeLong_97 rfl ?_
      refine w_i (y := ((x3 / x5) - (x3 / x5) / 10 * 10).toInt32) rfl ?_
      refine lv_isub hx hb d_cWr_writeLong_98 ?_
      refine w_i (y := 48 - (((x3 / x5) - (x3 / x5) / 10 * 10).toInt32)) rfl ?_
      obtain ⟨j_4, hj_5, hl_6, Heq⟩ := gn_some Heq
      refine w_s (st' := [.int (48 - (((x3 / x5) - (x3 / x5) / 10 * 10).toInt32)), .ref (ad 5 j_4)]) (congrArg (fun z9 : Option Nat => [.int (48 - (((x3 / x5) - (x3 / x5) / 10 * 10).toInt32)), rv ad 5 z9]) hj_5) ?_
      obtain ⟨o_7, h_8, Heq⟩ := ob_some Heq
      have hFc := fr_all hD hS hA
      refine va_callv (va_runV (As := [.int (48 - (((x3 / x5) - (x3 / x5) / 10 * 10).toInt32))]) (rest := []) ⟨hx, hb, hml, hown, hts⟩ (g_cRw_write l D H.size (ad := ad) (cc := cc) (sad := sad) (sav := sav) h_8) (cw_v 1 hts kw_549 kw_1232 kw_547 kw_548 kw_4 rfl rfl (by decide +kernel) ⟨Nat.le_of_ble_eq_true rfl, Nat.le_of_ble_eq_true rfl⟩) ⟨c_blind, va_recv hK hP (ci := 5) (q0 := cPos N 5 j_4) rfl (cw_obj (k := 5) (by decide) hl_6), fun U hU hW => c_pre hU hW hP hK hD hev hE hN hNS hS hFc⟩ rfl rfl hl.1 rfl (lv_room (Nat.le_of_ble_eq_true rfl)) d_cWr_writeLong_99 ⟨Nat.le_of_ble_eq_true rfl, Nat.le_of_ble_eq_true rfl⟩) hS (fun q _ h => hFc q h) hFc (fun u t H1 locs ht hvm hw hB hz1 hk1 hS => ?_)
      obtain ⟨hP, -, hD1⟩ := hB
      rw [ht] at hP
      have hD := hD1.weaken (fun _ q _ h => hFc q.1 h)
      generalize H1 = H at hP hS ⊢
      refine W.cs (cells' := 0) (slots' := 0) rfl rfl ?_
      refine lv_lload hx hb d_cWr_writeLong_102 (lv_at hl 2 rfl) ?_
      refine lv_ldc2 (v := 10) hx hb hown (hts _ kw_1258) d_cWr_writeLong_104 ?_
      refine lv_ldiv hx hb d_cWr_writeLong_107 (by decide) ?_
      refine w_l (y := x5 / 10) rfl ?_
      refine lv_lstore (lv' := [(5, .long (x5 / 10)), (0, .ref (ad 2 x0)), (3, .long x3), (7, .int x7)]) hx hb d_cWr_writeLong_108 hl (by decide) rfl (fun ls hl => ?_)
      refine lv_iinc (v := x7 + 1) (lv' := [(7, .int (x7 + 1)), (5, .long (x5 / 10)), (0, .ref (ad 2 x0)), (3, .long x3)]) hx hb d_cWr_writeLong_110 hl (k := 3) rfl rfl (by decide) rfl (fun ls hl => ?_)
      refine lv_goto (tgt := 69) hx hb d_cWr_writeLong_113 (by decide) ?_
      exact Ka _ (Option.some.inj Heq).symm _ _ _ hP hD hS (lv_sub hl [2, 3, 1, 0] rfl)
def m_cWr_writeLong_L69 (N : Nat → Nat) (x0 : Nat) (S : CS) (x3 : Int64) (x5 : Int64) (x7 : Int32) : Option CS := lp (fun a : CS × Int64 × Int64 × Int32 => m_cWr_writeLong_B69 N x0 a.1 a.2.1 a.2.2.1 a.2.2.2) FU (S, x3, x5, x7)
theorem w_cWr_writeLong_L69 {p : Program} {l : Launch} {e : Env} {s : State} {m : MethodId} {args : Array Value} {below : List Frame} {meth : Method} {c : Code} {A : Nat → Prop} {D : va_G} {ad : Nat → Nat → Nat} {cc : Nat → ClassId} {sad sav : Nat → Nat} {Q : State → Prop} (hC : MCc sad sav "JoinedTrees$JsonWriter" prog_4_method_11_code 8 none p s m args meth c A D cc) {N : Nat → Nat} {x0 : Nat} {S : CS} {x3 : Int64} {x5 : Int64} {x7 : Int32} {o : CS} (Heq : m_cWr_writeLong_L69 N x0 S x3 x5 x7 = some o) (K0 : ∀ b : CS, o = b → ∀ (H : Heap) (locs : List Loc) (ls : Array Slot), va_P D cls (cw ad cc N b) H → va_D A (cw ad cc N b) → va_S A s.heap H locs → lv_has ls 8 [(0, .ref (ad 2 x0))] → W p l e ({ frames := 1, cells := 0, slots := 0, locals := 21 }) s m args below meth c H locs 0 0 Q (F0 m 116 ls [])) : ∀ (H : Heap) (locs : List Loc) (ls : Array Slot), va_P D cls (cw ad cc N S) H → va_D A (cw ad cc N S) → va_S A s.heap H locs → lv_has ls 8 [(0, .ref (ad 2 x0)), (3, .long x3), (5, .long x5), (7, .int x7)] → W p l e ({ frames := 1, cells := 0, slots := 0, locals := 21 }) s m args below meth c H locs 0 0 Q (F0 m 69 ls []) := by
  refine lp_w (G := fun a : CS × Int64 × Int64 × Int32 => ∀ (H : Heap) (locs : List Loc) (ls : Array Slot), va_P D cls (cw ad cc N a.1) H → va_D A (cw ad cc N a.1) → va_S A s.heap H locs → lv_has ls 8 [(0, .ref (ad 2 x0)), (3, .long a.2.1), (5, .long a.2.2.1), (7, .int a.2.2.2)] → W p l e ({ frames := 1, cells := 0, slots := 0, locals := 21 }) s m args below meth c H locs 0 0 Q (F0 m 69 ls [])) ?_ FU (S, x3, x5, x7) Heq
  intro a o1 ho Ka Ke
  exact w_cWr_writeLong_B69 hC ho (fun b h => Ka b h) (fun b h => K0 b (Ke _ h).symm)
def m_cWr_writeLong_J116 (N : Nat → Nat) (x0 : Nat) (S : CS) : Option CS := some S
theorem d_cWr_writeLong_116 : decode prog_4_method_11_code 116 = .ok (.return_, 1) := by decide +kernel
set_option maxHeartbeats 4000000 in
set_option maxRecDepth 100000 in
theorem w_cWr_writeLong_J116 {p : Program} {l : Launch} {e : Env} {s : State} {m : MethodId} {args : Array Value} {below : List Frame} {meth : Method} {c : Code} {A : Nat → Prop} {D : va_G} {ad : Nat → Nat → Nat} {cc : Nat → ClassId} {sad sav : Nat → Nat} {Q : State → Prop} (hC : MCc sad sav "JoinedTrees$JsonWriter" prog_4_method_11_code 8 none p s m args meth c A D cc) {N : Nat → Nat} {x0 : Nat} {S : CS} {o : CS} (Heq : m_cWr_writeLong_J116 N x0 S = some o) (Kr : ∀ r : CS, o = r → ∀ (pc : Nat) (H : Heap) (locs : List Loc) (ls : Array Slot), decode prog_4_method_11_code pc = .ok (.return_, 1) → va_P D cls (cw ad cc N r) H → va_D A (cw ad cc N r) → va_S A s.heap H locs → W p l e ({ frames := 1, cells := 0, slots := 0, locals := 21 }) s m args below meth c H locs 0 0 Q (F0 m pc ls [])) : ∀ (H : Heap) (locs : List Loc) (ls : Array Slot), va_P D cls (cw ad cc N S) H → va_D A (cw ad cc N S) → va_S A s.heap H locs → lv_has ls 8 [(0, .ref (ad 2 x0))] → W p l e ({ frames := 1, cells := 0, slots := 0, locals := 21 }) s m args below meth c H locs 0 0 Q (F0 m 116 ls []) := by
  intro H locs ls hP hD hS hl
  obtain ⟨hx, hb, hr, hml, hown, hts, hK, hA, hev, hE, hN, hNS⟩ := id hC
  unfold m_cWr_writeLong_J116 at Heq
  exact Kr _ (Option.some.inj Heq).symm 116 _ _ _ d_cWr_writeLong_116 hP hD hS
def m_cWr_writeLong_J66 (N : Nat → Nat) (x0 : Nat) (S : CS) (x3 : Int64) (x5 : Int64) : Option CS := ob (m_cWr_writeLong_L69 N x0 S x3 x5 0) (fun b_1 => m_cWr_writeLong_J116 N x0 b_1)
set_option maxHeartbeats 4000000 in
set_option maxRecDepth 100000 in
theorem w_cWr_writeLong_J66 {p : Program} {l : Launch} {e : Env} {s : State} {m : MethodId} {args : Array Value} {below : List Frame} {meth : Method} {c : Code} {A : Nat → Prop} {D : va_G} {ad : Nat → Nat → Nat} {cc : Nat → ClassId} {sad sav : Nat → Nat} {Q : State → Prop} (hC : MCc sad sav "JoinedTrees$JsonWriter" prog_4_method_11_code 8 none p s m args meth c A D cc) {N : Nat → Nat} {x0 : Nat} {S : CS} {x3 : Int64} {x5 : Int64} {o : CS} (Heq : m_cWr_writeLong_J66 N x0 S x3 x5 = some o) (Kr : ∀ r : CS, o = r → ∀ (pc : Nat) (H : Heap) (locs : List Loc) (ls : Array Slot), decode prog_4_method_11_code pc = .ok (.return_, 1) → va_P D cls (cw ad cc N r) H → va_D A (cw ad cc N r) → va_S A s.heap H locs → W p l e ({ frames := 1, cells := 0, slots := 0, locals := 21 }) s m args below meth c H locs 0 0 Q (F0 m pc ls [])) : ∀ (H : Heap) (locs : List Loc) (ls : Array Slot), va_P D cls (cw ad cc N S) H → va_D A (cw ad cc N S) → va_S A s.heap H locs → lv_has ls 8 [(0, .ref (ad 2 x0)), (3, .long x3), (5, .long x5)] → W p l e ({ frames := 1, cells := 0, slots := 0, locals := 21 }) s m args below meth c H locs 0 0 Q (F0 m 66 ls []) := by
  intro H locs ls hP hD hS hl
  obtain ⟨hx, hb, hr, hml, hown, hts, hK, hA, hev, hE, hN, hNS⟩ := id hC
  unfold m_cWr_writeLong_J66 at Heq
  refine lv_iconst (v := 0) hx hb d_cWr_writeLong_66 (by decide) ?_
  refine lv_istore (lv' := [(7, .int 0), (0, .ref (ad 2 x0)), (3, .long x3), (5, .long x5)]) hx hb d_cWr_writeLong_67 hl (by decide) rfl (fun ls hl => ?_)
  obtain ⟨b_1, h_2, Heq⟩ := ob_some Heq
  refine w_cWr_writeLong_L69 hC h_2 (fun b h => ?_) _ _ _ hP hD hS (lv_sub hl [1, 2, 3, 0] rfl)
  subst h
  intro H locs ls hP hD hS hl
  exact w_cWr_writeLong_J116 hC Heq Kr _ _ _ hP hD hS (lv_sub hl [0] rfl)
def m_cWr_writeLong_J27 (N : Nat → Nat) (x0 : Nat) (S : CS) (t0 : Int64) : Option CS := ob (m_cWr_writeLong_L34 N x0 S t0 1 0) (fun b_1 => m_cWr_writeLong_J66 N x0 b_1.1 b_1.2.1 b_1.2.2)
set_option maxHeartbeats 4000000 in
set_option maxRecDepth 100000 in
theorem w_cWr_writeLong_J27 {p : Program} {l : Launch} {e : Env} {s : State} {m : MethodId} {args : Array Value} {below : List Frame} {meth : Method} {c : Code} {A : Nat → Prop} {D : va_G} {ad : Nat → Nat → Nat} {cc : Nat → ClassId} {sad sav : Nat → Nat} {Q : State → Prop} (hC : MCc sad sav "JoinedTrees$JsonWriter" prog_4_method_11_code 8 none p s m args meth c A D cc) {N : Nat → Nat} {x0 : Nat} {S : CS} {t0 : Int64} {o : CS} (Heq : m_cWr_writeLong_J27 N x0 S t0 = some o) (Kr : ∀ r : CS, o = r → ∀ (pc : Nat) (H : Heap) (locs : List Loc) (ls : Array Slot), decode prog_4_method_11_code pc = .ok (.return_, 1) → va_P D cls (cw ad cc N r) H → va_D A (cw ad cc N r) → va_S A s.heap H locs → W p l e ({ frames := 1, cells := 0, slots := 0, locals := 21 }) s m args below meth c H locs 0 0 Q (F0 m pc ls [])) : ∀ (H : Heap) (locs : List Loc) (ls : Array Slot), va_P D cls (cw ad cc N S) H → va_D A (cw ad cc N S) → va_S A s.heap H locs → lv_has ls 8 [(0, .ref (ad 2 x0))] → W p l e ({ frames := 1, cells := 0, slots := 0, locals := 21 }) s m args below meth c H locs 0 0 Q (F0 m 27 ls [.long t0]) := by
  intro H locs ls hP hD hS hl
  obtain ⟨hx, hb, hr, hml, hown, hts, hK, hA, hev, hE, hN, hNS⟩ := id hC
  unfold m_cWr_writeLong_J27 at Heq
  refine lv_lstore_n (lv' := [(3, .long t0), (0, .ref (ad 2 x0))]) hx hb d_cWr_writeLong_27 rfl hl (by decide) rfl (fun ls hl => ?_)
  refine lv_lconst (v := 1) hx hb d_cWr_writeLong_28 (by decide) ?_
  refine lv_lstore (lv' := [(5, .long 1), (3, .long t0), (0, .ref (ad 2 x0))]) hx hb d_cWr_writeLong_29 hl (by decide) rfl (fun ls hl => ?_)
  refine lv_iconst (v := 0) hx hb d_cWr_writeLong_31 (by decide) ?_
  refine lv_istore (lv' := [(7, .int 0), (5, .long 1), (3, .long t0), (0, .ref (ad 2 x0))]) hx hb d_cWr_writeLong_32 hl (by decide) rfl (fun ls hl => ?_)
  obtain ⟨b_1, h_2, Heq⟩ := ob_some Heq
  refine w_cWr_writeLong_L34 hC h_2 (fun b h => ?_) _ _ _ hP hD hS (lv_sub hl [3, 2, 1, 0] rfl)
  subst h
  intro H locs ls hP hD hS hl
  exact w_cWr_writeLong_J66 hC Heq Kr _ _ _ hP hD hS (lv_sub hl [0, 1, 2] rfl)
def m_cWr_writeLong_J15 (N : Nat → Nat) (x0 : Nat) (S : CS) (x1 : Int64) : Option CS := (if 0 ≤ lg_cmp x1 0 then m_cWr_writeLong_J27 N x0 S (-x1) else m_cWr_writeLong_J27 N x0 S x1)
theorem d_cWr_writeLong_21 : decode prog_4_method_11_code 21 = .ok (.lload_n 1, 1) := by decide +kernel
theorem d_cWr_writeLong_22 : decode prog_4_method_11_code 22 = .ok (.goto 5, 3) := by decide +kernel
set_option maxHeartbeats 4000000 in
set_option maxRecDepth 100000 in
theorem w_cWr_writeLong_J15 {p : Program} {l : Launch} {e : Env} {s : State} {m : MethodId} {args : Array Value} {below : List Frame} {meth : Method} {c : Code} {A : Nat → Prop} {D : va_G} {ad : Nat → Nat → Nat} {cc : Nat → ClassId} {sad sav : Nat → Nat} {Q : State → Prop} (hC : MCc sad sav "JoinedTrees$JsonWriter" prog_4_method_11_code 8 none p s m args meth c A D cc) {N : Nat → Nat} {x0 : Nat} {S : CS} {x1 : Int64} {o : CS} (Heq : m_cWr_writeLong_J15 N x0 S x1 = some o) (Kr : ∀ r : CS, o = r → ∀ (pc : Nat) (H : Heap) (locs : List Loc) (ls : Array Slot), decode prog_4_method_11_code pc = .ok (.return_, 1) → va_P D cls (cw ad cc N r) H → va_D A (cw ad cc N r) → va_S A s.heap H locs → W p l e ({ frames := 1, cells := 0, slots := 0, locals := 21 }) s m args below meth c H locs 0 0 Q (F0 m pc ls [])) : ∀ (H : Heap) (locs : List Loc) (ls : Array Slot), va_P D cls (cw ad cc N S) H → va_D A (cw ad cc N S) → va_S A s.heap H locs → lv_has ls 8 [(0, .ref (ad 2 x0)), (1, .long x1)] → W p l e ({ frames := 1, cells := 0, slots := 0, locals := 21 }) s m args below meth c H locs 0 0 Q (F0 m 15 ls []) := by
  intro H locs ls hP hD hS hl
  obtain ⟨hx, hb, hr, hml, hown, hts, hK, hA, hev, hE, hN, hNS⟩ := id hC
  unfold m_cWr_writeLong_J15 at Heq
  refine lv_lload_n hx hb d_cWr_writeLong_15 rfl (lv_at hl 1 rfl) ?_
  refine lv_lconst (v := 0) hx hb d_cWr_writeLong_16 (by decide) ?_
  refine W.lcmp hx hb d_cWr_writeLong_17 ?_
  refine w_i (y := lg_cmp x1 0) rfl ?_
  refine lv_if_ge (tgt := 25) hx hb d_cWr_writeLong_18 (by decide) (fun c_1 => ?_) (fun c_1 => ?_)
  · replace Heq := (if_pos c_1).symm.trans Heq
    refine lv_lload_n hx hb d_cWr_writeLong_25 rfl (lv_at hl 1 rfl) ?_
    refine lv_lneg hx hb d_cWr_writeLong_26 ?_
    refine w_l (y := -x1) rfl ?_
    exact w_cWr_writeLong_J27 hC Heq Kr _ _ _ hP hD hS (lv_sub hl [0] rfl)
  · replace Heq := (if_neg c_1).symm.trans Heq
    refine lv_lload_n hx hb d_cWr_writeLong_21 rfl (lv_at hl 1 rfl) ?_
    refine lv_goto (tgt := 27) hx hb d_cWr_writeLong_22 (by decide) ?_
    exact w_cWr_writeLong_J27 hC Heq Kr _ _ _ hP hD hS (lv_sub hl [0] rfl)
def m_cWr_writeLong_J0 (N : Nat → Nat) (x0 : Nat) (S : CS) (x1 : Int64) : Option CS := (if 0 ≤ lg_cmp x1 0 then m_cWr_writeLong_J15 N x0 S x1 else gl x0 (N 2) (gn (S.r 2 1 x0) (N 5) (fun j_2 => ob (m_cRw_write N j_2 S 45) (fun o_5 => m_cWr_writeLong_J15 N x0 o_5 x1))))
theorem d_cWr_writeLong_6 : decode prog_4_method_11_code 6 = .ok (.aload_n 0, 1) := by decide +kernel
theorem d_cWr_writeLong_7 : decode prog_4_method_11_code 7 = .ok (.getfield 14, 3) := by decide +kernel
theorem d_cWr_writeLong_10 : decode prog_4_method_11_code 10 = .ok (.bipush 45, 2) := by decide +kernel
theorem d_cWr_writeLong_12 : decode prog_4_method_11_code 12 = .ok (.invokevirtual 51, 3) := by decide +kernel
set_option maxHeartbeats 4000000 in
set_option maxRecDepth 100000 in
theorem w_cWr_writeLong_J0 {p : Program} {l : Launch} {e : Env} {s : State} {m : MethodId} {args : Array Value} {below : List Frame} {meth : Method} {c : Code} {A : Nat → Prop} {D : va_G} {ad : Nat → Nat → Nat} {cc : Nat → ClassId} {sad sav : Nat → Nat} {Q : State → Prop} (hC : MCc sad sav "JoinedTrees$JsonWriter" prog_4_method_11_code 8 none p s m args meth c A D cc) {N : Nat → Nat} {x0 : Nat} {S : CS} {x1 : Int64} {o : CS} (Heq : m_cWr_writeLong_J0 N x0 S x1 = some o) (Kr : ∀ r : CS, o = r → ∀ (pc : Nat) (H : Heap) (locs : List Loc) (ls : Array Slot), decode prog_4_method_11_code pc = .ok (.return_, 1) → va_P D cls (cw ad cc N r) H → va_D A (cw ad cc N r) → va_S A s.heap H locs → W p l e ({ frames := 1, cells := 0, slots := 0, locals := 21 }) s m args below meth c H locs 0 0 Q (F0 m pc ls [])) : ∀ (H : Heap) (locs : List Loc) (ls : Array Slot), va_P D cls (cw ad cc N S) H → va_D A (cw ad cc N S) → va_S A s.heap H locs → lv_has ls 8 [(0, .ref (ad 2 x0)), (1, .long x1)] → W p l e ({ frames := 1, cells := 0, slots := 0, locals := 21 }) s m args below meth c H locs 0 0 Q (F0 m 0 ls []) := by
  intro H locs ls hP hD hS hl
  obtain ⟨hx, hb, hr, hml, hown, hts, hK, hA, hev, hE, hN, hNS⟩ := id hC
  unfold m_cWr_writeLong_J0 at Heq
  refine lv_lload_n hx hb d_cWr_writeLong_0 rfl (lv_at hl 1 rfl) ?_
  refine lv_lconst (v := 0) hx hb d_cWr_writeLong_1 (by decide) ?_
  refine W.lcmp hx hb d_cWr_writeLong_2 ?_
  refine w_i (y := lg_cmp x1 0) rfl ?_
  refine lv_if_ge (tgt := 15) hx hb d_cWr_writeLong_3 (by decide) (fun c_1 => ?_) (fun c_1 => ?_)
  · replace Heq := (if_pos c_1).symm.trans Heq
    exact w_cWr_writeLong_J15 hC Heq Kr _ _ _ hP hD hS (lv_sub hl [0, 1] rfl)
  · replace Heq := (if_neg c_1).symm.trans Heq
    refine lv_aload_n hx hb d_cWr_writeLong_6 rfl (lv_at hl 0 rfl) ?_
    obtain ⟨hl_x0_2, Heq⟩ := gl_some Heq
    refine va_get (D := D) (ci := 2) (v := rv ad 5 (S.r 2 1 x0)) (C := R_Wr) (T := F_Wr) (N := 2) hx hb hts i_Wr hown hK hP (cPos N 2 x0) (cw_obj (k := 2) (by decide) hl_x0_2) rfl 1 (by decide) (hts _ kw_386) (fun _ h9 => h9) rfl d_cWr_writeLong_7 ?_
    refine lv_bipush (v := 45) hx hb d_cWr_writeLong_10 (by decide) ?_
    obtain ⟨j_2, hj_3, hl_4, Heq⟩ := gn_some Heq
    refine w_s (st' := [.int 45, .ref (ad 5 j_2)]) (congrArg (fun z9 : Option Nat => [.int 45, rv ad 5 z9]) hj_3) ?_
    obtain ⟨o_5, h_6, Heq⟩ := ob_some Heq
    have hFc := fr_all hD hS hA
    refine va_callv (va_runV (As := [.int 45]) (rest := []) ⟨hx, hb, hml, hown, hts⟩ (g_cRw_write l D H.size (ad := ad) (cc := cc) (sad := sad) (sav := sav) h_6) (cw_v 1 hts kw_549 kw_1232 kw_547 kw_548 kw_4 rfl rfl (by decide +kernel) ⟨Nat.le_of_ble_eq_true rfl, Nat.le_of_ble_eq_true rfl⟩) ⟨c_blind, va_recv hK hP (ci := 5) (q0 := cPos N 5 j_2) rfl (cw_obj (k := 5) (by decide) hl_4), fun U hU hW => c_pre hU hW hP hK hD hev hE hN hNS hS hFc⟩ rfl rfl hl.1 rfl (lv_room (Nat.le_of_ble_eq_true rfl)) d_cWr_writeLong_12 ⟨Nat.le_of_ble_eq_true rfl, Nat.le_of_ble_eq_true rfl⟩) hS (fun q _ h => hFc q h) hFc (fun u t H1 locs ht hvm hw hB hz1 hk1 hS => ?_)
    obtain ⟨hP, -, hD1⟩ := hB
    rw [ht] at hP
    have hD := hD1.weaken (fun _ q _ h => hFc q.1 h)
    generalize H1 = H at hP hS ⊢
    refine W.cs (cells' := 0) (slots' := 0) rfl rfl ?_
    exact w_cWr_writeLong_J15 hC Heq Kr _ _ _ hP hD hS (lv_sub hl [0, 1] rfl)
def m_cWr_writeLong (N : Nat → Nat) (x0 : Nat) (S : CS) (x1 : Int64) : Option CS := m_cWr_writeLong_J0 N x0 S x1
set_option maxHeartbeats 4000000 in
theorem g_cWr_writeLong (l : Launch) (D : va_G) (sz : Nat) {ad : Nat → Nat → Nat} {cc : Nat → ClassId} {sad sav : Nat → Nat} {N : Nat → Nat} {x0 : Nat} {S : CS} {x1 : Int64} {o : CS} (Heq : m_cWr_writeLong N x0 S x1 = some o) : Met l ⟨"JoinedTrees$JsonWriter", "writeLong", "(J)V"⟩ (Cond.code ⟨"JoinedTrees$JsonWriter", "writeLong", "(J)V"⟩ prog_4_method_11_code 8 none :: gb) ({ frames := 1, cells := 0, slots := 0, locals := 21 }) (cPc sad sav D (cw ad cc N S) (cty cc) sz [.ref (ad 2 x0), .long x1]) (va_Qv (fun _ : Unit => True) (fun _ t => gO D (cw ad cc N o) (cty cc) (va_A (cw ad cc N S) sz) t) (va_A (cw ad cc N S) sz)) 0 0 (va_A (cw ad cc N S) sz) := by
  refine Met.ofW (cc := prog_4_method_11_code) (maxL := 8) (ret := none) (by decide) rfl ?_
  intro p e s m args below meth c s₁ B hml hv
  obtain ⟨rfl, hsz, hP, hK, hD0, hev, hE, hN⟩ := hv
  have hx := B.exec
  have hb := B.bytes
  have hr := B.returns
  have hts : ∀ w9 ∈ gb, w9.before [.ref (ad 2 x0), .long x1].toArray s = true := fun w9 h => atoms_spec (ws := Cond.code ⟨"JoinedTrees$JsonWriter", "writeLong", "(J)V"⟩ prog_4_method_11_code 8 none :: gb) B.pre w9 (List.mem_cons_of_mem _ h)
  have hown : s.vm.findClass "JoinedTrees$JsonWriter" = some m.cls := findClass_of_methodNamed B.named
  have hlocks := B.notSynchronized
  have hNS := ns_of hP
  subst hsz
  have hD := hD0.self (sz := s.heap.size)
  generalize hAe : va_A (cw ad cc N S) s.heap.size = A at hD hev hE hNS ⊢
  have hA : ∀ q : Nat, s.heap.size ≤ q → A q := fun q h => by rw [← hAe]; exact Or.inr h
  have hS : va_S A s.heap s.heap [] := va_S.rf
  obtain ⟨ls, hl, hle⟩ : ∃ ls : Array Slot, lv_has ls 8 [(0, .ref (ad 2 x0)), (1, .long x1)] ∧ entryFrame m ([.ref (ad 2 x0), .long x1] : List Value).toArray 8 = F0 m 0 ls [] := by
    exact ⟨_, lv_entry (n := 8) _ (Nat.le_of_ble_eq_true rfl), lg_entry_eq ..⟩
  rw [hle]
  refine w_cWr_writeLong_J0 ⟨hx, hb, hr, hml, hown, hts, hK, hA, hev, hE, hN, hNS⟩ Heq (fun r h pc H locs ls hd hP hD hS => ?_) _ _ _ hP hD hS (lv_sub hl [0, 1] rfl)
  subst h
  exact W.vret hx hb hr (fun t ht hW => ⟨⟨(), rfl, trivial, by rw [ht]; exact hP, va_K.moved hW.alike hK, hD⟩, hS.F ht⟩) hS.2.2 hd
def m_cWr_writePlain_J159 (N : Nat → Nat) (x0 : Nat) (S : CS) : Option CS := some S
theorem d_cWr_writePlain_0 : decode prog_4_method_5_code 0 = .ok (.aload_n 1, 1) := by decide +kernel
theorem d_cWr_writePlain_1 : decode prog_4_method_5_code 1 = .ok (.getfield 27, 3) := by decide +kernel
theorem d_cWr_writePlain_4 : decode prog_4_method_5_code 4 = .ok (.tableswitch 143 0 8 #[52, 61, 70, 143, 79, 143, 143, 143, 117], 52) := by decide +kernel
theorem d_cWr_writePlain_56 : decode prog_4_method_5_code 56 = .ok (.aload_n 0, 1) := by decide +kernel
theorem d_cWr_writePlain_57 : decode prog_4_method_5_code 57 = .ok (.ldc 90, 2) := by decide +kernel
theorem d_cWr_writePlain_59 : decode prog_4_method_5_code 59 = .ok (.invokevirtual 92, 3) := by decide +kernel
theorem d_cWr_writePlain_62 : decode prog_4_method_5_code 62 = .ok (.goto 97, 3) := by decide +kernel
theorem d_cWr_writePlain_159 : decode prog_4_method_5_code 159 = .ok (.return_, 1) := by decide +kernel
set_option maxHeartbeats 4000000 in
set_option maxRecDepth 100000 in
theorem w_cWr_writePlain_J159 {p : Program} {l : Launch} {e : Env} {s : State} {m : MethodId} {args : Array Value} {below : List Frame} {meth : Method} {c : Code} {A : Nat → Prop} {D : va_G} {ad : Nat → Nat → Nat} {cc : Nat → ClassId} {sad sav : Nat → Nat} {Q : State → Prop} (hC : MCc sad sav "JoinedTrees$JsonWriter" prog_4_method_5_code 2 none p s m args meth c A D cc) {N : Nat → Nat} {x0 : Nat} {S : CS} {o : CS} (Heq : m_cWr_writePlain_J159 N x0 S = some o) (Kr : ∀ r : CS, o = r → ∀ (pc : Nat) (H : Heap) (locs : List Loc) (ls : Array Slot), decode prog_4_method_5_code pc = .ok (.return_, 1) → va_P D cls (cw ad cc N r) H → va_D A (cw ad cc N r) → va_S A s.heap H locs → W p l e ({ frames := 5, cells := 0, slots := 0, locals := 133 }) s m args below meth c H locs 0 0 Q (F0 m pc ls [])) : ∀ (H : Heap) (locs : List Loc) (ls : Array Slot), va_P D cls (cw ad cc N S) H → va_D A (cw ad cc N S) → va_S A s.heap H locs → lv_has ls 2 [(0, .ref (ad 2 x0))] → W p l e ({ frames := 5, cells := 0, slots := 0, locals := 133 }) s m args below meth c H locs 0 0 Q (F0 m 159 ls []) := by
  intro H locs ls hP hD hS hl
  obtain ⟨hx, hb, hr, hml, hown, hts, hK, hA, hev, hE, hN, hNS⟩ := id hC
  unfold m_cWr_writePlain_J159 at Heq
  exact Kr _ (Option.some.inj Heq).symm 159 _ _ _ d_cWr_writePlain_159 hP hD hS
def m_cWr_writePlain_J147 (N : Nat → Nat) (x0 : Nat) (S : CS) (x1 : Option Nat) : Option CS := gl x0 (N 2) (gn x1 (N 3) (fun j_1 => gn (S.r 2 0 x0) (N 10) (fun j_4 => ob (m_cVw_numberOf N j_4 S j_1) (fun o_7 => ob (m_cWr_writeLong N x0 o_7.1 o_7.2) (fun o_9 => m_cWr_writePlain_J159 N x0 o_9)))))
theorem d_cWr_writePlain_65 : decode prog_4_method_5_code 65 = .ok (.aload_n 0, 1) := by decide +kernel
theorem d_cWr_writePlain_66 : decode prog_4_method_5_code 66 = .ok (.ldc 96, 2) := by decide +kernel
theorem d_cWr_writePlain_68 : decode prog_4_method_5_code 68 = .ok (.invokevirtual 92, 3) := by decide +kernel
theorem d_cWr_writePlain_71 : decode prog_4_method_5_code 71 = .ok (.goto 88, 3) := by decide +kernel
theorem d_cWr_writePlain_74 : decode prog_4_method_5_code 74 = .ok (.aload_n 0, 1) := by decide +kernel
theorem d_cWr_writePlain_75 : decode prog_4_method_5_code 75 = .ok (.ldc 98, 2) := by decide +kernel
theorem d_cWr_writePlain_77 : decode prog_4_method_5_code 77 = .ok (.invokevirtual 92, 3) := by decide +kernel
theorem d_cWr_writePlain_80 : decode prog_4_method_5_code 80 = .ok (.goto 79, 3) := by decide +kernel
theorem d_cWr_writePlain_147 : decode prog_4_method_5_code 147 = .ok (.aload_n 0, 1) := by decide +kernel
theorem d_cWr_writePlain_148 : decode prog_4_method_5_code 148 = .ok (.aload_n 0, 1) := by decide +kernel
theorem d_cWr_writePlain_149 : decode prog_4_method_5_code 149 = .ok (.getfield 20, 3) := by decide +kernel
theorem d_cWr_writePlain_152 : decode prog_4_method_5_code 152 = .ok (.aload_n 1, 1) := by decide +kernel
theorem d_cWr_writePlain_153 : decode prog_4_method_5_code 153 = .ok (.invokevirtual 106, 3) := by decide +kernel
theorem d_cWr_writePlain_156 : decode prog_4_method_5_code 156 = .ok (.invokevirtual 110, 3) := by decide +kernel
set_option maxHeartbeats 4000000 in
set_option maxRecDepth 100000 in
theorem w_cWr_writePlain_J147 {p : Program} {l : Launch} {e : Env} {s : State} {m : MethodId} {args : Array Value} {below : List Frame} {meth : Method} {c : Code} {A : Nat → Prop} {D : va_G} {ad : Nat → Nat → Nat} {cc : Nat → ClassId} {sad sav : Nat → Nat} {Q : State → Prop} (hC : MCc sad sav "JoinedTrees$JsonWriter" prog_4_method_5_code 2 none p s m args meth c A D cc) {N : Nat → Nat} {x0 : Nat} {S : CS} {x1 : Option Nat} {o : CS} (Heq : m_cWr_writePlain_J147 N x0 S x1 = some o) (Kr : ∀ r : CS, o = r → ∀ (pc : Nat) (H : Heap) (locs : List Loc) (ls : Array Slot), decode prog_4_method_5_code pc = .ok (.return_, 1) → va_P D cls (cw ad cc N r) H → va_D A (cw ad cc N r) → va_S A s.heap H locs → W p l e ({ frames := 5, cells := 0, slots := 0, locals := 133 }) s m args below meth c H locs 0 0 Q (F0 m pc ls [])) : ∀ (H : Heap) (locs : List Loc) (ls : Array Slot), va_P D cls (cw ad cc N S) H → va_D A (cw ad cc N S) → va_S A s.heap H locs → lv_has ls 2 [(0, .ref (ad 2 x0)), (1, rv ad 3 x1)] → W p l e ({ frames := 5, cells := 0, slots := 0, locals := 133 }) s m args below meth c H locs 0 0 Q (F0 m 147 ls []) := by
  intro H locs ls hP hD hS hl
  obtain ⟨hx, hb, hr, hml, hown, hts, hK, hA, hev, hE, hN, hNS⟩ := id hC
  unfold m_cWr_writePlain_J147 at Heq
  refine lv_aload_n hx hb d_cWr_writePlain_147 rfl (lv_at hl 0 rfl) ?_
  refine lv_aload_n hx hb d_cWr_writePlain_148 rfl (lv_at hl 0 rfl) ?_
  obtain ⟨hl_x0_2, Heq⟩ := gl_some Heq
  refine va_get (D := D) (ci := 2) (v := rv ad 10 (S.r 2 0 x0)) (C := R_Wr) (T := F_Wr) (N := 2) hx hb hts i_Wr hown hK hP (cPos N 2 x0) (cw_obj (k := 2) (by decide) hl_x0_2) rfl 0 (by decide) (hts _ kw_385) (fun _ h9 => h9) rfl d_cWr_writePlain_149 ?_
  refine tx_aload_n (x := x1.map (ad 3)) hx hb d_cWr_writePlain_152 rfl (lv_at hl 1 rfl) ?_
  refine w_v (y := rv ad 3 x1) rfl ?_
  obtain ⟨j_1, hj_2, hl_3, Heq⟩ := gn_some Heq
  refine w_s (st' := [.ref (ad 3 j_1), rv ad 10 (S.r 2 0 x0), .ref (ad 2 x0)]) (congrArg (fun z9 : Option Nat => [rv ad 3 z9, rv ad 10 (S.r 2 0 x0), .ref (ad 2 x0)]) hj_2) ?_
  obtain ⟨j_4, hj_5, hl_6, Heq⟩ := gn_some Heq
  refine w_s (st' := [.ref (ad 3 j_1), .ref (ad 10 j_4), .ref (ad 2 x0)]) (congrArg (fun z9 : Option Nat => [.ref (ad 3 j_1), rv ad 10 z9, .ref (ad 2 x0)]) hj_5) ?_
  obtain ⟨o_7, h_8, Heq⟩ := ob_some Heq
  have hFc := fr_all hD hS hA
  refine va_calll (va_runV (As := [.ref (ad 3 j_1)]) (rest := [.ref (ad 2 x0)]) ⟨hx, hb, hml, hown, hts⟩ (g_cVw_numberOf l D H.size (ad := ad) (cc := cc) (sad := sad) (sav := sav) h_8) (cw_v 1 hts kw_1147 kw_1252 kw_1145 kw_1146 kw_6 rfl rfl (by decide +kernel) ⟨Nat.le_of_ble_eq_true rfl, Nat.le_of_ble_eq_true rfl⟩) ⟨c_blind, va_recv hK hP (ci := 10) (q0 := cPos N 10 j_4) rfl (cw_obj (k := 10) (by decide) hl_6), fun U hU hW => c_pre hU hW hP hK hD hev hE hN hNS hS hFc⟩ rfl rfl hl.1 rfl (lv_room (Nat.le_of_ble_eq_true rfl)) d_cWr_writePlain_153 ⟨Nat.le_of_ble_eq_true rfl, Nat.le_of_ble_eq_true rfl⟩) hS (fun q _ h => hFc q h) hFc (fun rz u t H1 locs ht hvm hw hB hz1 hk1 hS => ?_)
  obtain ⟨hP, -, hD1⟩ := hB
  rw [ht] at hP
  have hD := hD1.weaken (fun _ q _ h => hFc q.1 h)
  generalize H1 = H at hP hS ⊢
  refine W.cs (cells' := 0) (slots' := 0) rfl rfl ?_
  subst hw
  obtain ⟨o_9, h_10, Heq⟩ := ob_some Heq
  have hFc := fr_all hD hS hA
  refine va_callv (va_runV (As := [.long o_7.2]) (rest := []) ⟨hx, hb, hml, hown, hts⟩ (g_cWr_writeLong l D H.size (ad := ad) (cc := cc) (sad := sad) (sav := sav) h_10) (cw_v 1 hts kw_1256 kw_1253 kw_1254 kw_1255 kw_9 rfl rfl (by decide +kernel) ⟨Nat.le_of_ble_eq_true rfl, Nat.le_of_ble_eq_true rfl⟩) ⟨c_blind, va_recv hK hP (ci := 2) (q0 := cPos N 2 x0) rfl (cw_obj (k := 2) (by decide) hl_x0_2), fun U hU hW => c_pre hU hW hP hK hD hev hE hN hNS hS hFc⟩ rfl rfl hl.1 rfl (lv_room (Nat.le_of_ble_eq_true rfl)) d_cWr_writePlain_156 ⟨Nat.le_of_ble_eq_true rfl, Nat.le_of_ble_eq_true rfl⟩) hS (fun q _ h => hFc q h) hFc (fun u t H1 locs ht hvm hw hB hz1 hk1 hS => ?_)
  obtain ⟨hP, -, hD1⟩ := hB
  rw [ht] at hP
  have hD := hD1.weaken (fun _ q _ h => hFc q.1 h)
  generalize H1 = H at hP hS ⊢
  refine W.cs (cells' := 0) (slots' := 0) rfl rfl ?_
  exact w_cWr_writePlain_J159 hC Heq Kr _ _ _ hP hD hS (lv_sub hl [0] rfl)
def m_cWr_writePlain_J0 (N : Nat → Nat) (x0 : Nat) (S : CS) (x1 : Nat) : Option CS := gl x1 (N 3) ((if S.i 3 2 x1 = 0 then gl x0 (N 2) (ob (m_cWr_writeWord N x0 S 6) (fun o_2 => m_cWr_writePlain_J159 N x0 o_2)) else (if S.i 3 2 x1 = 1 then gl x0 (N 2) (ob (m_cWr_writeWord N x0 S 7) (fun o_5 => m_cWr_writePlain_J159 N x0 o_5)) else (if S.i 3 2 x1 = 2 then gl x0 (N 2) (ob (m_cWr_writeWord N x0 S 8) (fun o_8 => m_cWr_writePlain_J159 N x0 o_8)) else (if S.i 3 2 x1 = 3 then m_cWr_writePlain_J147 N x0 S (some x1) else (if S.i 3 2 x1 = 4 then gl x0 (N 2) (gn (S.r 2 1 x0) (N 5) (fun j_12 => ob (m_cRw_write N j_12 S 34) (fun o_15 => ob (m_cWr_writeLetters N x0 o_15 ((o_15.i 3 8 x1) + (o_15.i 3 9 x1)) (o_15.i 3 10 x1)) (fun o_17 => gn (o_17.r 2 1 x0) (N 5) (fun j_19 => ob (m_cRw_write N j_19 o_17 34) (fun o_22 => m_cWr_writePlain_J159 N x0 o_22)))))) else (if S.i 3 2 x1 = 5 then m_cWr_writePlain_J147 N x0 S (some x1) else (if S.i 3 2 x1 = 6 then m_cWr_writePlain_J147 N x0 S (some x1) else (if S.i 3 2 x1 = 7 then m_cWr_writePlain_J147 N x0 S (some x1) else (if S.i 3 2 x1 = 8 then gl x0 (N 2) (gn (S.r 2 1 x0) (N 5) (fun j_28 => ob (m_cRw_write N j_28 S 34) (fun o_31 => ob (m_cWr_writeElements N x0 o_31 x1) (fun o_33 => gn (o_33.r 2 1 x0) (N 5) (fun j_35 => ob (m_cRw_write N j_35 o_33 34) (fun o_38 => m_cWr_writePlain_J159 N x0 o_38)))))) else m_cWr_writePlain_J147 N x0 S (some x1)))))))))))
theorem d_cWr_writePlain_83 : decode prog_4_method_5_code 83 = .ok (.aload_n 0, 1) := by decide +kernel
theorem d_cWr_writePlain_84 : decode prog_4_method_5_code 84 = .ok (.getfield 14, 3) := by decide +kernel
theorem d_cWr_writePlain_87 : decode prog_4_method_5_code 87 = .ok (.bipush 34, 2) := by decide +kernel
theorem d_cWr_writePlain_89 : decode prog_4_method_5_code 89 = .ok (.invokevirtual 51, 3) := by decide +kernel
theorem d_cWr_writePlain_92 : decode prog_4_method_5_code 92 = .ok (.aload_n 0, 1) := by decide +kernel
theorem d_cWr_writePlain_93 : decode prog_4_method_5_code 93 = .ok (.aload_n 1, 1) := by decide +kernel
theorem d_cWr_writePlain_94 : decode prog_4_method_5_code 94 = .ok (.getfield 80, 3) := by decide +kernel
theorem d_cWr_writePlain_97 : decode prog_4_method_5_code 97 = .ok (.aload_n 1, 1) := by decide +kernel
theorem d_cWr_writePlain_98 : decode prog_4_method_5_code 98 = .ok (.getfield 83, 3) := by decide +kernel
theorem d_cWr_writePlain_101 : decode prog_4_method_5_code 101 = .ok (.iadd, 1) := by decide +kernel
theorem d_cWr_writePlain_102 : decode prog_4_method_5_code 102 = .ok (.aload_n 1, 1) := by decide +kernel
theorem d_cWr_writePlain_103 : decode prog_4_method_5_code 103 = .ok (.getfield 100, 3) := by decide +kernel
theorem d_cWr_writePlain_106 : decode prog_4_method_5_code 106 = .ok (.invokevirtual 86, 3) := by decide +kernel
theorem d_cWr_writePlain_109 : decode prog_4_method_5_code 109 = .ok (.aload_n 0, 1) := by decide +kernel
theorem d_cWr_writePlain_110 : decode prog_4_method_5_code 110 = .ok (.getfield 14, 3) := by decide +kernel
theorem d_cWr_writePlain_113 : decode prog_4_method_5_code 113 = .ok (.bipush 34, 2) := by decide +kernel
theorem d_cWr_writePlain_115 : decode prog_4_method_5_code 115 = .ok (.invokevirtual 51, 3) := by decide +kernel
theorem d_cWr_writePlain_118 : decode prog_4_method_5_code 118 = .ok (.goto 41, 3) := by decide +kernel
theorem d_cWr_writePlain_121 : decode prog_4_method_5_code 121 = .ok (.aload_n 0, 1) := by decide +kernel
theorem d_cWr_writePlain_122 : decode prog_4_method_5_code 122 = .ok (.getfield 14, 3) := by decide +kernel
theorem d_cWr_writePlain_125 : decode prog_4_method_5_code 125 = .ok (.bipush 34, 2) := by decide +kernel
theorem d_cWr_writePlain_127 : decode prog_4_method_5_code 127 = .ok (.invokevirtual 51, 3) := by decide +kernel
theorem d_cWr_writePlain_130 : decode prog_4_method_5_code 130 = .ok (.aload_n 0, 1) := by decide +kernel
theorem d_cWr_writePlain_131 : decode prog_4_method_5_code 131 = .ok (.aload_n 1, 1) := by decide +kernel
theorem d_cWr_writePlain_132 : decode prog_4_method_5_code 132 = .ok (.invokevirtual 103, 3) := by decide +kernel
theorem d_cWr_writePlain_135 : decode prog_4_method_5_code 135 = .ok (.aload_n 0, 1) := by decide +kernel
theorem d_cWr_writePlain_136 : decode prog_4_method_5_code 136 = .ok (.getfield 14, 3) := by decide +kernel
theorem d_cWr_writePlain_139 : decode prog_4_method_5_code 139 = .ok (.bipush 34, 2) := by decide +kernel
theorem d_cWr_writePlain_141 : decode prog_4_method_5_code 141 = .ok (.invokevirtual 51, 3) := by decide +kernel
theorem d_cWr_writePlain_144 : decode prog_4_method_5_code 144 = .ok (.goto 15, 3) := by decide +kernel
set_option maxHeartbeats 4000000 in
set_option maxRecDepth 100000 in
theorem w_cWr_writePlain_J0 {p : Program} {l : Launch} {e : Env} {s : State} {m : MethodId} {args : Array Value} {below : List Frame} {meth : Method} {c : Code} {A : Nat → Prop} {D : va_G} {ad : Nat → Nat → Nat} {cc : Nat → ClassId} {sad sav : Nat → Nat} {Q : State → Prop} (hC : MCc sad sav "JoinedTrees$JsonWriter" prog_4_method_5_code 2 none p s m args meth c A D cc) {N : Nat → Nat} {x0 : Nat} {S : CS} {x1 : Nat} {o : CS} (Heq : m_cWr_writePlain_J0 N x0 S x1 = some o) (Kr : ∀ r : CS, o = r → ∀ (pc : Nat) (H : Heap) (locs : List Loc) (ls : Array Slot), decode prog_4_method_5_code pc = .ok (.return_, 1) → va_P D cls (cw ad cc N r) H → va_D A (cw ad cc N r) → va_S A s.heap H locs → W p l e ({ frames := 5, cells := 0, slots := 0, locals := 133 }) s m args below meth c H locs 0 0 Q (F0 m pc ls [])) : ∀ (H : Heap) (locs : List Loc) (ls : Array Slot), va_P D cls (cw ad cc N S) H → va_D A (cw ad cc N S) → va_S A s.heap H locs → lv_has ls 2 [(0, .ref (ad 2 x0)), (1, .ref (ad 3 x1))] → W p l e ({ frames := 5, cells := 0, slots := 0, locals := 133 }) s m args below meth c H locs 0 0 Q (F0 m 0 ls []) := by
  intro H locs ls hP hD hS hl
  obtain ⟨hx, hb, hr, hml, hown, hts, hK, hA, hev, hE, hN, hNS⟩ := id hC
  unfold m_cWr_writePlain_J0 at Heq
  refine lv_aload_n hx hb d_cWr_writePlain_0 rfl (lv_at hl 1 rfl) ?_
  obtain ⟨hl_x1_3, Heq⟩ := gl_some Heq
  refine va_get (D := D) (ci := 3) (v := .int (S.i 3 2 x1)) (C := R_Op) (T := F_Op) (N := 15) hx hb hts i_Op hown hK hP (cPos N 3 x1) (cw_obj (k := 3) (by decide) hl_x1_3) rfl 2 (by decide) (hts _ kw_60) (fun _ h9 => h9) rfl d_cWr_writePlain_1 ?_
  obtain ⟨xs4, hxs4⟩ : ∃ z, S.i 3 2 x1 = z := ⟨_, rfl⟩
  by_cases c_1 : S.i 3 2 x1 = 0
  · replace Heq := (if_pos c_1).symm.trans Heq
    refine w_i (y := 0) c_1 ?_
    refine lv_tableIn (tgt := 56) hx hb d_cWr_writePlain_4 (by decide) (by decide) rfl (by decide) ?_
    refine lv_aload_n hx hb d_cWr_writePlain_56 rfl (lv_at hl 0 rfl) ?_
    refine va_ldcS (own := "JoinedTrees$JsonWriter") (tx := "null") (q := sad 6) hx hb hown (hE.1 6 (by decide)).1 d_cWr_writePlain_57 ?_
    obtain ⟨hl_x0_2, Heq⟩ := gl_some Heq
    obtain ⟨o_2, h_3, Heq⟩ := ob_some Heq
    have hFc := fr_all hD hS hA
    refine va_callv (va_runV (As := [.ref (sad 6)]) (rest := []) ⟨hx, hb, hml, hown, hts⟩ (g_cWr_writeWord l D H.size (ad := ad) (cc := cc) (sad := sad) (sav := sav) h_3) (cw_v 1 hts kw_1229 kw_1226 kw_1227 kw_1228 kw_9 rfl rfl (by decide +kernel) ⟨Nat.le_of_ble_eq_true rfl, Nat.le_of_ble_eq_true rfl⟩) ⟨c_blind, va_recv hK hP (ci := 2) (q0 := cPos N 2 x0) rfl (cw_obj (k := 2) (by decide) hl_x0_2), fun U hU hW => c_pre hU hW hP hK hD hev hE hN hNS hS hFc⟩ rfl rfl hl.1 rfl (lv_room (Nat.le_of_ble_eq_true rfl)) d_cWr_writePlain_59 ⟨Nat.le_of_ble_eq_true rfl, Nat.le_of_ble_eq_true rfl⟩) hS (fun q _ h => hFc q h) hFc (fun u t H1 locs ht hvm hw hB hz1 hk1 hS => ?_)
    obtain ⟨hP, -, hD1⟩ := hB
    rw [ht] at hP
    have hD := hD1.weaken (fun _ q _ h => hFc q.1 h)
    generalize H1 = H at hP hS ⊢
    refine W.cs (cells' := 0) (slots' := 0) rfl rfl ?_
    refine lv_goto (tgt := 159) hx hb d_cWr_writePlain_62 (by decide) ?_
    exact w_cWr_writePlain_J159 hC Heq Kr _ _ _ hP hD hS (lv_sub hl [0] rfl)
  replace Heq := (if_neg c_1).symm.trans Heq
  by_cases c_4 : S.i 3 2 x1 = 1
  · replace Heq := (if_pos c_4).symm.trans Heq
    refine w_i (y := 1) c_4 ?_
    refine lv_tableIn (tgt := 65) hx hb d_cWr_writePlain_4 (by decide) (by decide) rfl (by decide) ?_
    refine lv_aload_n hx hb d_cWr_writePlain_65 rfl (lv_at hl 0 rfl) ?_
    refine va_ldcS (own := "JoinedTrees$JsonWriter") (tx := "false") (q := sad 7) hx hb hown (hE.1 7 (by decide)).1 d_cWr_writePlain_66 ?_
    obtain ⟨hl_x0_2, Heq⟩ := gl_some Heq
    obtain ⟨o_5, h_6, Heq⟩ := ob_some Heq
    have hFc := fr_all hD hS hA
    refine va_callv (va_runV (As := [.ref (sad 7)]) (rest := []) ⟨hx, hb, hml, hown, hts⟩ (g_cWr_writeWord l D H.size (ad := ad) (cc := cc) (sad := sad) (sav := sav) h_6) (cw_v 1 hts kw_1229 kw_1226 kw_1227 kw_1228 kw_9 rfl rfl (by decide +kernel) ⟨Nat.le_of_ble_eq_true rfl, Nat.le_of_ble_eq_true rfl⟩) ⟨c_blind, va_recv hK hP (ci := 2) (q0 := cPos N 2 x0) rfl (cw_obj (k := 2) (by decide) hl_x0_2), fun U hU hW => c_pre hU hW hP hK hD hev hE hN hNS hS hFc⟩ rfl rfl hl.1 rfl (lv_room (Nat.le_of_ble_eq_true rfl)) d_cWr_writePlain_68 ⟨Nat.le_of_ble_eq_true rfl, Nat.le_of_ble_eq_true rfl⟩) hS (fun q _ h => hFc q h) hFc (fun u t H1 locs ht hvm hw hB hz1 hk1 hS => ?_)
    obtain ⟨hP, -, hD1⟩ := hB
    rw [ht] at hP
    have hD := hD1.weaken (fun _ q _ h => hFc q.1 h)
    generalize H1 = H at hP hS ⊢
    refine W.cs (cells' := 0) (slots' := 0) rfl rfl ?_
    refine lv_goto (tgt := 159) hx hb d_cWr_writePlain_71 (by decide) ?_
    exact w_cWr_writePlain_J159 hC Heq Kr _ _ _ hP hD hS (lv_sub hl [0] rfl)
  replace Heq := (if_neg c_4).symm.trans Heq
  by_cases c_7 : S.i 3 2 x1 = 2
  · replace Heq := (if_pos c_7).symm.trans Heq
    refine w_i (y := 2) c_7 ?_
    refine lv_tableIn (tgt := 74) hx hb d_cWr_writePlain_4 (by decide) (by decide) rfl (by decide) ?_
    refine lv_aload_n hx hb d_cWr_writePlain_74 rfl (lv_at hl 0 rfl) ?_
    refine va_ldcS (own := "JoinedTrees$JsonWriter") (tx := "true") (q := sad 8) hx hb hown (hE.1 8 (by decide)).1 d_cWr_writePlain_75 ?_
    obtain ⟨hl_x0_2, Heq⟩ := gl_some Heq
    obtain ⟨o_8, h_9, Heq⟩ := ob_some Heq
    have hFc := fr_all hD hS hA
    refine va_callv (va_runV (As := [.ref (sad 8)]) (rest := []) ⟨hx, hb, hml, hown, hts⟩ (g_cWr_writeWord l D H.size (ad := ad) (cc := cc) (sad := sad) (sav := sav) h_9) (cw_v 1 hts kw_1229 kw_1226 kw_1227 kw_1228 kw_9 rfl rfl (by decide +kernel) ⟨Nat.le_of_ble_eq_true rfl, Nat.le_of_ble_eq_true rfl⟩) ⟨c_blind, va_recv hK hP (ci := 2) (q0 := cPos N 2 x0) rfl (cw_obj (k := 2) (by decide) hl_x0_2), fun U hU hW => c_pre hU hW hP hK hD hev hE hN hNS hS hFc⟩ rfl rfl hl.1 rfl (lv_room (Nat.le_of_ble_eq_true rfl)) d_cWr_writePlain_77 ⟨Nat.le_of_ble_eq_true rfl, Nat.le_of_ble_eq_true rfl⟩) hS (fun q _ h => hFc q h) hFc (fun u t H1 locs ht hvm hw hB hz1 hk1 hS => ?_)
    obtain ⟨hP, -, hD1⟩ := hB
    rw [ht] at hP
    have hD := hD1.weaken (fun _ q _ h => hFc q.1 h)
    generalize H1 = H at hP hS ⊢
    refine W.cs (cells' := 0) (slots' := 0) rfl rfl ?_
    refine lv_goto (tgt := 159) hx hb d_cWr_writePlain_80 (by decide) ?_
    exact w_cWr_writePlain_J159 hC Heq Kr _ _ _ hP hD hS (lv_sub hl [0] rfl)
  replace Heq := (if_neg c_7).symm.trans Heq
  by_cases c_10 : S.i 3 2 x1 = 3
  · replace Heq := (if_pos c_10).symm.trans Heq
    refine w_i (y := 3) c_10 ?_
    refine lv_tableIn (tgt := 147) hx hb d_cWr_writePlain_4 (by decide) (by decide) rfl (by decide) ?_
    exact w_cWr_writePlain_J147 hC Heq Kr _ _ _ hP hD hS (lv_sub hl [0, 1] rfl)
  replace Heq := (if_neg c_10).symm.trans Heq
  by_cases c_11 : S.i 3 2 x1 = 4
  · replace Heq := (if_pos c_11).symm.trans Heq
    refine w_i (y := 4) c_11 ?_
    refine lv_tableIn (tgt := 83) hx hb d_cWr_writePlain_4 (by decide) (by decide) rfl (by decide) ?_
    refine lv_aload_n hx hb d_cWr_writePlain_83 rfl (lv_at hl 0 rfl) ?_
    obtain ⟨hl_x0_2, Heq⟩ := gl_some Heq
    refine va_get (D := D) (ci := 2) (v := rv ad 5 (S.r 2 1 x0)) (C := R_Wr) (T := F_Wr) (N := 2) hx hb hts i_Wr hown hK hP (cPos N 2 x0) (cw_obj (k := 2) (by decide) hl_x0_2) rfl 1 (by decide) (hts _ kw_386) (fun _ h9 => h9) rfl d_cWr_writePlain_84 ?_
    refine lv_bipush (v := 34) hx hb d_cWr_writePlain_87 (by decide) ?_
    obtain ⟨j_12, hj_13, hl_14, Heq⟩ := gn_some Heq
    refine w_s (st' := [.int 34, .ref (ad 5 j_12)]) (congrArg (fun z9 : Option Nat => [.int 34, rv ad 5 z9]) hj_13) ?_
    obtain ⟨o_15, h_16, Heq⟩ := ob_some Heq
    have hFc := fr_all hD hS hA
    refine va_callv (va_runV (As := [.int 34]) (rest := []) ⟨hx, hb, hml, hown, hts⟩ (g_cRw_write l D H.size (ad := ad) (cc := cc) (sad := sad) (sav := sav) h_16) (cw_v 1 hts kw_549 kw_1232 kw_547 kw_548 kw_4 rfl rfl (by decide +kernel) ⟨Nat.le_of_ble_eq_true rfl, Nat.le_of_ble_eq_true rfl⟩) ⟨c_blind, va_recv hK hP (ci := 5) (q0 := cPos N 5 j_12) rfl (cw_obj (k := 5) (by decide) hl_14), fun U hU hW => c_pre hU hW hP hK hD hev hE hN hNS hS hFc⟩ rfl rfl hl.1 rfl (lv_room (Nat.le_of_ble_eq_true rfl)) d_cWr_writePlain_89 ⟨Nat.le_of_ble_eq_true rfl, Nat.le_of_ble_eq_true rfl⟩) hS (fun q _ h => hFc q h) hFc (fun u t H1 locs ht hvm hw hB hz1 hk1 hS => ?_)
    obtain ⟨hP, -, hD1⟩ := hB
    rw [ht] at hP
    have hD := hD1.weaken (fun _ q _ h => hFc q.1 h)
    generalize H1 = H at hP hS ⊢
    refine W.cs (cells' := 0) (slots' := 0) rfl rfl ?_
    refine lv_aload_n hx hb d_cWr_writePlain_92 rfl (lv_at hl 0 rfl) ?_
    refine lv_aload_n hx hb d_cWr_writePlain_93 rfl (lv_at hl 1 rfl) ?_
    refine va_get (D := D) (ci := 3) (v := .int (o_15.i 3 8 x1)) (C := R_Op) (T := F_Op) (N := 15) hx hb hts i_Op hown hK hP (cPos N 3 x1) (cw_obj (k := 3) (by decide) hl_x1_3) rfl 8 (by decide) (hts _ kw_79) (fun _ h9 => h9) rfl d_cWr_writePlain_94 ?_
    refine lv_aload_n hx hb d_cWr_writePlain_97 rfl (lv_at hl 1 rfl) ?_
    refine va_get (D := D) (ci := 3) (v := .int (o_15.i 3 9 x1)) (C := R_Op) (T := F_Op) (N := 15) hx hb hts i_Op hown hK hP (cPos N 3 x1) (cw_obj (k := 3) (by decide) hl_x1_3) rfl 9 (by decide) (hts _ kw_83) (fun _ h9 => h9) rfl d_cWr_writePlain_98 ?_
    refine lv_iadd hx hb d_cWr_writePlain_101 ?_
    refine w_i (y := (o_15.i 3 8 x1) + (o_15.i 3 9 x1)) rfl ?_
    refine lv_aload_n hx hb d_cWr_writePlain_102 rfl (lv_at hl 1 rfl) ?_
    refine va_get (D := D) (ci := 3) (v := .int (o_15.i 3 10 x1)) (C := R_Op) (T := F_Op) (N := 15) hx hb hts i_Op hown hK hP (cPos N 3 x1) (cw_obj (k := 3) (by decide) hl_x1_3) rfl 10 (by decide) (hts _ kw_87) (fun _ h9 => h9) rfl d_cWr_writePlain_103 ?_
    obtain ⟨o_17, h_18, Heq⟩ := ob_some Heq
    have hFc := fr_all hD hS hA
    refine va_callv (va_runV (As := [.int ((o_15.i 3 8 x1) + (o_15.i 3 9 x1)), .int (o_15.i 3 10 x1)]) (rest := []) ⟨hx, hb, hml, hown, hts⟩ (g_cWr_writeLetters l D H.size (ad := ad) (cc := cc) (sad := sad) (sav := sav) h_18) (cw_v 2 hts kw_1238 kw_1235 kw_1236 kw_1237 kw_9 rfl rfl (by decide +kernel) ⟨Nat.le_of_ble_eq_true rfl, Nat.le_of_ble_eq_true rfl⟩) ⟨c_blind, va_recv hK hP (ci := 2) (q0 := cPos N 2 x0) rfl (cw_obj (k := 2) (by decide) hl_x0_2), fun U hU hW => c_pre hU hW hP hK hD hev hE hN hNS hS hFc⟩ rfl rfl hl.1 rfl (lv_room (Nat.le_of_ble_eq_true rfl)) d_cWr_writePlain_106 ⟨Nat.le_of_ble_eq_true rfl, Nat.le_of_ble_eq_true rfl⟩) hS (fun q _ h => hFc q h) hFc (fun u t H1 locs ht hvm hw hB hz1 hk1 hS => ?_)
    obtain ⟨hP, -, hD1⟩ := hB
    rw [ht] at hP
    have hD := hD1.weaken (fun _ q _ h => hFc q.1 h)
    generalize H1 = H at hP hS ⊢
    refine W.cs (cells' := 0) (slots' := 0) rfl rfl ?_
    refine lv_aload_n hx hb d_cWr_writePlain_109 rfl (lv_at hl 0 rfl) ?_
    refine va_get (D := D) (ci := 2) (v := rv ad 5 (o_17.r 2 1 x0)) (C := R_Wr) (T := F_Wr) (N := 2) hx hb hts i_Wr hown hK hP (cPos N 2 x0) (cw_obj (k := 2) (by decide) hl_x0_2) rfl 1 (by decide) (hts _ kw_386) (fun _ h9 => h9) rfl d_cWr_writePlain_110 ?_
    refine lv_bipush (v := 34) hx hb d_cWr_writePlain_113 (by decide) ?_
    obtain ⟨j_19, hj_20, hl_21, Heq⟩ := gn_some Heq
    refine w_s (st' := [.int 34, .ref (ad 5 j_19)]) (congrArg (fun z9 : Option Nat => [.int 34, rv ad 5 z9]) hj_20) ?_
    obtain ⟨o_22, h_23, Heq⟩ := ob_some Heq
    have hFc := fr_all hD hS hA
    refine va_callv (va_runV (As := [.int 34]) (rest := []) ⟨hx, hb, hml, hown, hts⟩ (g_cRw_write l D H.size (ad := ad) (cc := cc) (sad := sad) (sav := sav) h_23) (cw_v 1 hts kw_549 kw_1232 kw_547 kw_548 kw_4 rfl rfl (by decide +kernel) ⟨Nat.le_of_ble_eq_true rfl, Nat.le_of_ble_eq_true rfl⟩) ⟨c_blind, va_recv hK hP (ci := 5) (q0 := cPos N 5 j_19) rfl (cw_obj (k := 5) (by decide) hl_21), fun U hU hW => c_pre hU hW hP hK hD hev hE hN hNS hS hFc⟩ rfl rfl hl.1 rfl (lv_room (Nat.le_of_ble_eq_true rfl)) d_cWr_writePlain_115 ⟨Nat.le_of_ble_eq_true rfl, Nat.le_of_ble_eq_true rfl⟩) hS (fun q _ h => hFc q h) hFc (fun u t H1 locs ht hvm hw hB hz1 hk1 hS => ?_)
    obtain ⟨hP, -, hD1⟩ := hB
    rw [ht] at hP
    have hD := hD1.weaken (fun _ q _ h => hFc q.1 h)
    generalize H1 = H at hP hS ⊢
    refine W.cs (cells' := 0) (slots' := 0) rfl rfl ?_
    refine lv_goto (tgt := 159) hx hb d_cWr_writePlain_118 (by decide) ?_
    exact w_cWr_writePlain_J159 hC Heq Kr _ _ _ hP hD hS (lv_sub hl [0] rfl)
  replace Heq := (if_neg c_11).symm.trans Heq
  by_cases c_24 : S.i 3 2 x1 = 5
  · replace Heq := (if_pos c_24).symm.trans Heq
    refine w_i (y := 5) c_24 ?_
    refine lv_tableIn (tgt := 147) hx hb d_cWr_writePlain_4 (by decide) (by decide) rfl (by decide) ?_
    exact w_cWr_writePlain_J147 hC Heq Kr _ _ _ hP hD hS (lv_sub hl [0, 1] rfl)
  replace Heq := (if_neg c_24).symm.trans Heq
  by_cases c_25 : S.i 3 2 x1 = 6
  · replace Heq := (if_pos c_25).symm.trans Heq
    refine w_i (y := 6) c_25 ?_
    refine lv_tableIn (tgt := 147) hx hb d_cWr_writePlain_4 (by decide) (by decide) rfl (by decide) ?_
    exact w_cWr_writePlain_J147 hC Heq Kr _ _ _ hP hD hS (lv_sub hl [0, 1] rfl)
  replace Heq := (if_neg c_25).symm.trans Heq
  by_cases c_26 : S.i 3 2 x1 = 7
  · replace Heq := (if_pos c_26).symm.trans Heq
    refine w_i (y := 7) c_26 ?_
    refine lv_tableIn (tgt := 147) hx hb d_cWr_writePlain_4 (by decide) (by decide) rfl (by decide) ?_
    exact w_cWr_writePlain_J147 hC Heq Kr _ _ _ hP hD hS (lv_sub hl [0, 1] rfl)
  replace Heq := (if_neg c_26).symm.trans Heq
  by_cases c_27 : S.i 3 2 x1 = 8
  · replace Heq := (if_pos c_27).symm.trans Heq
    refine w_i (y := 8) c_27 ?_
    refine lv_tableIn (tgt := 121) hx hb d_cWr_writePlain_4 (by decide) (by decide) rfl (by decide) ?_
    refine lv_aload_n hx hb d_cWr_writePlain_121 rfl (lv_at hl 0 rfl) ?_
    obtain ⟨hl_x0_2, Heq⟩ := gl_some Heq
    refine va_get (D := D) (ci := 2) (v := rv ad 5 (S.r 2 1 x0)) (C := R_Wr) (T := F_Wr) (N := 2) hx hb hts i_Wr hown hK hP (cPos N 2 x0) (cw_obj (k := 2) (by decide) hl_x0_2) rfl 1 (by decide) (hts _ kw_386) (fun _ h9 => h9) rfl d_cWr_writePlain_122 ?_
    refine lv_bipush (v := 34) hx hb d_cWr_writePlain_125 (by decide) ?_
    obtain ⟨j_28, hj_29, hl_30, Heq⟩ := gn_some Heq
    refine w_s (st' := [.int 34, .ref (ad 5 j_28)]) (congrArg (fun z9 : Option Nat => [.int 34, rv ad 5 z9]) hj_29) ?_
    obtain ⟨o_31, h_32, Heq⟩ := ob_some Heq
    have hFc := fr_all hD hS hA
    refine va_callv (va_runV (As := [.int 34]) (rest := []) ⟨hx, hb, hml, hown, hts⟩ (g_cRw_write l D H.size (ad := ad) (cc := cc) (sad := sad) (sav := sav) h_32) (cw_v 1 hts kw_549 kw_1232 kw_547 kw_548 kw_4 rfl rfl (by decide +kernel) ⟨Nat.le_of_ble_eq_true rfl, Nat.le_of_ble_eq_true rfl⟩) ⟨c_blind, va_recv hK hP (ci := 5) (q0 := cPos N 5 j_28) rfl (cw_obj (k := 5) (by decide) hl_30), fun U hU hW => c_pre hU hW hP hK hD hev hE hN hNS hS hFc⟩ rfl rfl hl.1 rfl (lv_room (Nat.le_of_ble_eq_true rfl)) d_cWr_writePlain_127 ⟨Nat.le_of_ble_eq_true rfl, Nat.le_of_ble_eq_true rfl⟩) hS (fun q _ h => hFc q h) hFc (fun u t H1 locs ht hvm hw hB hz1 hk1 hS => ?_)
    obtain ⟨hP, -, hD1⟩ := hB
    rw [ht] at hP
    have hD := hD1.weaken (fun _ q _ h => hFc q.1 h)
    generalize H1 = H at hP hS ⊢
    refine W.cs (cells' := 0) (slots' := 0) rfl rfl ?_
    refine lv_aload_n hx hb d_cWr_writePlain_130 rfl (lv_at hl 0 rfl) ?_
    refine lv_aload_n hx hb d_cWr_writePlain_131 rfl (lv_at hl 1 rfl) ?_
    obtain ⟨o_33, h_34, Heq⟩ := ob_some Heq
    have hFc := fr_all hD hS hA
    refine va_callv (va_runV (As := [.ref (ad 3 x1)]) (rest := []) ⟨hx, hb, hml, hown, hts⟩ (g_cWr_writeElements l D H.size (ad := ad) (cc := cc) (sad := sad) (sav := sav) h_34) (cw_v 1 hts kw_1250 kw_1247 kw_1248 kw_1249 kw_9 rfl rfl (by decide +kernel) ⟨Nat.le_of_ble_eq_true rfl, Nat.le_of_ble_eq_true rfl⟩) ⟨c_blind, va_recv hK hP (ci := 2) (q0 := cPos N 2 x0) rfl (cw_obj (k := 2) (by decide) hl_x0_2), fun U hU hW => c_pre hU hW hP hK hD hev hE hN hNS hS hFc⟩ rfl rfl hl.1 rfl (lv_room (Nat.le_of_ble_eq_true rfl)) d_cWr_writePlain_132 ⟨Nat.le_of_ble_eq_true rfl, Nat.le_of_ble_eq_true rfl⟩) hS (fun q _ h => hFc q h) hFc (fun u t H1 locs ht hvm hw hB hz1 hk1 hS => ?_)
    obtain ⟨hP, -, hD1⟩ := hB
    rw [ht] at hP
    have hD := hD1.weaken (fun _ q _ h => hFc q.1 h)
    generalize H1 = H at hP hS ⊢
    refine W.cs (cells' := 0) (slots' := 0) rfl rfl ?_
    refine lv_aload_n hx hb d_cWr_writePlain_135 rfl (lv_at hl 0 rfl) ?_
    refine va_get (D := D) (ci := 2) (v := rv ad 5 (o_33.r 2 1 x0)) (C := R_Wr) (T := F_Wr) (N := 2) hx hb hts i_Wr hown hK hP (cPos N 2 x0) (cw_obj (k := 2) (by decide) hl_x0_2) rfl 1 (by decide) (hts _ kw_386) (fun _ h9 => h9) rfl d_cWr_writePlain_136 ?_
    refine lv_bipush (v := 34) hx hb d_cWr_writePlain_139 (by decide) ?_
    obtain ⟨j_35, hj_36, hl_37, Heq⟩ := gn_some Heq
    refine w_s (st' := [.int 34, .ref (ad 5 j_35)]) (congrArg (fun z9 : Option Nat => [.int 34, rv ad 5 z9]) hj_36) ?_
    obtain ⟨o_38, h_39, Heq⟩ := ob_some Heq
    have hFc := fr_all hD hS hA
    refine va_callv (va_runV (As := [.int 34]) (rest := []) ⟨hx, hb, hml, hown, hts⟩ (g_cRw_write l D H.size (ad := ad) (cc := cc) (sad := sad) (sav := sav) h_39) (cw_v 1 hts kw_549 kw_1232 kw_547 kw_548 kw_4 rfl rfl (by decide +kernel) ⟨Nat.le_of_ble_eq_true rfl, Nat.le_of_ble_eq_true rfl⟩) ⟨c_blind, va_recv hK hP (ci := 5) (q0 := cPos N 5 j_35) rfl (cw_obj (k := 5) (by decide) hl_37), fun U hU hW => c_pre hU hW hP hK hD hev hE hN hNS hS hFc⟩ rfl rfl hl.1 rfl (lv_room (Nat.le_of_ble_eq_true rfl)) d_cWr_writePlain_141 ⟨Nat.le_of_ble_eq_true rfl, Nat.le_of_ble_eq_true rfl⟩) hS (fun q _ h => hFc q h) hFc (fun u t H1 locs ht hvm hw hB hz1 hk1 hS => ?_)
    obtain ⟨hP, -, hD1⟩ := hB
    rw [ht] at hP
    have hD := hD1.weaken (fun _ q _ h => hFc q.1 h)
    generalize H1 = H at hP hS ⊢
    refine W.cs (cells' := 0) (slots' := 0) rfl rfl ?_
    refine lv_goto (tgt := 159) hx hb d_cWr_writePlain_144 (by decide) ?_
    exact w_cWr_writePlain_J159 hC Heq Kr _ _ _ hP hD hS (lv_sub hl [0] rfl)
  replace Heq := (if_neg c_27).symm.trans Heq
  refine lv_tableOut (tgt := 147) hx hb d_cWr_writePlain_4 (by have q0 : (S.i 3 2 x1).toInt ≠ 0 := fun h => c_1 (Int32.toInt_inj.mp (h.trans (by decide))); have q1 : (S.i 3 2 x1).toInt ≠ 1 := fun h => c_4 (Int32.toInt_inj.mp (h.trans (by decide))); have q2 : (S.i 3 2 x1).toInt ≠ 2 := fun h => c_7 (Int32.toInt_inj.mp (h.trans (by decide))); have q3 : (S.i 3 2 x1).toInt ≠ 3 := fun h => c_10 (Int32.toInt_inj.mp (h.trans (by decide))); have q4 : (S.i 3 2 x1).toInt ≠ 4 := fun h => c_11 (Int32.toInt_inj.mp (h.trans (by decide))); have q5 : (S.i 3 2 x1).toInt ≠ 5 := fun h => c_24 (Int32.toInt_inj.mp (h.trans (by decide))); have q6 : (S.i 3 2 x1).toInt ≠ 6 := fun h => c_25 (Int32.toInt_inj.mp (h.trans (by decide))); have q7 : (S.i 3 2 x1).toInt ≠ 7 := fun h => c_26 (Int32.toInt_inj.mp (h.trans (by decide))); have q8 : (S.i 3 2 x1).toInt ≠ 8 := fun h => c_27 (Int32.toInt_inj.mp (h.trans (by decide))); omega) (by decide) ?_
  exact w_cWr_writePlain_J147 hC Heq Kr _ _ _ hP hD hS (lv_sub hl [0, 1] rfl)
def m_cWr_writePlain (N : Nat → Nat) (x0 : Nat) (S : CS) (x1 : Nat) : Option CS := m_cWr_writePlain_J0 N x0 S x1
set_option maxHeartbeats 4000000 in
theorem g_cWr_writePlain (l : Launch) (D : va_G) (sz : Nat) {ad : Nat → Nat → Nat} {cc : Nat → ClassId} {sad sav : Nat → Nat} {N : Nat → Nat} {x0 : Nat} {S : CS} {x1 : Nat} {o : CS} (Heq : m_cWr_writePlain N x0 S x1 = some o) : Met l ⟨"JoinedTrees$JsonWriter", "writePlain", "(LJoinedTrees$Op;)V"⟩ (Cond.code ⟨"JoinedTrees$JsonWriter", "writePlain", "(LJoinedTrees$Op;)V"⟩ prog_4_method_5_code 2 none :: gb) ({ frames := 5, cells := 0, slots := 0, locals := 133 }) (cPc sad sav D (cw ad cc N S) (cty cc) sz [.ref (ad 2 x0), .ref (ad 3 x1)]) (va_Qv (fun _ : Unit => True) (fun _ t => gO D (cw ad cc N o) (cty cc) (va_A (cw ad cc N S) sz) t) (va_A (cw ad cc N S) sz)) 0 0 (va_A (cw ad cc N S) sz) := by
  refine Met.ofW (cc := prog_4_method_5_code) (maxL := 2) (ret := none) (by decide) rfl ?_
  intro p e s m args below meth c s₁ B hml hv
  obtain ⟨rfl, hsz, hP, hK, hD0, hev, hE, hN⟩ := hv
  have hx := B.exec
  have hb := B.bytes
  have hr := B.returns
  have hts : ∀ w9 ∈ gb, w9.before [.ref (ad 2 x0), .ref (ad 3 x1)].toArray s = true := fun w9 h => atoms_spec (ws := Cond.code ⟨"JoinedTrees$JsonWriter", "writePlain", "(LJoinedTrees$Op;)V"⟩ prog_4_method_5_code 2 none :: gb) B.pre w9 (List.mem_cons_of_mem _ h)
  have hown : s.vm.findClass "JoinedTrees$JsonWriter" = some m.cls := findClass_of_methodNamed B.named
  have hlocks := B.notSynchronized
  have hNS := ns_of hP
  subst hsz
  have hD := hD0.self (sz := s.heap.size)
  generalize hAe : va_A (cw ad cc N S) s.heap.size = A at hD hev hE hNS ⊢
  have hA : ∀ q : Nat, s.heap.size ≤ q → A q := fun q h => by rw [← hAe]; exact Or.inr h
  have hS : va_S A s.heap s.heap [] := va_S.rf
  obtain ⟨ls, hl, hle⟩ : ∃ ls : Array Slot, lv_has ls 2 [(0, .ref (ad 2 x0)), (1, .ref (ad 3 x1))] ∧ entryFrame m ([.ref (ad 2 x0), .ref (ad 3 x1)] : List Value).toArray 2 = F0 m 0 ls [] := by
    exact ⟨_, lv_entry (n := 2) _ (Nat.le_of_ble_eq_true rfl), lg_entry_eq ..⟩
  rw [hle]
  refine w_cWr_writePlain_J0 ⟨hx, hb, hr, hml, hown, hts, hK, hA, hev, hE, hN, hNS⟩ Heq (fun r h pc H locs ls hd hP hD hS => ?_) _ _ _ hP hD hS (lv_sub hl [0, 1] rfl)
  subst h
  exact W.vret hx hb hr (fun t ht hW => ⟨⟨(), rfl, trivial, by rw [ht]; exact hP, va_K.moved hW.alike hK, hD⟩, hS.F ht⟩) hS.2.2 hd
