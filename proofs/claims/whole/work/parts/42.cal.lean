def m_cWr_enter_J20 (N : Nat → Nat) (x0 : Nat) (S : CS) (x1 : Option Nat) (t0 : Int32) (t1 : Option Nat) : Option (CS × Option Nat) := gn t1 (N 5) (fun j_1 => ob (m_cRw_write N j_1 S t0) (fun o_4 => gn x1 (N 3) (fun j_6 => some (o_4, (o_4.r 3 13 j_6)))))
theorem d_cWr_enter_0 : decode prog_4_method_3_code 0 = .ok (.aload_n 0, 1) := by decide +kernel
theorem d_cWr_enter_1 : decode prog_4_method_3_code 1 = .ok (.getfield 14, 3) := by decide +kernel
theorem d_cWr_enter_4 : decode prog_4_method_3_code 4 = .ok (.aload_n 1, 1) := by decide +kernel
theorem d_cWr_enter_5 : decode prog_4_method_3_code 5 = .ok (.getfield 27, 3) := by decide +kernel
theorem d_cWr_enter_8 : decode prog_4_method_3_code 8 = .ok (.bipush 6, 2) := by decide +kernel
theorem d_cWr_enter_10 : decode prog_4_method_3_code 10 = .ok (.if_icmp .ne 8, 3) := by decide +kernel
theorem d_cWr_enter_18 : decode prog_4_method_3_code 18 = .ok (.bipush 91, 2) := by decide +kernel
theorem d_cWr_enter_20 : decode prog_4_method_3_code 20 = .ok (.invokevirtual 51, 3) := by decide +kernel
theorem d_cWr_enter_23 : decode prog_4_method_3_code 23 = .ok (.aload_n 1, 1) := by decide +kernel
theorem d_cWr_enter_24 : decode prog_4_method_3_code 24 = .ok (.getfield 70, 3) := by decide +kernel
theorem d_cWr_enter_27 : decode prog_4_method_3_code 27 = .ok (.areturn, 1) := by decide +kernel
set_option maxHeartbeats 4000000 in
set_option maxRecDepth 100000 in
theorem w_cWr_enter_J20 {p : Program} {l : Launch} {e : Env} {s : State} {m : MethodId} {args : Array Value} {below : List Frame} {meth : Method} {c : Code} {A : Nat → Prop} {D : va_G} {ad : Nat → Nat → Nat} {cc : Nat → ClassId} {sad sav : Nat → Nat} {Q : State → Prop} (hC : MCc sad sav "JoinedTrees$JsonWriter" prog_4_method_3_code 2 (some (.object "JoinedTrees$Spot")) p s m args meth c A D cc) {N : Nat → Nat} {x0 : Nat} {S : CS} {x1 : Option Nat} {t0 : Int32} {t1 : Option Nat} {o : CS × Option Nat} (Heq : m_cWr_enter_J20 N x0 S x1 t0 t1 = some o) (Kr : ∀ r : CS × Option Nat, o = r → ∀ (pc : Nat) (H : Heap) (locs : List Loc) (ls : Array Slot), decode prog_4_method_3_code pc = .ok (.areturn, 1) → va_P D cls (cw ad cc N r.1) H → va_D A (cw ad cc N r.1) → va_S A s.heap H locs → W p l e ({ frames := 1, cells := 0, slots := 0, locals := 21 }) s m args below meth c H locs 0 0 Q (F0 m pc ls [rv ad 7 r.2])) : ∀ (H : Heap) (locs : List Loc) (ls : Array Slot), va_P D cls (cw ad cc N S) H → va_D A (cw ad cc N S) → va_S A s.heap H locs → lv_has ls 2 [(0, .ref (ad 2 x0)), (1, rv ad 3 x1)] → W p l e ({ frames := 1, cells := 0, slots := 0, locals := 21 }) s m args below meth c H locs 0 0 Q (F0 m 20 ls [.int t0, rv ad 5 t1]) := by
  intro H locs ls hP hD hS hl
  obtain ⟨hx, hb, hr, hml, hown, hts, hK, hA, hev, hE, hN, hNS⟩ := id hC
  unfold m_cWr_enter_J20 at Heq
  obtain ⟨j_1, hj_2, hl_3, Heq⟩ := gn_some Heq
  refine w_s (st' := [.int t0, .ref (ad 5 j_1)]) (congrArg (fun z9 : Option Nat => [.int t0, rv ad 5 z9]) hj_2) ?_
  obtain ⟨o_4, h_5, Heq⟩ := ob_some Heq
  have hFc := fr_all hD hS hA
  refine va_callv (va_runV (As := [.int t0]) (rest := []) ⟨hx, hb, hml, hown, hts⟩ (g_cRw_write l D H.size (ad := ad) (cc := cc) (sad := sad) (sav := sav) h_5) (cw_v 1 hts kw_549 kw_1232 kw_547 kw_548 kw_4 rfl rfl (by decide +kernel) ⟨Nat.le_of_ble_eq_true rfl, Nat.le_of_ble_eq_true rfl⟩) ⟨c_blind, va_recv hK hP (ci := 5) (q0 := cPos N 5 j_1) rfl (cw_obj (k := 5) (by decide) hl_3), fun U hU hW => c_pre hU hW hP hK hD hev hE hN hNS hS hFc⟩ rfl rfl hl.1 rfl (lv_room (Nat.le_of_ble_eq_true rfl)) d_cWr_enter_20 ⟨Nat.le_of_ble_eq_true rfl, Nat.le_of_ble_eq_true rfl⟩) hS (fun q _ h => hFc q h) hFc (fun u t H1 locs ht hvm hw hB hz1 hk1 hS => ?_)
  obtain ⟨hP, -, hD1⟩ := hB
  rw [ht] at hP
  have hD := hD1.weaken (fun _ q _ h => hFc q.1 h)
  generalize H1 = H at hP hS ⊢
  refine W.cs (cells' := 0) (slots' := 0) rfl rfl ?_
  refine tx_aload_n (x := x1.map (ad 3)) hx hb d_cWr_enter_23 rfl (lv_at hl 1 rfl) ?_
  refine w_v (y := rv ad 3 x1) rfl ?_
  obtain ⟨j_6, hj_7, hl_8, Heq⟩ := gn_some Heq
  refine w_s (st' := [.ref (ad 3 j_6)]) (congrArg (fun z9 : Option Nat => [rv ad 3 z9]) hj_7) ?_
  refine va_get (D := D) (ci := 3) (v := rv ad 7 (o_4.r 3 13 j_6)) (C := R_Op) (T := F_Op) (N := 15) hx hb hts i_Op hown hK hP (cPos N 3 j_6) (cw_obj (k := 3) (by decide) hl_8) rfl 13 (by decide) (hts _ kw_98) (fun _ h9 => h9) rfl d_cWr_enter_24 ?_
  exact Kr _ (Option.some.inj Heq).symm 27 _ _ _ d_cWr_enter_27 hP hD hS
def m_cWr_enter_J0 (N : Nat → Nat) (x0 : Nat) (S : CS) (x1 : Nat) : Option (CS × Option Nat) := gl x0 (N 2) (gl x1 (N 3) ((if S.i 3 2 x1 = 6 then m_cWr_enter_J20 N x0 S (some x1) 123 (S.r 2 1 x0) else m_cWr_enter_J20 N x0 S (some x1) 91 (S.r 2 1 x0))))
theorem d_cWr_enter_13 : decode prog_4_method_3_code 13 = .ok (.bipush 123, 2) := by decide +kernel
theorem d_cWr_enter_15 : decode prog_4_method_3_code 15 = .ok (.goto 5, 3) := by decide +kernel
set_option maxHeartbeats 4000000 in
set_option maxRecDepth 100000 in
theorem w_cWr_enter_J0 {p : Program} {l : Launch} {e : Env} {s : State} {m : MethodId} {args : Array Value} {below : List Frame} {meth : Method} {c : Code} {A : Nat → Prop} {D : va_G} {ad : Nat → Nat → Nat} {cc : Nat → ClassId} {sad sav : Nat → Nat} {Q : State → Prop} (hC : MCc sad sav "JoinedTrees$JsonWriter" prog_4_method_3_code 2 (some (.object "JoinedTrees$Spot")) p s m args meth c A D cc) {N : Nat → Nat} {x0 : Nat} {S : CS} {x1 : Nat} {o : CS × Option Nat} (Heq : m_cWr_enter_J0 N x0 S x1 = some o) (Kr : ∀ r : CS × Option Nat, o = r → ∀ (pc : Nat) (H : Heap) (locs : List Loc) (ls : Array Slot), decode prog_4_method_3_code pc = .ok (.areturn, 1) → va_P D cls (cw ad cc N r.1) H → va_D A (cw ad cc N r.1) → va_S A s.heap H locs → W p l e ({ frames := 1, cells := 0, slots := 0, locals := 21 }) s m args below meth c H locs 0 0 Q (F0 m pc ls [rv ad 7 r.2])) : ∀ (H : Heap) (locs : List Loc) (ls : Array Slot), va_P D cls (cw ad cc N S) H → va_D A (cw ad cc N S) → va_S A s.heap H locs → lv_has ls 2 [(0, .ref (ad 2 x0)), (1, .ref (ad 3 x1))] → W p l e ({ frames := 1, cells := 0, slots := 0, locals := 21 }) s m args below meth c H locs 0 0 Q (F0 m 0 ls []) := by
  intro H locs ls hP hD hS hl
  obtain ⟨hx, hb, hr, hml, hown, hts, hK, hA, hev, hE, hN, hNS⟩ := id hC
  unfold m_cWr_enter_J0 at Heq
  refine lv_aload_n hx hb d_cWr_enter_0 rfl (lv_at hl 0 rfl) ?_
  obtain ⟨hl_x0_2, Heq⟩ := gl_some Heq
  refine va_get (D := D) (ci := 2) (v := rv ad 5 (S.r 2 1 x0)) (C := R_Wr) (T := F_Wr) (N := 2) hx hb hts i_Wr hown hK hP (cPos N 2 x0) (cw_obj (k := 2) (by decide) hl_x0_2) rfl 1 (by decide) (hts _ kw_386) (fun _ h9 => h9) rfl d_cWr_enter_1 ?_
  refine lv_aload_n hx hb d_cWr_enter_4 rfl (lv_at hl 1 rfl) ?_
  obtain ⟨hl_x1_3, Heq⟩ := gl_some Heq
  refine va_get (D := D) (ci := 3) (v := .int (S.i 3 2 x1)) (C := R_Op) (T := F_Op) (N := 15) hx hb hts i_Op hown hK hP (cPos N 3 x1) (cw_obj (k := 3) (by decide) hl_x1_3) rfl 2 (by decide) (hts _ kw_60) (fun _ h9 => h9) rfl d_cWr_enter_5 ?_
  refine lv_bipush (v := 6) hx hb d_cWr_enter_8 (by decide) ?_
  refine lv_icmp_ne (tgt := 18) hx hb d_cWr_enter_10 (by decide) (fun c_1 => ?_) (fun c_1 => ?_)
  · replace Heq := (if_neg c_1).symm.trans Heq
    refine lv_bipush (v := 91) hx hb d_cWr_enter_18 (by decide) ?_
    exact w_cWr_enter_J20 hC Heq Kr _ _ _ hP hD hS (lv_sub hl [0, 1] rfl)
  · replace Heq := (if_pos c_1).symm.trans Heq
    refine lv_bipush (v := 123) hx hb d_cWr_enter_13 (by decide) ?_
    refine lv_goto (tgt := 20) hx hb d_cWr_enter_15 (by decide) ?_
    exact w_cWr_enter_J20 hC Heq Kr _ _ _ hP hD hS (lv_sub hl [0, 1] rfl)
def m_cWr_enter (N : Nat → Nat) (x0 : Nat) (S : CS) (x1 : Nat) : Option (CS × Option Nat) := m_cWr_enter_J0 N x0 S x1
set_option maxHeartbeats 4000000 in
theorem g_cWr_enter (l : Launch) (D : va_G) (sz : Nat) {ad : Nat → Nat → Nat} {cc : Nat → ClassId} {sad sav : Nat → Nat} {N : Nat → Nat} {x0 : Nat} {S : CS} {x1 : Nat} {o : CS × Option Nat} (Heq : m_cWr_enter N x0 S x1 = some o) : Met l ⟨"JoinedTrees$JsonWriter", "enter", "(LJoinedTrees$Op;)LJoinedTrees$Spot;"⟩ (Cond.code ⟨"JoinedTrees$JsonWriter", "enter", "(LJoinedTrees$Op;)LJoinedTrees$Spot;"⟩ prog_4_method_3_code 2 (some (.object "JoinedTrees$Spot")) :: gb) ({ frames := 1, cells := 0, slots := 0, locals := 21 }) (cPc sad sav D (cw ad cc N S) (cty cc) sz [.ref (ad 2 x0), .ref (ad 3 x1)]) (va_Qq (fun (r : Option Nat) (_ : Unit) => r = o.2.map (ad 7)) (fun _ t => gO D (cw ad cc N o.1) (cty cc) (va_A (cw ad cc N S) sz) t) (va_A (cw ad cc N S) sz)) 0 0 (va_A (cw ad cc N S) sz) := by
  refine Met.ofW (cc := prog_4_method_3_code) (maxL := 2) (ret := (some (.object "JoinedTrees$Spot"))) (by decide) rfl ?_
  intro p e s m args below meth c s₁ B hml hv
  obtain ⟨rfl, hsz, hP, hK, hD0, hev, hE, hN⟩ := hv
  have hx := B.exec
  have hb := B.bytes
  have hr := B.returns
  have hts : ∀ w9 ∈ gb, w9.before [.ref (ad 2 x0), .ref (ad 3 x1)].toArray s = true := fun w9 h => atoms_spec (ws := Cond.code ⟨"JoinedTrees$JsonWriter", "enter", "(LJoinedTrees$Op;)LJoinedTrees$Spot;"⟩ prog_4_method_3_code 2 (some (.object "JoinedTrees$Spot")) :: gb) B.pre w9 (List.mem_cons_of_mem _ h)
  have hown : s.vm.findClass "JoinedTrees$JsonWriter" = some m.cls := findClass_of_methodNamed B.named
  have hlocks := B.notSynchronized
  have hNS := ns_of hP
  subst hsz
  have hD := hD0.self (sz := s.heap.size)
  generalize hAe : va_A (cw ad cc N S) s.heap.size = A at hD hev hE hNS ⊢
  have hA : ∀ q : Nat, s.heap.size ≤ q → A q := fun q h => by rw [← hAe]; exact Or.inr h
  have hS : va_S A s.heap s.heap [] := va_S.rf
  obtain ⟨ls, hl, hle⟩ : ∃ ls : Array Slot, lv_has ls 2 [(0, .ref (ad 2 x0)), (1, .ref (ad 3 x1))] ∧ entryFrame m ([.ref (ad 2 x0), .ref (ad 3 x1)] : List Value).toArray 2 = F0 m 0 ls [] := by
    exact ⟨_, lv_entry (n := 2) _ (Nat.le_of_ble_eq_true rfl), lg_entry_eq ..⟩
  rw [hle]
  refine w_cWr_enter_J0 ⟨hx, hb, hr, hml, hown, hts, hK, hA, hev, hE, hN, hNS⟩ Heq (fun r h pc H locs ls hd hP hD hS => ?_) _ _ _ hP hD hS (lv_sub hl [0, 1] rfl)
  subst h
  exact W.aret hx hb hr (Or.inl ⟨_, rfl⟩) (va_rf_or _) (fun t ht hW => ⟨⟨_, (), rfl, rfl, by rw [ht]; exact hP, va_K.moved hW.alike hK, hD⟩, hS.F ht⟩) hS.2.2 hd
def m_cWr_writeBefore_J89 (N : Nat → Nat) (x0 : Nat) (S : CS) : Option CS := some S
theorem d_cWr_writeBefore_0 : decode prog_4_method_4_code 0 = .ok (.aload_n 0, 1) := by decide +kernel
theorem d_cWr_writeBefore_1 : decode prog_4_method_4_code 1 = .ok (.getfield 14, 3) := by decide +kernel
theorem d_cWr_writeBefore_4 : decode prog_4_method_4_code 4 = .ok (.aload_n 0, 1) := by decide +kernel
theorem d_cWr_writeBefore_5 : decode prog_4_method_4_code 5 = .ok (.getfield 14, 3) := by decide +kernel
theorem d_cWr_writeBefore_8 : decode prog_4_method_4_code 8 = .ok (.getfield 73, 3) := by decide +kernel
theorem d_cWr_writeBefore_11 : decode prog_4_method_4_code 11 = .ok (.iconst 1, 1) := by decide +kernel
theorem d_cWr_writeBefore_12 : decode prog_4_method_4_code 12 = .ok (.isub, 1) := by decide +kernel
theorem d_cWr_writeBefore_13 : decode prog_4_method_4_code 13 = .ok (.invokevirtual 76, 3) := by decide +kernel
theorem d_cWr_writeBefore_16 : decode prog_4_method_4_code 16 = .ok (.istore_n 2, 1) := by decide +kernel
theorem d_cWr_writeBefore_17 : decode prog_4_method_4_code 17 = .ok (.iload_n 2, 1) := by decide +kernel
theorem d_cWr_writeBefore_18 : decode prog_4_method_4_code 18 = .ok (.bipush 123, 2) := by decide +kernel
theorem d_cWr_writeBefore_20 : decode prog_4_method_4_code 20 = .ok (.if_icmp .eq 18, 3) := by decide +kernel
theorem d_cWr_writeBefore_38 : decode prog_4_method_4_code 38 = .ok (.aload_n 1, 1) := by decide +kernel
theorem d_cWr_writeBefore_39 : decode prog_4_method_4_code 39 = .ok (.getfield 63, 3) := by decide +kernel
theorem d_cWr_writeBefore_42 : decode prog_4_method_4_code 42 = .ok (.getfield 27, 3) := by decide +kernel
theorem d_cWr_writeBefore_45 : decode prog_4_method_4_code 45 = .ok (.bipush 6, 2) := by decide +kernel
theorem d_cWr_writeBefore_47 : decode prog_4_method_4_code 47 = .ok (.if_icmp .ne 42, 3) := by decide +kernel
theorem d_cWr_writeBefore_89 : decode prog_4_method_4_code 89 = .ok (.return_, 1) := by decide +kernel
set_option maxHeartbeats 4000000 in
set_option maxRecDepth 100000 in
theorem w_cWr_writeBefore_J89 {p : Program} {l : Launch} {e : Env} {s : State} {m : MethodId} {args : Array Value} {below : List Frame} {meth : Method} {c : Code} {A : Nat → Prop} {D : va_G} {ad : Nat → Nat → Nat} {cc : Nat → ClassId} {sad sav : Nat → Nat} {Q : State → Prop} (hC : MCc sad sav "JoinedTrees$JsonWriter" prog_4_method_4_code 3 none p s m args meth c A D cc) {N : Nat → Nat} {x0 : Nat} {S : CS} {o : CS} (Heq : m_cWr_writeBefore_J89 N x0 S = some o) (Kr : ∀ r : CS, o = r → ∀ (pc : Nat) (H : Heap) (locs : List Loc) (ls : Array Slot), decode prog_4_method_4_code pc = .ok (.return_, 1) → va_P D cls (cw ad cc N r) H → va_D A (cw ad cc N r) → va_S A s.heap H locs → W p l e ({ frames := 3, cells := 0, slots := 0, locals := 67 }) s m args below meth c H locs 0 0 Q (F0 m pc ls [])) : ∀ (H : Heap) (locs : List Loc) (ls : Array Slot), va_P D cls (cw ad cc N S) H → va_D A (cw ad cc N S) → va_S A s.heap H locs → lv_has ls 3 [(0, .ref (ad 2 x0))] → W p l e ({ frames := 3, cells := 0, slots := 0, locals := 67 }) s m args below meth c H locs 0 0 Q (F0 m 89 ls []) := by
  intro H locs ls hP hD hS hl
  obtain ⟨hx, hb, hr, hml, hown, hts, hK, hA, hev, hE, hN, hNS⟩ := id hC
  unfold m_cWr_writeBefore_J89 at Heq
  exact Kr _ (Option.some.inj Heq).symm 89 _ _ _ d_cWr_writeBefore_89 hP hD hS
def m_cWr_writeBefore_J38 (N : Nat → Nat) (x0 : Nat) (S : CS) (x1 : Option Nat) : Option CS := gn x1 (N 3) (fun j_1 => gn (S.r 3 1 j_1) (N 3) (fun j_4 => (if S.i 3 2 j_4 = 6 then gl x0 (N 2) (gn (S.r 2 1 x0) (N 5) (fun j_8 => ob (m_cRw_write N j_8 S 34) (fun o_11 => ob (m_cWr_writeLetters N x0 o_11 (o_11.i 3 8 j_1) (o_11.i 3 9 j_1)) (fun o_13 => gn (o_13.r 2 1 x0) (N 5) (fun j_15 => ob (m_cRw_write N j_15 o_13 34) (fun o_18 => gn (o_18.r 2 1 x0) (N 5) (fun j_20 => ob (m_cRw_write N j_20 o_18 58) (fun o_23 => m_cWr_writeBefore_J89 N x0 o_23)))))))) else m_cWr_writeBefore_J89 N x0 S)))
theorem d_cWr_writeBefore_50 : decode prog_4_method_4_code 50 = .ok (.aload_n 0, 1) := by decide +kernel
theorem d_cWr_writeBefore_51 : decode prog_4_method_4_code 51 = .ok (.getfield 14, 3) := by decide +kernel
theorem d_cWr_writeBefore_54 : decode prog_4_method_4_code 54 = .ok (.bipush 34, 2) := by decide +kernel
theorem d_cWr_writeBefore_56 : decode prog_4_method_4_code 56 = .ok (.invokevirtual 51, 3) := by decide +kernel
theorem d_cWr_writeBefore_59 : decode prog_4_method_4_code 59 = .ok (.aload_n 0, 1) := by decide +kernel
theorem d_cWr_writeBefore_60 : decode prog_4_method_4_code 60 = .ok (.aload_n 1, 1) := by decide +kernel
theorem d_cWr_writeBefore_61 : decode prog_4_method_4_code 61 = .ok (.getfield 80, 3) := by decide +kernel
theorem d_cWr_writeBefore_64 : decode prog_4_method_4_code 64 = .ok (.aload_n 1, 1) := by decide +kernel
theorem d_cWr_writeBefore_65 : decode prog_4_method_4_code 65 = .ok (.getfield 83, 3) := by decide +kernel
theorem d_cWr_writeBefore_68 : decode prog_4_method_4_code 68 = .ok (.invokevirtual 86, 3) := by decide +kernel
theorem d_cWr_writeBefore_71 : decode prog_4_method_4_code 71 = .ok (.aload_n 0, 1) := by decide +kernel
theorem d_cWr_writeBefore_72 : decode prog_4_method_4_code 72 = .ok (.getfield 14, 3) := by decide +kernel
theorem d_cWr_writeBefore_75 : decode prog_4_method_4_code 75 = .ok (.bipush 34, 2) := by decide +kernel
theorem d_cWr_writeBefore_77 : decode prog_4_method_4_code 77 = .ok (.invokevirtual 51, 3) := by decide +kernel
theorem d_cWr_writeBefore_80 : decode prog_4_method_4_code 80 = .ok (.aload_n 0, 1) := by decide +kernel
theorem d_cWr_writeBefore_81 : decode prog_4_method_4_code 81 = .ok (.getfield 14, 3) := by decide +kernel
theorem d_cWr_writeBefore_84 : decode prog_4_method_4_code 84 = .ok (.bipush 58, 2) := by decide +kernel
theorem d_cWr_writeBefore_86 : decode prog_4_method_4_code 86 = .ok (.invokevirtual 51, 3) := by decide +kernel
set_option maxHeartbeats 4000000 in
set_option maxRecDepth 100000 in
theorem w_cWr_writeBefore_J38 {p : Program} {l : Launch} {e : Env} {s : State} {m : MethodId} {args : Array Value} {below : List Frame} {meth : Method} {c : Code} {A : Nat → Prop} {D : va_G} {ad : Nat → Nat → Nat} {cc : Nat → ClassId} {sad sav : Nat → Nat} {Q : State → Prop} (hC : MCc sad sav "JoinedTrees$JsonWriter" prog_4_method_4_code 3 none p s m args meth c A D cc) {N : Nat → Nat} {x0 : Nat} {S : CS} {x1 : Option Nat} {o : CS} (Heq : m_cWr_writeBefore_J38 N x0 S x1 = some o) (Kr : ∀ r : CS, o = r → ∀ (pc : Nat) (H : Heap) (locs : List Loc) (ls : Array Slot), decode prog_4_method_4_code pc = .ok (.return_, 1) → va_P D cls (cw ad cc N r) H → va_D A (cw ad cc N r) → va_S A s.heap H locs → W p l e ({ frames := 3, cells := 0, slots := 0, locals := 67 }) s m args below meth c H locs 0 0 Q (F0 m pc ls [])) : ∀ (H : Heap) (locs : List Loc) (ls : Array Slot), va_P D cls (cw ad cc N S) H → va_D A (cw ad cc N S) → va_S A s.heap H locs → lv_has ls 3 [(0, .ref (ad 2 x0)), (1, rv ad 3 x1)] → W p l e ({ frames := 3, cells := 0, slots := 0, locals := 67 }) s m args below meth c H locs 0 0 Q (F0 m 38 ls []) := by
  intro H locs ls hP hD hS hl
  obtain ⟨hx, hb, hr, hml, hown, hts, hK, hA, hev, hE, hN, hNS⟩ := id hC
  unfold m_cWr_writeBefore_J38 at Heq
  refine tx_aload_n (x := x1.map (ad 3)) hx hb d_cWr_writeBefore_38 rfl (lv_at hl 1 rfl) ?_
  refine w_v (y := rv ad 3 x1) rfl ?_
  obtain ⟨j_1, hj_2, hl_3, Heq⟩ := gn_some Heq
  refine w_s (st' := [.ref (ad 3 j_1)]) (congrArg (fun z9 : Option Nat => [rv ad 3 z9]) hj_2) ?_
  refine va_get (D := D) (ci := 3) (v := rv ad 3 (S.r 3 1 j_1)) (C := R_Op) (T := F_Op) (N := 15) hx hb hts i_Op hown hK hP (cPos N 3 j_1) (cw_obj (k := 3) (by decide) hl_3) rfl 1 (by decide) (hts _ kw_55) (fun _ h9 => h9) rfl d_cWr_writeBefore_39 ?_
  obtain ⟨j_4, hj_5, hl_6, Heq⟩ := gn_some Heq
  refine w_s (st' := [.ref (ad 3 j_4)]) (congrArg (fun z9 : Option Nat => [rv ad 3 z9]) hj_5) ?_
  refine va_get (D := D) (ci := 3) (v := .int (S.i 3 2 j_4)) (C := R_Op) (T := F_Op) (N := 15) hx hb hts i_Op hown hK hP (cPos N 3 j_4) (cw_obj (k := 3) (by decide) hl_6) rfl 2 (by decide) (hts _ kw_60) (fun _ h9 => h9) rfl d_cWr_writeBefore_42 ?_
  refine lv_bipush (v := 6) hx hb d_cWr_writeBefore_45 (by decide) ?_
  refine lv_icmp_ne (tgt := 89) hx hb d_cWr_writeBefore_47 (by decide) (fun c_7 => ?_) (fun c_7 => ?_)
  · replace Heq := (if_neg c_7).symm.trans Heq
    exact w_cWr_writeBefore_J89 hC Heq Kr _ _ _ hP hD hS (lv_sub hl [0] rfl)
  · replace Heq := (if_pos c_7).symm.trans Heq
    refine lv_aload_n hx hb d_cWr_writeBefore_50 rfl (lv_at hl 0 rfl) ?_
    obtain ⟨hl_x0_2, Heq⟩ := gl_some Heq
    refine va_get (D := D) (ci := 2) (v := rv ad 5 (S.r 2 1 x0)) (C := R_Wr) (T := F_Wr) (N := 2) hx hb hts i_Wr hown hK hP (cPos N 2 x0) (cw_obj (k := 2) (by decide) hl_x0_2) rfl 1 (by decide) (hts _ kw_386) (fun _ h9 => h9) rfl d_cWr_writeBefore_51 ?_
    refine lv_bipush (v := 34) hx hb d_cWr_writeBefore_54 (by decide) ?_
    obtain ⟨j_8, hj_9, hl_10, Heq⟩ := gn_some Heq
    refine w_s (st' := [.int 34, .ref (ad 5 j_8)]) (congrArg (fun z9 : Option Nat => [.int 34, rv ad 5 z9]) hj_9) ?_
    obtain ⟨o_11, h_12, Heq⟩ := ob_some Heq
    have hFc := fr_all hD hS hA
    refine va_callv (va_runV (As := [.int 34]) (rest := []) ⟨hx, hb, hml, hown, hts⟩ (g_cRw_write l D H.size (ad := ad) (cc := cc) (sad := sad) (sav := sav) h_12) (cw_v 1 hts kw_549 kw_1232 kw_547 kw_548 kw_4 rfl rfl (by decide +kernel) ⟨Nat.le_of_ble_eq_true rfl, Nat.le_of_ble_eq_true rfl⟩) ⟨c_blind, va_recv hK hP (ci := 5) (q0 := cPos N 5 j_8) rfl (cw_obj (k := 5) (by decide) hl_10), fun U hU hW => c_pre hU hW hP hK hD hev hE hN hNS hS hFc⟩ rfl rfl hl.1 rfl (lv_room (Nat.le_of_ble_eq_true rfl)) d_cWr_writeBefore_56 ⟨Nat.le_of_ble_eq_true rfl, Nat.le_of_ble_eq_true rfl⟩) hS (fun q _ h => hFc q h) hFc (fun u t H1 locs ht hvm hw hB hz1 hk1 hS => ?_)
    obtain ⟨hP, -, hD1⟩ := hB
    rw [ht] at hP
    have hD := hD1.weaken (fun _ q _ h => hFc q.1 h)
    generalize H1 = H at hP hS ⊢
    refine W.cs (cells' := 0) (slots' := 0) rfl rfl ?_
    refine lv_aload_n hx hb d_cWr_writeBefore_59 rfl (lv_at hl 0 rfl) ?_
    refine tx_aload_n (x := x1.map (ad 3)) hx hb d_cWr_writeBefore_60 rfl (lv_at hl 1 rfl) ?_
    refine w_v (y := rv ad 3 x1) rfl ?_
    refine w_s (st' := [.ref (ad 3 j_1), .ref (ad 2 x0)]) (congrArg (fun z9 : Option Nat => [rv ad 3 z9, .ref (ad 2 x0)]) hj_2) ?_
    refine va_get (D := D) (ci := 3) (v := .int (o_11.i 3 8 j_1)) (C := R_Op) (T := F_Op) (N := 15) hx hb hts i_Op hown hK hP (cPos N 3 j_1) (cw_obj (k := 3) (by decide) hl_3) rfl 8 (by decide) (hts _ kw_79) (fun _ h9 => h9) rfl d_cWr_writeBefore_61 ?_
    refine tx_aload_n (x := x1.map (ad 3)) hx hb d_cWr_writeBefore_64 rfl (lv_at hl 1 rfl) ?_
    refine w_v (y := rv ad 3 x1) rfl ?_
    refine w_s (st' := [.ref (ad 3 j_1), .int (o_11.i 3 8 j_1), .ref (ad 2 x0)]) (congrArg (fun z9 : Option Nat => [rv ad 3 z9, .int (o_11.i 3 8 j_1), .ref (ad 2 x0)]) hj_2) ?_
    refine va_get (D := D) (ci := 3) (v := .int (o_11.i 3 9 j_1)) (C := R_Op) (T := F_Op) (N := 15) hx hb hts i_Op hown hK hP (cPos N 3 j_1) (cw_obj (k := 3) (by decide) hl_3) rfl 9 (by decide) (hts _ kw_83) (fun _ h9 => h9) rfl d_cWr_writeBefore_65 ?_
    obtain ⟨o_13, h_14, Heq⟩ := ob_some Heq
    have hFc := fr_all hD hS hA
    refine va_callv (va_runV (As := [.int (o_11.i 3 8 j_1), .int (o_11.i 3 9 j_1)]) (rest := []) ⟨hx, hb, hml, hown, hts⟩ (g_cWr_writeLetters l D H.size (ad := ad) (cc := cc) (sad := sad) (sav := sav) h_14) (cw_v 2 hts kw_1238 kw_1235 kw_1236 kw_1237 kw_9 rfl rfl (by decide +kernel) ⟨Nat.le_of_ble_eq_true rfl, Nat.le_of_ble_eq_true rfl⟩) ⟨c_blind, va_recv hK hP (ci := 2) (q0 := cPos N 2 x0) rfl (cw_obj (k := 2) (by decide) hl_x0_2), fun U hU hW => c_pre hU hW hP hK hD hev hE hN hNS hS hFc⟩ rfl rfl hl.1 rfl (lv_room (Nat.le_of_ble_eq_true rfl)) d_cWr_writeBefore_68 ⟨Nat.le_of_ble_eq_true rfl, Nat.le_of_ble_eq_true rfl⟩) hS (fun q _ h => hFc q h) hFc (fun u t H1 locs ht hvm hw hB hz1 hk1 hS => ?_)
    obtain ⟨hP, -, hD1⟩ := hB
    rw [ht] at hP
    have hD := hD1.weaken (fun _ q _ h => hFc q.1 h)
    generalize H1 = H at hP hS ⊢
    refine W.cs (cells' := 0) (slots' := 0) rfl rfl ?_
    refine lv_aload_n hx hb d_cWr_writeBefore_71 rfl (lv_at hl 0 rfl) ?_
    refine va_get (D := D) (ci := 2) (v := rv ad 5 (o_13.r 2 1 x0)) (C := R_Wr) (T := F_Wr) (N := 2) hx hb hts i_Wr hown hK hP (cPos N 2 x0) (cw_obj (k := 2) (by decide) hl_x0_2) rfl 1 (by decide) (hts _ kw_386) (fun _ h9 => h9) rfl d_cWr_writeBefore_72 ?_
    refine lv_bipush (v := 34) hx hb d_cWr_writeBefore_75 (by decide) ?_
    obtain ⟨j_15, hj_16, hl_17, Heq⟩ := gn_some Heq
    refine w_s (st' := [.int 34, .ref (ad 5 j_15)]) (congrArg (fun z9 : Option Nat => [.int 34, rv ad 5 z9]) hj_16) ?_
    obtain ⟨o_18, h_19, Heq⟩ := ob_some Heq
    have hFc := fr_all hD hS hA
    refine va_callv (va_runV (As := [.int 34]) (rest := []) ⟨hx, hb, hml, hown, hts⟩ (g_cRw_write l D H.size (ad := ad) (cc := cc) (sad := sad) (sav := sav) h_19) (cw_v 1 hts kw_549 kw_1232 kw_547 kw_548 kw_4 rfl rfl (by decide +kernel) ⟨Nat.le_of_ble_eq_true rfl, Nat.le_of_ble_eq_true rfl⟩) ⟨c_blind, va_recv hK hP (ci := 5) (q0 := cPos N 5 j_15) rfl (cw_obj (k := 5) (by decide) hl_17), fun U hU hW => c_pre hU hW hP hK hD hev hE hN hNS hS hFc⟩ rfl rfl hl.1 rfl (lv_room (Nat.le_of_ble_eq_true rfl)) d_cWr_writeBefore_77 ⟨Nat.le_of_ble_eq_true rfl, Nat.le_of_ble_eq_true rfl⟩) hS (fun q _ h => hFc q h) hFc (fun u t H1 locs ht hvm hw hB hz1 hk1 hS => ?_)
    obtain ⟨hP, -, hD1⟩ := hB
    rw [ht] at hP
    have hD := hD1.weaken (fun _ q _ h => hFc q.1 h)
    generalize H1 = H at hP hS ⊢
    refine W.cs (cells' := 0) (slots' := 0) rfl rfl ?_
    refine lv_aload_n hx hb d_cWr_writeBefore_80 rfl (lv_at hl 0 rfl) ?_
    refine va_get (D := D) (ci := 2) (v := rv ad 5 (o_18.r 2 1 x0)) (C := R_Wr) (T := F_Wr) (N := 2) hx hb hts i_Wr hown hK hP (cPos N 2 x0) (cw_obj (k := 2) (by decide) hl_x0_2) rfl 1 (by decide) (hts _ kw_386) (fun _ h9 => h9) rfl d_cWr_writeBefore_81 ?_
    refine lv_bipush (v := 58) hx hb d_cWr_writeBefore_84 (by decide) ?_
    obtain ⟨j_20, hj_21, hl_22, Heq⟩ := gn_some Heq
    refine w_s (st' := [.int 58, .ref (ad 5 j_20)]) (congrArg (fun z9 : Option Nat => [.int 58, rv ad 5 z9]) hj_21) ?_
    obtain ⟨o_23, h_24, Heq⟩ := ob_some Heq
    have hFc := fr_all hD hS hA
    refine va_callv (va_runV (As := [.int 58]) (rest := []) ⟨hx, hb, hml, hown, hts⟩ (g_cRw_write l D H.size (ad := ad) (cc := cc) (sad := sad) (sav := sav) h_24) (cw_v 1 hts kw_549 kw_1232 kw_547 kw_548 kw_4 rfl rfl (by decide +kernel) ⟨Nat.le_of_ble_eq_true rfl, Nat.le_of_ble_eq_true rfl⟩) ⟨c_blind, va_recv hK hP (ci := 5) (q0 := cPos N 5 j_20) rfl (cw_obj (k := 5) (by decide) hl_22), fun U hU hW => c_pre hU hW hP hK hD hev hE hN hNS hS hFc⟩ rfl rfl hl.1 rfl (lv_room (Nat.le_of_ble_eq_true rfl)) d_cWr_writeBefore_86 ⟨Nat.le_of_ble_eq_true rfl, Nat.le_of_ble_eq_true rfl⟩) hS (fun q _ h => hFc q h) hFc (fun u t H1 locs ht hvm hw hB hz1 hk1 hS => ?_)
    obtain ⟨hP, -, hD1⟩ := hB
    rw [ht] at hP
    have hD := hD1.weaken (fun _ q _ h => hFc q.1 h)
    generalize H1 = H at hP hS ⊢
    refine W.cs (cells' := 0) (slots' := 0) rfl rfl ?_
    exact w_cWr_writeBefore_J89 hC Heq Kr _ _ _ hP hD hS (lv_sub hl [0] rfl)
def m_cWr_writeBefore_J0 (N : Nat → Nat) (x0 : Nat) (S : CS) (x1 : Nat) : Option CS := gl x0 (N 2) (gn (S.r 2 1 x0) (N 5) (fun j_1 => ob (m_cRw_at N j_1 S ((S.i 5 1 j_1) - 1)) (fun o_4 => (if o_4.2 = 123 then m_cWr_writeBefore_J38 N x0 o_4.1 (some x1) else (if o_4.2 = 91 then m_cWr_writeBefore_J38 N x0 o_4.1 (some x1) else gn (o_4.1.r 2 1 x0) (N 5) (fun j_8 => ob (m_cRw_write N j_8 o_4.1 44) (fun o_11 => m_cWr_writeBefore_J38 N x0 o_11 (some x1))))))))
theorem d_cWr_writeBefore_23 : decode prog_4_method_4_code 23 = .ok (.iload_n 2, 1) := by decide +kernel
theorem d_cWr_writeBefore_24 : decode prog_4_method_4_code 24 = .ok (.bipush 91, 2) := by decide +kernel
theorem d_cWr_writeBefore_26 : decode prog_4_method_4_code 26 = .ok (.if_icmp .eq 12, 3) := by decide +kernel
theorem d_cWr_writeBefore_29 : decode prog_4_method_4_code 29 = .ok (.aload_n 0, 1) := by decide +kernel
theorem d_cWr_writeBefore_30 : decode prog_4_method_4_code 30 = .ok (.getfield 14, 3) := by decide +kernel
theorem d_cWr_writeBefore_33 : decode prog_4_method_4_code 33 = .ok (.bipush 44, 2) := by decide +kernel
theorem d_cWr_writeBefore_35 : decode prog_4_method_4_code 35 = .ok (.invokevirtual 51, 3) := by decide +kernel
set_option maxHeartbeats 4000000 in
set_option maxRecDepth 100000 in
theorem w_cWr_writeBefore_J0 {p : Program} {l : Launch} {e : Env} {s : State} {m : MethodId} {args : Array Value} {below : List Frame} {meth : Method} {c : Code} {A : Nat → Prop} {D : va_G} {ad : Nat → Nat → Nat} {cc : Nat → ClassId} {sad sav : Nat → Nat} {Q : State → Prop} (hC : MCc sad sav "JoinedTrees$JsonWriter" prog_4_method_4_code 3 none p s m args meth c A D cc) {N : Nat → Nat} {x0 : Nat} {S : CS} {x1 : Nat} {o : CS} (Heq : m_cWr_writeBefore_J0 N x0 S x1 = some o) (Kr : ∀ r : CS, o = r → ∀ (pc : Nat) (H : Heap) (locs : List Loc) (ls : Array Slot), decode prog_4_method_4_code pc = .ok (.return_, 1) → va_P D cls (cw ad cc N r) H → va_D A (cw ad cc N r) → va_S A s.heap H locs → W p l e ({ frames := 3, cells := 0, slots := 0, locals := 67 }) s m args below meth c H locs 0 0 Q (F0 m pc ls [])) : ∀ (H : Heap) (locs : List Loc) (ls : Array Slot), va_P D cls (cw ad cc N S) H → va_D A (cw ad cc N S) → va_S A s.heap H locs → lv_has ls 3 [(0, .ref (ad 2 x0)), (1, .ref (ad 3 x1))] → W p l e ({ frames := 3, cells := 0, slots := 0, locals := 67 }) s m args below meth c H locs 0 0 Q (F0 m 0 ls []) := by
  intro H locs ls hP hD hS hl
  obtain ⟨hx, hb, hr, hml, hown, hts, hK, hA, hev, hE, hN, hNS⟩ := id hC
  unfold m_cWr_writeBefore_J0 at Heq
  refine lv_aload_n hx hb d_cWr_writeBefore_0 rfl (lv_at hl 0 rfl) ?_
  obtain ⟨hl_x0_2, Heq⟩ := gl_some Heq
  refine va_get (D := D) (ci := 2) (v := rv ad 5 (S.r 2 1 x0)) (C := R_Wr) (T := F_Wr) (N := 2) hx hb hts i_Wr hown hK hP (cPos N 2 x0) (cw_obj (k := 2) (by decide) hl_x0_2) rfl 1 (by decide) (hts _ kw_386) (fun _ h9 => h9) rfl d_cWr_writeBefore_1 ?_
  refine lv_aload_n hx hb d_cWr_writeBefore_4 rfl (lv_at hl 0 rfl) ?_
  refine va_get (D := D) (ci := 2) (v := rv ad 5 (S.r 2 1 x0)) (C := R_Wr) (T := F_Wr) (N := 2) hx hb hts i_Wr hown hK hP (cPos N 2 x0) (cw_obj (k := 2) (by decide) hl_x0_2) rfl 1 (by decide) (hts _ kw_386) (fun _ h9 => h9) rfl d_cWr_writeBefore_5 ?_
  obtain ⟨j_1, hj_2, hl_3, Heq⟩ := gn_some Heq
  refine w_s (st' := [.ref (ad 5 j_1), rv ad 5 (S.r 2 1 x0)]) (congrArg (fun z9 : Option Nat => [rv ad 5 z9, rv ad 5 (S.r 2 1 x0)]) hj_2) ?_
  refine va_get (D := D) (ci := 5) (v := .int (S.i 5 1 j_1)) (C := R_Rw) (T := F_Rw) (N := 3) hx hb hts i_Rw hown hK hP (cPos N 5 j_1) (cw_obj (k := 5) (by decide) hl_3) rfl 1 (by decide) (hts _ kw_147) (fun _ h9 => h9) rfl d_cWr_writeBefore_8 ?_
  refine lv_iconst (v := 1) hx hb d_cWr_writeBefore_11 (by decide) ?_
  refine lv_isub hx hb d_cWr_writeBefore_12 ?_
  refine w_i (y := (S.i 5 1 j_1) - 1) rfl ?_
  refine w_s (st' := [.int ((S.i 5 1 j_1) - 1), .ref (ad 5 j_1)]) (congrArg (fun z9 : Option Nat => [.int ((S.i 5 1 j_1) - 1), rv ad 5 z9]) hj_2) ?_
  obtain ⟨o_4, h_5, Heq⟩ := ob_some Heq
  have hFc := fr_all hD hS hA
  refine va_calli (va_runV (As := [.int ((S.i 5 1 j_1) - 1)]) (rest := []) ⟨hx, hb, hml, hown, hts⟩ (g_cRw_at l D H.size (ad := ad) (cc := cc) (sad := sad) (sav := sav) h_5) (cw_v 1 hts kw_689 kw_1239 kw_687 kw_688 kw_4 rfl rfl (by decide +kernel) ⟨Nat.le_of_ble_eq_true rfl, Nat.le_of_ble_eq_true rfl⟩) ⟨c_blind, va_recv hK hP (ci := 5) (q0 := cPos N 5 j_1) rfl (cw_obj (k := 5) (by decide) hl_3), fun U hU hW => c_pre hU hW hP hK hD hev hE hN hNS hS hFc⟩ rfl rfl hl.1 rfl (lv_room (Nat.le_of_ble_eq_true rfl)) d_cWr_writeBefore_13 ⟨Nat.le_of_ble_eq_true rfl, Nat.le_of_ble_eq_true rfl⟩) hS (fun q _ h => hFc q h) hFc (fun rz u t H1 locs ht hvm hw hB hz1 hk1 hS => ?_)
  obtain ⟨hP, -, hD1⟩ := hB
  rw [ht] at hP
  have hD := hD1.weaken (fun _ q _ h => hFc q.1 h)
  generalize H1 = H at hP hS ⊢
  refine W.cs (cells' := 0) (slots' := 0) rfl rfl ?_
  subst hw
  refine lv_istore_n (lv' := [(2, .int o_4.2), (0, .ref (ad 2 x0)), (1, .ref (ad 3 x1))]) hx hb d_cWr_writeBefore_16 rfl hl (by decide) rfl (fun ls hl => ?_)
  refine lv_iload_n hx hb d_cWr_writeBefore_17 rfl (lv_at hl 0 rfl) ?_
  refine lv_bipush (v := 123) hx hb d_cWr_writeBefore_18 (by decide) ?_
  refine lv_icmp_eq (tgt := 38) hx hb d_cWr_writeBefore_20 (by decide) (fun c_6 => ?_) (fun c_6 => ?_)
  · replace Heq := (if_pos c_6).symm.trans Heq
    exact w_cWr_writeBefore_J38 hC Heq Kr _ _ _ hP hD hS (lv_sub hl [1, 2] rfl)
  · replace Heq := (if_neg c_6).symm.trans Heq
    refine lv_iload_n hx hb d_cWr_writeBefore_23 rfl (lv_at hl 0 rfl) ?_
    refine lv_bipush (v := 91) hx hb d_cWr_writeBefore_24 (by decide) ?_
    refine lv_icmp_eq (tgt := 38) hx hb d_cWr_writeBefore_26 (by decide) (fun c_7 => ?_) (fun c_7 => ?_)
    · replace Heq := (if_pos c_7).symm.trans Heq
      exact w_cWr_writeBefore_J38 hC Heq Kr _ _ _ hP hD hS (lv_sub hl [1, 2] rfl)
    · replace Heq := (if_neg c_7).symm.trans Heq
      refine lv_aload_n hx hb d_cWr_writeBefore_29 rfl (lv_at hl 1 rfl) ?_
      refine va_get (D := D) (ci := 2) (v := rv ad 5 (o_4.1.r 2 1 x0)) (C := R_Wr) (T := F_Wr) (N := 2) hx hb hts i_Wr hown hK hP (cPos N 2 x0) (cw_obj (k := 2) (by decide) hl_x0_2) rfl 1 (by decide) (hts _ kw_386) (fun _ h9 => h9) rfl d_cWr_writeBefore_30 ?_
      refine lv_bipush (v := 44) hx hb d_cWr_writeBefore_33 (by decide) ?_
      obtain ⟨j_8, hj_9, hl_10, Heq⟩ := gn_some Heq
      refine w_s (st' := [.int 44, .ref (ad 5 j_8)]) (congrArg (fun z9 : Option Nat => [.int 44, rv ad 5 z9]) hj_9) ?_
      obtain ⟨o_11, h_12, Heq⟩ := ob_some Heq
      have hFc := fr_all hD hS hA
      refine va_callv (va_runV (As := [.int 44]) (rest := []) ⟨hx, hb, hml, hown, hts⟩ (g_cRw_write l D H.size (ad := ad) (cc := cc) (sad := sad) (sav := sav) h_12) (cw_v 1 hts kw_549 kw_1232 kw_547 kw_548 kw_4 rfl rfl (by decide +kernel) ⟨Nat.le_of_ble_eq_true rfl, Nat.le_of_ble_eq_true rfl⟩) ⟨c_blind, va_recv hK hP (ci := 5) (q0 := cPos N 5 j_8) rfl (cw_obj (k := 5) (by decide) hl_10), fun U hU hW => c_pre hU hW hP hK hD hev hE hN hNS hS hFc⟩ rfl rfl hl.1 rfl (lv_room (Nat.le_of_ble_eq_true rfl)) d_cWr_writeBefore_35 ⟨Nat.le_of_ble_eq_true rfl, Nat.le_of_ble_eq_true rfl⟩) hS (fun q _ h => hFc q h) hFc (fun u t H1 locs ht hvm hw hB hz1 hk1 hS => ?_)
      obtain ⟨hP, -, hD1⟩ := hB
      rw [ht] at hP
      have hD := hD1.weaken (fun _ q _ h => hFc q.1 h)
      generalize H1 = H at hP hS ⊢
      refine W.cs (cells' := 0) (slots' := 0) rfl rfl ?_
      exact w_cWr_writeBefore_J38 hC Heq Kr _ _ _ hP hD hS (lv_sub hl [1, 2] rfl)
def m_cWr_writeBefore (N : Nat → Nat) (x0 : Nat) (S : CS) (x1 : Nat) : Option CS := m_cWr_writeBefore_J0 N x0 S x1
set_option maxHeartbeats 4000000 in
theorem g_cWr_writeBefore (l : Launch) (D : va_G) (sz : Nat) {ad : Nat → Nat → Nat} {cc : Nat → ClassId} {sad sav : Nat → Nat} {N : Nat → Nat} {x0 : Nat} {S : CS} {x1 : Nat} {o : CS} (Heq : m_cWr_writeBefore N x0 S x1 = some o) : Met l ⟨"JoinedTrees$JsonWriter", "writeBefore", "(LJoinedTrees$Op;)V"⟩ (Cond.code ⟨"JoinedTrees$JsonWriter", "writeBefore", "(LJoinedTrees$Op;)V"⟩ prog_4_method_4_code 3 none :: gb) ({ frames := 3, cells := 0, slots := 0, locals := 67 }) (cPc sad sav D (cw ad cc N S) (cty cc) sz [.ref (ad 2 x0), .ref (ad 3 x1)]) (va_Qv (fun _ : Unit => True) (fun _ t => gO D (cw ad cc N o) (cty cc) (va_A (cw ad cc N S) sz) t) (va_A (cw ad cc N S) sz)) 0 0 (va_A (cw ad cc N S) sz) := by
  refine Met.ofW (cc := prog_4_method_4_code) (maxL := 3) (ret := none) (by decide) rfl ?_
  intro p e s m args below meth c s₁ B hml hv
  obtain ⟨rfl, hsz, hP, hK, hD0, hev, hE, hN⟩ := hv
  have hx := B.exec
  have hb := B.bytes
  have hr := B.returns
  have hts : ∀ w9 ∈ gb, w9.before [.ref (ad 2 x0), .ref (ad 3 x1)].toArray s = true := fun w9 h => atoms_spec (ws := Cond.code ⟨"JoinedTrees$JsonWriter", "writeBefore", "(LJoinedTrees$Op;)V"⟩ prog_4_method_4_code 3 none :: gb) B.pre w9 (List.mem_cons_of_mem _ h)
  have hown : s.vm.findClass "JoinedTrees$JsonWriter" = some m.cls := findClass_of_methodNamed B.named
  have hlocks := B.notSynchronized
  have hNS := ns_of hP
  subst hsz
  have hD := hD0.self (sz := s.heap.size)
  generalize hAe : va_A (cw ad cc N S) s.heap.size = A at hD hev hE hNS ⊢
  have hA : ∀ q : Nat, s.heap.size ≤ q → A q := fun q h => by rw [← hAe]; exact Or.inr h
  have hS : va_S A s.heap s.heap [] := va_S.rf
  obtain ⟨ls, hl, hle⟩ : ∃ ls : Array Slot, lv_has ls 3 [(0, .ref (ad 2 x0)), (1, .ref (ad 3 x1))] ∧ entryFrame m ([.ref (ad 2 x0), .ref (ad 3 x1)] : List Value).toArray 3 = F0 m 0 ls [] := by
    exact ⟨_, lv_entry (n := 3) _ (Nat.le_of_ble_eq_true rfl), lg_entry_eq ..⟩
  rw [hle]
  refine w_cWr_writeBefore_J0 ⟨hx, hb, hr, hml, hown, hts, hK, hA, hev, hE, hN, hNS⟩ Heq (fun r h pc H locs ls hd hP hD hS => ?_) _ _ _ hP hD hS (lv_sub hl [0, 1] rfl)
  subst h
  exact W.vret hx hb hr (fun t ht hW => ⟨⟨(), rfl, trivial, by rw [ht]; exact hP, va_K.moved hW.alike hK, hD⟩, hS.F ht⟩) hS.2.2 hd
def m_cWr_writeObject_J242 (N : Nat → Nat) (x0 : Nat) (S : CS) (x1 : Option Nat) (x2 : Option Nat) (x3 : Option Nat) (x4 : Int32) (x5 : Int32) : Option ((CS × Option Nat × Option Nat × Option Nat × Int32 × Int32) ⊕ CS) := some (.inl (S, x1, x2, x3, x4, (x5 + 1)))
theorem d_cWr_writeObject_0 : decode prog_4_method_2_code 0 = .ok (.aload_n 0, 1) := by decide +kernel
theorem d_cWr_writeObject_1 : decode prog_4_method_2_code 1 = .ok (.getfield 14, 3) := by decide +kernel
theorem d_cWr_writeObject_4 : decode prog_4_method_2_code 4 = .ok (.invokevirtual 24, 3) := by decide +kernel
theorem d_cWr_writeObject_7 : decode prog_4_method_2_code 7 = .ok (.aload_n 1, 1) := by decide +kernel
theorem d_cWr_writeObject_8 : decode prog_4_method_2_code 8 = .ok (.getfield 27, 3) := by decide +kernel
theorem d_cWr_writeObject_11 : decode prog_4_method_2_code 11 = .ok (.bipush 8, 2) := by decide +kernel
theorem d_cWr_writeObject_13 : decode prog_4_method_2_code 13 = .ok (.if_icmp .ne 13, 3) := by decide +kernel
theorem d_cWr_writeObject_26 : decode prog_4_method_2_code 26 = .ok (.aload_n 1, 1) := by decide +kernel
theorem d_cWr_writeObject_27 : decode prog_4_method_2_code 27 = .ok (.astore_n 2, 1) := by decide +kernel
theorem d_cWr_writeObject_28 : decode prog_4_method_2_code 28 = .ok (.aload_n 0, 1) := by decide +kernel
theorem d_cWr_writeObject_29 : decode prog_4_method_2_code 29 = .ok (.aload_n 1, 1) := by decide +kernel
theorem d_cWr_writeObject_30 : decode prog_4_method_2_code 30 = .ok (.invokevirtual 37, 3) := by decide +kernel
theorem d_cWr_writeObject_33 : decode prog_4_method_2_code 33 = .ok (.astore_n 3, 1) := by decide +kernel
theorem d_cWr_writeObject_34 : decode prog_4_method_2_code 34 = .ok (.iconst 1, 1) := by decide +kernel
theorem d_cWr_writeObject_35 : decode prog_4_method_2_code 35 = .ok (.istore 4, 2) := by decide +kernel
theorem d_cWr_writeObject_37 : decode prog_4_method_2_code 37 = .ok (.iconst 0, 1) := by decide +kernel
theorem d_cWr_writeObject_38 : decode prog_4_method_2_code 38 = .ok (.istore 5, 2) := by decide +kernel
theorem d_cWr_writeObject_40 : decode prog_4_method_2_code 40 = .ok (.iload 5, 2) := by decide +kernel
theorem d_cWr_writeObject_42 : decode prog_4_method_2_code 42 = .ok (.sipush 12000, 3) := by decide +kernel
theorem d_cWr_writeObject_45 : decode prog_4_method_2_code 45 = .ok (.if_icmp .gt 203, 3) := by decide +kernel
theorem d_cWr_writeObject_48 : decode prog_4_method_2_code 48 = .ok (.iload 4, 2) := by decide +kernel
theorem d_cWr_writeObject_50 : decode prog_4_method_2_code 50 = .ok (.ifCond .eq 198, 3) := by decide +kernel
theorem d_cWr_writeObject_53 : decode prog_4_method_2_code 53 = .ok (.aload_n 0, 1) := by decide +kernel
theorem d_cWr_writeObject_54 : decode prog_4_method_2_code 54 = .ok (.getfield 14, 3) := by decide +kernel
theorem d_cWr_writeObject_57 : decode prog_4_method_2_code 57 = .ok (.getfield 41, 3) := by decide +kernel
theorem d_cWr_writeObject_60 : decode prog_4_method_2_code 60 = .ok (.ifCond .ne 188, 3) := by decide +kernel
theorem d_cWr_writeObject_63 : decode prog_4_method_2_code 63 = .ok (.aload_n 3, 1) := by decide +kernel
theorem d_cWr_writeObject_64 : decode prog_4_method_2_code 64 = .ok (.ifnonnull 7, 3) := by decide +kernel
theorem d_cWr_writeObject_67 : decode prog_4_method_2_code 67 = .ok (.aconst_null, 1) := by decide +kernel
theorem d_cWr_writeObject_68 : decode prog_4_method_2_code 68 = .ok (.goto 11, 3) := by decide +kernel
theorem d_cWr_writeObject_79 : decode prog_4_method_2_code 79 = .ok (.astore 6, 2) := by decide +kernel
theorem d_cWr_writeObject_81 : decode prog_4_method_2_code 81 = .ok (.aload_n 3, 1) := by decide +kernel
theorem d_cWr_writeObject_82 : decode prog_4_method_2_code 82 = .ok (.ifnonnull 72, 3) := by decide +kernel
theorem d_cWr_writeObject_85 : decode prog_4_method_2_code 85 = .ok (.aload_n 0, 1) := by decide +kernel
theorem d_cWr_writeObject_86 : decode prog_4_method_2_code 86 = .ok (.getfield 14, 3) := by decide +kernel
theorem d_cWr_writeObject_89 : decode prog_4_method_2_code 89 = .ok (.aload_n 2, 1) := by decide +kernel
theorem d_cWr_writeObject_90 : decode prog_4_method_2_code 90 = .ok (.getfield 27, 3) := by decide +kernel
theorem d_cWr_writeObject_93 : decode prog_4_method_2_code 93 = .ok (.bipush 6, 2) := by decide +kernel
theorem d_cWr_writeObject_95 : decode prog_4_method_2_code 95 = .ok (.if_icmp .ne 8, 3) := by decide +kernel
theorem d_cWr_writeObject_103 : decode prog_4_method_2_code 103 = .ok (.bipush 93, 2) := by decide +kernel
theorem d_cWr_writeObject_105 : decode prog_4_method_2_code 105 = .ok (.invokevirtual 51, 3) := by decide +kernel
theorem d_cWr_writeObject_108 : decode prog_4_method_2_code 108 = .ok (.aload_n 2, 1) := by decide +kernel
theorem d_cWr_writeObject_109 : decode prog_4_method_2_code 109 = .ok (.aload_n 1, 1) := by decide +kernel
theorem d_cWr_writeObject_110 : decode prog_4_method_2_code 110 = .ok (.if_acmp .eq 7, 3) := by decide +kernel
theorem d_cWr_writeObject_117 : decode prog_4_method_2_code 117 = .ok (.iconst 0, 1) := by decide +kernel
theorem d_cWr_writeObject_118 : decode prog_4_method_2_code 118 = .ok (.istore 4, 2) := by decide +kernel
theorem d_cWr_writeObject_120 : decode prog_4_method_2_code 120 = .ok (.iload 4, 2) := by decide +kernel
theorem d_cWr_writeObject_122 : decode prog_4_method_2_code 122 = .ok (.ifCond .eq 13, 3) := by decide +kernel
theorem d_cWr_writeObject_135 : decode prog_4_method_2_code 135 = .ok (.aconst_null, 1) := by decide +kernel
theorem d_cWr_writeObject_136 : decode prog_4_method_2_code 136 = .ok (.astore_n 3, 1) := by decide +kernel
theorem d_cWr_writeObject_137 : decode prog_4_method_2_code 137 = .ok (.iload 4, 2) := by decide +kernel
theorem d_cWr_writeObject_139 : decode prog_4_method_2_code 139 = .ok (.ifCond .eq 10, 3) := by decide +kernel
theorem d_cWr_writeObject_149 : decode prog_4_method_2_code 149 = .ok (.aload_n 1, 1) := by decide +kernel
theorem d_cWr_writeObject_150 : decode prog_4_method_2_code 150 = .ok (.astore_n 2, 1) := by decide +kernel
theorem d_cWr_writeObject_151 : decode prog_4_method_2_code 151 = .ok (.goto 91, 3) := by decide +kernel
theorem d_cWr_writeObject_242 : decode prog_4_method_2_code 242 = .ok (.iinc 5 1, 3) := by decide +kernel
theorem d_cWr_writeObject_245 : decode prog_4_method_2_code 245 = .ok (.goto (-205), 3) := by decide +kernel
set_option maxHeartbeats 4000000 in
set_option maxRecDepth 100000 in
theorem w_cWr_writeObject_J242 {p : Program} {l : Launch} {e : Env} {s : State} {m : MethodId} {args : Array Value} {below : List Frame} {meth : Method} {c : Code} {A : Nat → Prop} {D : va_G} {ad : Nat → Nat → Nat} {cc : Nat → ClassId} {sad sav : Nat → Nat} {Q : State → Prop} (hC : MCc sad sav "JoinedTrees$JsonWriter" prog_4_method_2_code 8 (some (.object "JoinedTrees$Row")) p s m args meth c A D cc) {N : Nat → Nat} {x0 : Nat} {S : CS} {x1 : Option Nat} {x2 : Option Nat} {x3 : Option Nat} {x4 : Int32} {x5 : Int32} {o : ((CS × Option Nat × Option Nat × Option Nat × Int32 × Int32) ⊕ CS)} (Heq : m_cWr_writeObject_J242 N x0 S x1 x2 x3 x4 x5 = some o) (Ka : ∀ b : CS × Option Nat × Option Nat × Option Nat × Int32 × Int32, o = .inl b → ∀ (H : Heap) (locs : List Loc) (ls : Array Slot), va_P D cls (cw ad cc N b.1) H → va_D A (cw ad cc N b.1) → va_S A s.heap H locs → lv_has ls 8 [(0, .ref (ad 2 x0)), (1, rv ad 3 b.2.1), (2, rv ad 3 b.2.2.1), (3, rv ad 7 b.2.2.2.1), (4, .int b.2.2.2.2.1), (5, .int b.2.2.2.2.2)] → W p l e ({ frames := 6, cells := 0, slots := 0, locals := 154 }) s m args below meth c H locs 0 0 Q (F0 m 40 ls [])) (K0 : ∀ b : CS, o = .inr b → ∀ (H : Heap) (locs : List Loc) (ls : Array Slot), va_P D cls (cw ad cc N b) H → va_D A (cw ad cc N b) → va_S A s.heap H locs → lv_has ls 8 [(0, .ref (ad 2 x0))] → W p l e ({ frames := 6, cells := 0, slots := 0, locals := 154 }) s m args below meth c H locs 0 0 Q (F0 m 248 ls [])) : ∀ (H : Heap) (locs : List Loc) (ls : Array Slot), va_P D cls (cw ad cc N S) H → va_D A (cw ad cc N S) → va_S A s.heap H locs → lv_has ls 8 [(0, .ref (ad 2 x0)), (1, rv ad 3 x1), (2, rv ad 3 x2), (3, rv ad 7 x3), (4, .int x4), (5, .int x5)] → W p l e ({ frames := 6, cells := 0, slots := 0, locals := 154 }) s m args below meth c H locs 0 0 Q (F0 m 242 ls []) := by
  intro H locs ls hP hD hS hl
  obtain ⟨hx, hb, hr, hml, hown, hts, hK, hA, hev, hE, hN, hNS⟩ := id hC
  unfold m_cWr_writeObject_J242 at Heq
  refine lv_iinc (v := x5 + 1) (lv' := [(5, .int (x5 + 1)), (0, .ref (ad 2 x0)), (1, rv ad 3 x1), (2, rv ad 3 x2), (3, rv ad 7 x3), (4, .int x4)]) hx hb d_cWr_writeObject_242 hl (k := 5) rfl rfl (by decide) rfl (fun ls hl => ?_)
  refine lv_goto (tgt := 40) hx hb d_cWr_writeObject_245 (by decide) ?_
  exact Ka _ (Option.some.inj Heq).symm _ _ _ hP hD hS (lv_sub hl [1, 2, 3, 4, 5, 0] rfl)
def m_cWr_writeObject_J150 (N : Nat → Nat) (x0 : Nat) (S : CS) (x1 : Option Nat) (x3 : Option Nat) (x4 : Int32) (x5 : Int32) (t0 : Option Nat) : Option ((CS × Option Nat × Option Nat × Option Nat × Int32 × Int32) ⊕ CS) := m_cWr_writeObject_J242 N x0 S x1 t0 x3 x4 x5
set_option maxHeartbeats 4000000 in
set_option maxRecDepth 100000 in
theorem w_cWr_writeObject_J150 {p : Program} {l : Launch} {e : Env} {s : State} {m : MethodId} {args : Array Value} {below : List Frame} {meth : Method} {c : Code} {A : Nat → Prop} {D : va_G} {ad : Nat → Nat → Nat} {cc : Nat → ClassId} {sad sav : Nat → Nat} {Q : State → Prop} (hC : MCc sad sav "JoinedTrees$JsonWriter" prog_4_method_2_code 8 (some (.object "JoinedTrees$Row")) p s m args meth c A D cc) {N : Nat → Nat} {x0 : Nat} {S : CS} {x1 : Option Nat} {x3 : Option Nat} {x4 : Int32} {x5 : Int32} {t0 : Option Nat} {o : ((CS × Option Nat × Option Nat × Option Nat × Int32 × Int32) ⊕ CS)} (Heq : m_cWr_writeObject_J150 N x0 S x1 x3 x4 x5 t0 = some o) (Ka : ∀ b : CS × Option Nat × Option Nat × Option Nat × Int32 × Int32, o = .inl b → ∀ (H : Heap) (locs : List Loc) (ls : Array Slot), va_P D cls (cw ad cc N b.1) H → va_D A (cw ad cc N b.1) → va_S A s.heap H locs → lv_has ls 8 [(0, .ref (ad 2 x0)), (1, rv ad 3 b.2.1), (2, rv ad 3 b.2.2.1), (3, rv ad 7 b.2.2.2.1), (4, .int b.2.2.2.2.1), (5, .int b.2.2.2.2.2)] → W p l e ({ frames := 6, cells := 0, slots := 0, locals := 154 }) s m args below meth c H locs 0 0 Q (F0 m 40 ls [])) (K0 : ∀ b : CS, o = .inr b → ∀ (H : Heap) (locs : List Loc) (ls : Array Slot), va_P D cls (cw ad cc N b) H → va_D A (cw ad cc N b) → va_S A s.heap H locs → lv_has ls 8 [(0, .ref (ad 2 x0))] → W p l e ({ frames := 6, cells := 0, slots := 0, locals := 154 }) s m args below meth c H locs 0 0 Q (F0 m 248 ls [])) : ∀ (H : Heap) (locs : List Loc) (ls : Array Slot), va_P D cls (cw ad cc N S) H → va_D A (cw ad cc N S) → va_S A s.heap H locs → lv_has ls 8 [(0, .ref (ad 2 x0)), (1, rv ad 3 x1), (3, rv ad 7 x3), (4, .int x4), (5, .int x5)] → W p l e ({ frames := 6, cells := 0, slots := 0, locals := 154 }) s m args below meth c H locs 0 0 Q (F0 m 150 ls [rv ad 3 t0]) := by
  intro H locs ls hP hD hS hl
  obtain ⟨hx, hb, hr, hml, hown, hts, hK, hA, hev, hE, hN, hNS⟩ := id hC
  unfold m_cWr_writeObject_J150 at Heq
  refine tx_astore_n (i := 2) (x := t0.map (ad 3)) (lv' := [(2, rv ad 3 t0), (0, .ref (ad 2 x0)), (1, rv ad 3 x1), (3, rv ad 7 x3), (4, .int x4), (5, .int x5)]) hx hb d_cWr_writeObject_150 rfl hl (by decide) (by simp [rv, rf_cat]) (fun ls hl => ?_)
  refine lv_goto (tgt := 242) hx hb d_cWr_writeObject_151 (by decide) ?_
  exact w_cWr_writeObject_J242 hC Heq Ka K0 _ _ _ hP hD hS (lv_sub hl [1, 2, 0, 3, 4, 5] rfl)
def m_cWr_writeObject_J136 (N : Nat → Nat) (x0 : Nat) (S : CS) (x1 : Option Nat) (x2 : Option Nat) (x4 : Int32) (x5 : Int32) (t0 : Option Nat) : Option ((CS × Option Nat × Option Nat × Option Nat × Int32 × Int32) ⊕ CS) := (if x4 = 0 then m_cWr_writeObject_J150 N x0 S x1 t0 x4 x5 x1 else gn x2 (N 3) (fun j_2 => m_cWr_writeObject_J150 N x0 S x1 t0 x4 x5 (S.r 3 1 j_2)))
theorem d_cWr_writeObject_142 : decode prog_4_method_2_code 142 = .ok (.aload_n 2, 1) := by decide +kernel
theorem d_cWr_writeObject_143 : decode prog_4_method_2_code 143 = .ok (.getfield 63, 3) := by decide +kernel
theorem d_cWr_writeObject_146 : decode prog_4_method_2_code 146 = .ok (.goto 4, 3) := by decide +kernel
set_option maxHeartbeats 4000000 in
set_option maxRecDepth 100000 in
theorem w_cWr_writeObject_J136 {p : Program} {l : Launch} {e : Env} {s : State} {m : MethodId} {args : Array Value} {below : List Frame} {meth : Method} {c : Code} {A : Nat → Prop} {D : va_G} {ad : Nat → Nat → Nat} {cc : Nat → ClassId} {sad sav : Nat → Nat} {Q : State → Prop} (hC : MCc sad sav "JoinedTrees$JsonWriter" prog_4_method_2_code 8 (some (.object "JoinedTrees$Row")) p s m args meth c A D cc) {N : Nat → Nat} {x0 : Nat} {S : CS} {x1 : Option Nat} {x2 : Option Nat} {x4 : Int32} {x5 : Int32} {t0 : Option Nat} {o : ((CS × Option Nat × Option Nat × Option Nat × Int32 × Int32) ⊕ CS)} (Heq : m_cWr_writeObject_J136 N x0 S x1 x2 x4 x5 t0 = some o) (Ka : ∀ b : CS × Option Nat × Option Nat × Option Nat × Int32 × Int32, o = .inl b → ∀ (H : Heap) (locs : List Loc) (ls : Array Slot), va_P D cls (cw ad cc N b.1) H → va_D A (cw ad cc N b.1) → va_S A s.heap H locs → lv_has ls 8 [(0, .ref (ad 2 x0)), (1, rv ad 3 b.2.1), (2, rv ad 3 b.2.2.1), (3, rv ad 7 b.2.2.2.1), (4, .int b.2.2.2.2.1), (5, .int b.2.2.2.2.2)] → W p l e ({ frames := 6, cells := 0, slots := 0, locals := 154 }) s m args below meth c H locs 0 0 Q (F0 m 40 ls [])) (K0 : ∀ b : CS, o = .inr b → ∀ (H : Heap) (locs : List Loc) (ls : Array Slot), va_P D cls (cw ad cc N b) H → va_D A (cw ad cc N b) → va_S A s.heap H locs → lv_has ls 8 [(0, .ref (ad 2 x0))] → W p l e ({ frames := 6, cells := 0, slots := 0, locals := 154 }) s m args below meth c H locs 0 0 Q (F0 m 248 ls [])) : ∀ (H : Heap) (locs : List Loc) (ls : Array Slot), va_P D cls (cw ad cc N S) H → va_D A (cw ad cc N S) → va_S A s.heap H locs → lv_has ls 8 [(0, .ref (ad 2 x0)), (1, rv ad 3 x1), (2, rv ad 3 x2), (4, .int x4), (5, .int x5)] → W p l e ({ frames := 6, cells := 0, slots := 0, locals := 154 }) s m args below meth c H locs 0 0 Q (F0 m 136 ls [rv ad 7 t0]) := by
  intro H locs ls hP hD hS hl
  obtain ⟨hx, hb, hr, hml, hown, hts, hK, hA, hev, hE, hN, hNS⟩ := id hC
  unfold m_cWr_writeObject_J136 at Heq
  refine tx_astore_n (i := 3) (x := t0.map (ad 7)) (lv' := [(3, rv ad 7 t0), (0, .ref (ad 2 x0)), (1, rv ad 3 x1), (2, rv ad 3 x2), (4, .int x4), (5, .int x5)]) hx hb d_cWr_writeObject_136 rfl hl (by decide) (by simp [rv, rf_cat]) (fun ls hl => ?_)
  refine lv_iload hx hb d_cWr_writeObject_137 (lv_at hl 4 rfl) ?_
  refine lv_if_eq (tgt := 149) hx hb d_cWr_writeObject_139 (by decide) (fun c_1 => ?_) (fun c_1 => ?_)
  · replace Heq := (if_pos c_1).symm.trans Heq
    refine tx_aload_n (x := x1.map (ad 3)) hx hb d_cWr_writeObject_149 rfl (lv_at hl 2 rfl) ?_
    refine w_v (y := rv ad 3 x1) rfl ?_
    exact w_cWr_writeObject_J150 hC Heq Ka K0 _ _ _ hP hD hS (lv_sub hl [1, 2, 0, 4, 5] rfl)
  · replace Heq := (if_neg c_1).symm.trans Heq
    refine tx_aload_n (x := x2.map (ad 3)) hx hb d_cWr_writeObject_142 rfl (lv_at hl 3 rfl) ?_
    refine w_v (y := rv ad 3 x2) rfl ?_
    obtain ⟨j_2, hj_3, hl_4, Heq⟩ := gn_some Heq
    refine w_s (st' := [.ref (ad 3 j_2)]) (congrArg (fun z9 : Option Nat => [rv ad 3 z9]) hj_3) ?_
    refine va_get (D := D) (ci := 3) (v := rv ad 3 (S.r 3 1 j_2)) (C := R_Op) (T := F_Op) (N := 15) hx hb hts i_Op hown hK hP (cPos N 3 j_2) (cw_obj (k := 3) (by decide) hl_4) rfl 1 (by decide) (hts _ kw_55) (fun _ h9 => h9) rfl d_cWr_writeObject_143 ?_
    refine lv_goto (tgt := 150) hx hb d_cWr_writeObject_146 (by decide) ?_
    exact w_cWr_writeObject_J150 hC Heq Ka K0 _ _ _ hP hD hS (lv_sub hl [1, 2, 0, 4, 5] rfl)
def m_cWr_writeObject_J118 (N : Nat → Nat) (x0 : Nat) (S : CS) (x1 : Option Nat) (x2 : Option Nat) (x5 : Int32) (t0 : Int32) : Option ((CS × Option Nat × Option Nat × Option Nat × Int32 × Int32) ⊕ CS) := (if t0 = 0 then m_cWr_writeObject_J136 N x0 S x1 x2 t0 x5 none else gn x2 (N 3) (fun j_2 => gn (S.r 3 11 j_2) (N 7) (fun j_5 => m_cWr_writeObject_J136 N x0 S x1 x2 t0 x5 (S.r 7 2 j_5))))
theorem d_cWr_writeObject_125 : decode prog_4_method_2_code 125 = .ok (.aload_n 2, 1) := by decide +kernel
theorem d_cWr_writeObject_126 : decode prog_4_method_2_code 126 = .ok (.getfield 54, 3) := by decide +kernel
theorem d_cWr_writeObject_129 : decode prog_4_method_2_code 129 = .ok (.getfield 58, 3) := by decide +kernel
theorem d_cWr_writeObject_132 : decode prog_4_method_2_code 132 = .ok (.goto 4, 3) := by decide +kernel
set_option maxHeartbeats 4000000 in
set_option maxRecDepth 100000 in
theorem w_cWr_writeObject_J118 {p : Program} {l : Launch} {e : Env} {s : State} {m : MethodId} {args : Array Value} {below : List Frame} {meth : Method} {c : Code} {A : Nat → Prop} {D : va_G} {ad : Nat → Nat → Nat} {cc : Nat → ClassId} {sad sav : Nat → Nat} {Q : State → Prop} (hC : MCc sad sav "JoinedTrees$JsonWriter" prog_4_method_2_code 8 (some (.object "JoinedTrees$Row")) p s m args meth c A D cc) {N : Nat → Nat} {x0 : Nat} {S : CS} {x1 : Option Nat} {x2 : Option Nat} {x5 : Int32} {t0 : Int32} {o : ((CS × Option Nat × Option Nat × Option Nat × Int32 × Int32) ⊕ CS)} (Heq : m_cWr_writeObject_J118 N x0 S x1 x2 x5 t0 = some o) (Ka : ∀ b : CS × Option Nat × Option Nat × Option Nat × Int32 × Int32, o = .inl b → ∀ (H : Heap) (locs : List Loc) (ls : Array Slot), va_P D cls (cw ad cc N b.1) H → va_D A (cw ad cc N b.1) → va_S A s.heap H locs → lv_has ls 8 [(0, .ref (ad 2 x0)), (1, rv ad 3 b.2.1), (2, rv ad 3 b.2.2.1), (3, rv ad 7 b.2.2.2.1), (4, .int b.2.2.2.2.1), (5, .int b.2.2.2.2.2)] → W p l e ({ frames := 6, cells := 0, slots := 0, locals := 154 }) s m args below meth c H locs 0 0 Q (F0 m 40 ls [])) (K0 : ∀ b : CS, o = .inr b → ∀ (H : Heap) (locs : List Loc) (ls : Array Slot), va_P D cls (cw ad cc N b) H → va_D A (cw ad cc N b) → va_S A s.heap H locs → lv_has ls 8 [(0, .ref (ad 2 x0))] → W p l e ({ frames := 6, cells := 0, slots := 0, locals := 154 }) s m args below meth c H locs 0 0 Q (F0 m 248 ls [])) : ∀ (H : Heap) (locs : List Loc) (ls : Array Slot), va_P D cls (cw ad cc N S) H → va_D A (cw ad cc N S) → va_S A s.heap H locs → lv_has ls 8 [(0, .ref (ad 2 x0)), (1, rv ad 3 x1), (2, rv ad 3 x2), (5, .int x5)] → W p l e ({ frames := 6, cells := 0, slots := 0, locals := 154 }) s m args below meth c H locs 0 0 Q (F0 m 118 ls [.int t0]) := by
  intro H locs ls hP hD hS hl
  obtain ⟨hx, hb, hr, hml, hown, hts, hK, hA, hev, hE, hN, hNS⟩ := id hC
  unfold m_cWr_writeObject_J118 at Heq
  refine lv_istore (lv' := [(4, .int t0), (0, .ref (ad 2 x0)), (1, rv ad 3 x1), (2, rv ad 3 x2), (5, .int x5)]) hx hb d_cWr_writeObject_118 hl (by decide) rfl (fun ls hl => ?_)
  refine lv_iload hx hb d_cWr_writeObject_120 (lv_at hl 0 rfl) ?_
  refine lv_if_eq (tgt := 135) hx hb d_cWr_writeObject_122 (by decide) (fun c_1 => ?_) (fun c_1 => ?_)
  · replace Heq := (if_pos c_1).symm.trans Heq
    refine lv_null hx hb d_cWr_writeObject_135 ?_
    exact w_cWr_writeObject_J136 hC Heq Ka K0 _ _ _ hP hD hS (lv_sub hl [1, 2, 3, 0, 4] rfl)
  · replace Heq := (if_neg c_1).symm.trans Heq
    refine tx_aload_n (x := x2.map (ad 3)) hx hb d_cWr_writeObject_125 rfl (lv_at hl 3 rfl) ?_
    refine w_v (y := rv ad 3 x2) rfl ?_
    obtain ⟨j_2, hj_3, hl_4, Heq⟩ := gn_some Heq
    refine w_s (st' := [.ref (ad 3 j_2)]) (congrArg (fun z9 : Option Nat => [rv ad 3 z9]) hj_3) ?_
    refine va_get (D := D) (ci := 3) (v := rv ad 7 (S.r 3 11 j_2)) (C := R_Op) (T := F_Op) (N := 15) hx hb hts i_Op hown hK hP (cPos N 3 j_2) (cw_obj (k := 3) (by decide) hl_4) rfl 11 (by decide) (hts _ kw_91) (fun _ h9 => h9) rfl d_cWr_writeObject_126 ?_
    obtain ⟨j_5, hj_6, hl_7, Heq⟩ := gn_some Heq
    refine w_s (st' := [.ref (ad 7 j_5)]) (congrArg (fun z9 : Option Nat => [rv ad 7 z9]) hj_6) ?_
    refine va_get (D := D) (ci := 7) (v := rv ad 7 (S.r 7 2 j_5)) (C := R_Sp) (T := F_Sp) (N := 3) hx hb hts i_Sp hown hK hP (cPos N 7 j_5) (cw_obj (k := 7) (by decide) hl_7) rfl 2 (by decide) (hts _ kw_746) (fun _ h9 => h9) rfl d_cWr_writeObject_129 ?_
    refine lv_goto (tgt := 136) hx hb d_cWr_writeObject_132 (by decide) ?_
    exact w_cWr_writeObject_J136 hC Heq Ka K0 _ _ _ hP hD hS (lv_sub hl [1, 2, 3, 0, 4] rfl)
def m_cWr_writeObject_J105 (N : Nat → Nat) (x0 : Nat) (S : CS) (x1 : Option Nat) (x2 : Option Nat) (x5 : Int32) (t0 : Int32) (t1 : Option Nat) : Option ((CS × Option Nat × Option Nat × Option Nat × Int32 × Int32) ⊕ CS) := gn t1 (N 5) (fun j_1 => ob (m_cRw_write N j_1 S t0) (fun o_4 => gv x2 (N 3) (gv x1 (N 3) ((if x2 = x1 then m_cWr_writeObject_J118 N x0 o_4 x1 x2 x5 0 else m_cWr_writeObject_J118 N x0 o_4 x1 x2 x5 1)))))
theorem d_cWr_writeObject_113 : decode prog_4_method_2_code 113 = .ok (.iconst 1, 1) := by decide +kernel
theorem d_cWr_writeObject_114 : decode prog_4_method_2_code 114 = .ok (.goto 4, 3) := by decide +kernel
set_option maxHeartbeats 4000000 in
set_option maxRecDepth 100000 in
theorem w_cWr_writeObject_J105 {p : Program} {l : Launch} {e : Env} {s : State} {m : MethodId} {args : Array Value} {below : List Frame} {meth : Method} {c : Code} {A : Nat → Prop} {D : va_G} {ad : Nat → Nat → Nat} {cc : Nat → ClassId} {sad sav : Nat → Nat} {Q : State → Prop} (hC : MCc sad sav "JoinedTrees$JsonWriter" prog_4_method_2_code 8 (some (.object "JoinedTrees$Row")) p s m args meth c A D cc) {N : Nat → Nat} {x0 : Nat} {S : CS} {x1 : Option Nat} {x2 : Option Nat} {x5 : Int32} {t0 : Int32} {t1 : Option Nat} {o : ((CS × Option Nat × Option Nat × Option Nat × Int32 × Int32) ⊕ CS)} (Heq : m_cWr_writeObject_J105 N x0 S x1 x2 x5 t0 t1 = some o) (Ka : ∀ b : CS × Option Nat × Option Nat × Option Nat × Int32 × Int32, o = .inl b → ∀ (H : Heap) (locs : List Loc) (ls : Array Slot), va_P D cls (cw ad cc N b.1) H → va_D A (cw ad cc N b.1) → va_S A s.heap H locs → lv_has ls 8 [(0, .ref (ad 2 x0)), (1, rv ad 3 b.2.1), (2, rv ad 3 b.2.2.1), (3, rv ad 7 b.2.2.2.1), (4, .int b.2.2.2.2.1), (5, .int b.2.2.2.2.2)] → W p l e ({ frames := 6, cells := 0, slots := 0, locals := 154 }) s m args below meth c H locs 0 0 Q (F0 m 40 ls [])) (K0 : ∀ b : CS, o = .inr b → ∀ (H : Heap) (locs : List Loc) (ls : Array Slot), va_P D cls (cw ad cc N b) H → va_D A (cw ad cc N b) → va_S A s.heap H locs → lv_has ls 8 [(0, .ref (ad 2 x0))] → W p l e ({ frames := 6, cells := 0, slots := 0, locals := 154 }) s m args below meth c H locs 0 0 Q (F0 m 248 ls [])) : ∀ (H : Heap) (locs : List Loc) (ls : Array Slot), va_P D cls (cw ad cc N S) H → va_D A (cw ad cc N S) → va_S A s.heap H locs → lv_has ls 8 [(0, .ref (ad 2 x0)), (1, rv ad 3 x1), (2, rv ad 3 x2), (5, .int x5)] → W p l e ({ frames := 6, cells := 0, slots := 0, locals := 154 }) s m args below meth c H locs 0 0 Q (F0 m 105 ls [.int t0, rv ad 5 t1]) := by
  intro H locs ls hP hD hS hl
  obtain ⟨hx, hb, hr, hml, hown, hts, hK, hA, hev, hE, hN, hNS⟩ := id hC
  unfold m_cWr_writeObject_J105 at Heq
  obtain ⟨j_1, hj_2, hl_3, Heq⟩ := gn_some Heq
  refine w_s (st' := [.int t0, .ref (ad 5 j_1)]) (congrArg (fun z9 : Option Nat => [.int t0, rv ad 5 z9]) hj_2) ?_
  obtain ⟨o_4, h_5, Heq⟩ := ob_some Heq
  have hFc := fr_all hD hS hA
  refine va_callv (va_runV (As := [.int t0]) (rest := []) ⟨hx, hb, hml, hown, hts⟩ (g_cRw_write l D H.size (ad := ad) (cc := cc) (sad := sad) (sav := sav) h_5) (cw_v 1 hts kw_549 kw_1232 kw_547 kw_548 kw_4 rfl rfl (by decide +kernel) ⟨Nat.le_of_ble_eq_true rfl, Nat.le_of_ble_eq_true rfl⟩) ⟨c_blind, va_recv hK hP (ci := 5) (q0 := cPos N 5 j_1) rfl (cw_obj (k := 5) (by decide) hl_3), fun U hU hW => c_pre hU hW hP hK hD hev hE hN hNS hS hFc⟩ rfl rfl hl.1 rfl (lv_room (Nat.le_of_ble_eq_true rfl)) d_cWr_writeObject_105 ⟨Nat.le_of_ble_eq_true rfl, Nat.le_of_ble_eq_true rfl⟩) hS (fun q _ h => hFc q h) hFc (fun u t H1 locs ht hvm hw hB hz1 hk1 hS => ?_)
  obtain ⟨hP, -, hD1⟩ := hB
  rw [ht] at hP
  have hD := hD1.weaken (fun _ q _ h => hFc q.1 h)
  generalize H1 = H at hP hS ⊢
  refine W.cs (cells' := 0) (slots' := 0) rfl rfl ?_
  refine tx_aload_n (x := x2.map (ad 3)) hx hb d_cWr_writeObject_108 rfl (lv_at hl 2 rfl) ?_
  refine w_v (y := rv ad 3 x2) rfl ?_
  refine tx_aload_n (x := x1.map (ad 3)) hx hb d_cWr_writeObject_109 rfl (lv_at hl 1 rfl) ?_
  refine w_v (y := rv ad 3 x1) rfl ?_
  obtain ⟨hv_6, Heq⟩ := gv_some Heq
  obtain ⟨hv_7, Heq⟩ := gv_some Heq
  have ec_8 := rv_eq hD (k := 3) (by decide) (x := x2) (y := x1) hv_6 hv_7
  refine lv_acmp_eq (rx := x2.map (ad 3)) (ry := x1.map (ad 3)) (tgt := 117) hx hb d_cWr_writeObject_110 (by decide) (fun c_8 => ?_) (fun c_8 => ?_)
  · replace Heq := (if_pos (ec_8.mp c_8)).symm.trans Heq
    refine lv_iconst (v := 0) hx hb d_cWr_writeObject_117 (by decide) ?_
    exact w_cWr_writeObject_J118 hC Heq Ka K0 _ _ _ hP hD hS (lv_sub hl [0, 1, 2, 3] rfl)
  · replace Heq := (if_neg (fun q9 => c_8 (ec_8.mpr q9))).symm.trans Heq
    refine lv_iconst (v := 1) hx hb d_cWr_writeObject_113 (by decide) ?_
    refine lv_goto (tgt := 118) hx hb d_cWr_writeObject_114 (by decide) ?_
    exact w_cWr_writeObject_J118 hC Heq Ka K0 _ _ _ hP hD hS (lv_sub hl [0, 1, 2, 3] rfl)
def m_cWr_writeObject_J241 (N : Nat → Nat) (x0 : Nat) (S : CS) (x1 : Option Nat) (x2 : Option Nat) (x4 : Int32) (x5 : Int32) (t0 : Option Nat) : Option ((CS × Option Nat × Option Nat × Option Nat × Int32 × Int32) ⊕ CS) := m_cWr_writeObject_J242 N x0 S x1 x2 t0 x4 x5
theorem d_cWr_writeObject_98 : decode prog_4_method_2_code 98 = .ok (.bipush 125, 2) := by decide +kernel
theorem d_cWr_writeObject_100 : decode prog_4_method_2_code 100 = .ok (.goto 5, 3) := by decide +kernel
theorem d_cWr_writeObject_154 : decode prog_4_method_2_code 154 = .ok (.aload 6, 2) := by decide +kernel
theorem d_cWr_writeObject_156 : decode prog_4_method_2_code 156 = .ok (.ifnonnull 11, 3) := by decide +kernel
theorem d_cWr_writeObject_159 : decode prog_4_method_2_code 159 = .ok (.aload_n 3, 1) := by decide +kernel
theorem d_cWr_writeObject_160 : decode prog_4_method_2_code 160 = .ok (.getfield 58, 3) := by decide +kernel
theorem d_cWr_writeObject_163 : decode prog_4_method_2_code 163 = .ok (.astore_n 3, 1) := by decide +kernel
theorem d_cWr_writeObject_164 : decode prog_4_method_2_code 164 = .ok (.goto 78, 3) := by decide +kernel
theorem d_cWr_writeObject_167 : decode prog_4_method_2_code 167 = .ok (.aload_n 0, 1) := by decide +kernel
theorem d_cWr_writeObject_168 : decode prog_4_method_2_code 168 = .ok (.aload 6, 2) := by decide +kernel
theorem d_cWr_writeObject_170 : decode prog_4_method_2_code 170 = .ok (.invokevirtual 67, 3) := by decide +kernel
theorem d_cWr_writeObject_173 : decode prog_4_method_2_code 173 = .ok (.aload 6, 2) := by decide +kernel
theorem d_cWr_writeObject_175 : decode prog_4_method_2_code 175 = .ok (.getfield 27, 3) := by decide +kernel
theorem d_cWr_writeObject_178 : decode prog_4_method_2_code 178 = .ok (.bipush 6, 2) := by decide +kernel
theorem d_cWr_writeObject_180 : decode prog_4_method_2_code 180 = .ok (.if_icmp .eq 13, 3) := by decide +kernel
theorem d_cWr_writeObject_193 : decode prog_4_method_2_code 193 = .ok (.iconst 1, 1) := by decide +kernel
theorem d_cWr_writeObject_194 : decode prog_4_method_2_code 194 = .ok (.goto 4, 3) := by decide +kernel
theorem d_cWr_writeObject_198 : decode prog_4_method_2_code 198 = .ok (.istore 7, 2) := by decide +kernel
theorem d_cWr_writeObject_200 : decode prog_4_method_2_code 200 = .ok (.iload 7, 2) := by decide +kernel
theorem d_cWr_writeObject_202 : decode prog_4_method_2_code 202 = .ok (.ifCond .ne 9, 3) := by decide +kernel
theorem d_cWr_writeObject_211 : decode prog_4_method_2_code 211 = .ok (.iload 7, 2) := by decide +kernel
theorem d_cWr_writeObject_213 : decode prog_4_method_2_code 213 = .ok (.ifCond .eq 8, 3) := by decide +kernel
theorem d_cWr_writeObject_221 : decode prog_4_method_2_code 221 = .ok (.aload_n 2, 1) := by decide +kernel
theorem d_cWr_writeObject_222 : decode prog_4_method_2_code 222 = .ok (.astore_n 2, 1) := by decide +kernel
theorem d_cWr_writeObject_223 : decode prog_4_method_2_code 223 = .ok (.iload 7, 2) := by decide +kernel
theorem d_cWr_writeObject_225 : decode prog_4_method_2_code 225 = .ok (.ifCond .eq 12, 3) := by decide +kernel
theorem d_cWr_writeObject_237 : decode prog_4_method_2_code 237 = .ok (.aload_n 3, 1) := by decide +kernel
theorem d_cWr_writeObject_238 : decode prog_4_method_2_code 238 = .ok (.getfield 58, 3) := by decide +kernel
theorem d_cWr_writeObject_241 : decode prog_4_method_2_code 241 = .ok (.astore_n 3, 1) := by decide +kernel
set_option maxHeartbeats 4000000 in
set_option maxRecDepth 100000 in
theorem w_cWr_writeObject_J241 {p : Program} {l : Launch} {e : Env} {s : State} {m : MethodId} {args : Array Value} {below : List Frame} {meth : Method} {c : Code} {A : Nat → Prop} {D : va_G} {ad : Nat → Nat → Nat} {cc : Nat → ClassId} {sad sav : Nat → Nat} {Q : State → Prop} (hC : MCc sad sav "JoinedTrees$JsonWriter" prog_4_method_2_code 8 (some (.object "JoinedTrees$Row")) p s m args meth c A D cc) {N : Nat → Nat} {x0 : Nat} {S : CS} {x1 : Option Nat} {x2 : Option Nat} {x4 : Int32} {x5 : Int32} {t0 : Option Nat} {o : ((CS × Option Nat × Option Nat × Option Nat × Int32 × Int32) ⊕ CS)} (Heq : m_cWr_writeObject_J241 N x0 S x1 x2 x4 x5 t0 = some o) (Ka : ∀ b : CS × Option Nat × Option Nat × Option Nat × Int32 × Int32, o = .inl b → ∀ (H : Heap) (locs : List Loc) (ls : Array Slot), va_P D cls (cw ad cc N b.1) H → va_D A (cw ad cc N b.1) → va_S A s.heap H locs → lv_has ls 8 [(0, .ref (ad 2 x0)), (1, rv ad 3 b.2.1), (2, rv ad 3 b.2.2.1), (3, rv ad 7 b.2.2.2.1), (4, .int b.2.2.2.2.1), (5, .int b.2.2.2.2.2)] → W p l e ({ frames := 6, cells := 0, slots := 0, locals := 154 }) s m args below meth c H locs 0 0 Q (F0 m 40 ls [])) (K0 : ∀ b : CS, o = .inr b → ∀ (H : Heap) (locs : List Loc) (ls : Array Slot), va_P D cls (cw ad cc N b) H → va_D A (cw ad cc N b) → va_S A s.heap H locs → lv_has ls 8 [(0, .ref (ad 2 x0))] → W p l e ({ frames := 6, cells := 0, slots := 0, locals := 154 }) s m args below meth c H locs 0 0 Q (F0 m 248 ls [])) : ∀ (H : Heap) (locs : List Loc) (ls : Array Slot), va_P D cls (cw ad cc N S) H → va_D A (cw ad cc N S) → va_S A s.heap H locs → lv_has ls 8 [(0, .ref (ad 2 x0)), (1, rv ad 3 x1), (2, rv ad 3 x2), (4, .int x4), (5, .int x5)] → W p l e ({ frames := 6, cells := 0, slots := 0, locals := 154 }) s m args below meth c H locs 0 0 Q (F0 m 241 ls [rv ad 7 t0]) := by
  intro H locs ls hP hD hS hl
  obtain ⟨hx, hb, hr, hml, hown, hts, hK, hA, hev, hE, hN, hNS⟩ := id hC
  unfold m_cWr_writeObject_J241 at Heq
  refine tx_astore_n (i := 3) (x := t0.map (ad 7)) (lv' := [(3, rv ad 7 t0), (0, .ref (ad 2 x0)), (1, rv ad 3 x1), (2, rv ad 3 x2), (4, .int x4), (5, .int x5)]) hx hb d_cWr_writeObject_241 rfl hl (by decide) (by simp [rv, rf_cat]) (fun ls hl => ?_)
  exact w_cWr_writeObject_J242 hC Heq Ka K0 _ _ _ hP hD hS (lv_sub hl [1, 2, 3, 0, 4, 5] rfl)
def m_cWr_writeObject_J222 (N : Nat → Nat) (x0 : Nat) (S : CS) (x1 : Option Nat) (x3 : Option Nat) (x4 : Int32) (x5 : Int32) (x6 : Option Nat) (x7 : Int32) (t0 : Option Nat) : Option ((CS × Option Nat × Option Nat × Option Nat × Int32 × Int32) ⊕ CS) := (if x7 = 0 then gn x3 (N 7) (fun j_2 => m_cWr_writeObject_J241 N x0 S x1 t0 x4 x5 (S.r 7 2 j_2)) else gn x6 (N 3) (fun j_5 => gl x0 (N 2) (ob (m_cWr_enter N x0 S j_5) (fun o_8 => m_cWr_writeObject_J241 N x0 o_8.1 x1 t0 x4 x5 o_8.2))))
theorem d_cWr_writeObject_228 : decode prog_4_method_2_code 228 = .ok (.aload_n 0, 1) := by decide +kernel
theorem d_cWr_writeObject_229 : decode prog_4_method_2_code 229 = .ok (.aload 6, 2) := by decide +kernel
theorem d_cWr_writeObject_231 : decode prog_4_method_2_code 231 = .ok (.invokevirtual 37, 3) := by decide +kernel
theorem d_cWr_writeObject_234 : decode prog_4_method_2_code 234 = .ok (.goto 7, 3) := by decide +kernel
set_option maxHeartbeats 4000000 in
set_option maxRecDepth 100000 in
theorem w_cWr_writeObject_J222 {p : Program} {l : Launch} {e : Env} {s : State} {m : MethodId} {args : Array Value} {below : List Frame} {meth : Method} {c : Code} {A : Nat → Prop} {D : va_G} {ad : Nat → Nat → Nat} {cc : Nat → ClassId} {sad sav : Nat → Nat} {Q : State → Prop} (hC : MCc sad sav "JoinedTrees$JsonWriter" prog_4_method_2_code 8 (some (.object "JoinedTrees$Row")) p s m args meth c A D cc) {N : Nat → Nat} {x0 : Nat} {S : CS} {x1 : Option Nat} {x3 : Option Nat} {x4 : Int32} {x5 : Int32} {x6 : Option Nat} {x7 : Int32} {t0 : Option Nat} {o : ((CS × Option Nat × Option Nat × Option Nat × Int32 × Int32) ⊕ CS)} (Heq : m_cWr_writeObject_J222 N x0 S x1 x3 x4 x5 x6 x7 t0 = some o) (Ka : ∀ b : CS × Option Nat × Option Nat × Option Nat × Int32 × Int32, o = .inl b → ∀ (H : Heap) (locs : List Loc) (ls : Array Slot), va_P D cls (cw ad cc N b.1) H → va_D A (cw ad cc N b.1) → va_S A s.heap H locs → lv_has ls 8 [(0, .ref (ad 2 x0)), (1, rv ad 3 b.2.1), (2, rv ad 3 b.2.2.1), (3, rv ad 7 b.2.2.2.1), (4, .int b.2.2.2.2.1), (5, .int b.2.2.2.2.2)] → W p l e ({ frames := 6, cells := 0, slots := 0, locals := 154 }) s m args below meth c H locs 0 0 Q (F0 m 40 ls [])) (K0 : ∀ b : CS, o = .inr b → ∀ (H : Heap) (locs : List Loc) (ls : Array Slot), va_P D cls (cw ad cc N b) H → va_D A (cw ad cc N b) → va_S A s.heap H locs → lv_has ls 8 [(0, .ref (ad 2 x0))] → W p l e ({ frames := 6, cells := 0, slots := 0, locals := 154 }) s m args below meth c H locs 0 0 Q (F0 m 248 ls [])) : ∀ (H : Heap) (locs : List Loc) (ls : Array Slot), va_P D cls (cw ad cc N S) H → va_D A (cw ad cc N S) → va_S A s.heap H locs → lv_has ls 8 [(0, .ref (ad 2 x0)), (1, rv ad 3 x1), (3, rv ad 7 x3), (4, .int x4), (5, .int x5), (6, rv ad 3 x6), (7, .int x7)] → W p l e ({ frames := 6, cells := 0, slots := 0, locals := 154 }) s m args below meth c H locs 0 0 Q (F0 m 222 ls [rv ad 3 t0]) := by
  intro H locs ls hP hD hS hl
  obtain ⟨hx, hb, hr, hml, hown, hts, hK, hA, hev, hE, hN, hNS⟩ := id hC
  unfold m_cWr_writeObject_J222 at Heq
  refine tx_astore_n (i := 2) (x := t0.map (ad 3)) (lv' := [(2, rv ad 3 t0), (0, .ref (ad 2 x0)), (1, rv ad 3 x1), (3, rv ad 7 x3), (4, .int x4), (5, .int x5), (6, rv ad 3 x6), (7, .int x7)]) hx hb d_cWr_writeObject_222 rfl hl (by decide) (by simp [rv, rf_cat]) (fun ls hl => ?_)
  refine lv_iload hx hb d_cWr_writeObject_223 (lv_at hl 7 rfl) ?_
  refine lv_if_eq (tgt := 237) hx hb d_cWr_writeObject_225 (by decide) (fun c_1 => ?_) (fun c_1 => ?_)
  · replace Heq := (if_pos c_1).symm.trans Heq
    refine tx_aload_n (x := x3.map (ad 7)) hx hb d_cWr_writeObject_237 rfl (lv_at hl 3 rfl) ?_
    refine w_v (y := rv ad 7 x3) rfl ?_
    obtain ⟨j_2, hj_3, hl_4, Heq⟩ := gn_some Heq
    refine w_s (st' := [.ref (ad 7 j_2)]) (congrArg (fun z9 : Option Nat => [rv ad 7 z9]) hj_3) ?_
    refine va_get (D := D) (ci := 7) (v := rv ad 7 (S.r 7 2 j_2)) (C := R_Sp) (T := F_Sp) (N := 3) hx hb hts i_Sp hown hK hP (cPos N 7 j_2) (cw_obj (k := 7) (by decide) hl_4) rfl 2 (by decide) (hts _ kw_746) (fun _ h9 => h9) rfl d_cWr_writeObject_238 ?_
    exact w_cWr_writeObject_J241 hC Heq Ka K0 _ _ _ hP hD hS (lv_sub hl [1, 2, 0, 4, 5] rfl)
  · replace Heq := (if_neg c_1).symm.trans Heq
    refine lv_aload_n hx hb d_cWr_writeObject_228 rfl (lv_at hl 1 rfl) ?_
    refine tx_aload (x := x6.map (ad 3)) hx hb d_cWr_writeObject_229 (lv_at hl 6 rfl) ?_
    refine w_v (y := rv ad 3 x6) rfl ?_
    obtain ⟨j_5, hj_6, hl_7, Heq⟩ := gn_some Heq
    refine w_s (st' := [.ref (ad 3 j_5), .ref (ad 2 x0)]) (congrArg (fun z9 : Option Nat => [rv ad 3 z9, .ref (ad 2 x0)]) hj_6) ?_
    obtain ⟨hl_x0_2, Heq⟩ := gl_some Heq
    obtain ⟨o_8, h_9, Heq⟩ := ob_some Heq
    have hFc := fr_all hD hS hA
    refine va_callq (va_runV (As := [.ref (ad 3 j_5)]) (rest := []) ⟨hx, hb, hml, hown, hts⟩ (g_cWr_enter l D H.size (ad := ad) (cc := cc) (sad := sad) (sav := sav) h_9) (cw_v 1 hts kw_1262 kw_1259 kw_1260 kw_1261 kw_9 rfl rfl (by decide +kernel) ⟨Nat.le_of_ble_eq_true rfl, Nat.le_of_ble_eq_true rfl⟩) ⟨c_blind, va_recv hK hP (ci := 2) (q0 := cPos N 2 x0) rfl (cw_obj (k := 2) (by decide) hl_x0_2), fun U hU hW => c_pre hU hW hP hK hD hev hE hN hNS hS hFc⟩ rfl rfl hl.1 rfl (lv_room (Nat.le_of_ble_eq_true rfl)) d_cWr_writeObject_231 ⟨Nat.le_of_ble_eq_true rfl, Nat.le_of_ble_eq_true rfl⟩) hS (fun q _ h => hFc q h) hFc (fun rz u t H1 locs ht hvm hw hB hz1 hk1 hS => ?_)
    obtain ⟨hP, -, hD1⟩ := hB
    rw [ht] at hP
    have hD := hD1.weaken (fun _ q _ h => hFc q.1 h)
    generalize H1 = H at hP hS ⊢
    refine W.cs (cells' := 0) (slots' := 0) rfl rfl ?_
    subst hw
    refine w_v (y := rv ad 7 o_8.2) rfl ?_
    refine lv_goto (tgt := 241) hx hb d_cWr_writeObject_234 (by decide) ?_
    exact w_cWr_writeObject_J241 hC Heq Ka K0 _ _ _ hP hD hS (lv_sub hl [1, 2, 0, 4, 5] rfl)
def m_cWr_writeObject_J211 (N : Nat → Nat) (x0 : Nat) (S : CS) (x1 : Option Nat) (x2 : Option Nat) (x3 : Option Nat) (x4 : Int32) (x5 : Int32) (x6 : Option Nat) (x7 : Int32) : Option ((CS × Option Nat × Option Nat × Option Nat × Int32 × Int32) ⊕ CS) := (if x7 = 0 then m_cWr_writeObject_J222 N x0 S x1 x3 x4 x5 x6 x7 x2 else m_cWr_writeObject_J222 N x0 S x1 x3 x4 x5 x6 x7 x6)
theorem d_cWr_writeObject_216 : decode prog_4_method_2_code 216 = .ok (.aload 6, 2) := by decide +kernel
theorem d_cWr_writeObject_218 : decode prog_4_method_2_code 218 = .ok (.goto 4, 3) := by decide +kernel
set_option maxHeartbeats 4000000 in
set_option maxRecDepth 100000 in
theorem w_cWr_writeObject_J211 {p : Program} {l : Launch} {e : Env} {s : State} {m : MethodId} {args : Array Value} {below : List Frame} {meth : Method} {c : Code} {A : Nat → Prop} {D : va_G} {ad : Nat → Nat → Nat} {cc : Nat → ClassId} {sad sav : Nat → Nat} {Q : State → Prop} (hC : MCc sad sav "JoinedTrees$JsonWriter" prog_4_method_2_code 8 (some (.object "JoinedTrees$Row")) p s m args meth c A D cc) {N : Nat → Nat} {x0 : Nat} {S : CS} {x1 : Option Nat} {x2 : Option Nat} {x3 : Option Nat} {x4 : Int32} {x5 : Int32} {x6 : Option Nat} {x7 : Int32} {o : ((CS × Option Nat × Option Nat × Option Nat × Int32 × Int32) ⊕ CS)} (Heq : m_cWr_writeObject_J211 N x0 S x1 x2 x3 x4 x5 x6 x7 = some o) (Ka : ∀ b : CS × Option Nat × Option Nat × Option Nat × Int32 × Int32, o = .inl b → ∀ (H : Heap) (locs : List Loc) (ls : Array Slot), va_P D cls (cw ad cc N b.1) H → va_D A (cw ad cc N b.1) → va_S A s.heap H locs → lv_has ls 8 [(0, .ref (ad 2 x0)), (1, rv ad 3 b.2.1), (2, rv ad 3 b.2.2.1), (3, rv ad 7 b.2.2.2.1), (4, .int b.2.2.2.2.1), (5, .int b.2.2.2.2.2)] → W p l e ({ frames := 6, cells := 0, slots := 0, locals := 154 }) s m args below meth c H locs 0 0 Q (F0 m 40 ls [])) (K0 : ∀ b : CS, o = .inr b → ∀ (H : Heap) (locs : List Loc) (ls : Array Slot), va_P D cls (cw ad cc N b) H → va_D A (cw ad cc N b) → va_S A s.heap H locs → lv_has ls 8 [(0, .ref (ad 2 x0))] → W p l e ({ frames := 6, cells := 0, slots := 0, locals := 154 }) s m args below meth c H locs 0 0 Q (F0 m 248 ls [])) : ∀ (H : Heap) (locs : List Loc) (ls : Array Slot), va_P D cls (cw ad cc N S) H → va_D A (cw ad cc N S) → va_S A s.heap H locs → lv_has ls 8 [(0, .ref (ad 2 x0)), (1, rv ad 3 x1), (2, rv ad 3 x2), (3, rv ad 7 x3), (4, .int x4), (5, .int x5), (6, rv ad 3 x6), (7, .int x7)] → W p l e ({ frames := 6, cells := 0, slots := 0, locals := 154 }) s m args below meth c H locs 0 0 Q (F0 m 211 ls []) := by
  intro H locs ls hP hD hS hl
  obtain ⟨hx, hb, hr, hml, hown, hts, hK, hA, hev, hE, hN, hNS⟩ := id hC
  unfold m_cWr_writeObject_J211 at Heq
  refine lv_iload hx hb d_cWr_writeObject_211 (lv_at hl 7 rfl) ?_
  refine lv_if_eq (tgt := 221) hx hb d_cWr_writeObject_213 (by decide) (fun c_1 => ?_) (fun c_1 => ?_)
  · replace Heq := (if_pos c_1).symm.trans Heq
    refine tx_aload_n (x := x2.map (ad 3)) hx hb d_cWr_writeObject_221 rfl (lv_at hl 2 rfl) ?_
    refine w_v (y := rv ad 3 x2) rfl ?_
    exact w_cWr_writeObject_J222 hC Heq Ka K0 _ _ _ hP hD hS (lv_sub hl [0, 1, 3, 4, 5, 6, 7] rfl)
  · replace Heq := (if_neg c_1).symm.trans Heq
    refine tx_aload (x := x6.map (ad 3)) hx hb d_cWr_writeObject_216 (lv_at hl 6 rfl) ?_
    refine w_v (y := rv ad 3 x6) rfl ?_
    refine lv_goto (tgt := 222) hx hb d_cWr_writeObject_218 (by decide) ?_
    exact w_cWr_writeObject_J222 hC Heq Ka K0 _ _ _ hP hD hS (lv_sub hl [0, 1, 3, 4, 5, 6, 7] rfl)
def m_cWr_writeObject_J198 (N : Nat → Nat) (x0 : Nat) (S : CS) (x1 : Option Nat) (x2 : Option Nat) (x3 : Option Nat) (x4 : Int32) (x5 : Int32) (x6 : Option Nat) (t0 : Int32) : Option ((CS × Option Nat × Option Nat × Option Nat × Int32 × Int32) ⊕ CS) := (if t0 = 0 then gn x6 (N 3) (fun j_2 => gl x0 (N 2) (ob (m_cWr_writePlain N x0 S j_2) (fun o_5 => m_cWr_writeObject_J211 N x0 o_5 x1 x2 x3 x4 x5 x6 t0))) else m_cWr_writeObject_J211 N x0 S x1 x2 x3 x4 x5 x6 t0)
theorem d_cWr_writeObject_205 : decode prog_4_method_2_code 205 = .ok (.aload_n 0, 1) := by decide +kernel
theorem d_cWr_writeObject_206 : decode prog_4_method_2_code 206 = .ok (.aload 6, 2) := by decide +kernel
theorem d_cWr_writeObject_208 : decode prog_4_method_2_code 208 = .ok (.invokevirtual 33, 3) := by decide +kernel
set_option maxHeartbeats 4000000 in
set_option maxRecDepth 100000 in
theorem w_cWr_writeObject_J198 {p : Program} {l : Launch} {e : Env} {s : State} {m : MethodId} {args : Array Value} {below : List Frame} {meth : Method} {c : Code} {A : Nat → Prop} {D : va_G} {ad : Nat → Nat → Nat} {cc : Nat → ClassId} {sad sav : Nat → Nat} {Q : State → Prop} (hC : MCc sad sav "JoinedTrees$JsonWriter" prog_4_method_2_code 8 (some (.object "JoinedTrees$Row")) p s m args meth c A D cc) {N : Nat → Nat} {x0 : Nat} {S : CS} {x1 : Option Nat} {x2 : Option Nat} {x3 : Option Nat} {x4 : Int32} {x5 : Int32} {x6 : Option Nat} {t0 : Int32} {o : ((CS × Option Nat × Option Nat × Option Nat × Int32 × Int32) ⊕ CS)} (Heq : m_cWr_writeObject_J198 N x0 S x1 x2 x3 x4 x5 x6 t0 = some o) (Ka : ∀ b : CS × Option Nat × Option Nat × Option Nat × Int32 × Int32, o = .inl b → ∀ (H : Heap) (locs : List Loc) (ls : Array Slot), va_P D cls (cw ad cc N b.1) H → va_D A (cw ad cc N b.1) → va_S A s.heap H locs → lv_has ls 8 [(0, .ref (ad 2 x0)), (1, rv ad 3 b.2.1), (2, rv ad 3 b.2.2.1), (3, rv ad 7 b.2.2.2.1), (4, .int b.2.2.2.2.1), (5, .int b.2.2.2.2.2)] → W p l e ({ frames := 6, cells := 0, slots := 0, locals := 154 }) s m args below meth c H locs 0 0 Q (F0 m 40 ls [])) (K0 : ∀ b : CS, o = .inr b → ∀ (H : Heap) (locs : List Loc) (ls : Array Slot), va_P D cls (cw ad cc N b) H → va_D A (cw ad cc N b) → va_S A s.heap H locs → lv_has ls 8 [(0, .ref (ad 2 x0))] → W p l e ({ frames := 6, cells := 0, slots := 0, locals := 154 }) s m args below meth c H locs 0 0 Q (F0 m 248 ls [])) : ∀ (H : Heap) (locs : List Loc) (ls : Array Slot), va_P D cls (cw ad cc N S) H → va_D A (cw ad cc N S) → va_S A s.heap H locs → lv_has ls 8 [(0, .ref (ad 2 x0)), (1, rv ad 3 x1), (2, rv ad 3 x2), (3, rv ad 7 x3), (4, .int x4), (5, .int x5), (6, rv ad 3 x6)] → W p l e ({ frames := 6, cells := 0, slots := 0, locals := 154 }) s m args below meth c H locs 0 0 Q (F0 m 198 ls [.int t0]) := by
  intro H locs ls hP hD hS hl
  obtain ⟨hx, hb, hr, hml, hown, hts, hK, hA, hev, hE, hN, hNS⟩ := id hC
  unfold m_cWr_writeObject_J198 at Heq
  refine lv_istore (lv' := [(7, .int t0), (0, .ref (ad 2 x0)), (1, rv ad 3 x1), (2, rv ad 3 x2), (3, rv ad 7 x3), (4, .int x4), (5, .int x5), (6, rv ad 3 x6)]) hx hb d_cWr_writeObject_198 hl (by decide) (by simp [rv, rf_cat]) (fun ls hl => ?_)
  refine lv_iload hx hb d_cWr_writeObject_200 (lv_at hl 0 rfl) ?_
  refine lv_if_ne (tgt := 211) hx hb d_cWr_writeObject_202 (by decide) (fun c_1 => ?_) (fun c_1 => ?_)
  · replace Heq := (if_neg c_1).symm.trans Heq
    exact w_cWr_writeObject_J211 hC Heq Ka K0 _ _ _ hP hD hS (lv_sub hl [1, 2, 3, 4, 5, 6, 7, 0] rfl)
  · replace Heq := (if_pos c_1).symm.trans Heq
    refine lv_aload_n hx hb d_cWr_writeObject_205 rfl (lv_at hl 1 rfl) ?_
    refine tx_aload (x := x6.map (ad 3)) hx hb d_cWr_writeObject_206 (lv_at hl 7 rfl) ?_
    refine w_v (y := rv ad 3 x6) rfl ?_
    obtain ⟨j_2, hj_3, hl_4, Heq⟩ := gn_some Heq
    refine w_s (st' := [.ref (ad 3 j_2), .ref (ad 2 x0)]) (congrArg (fun z9 : Option Nat => [rv ad 3 z9, .ref (ad 2 x0)]) hj_3) ?_
    obtain ⟨hl_x0_2, Heq⟩ := gl_some Heq
    obtain ⟨o_5, h_6, Heq⟩ := ob_some Heq
    have hFc := fr_all hD hS hA
    refine va_callv (va_runV (As := [.ref (ad 3 j_2)]) (rest := []) ⟨hx, hb, hml, hown, hts⟩ (g_cWr_writePlain l D H.size (ad := ad) (cc := cc) (sad := sad) (sav := sav) h_6) (cw_v 1 hts kw_1224 kw_1221 kw_1222 kw_1223 kw_9 rfl rfl (by decide +kernel) ⟨Nat.le_of_ble_eq_true rfl, Nat.le_of_ble_eq_true rfl⟩) ⟨c_blind, va_recv hK hP (ci := 2) (q0 := cPos N 2 x0) rfl (cw_obj (k := 2) (by decide) hl_x0_2), fun U hU hW => c_pre hU hW hP hK hD hev hE hN hNS hS hFc⟩ rfl rfl hl.1 rfl (lv_room (Nat.le_of_ble_eq_true rfl)) d_cWr_writeObject_208 ⟨Nat.le_of_ble_eq_true rfl, Nat.le_of_ble_eq_true rfl⟩) hS (fun q _ h => hFc q h) hFc (fun u t H1 locs ht hvm hw hB hz1 hk1 hS => ?_)
    obtain ⟨hP, -, hD1⟩ := hB
    rw [ht] at hP
    have hD := hD1.weaken (fun _ q _ h => hFc q.1 h)
    generalize H1 = H at hP hS ⊢
    refine W.cs (cells' := 0) (slots' := 0) rfl rfl ?_
    exact w_cWr_writeObject_J211 hC Heq Ka K0 _ _ _ hP hD hS (lv_sub hl [1, 2, 3, 4, 5, 6, 7, 0] rfl)
def m_cWr_writeObject_J193 (N : Nat → Nat) (x0 : Nat) (S : CS) (x1 : Option Nat) (x2 : Option Nat) (x3 : Option Nat) (x4 : Int32) (x5 : Int32) (x6 : Option Nat) : Option ((CS × Option Nat × Option Nat × Option Nat × Int32 × Int32) ⊕ CS) := m_cWr_writeObject_J198 N x0 S x1 x2 x3 x4 x5 x6 1
set_option maxHeartbeats 4000000 in
set_option maxRecDepth 100000 in
theorem w_cWr_writeObject_J193 {p : Program} {l : Launch} {e : Env} {s : State} {m : MethodId} {args : Array Value} {below : List Frame} {meth : Method} {c : Code} {A : Nat → Prop} {D : va_G} {ad : Nat → Nat → Nat} {cc : Nat → ClassId} {sad sav : Nat → Nat} {Q : State → Prop} (hC : MCc sad sav "JoinedTrees$JsonWriter" prog_4_method_2_code 8 (some (.object "JoinedTrees$Row")) p s m args meth c A D cc) {N : Nat → Nat} {x0 : Nat} {S : CS} {x1 : Option Nat} {x2 : Option Nat} {x3 : Option Nat} {x4 : Int32} {x5 : Int32} {x6 : Option Nat} {o : ((CS × Option Nat × Option Nat × Option Nat × Int32 × Int32) ⊕ CS)} (Heq : m_cWr_writeObject_J193 N x0 S x1 x2 x3 x4 x5 x6 = some o) (Ka : ∀ b : CS × Option Nat × Option Nat × Option Nat × Int32 × Int32, o = .inl b → ∀ (H : Heap) (locs : List Loc) (ls : Array Slot), va_P D cls (cw ad cc N b.1) H → va_D A (cw ad cc N b.1) → va_S A s.heap H locs → lv_has ls 8 [(0, .ref (ad 2 x0)), (1, rv ad 3 b.2.1), (2, rv ad 3 b.2.2.1), (3, rv ad 7 b.2.2.2.1), (4, .int b.2.2.2.2.1), (5, .int b.2.2.2.2.2)] → W p l e ({ frames := 6, cells := 0, slots := 0, locals := 154 }) s m args below meth c H locs 0 0 Q (F0 m 40 ls [])) (K0 : ∀ b : CS, o = .inr b → ∀ (H : Heap) (locs : List Loc) (ls : Array Slot), va_P D cls (cw ad cc N b) H → va_D A (cw ad cc N b) → va_S A s.heap H locs → lv_has ls 8 [(0, .ref (ad 2 x0))] → W p l e ({ frames := 6, cells := 0, slots := 0, locals := 154 }) s m args below meth c H locs 0 0 Q (F0 m 248 ls [])) : ∀ (H : Heap) (locs : List Loc) (ls : Array Slot), va_P D cls (cw ad cc N S) H → va_D A (cw ad cc N S) → va_S A s.heap H locs → lv_has ls 8 [(0, .ref (ad 2 x0)), (1, rv ad 3 x1), (2, rv ad 3 x2), (3, rv ad 7 x3), (4, .int x4), (5, .int x5), (6, rv ad 3 x6)] → W p l e ({ frames := 6, cells := 0, slots := 0, locals := 154 }) s m args below meth c H locs 0 0 Q (F0 m 193 ls []) := by
  intro H locs ls hP hD hS hl
  obtain ⟨hx, hb, hr, hml, hown, hts, hK, hA, hev, hE, hN, hNS⟩ := id hC
  unfold m_cWr_writeObject_J193 at Heq
  refine lv_iconst (v := 1) hx hb d_cWr_writeObject_193 (by decide) ?_
  refine lv_goto (tgt := 198) hx hb d_cWr_writeObject_194 (by decide) ?_
  exact w_cWr_writeObject_J198 hC Heq Ka K0 _ _ _ hP hD hS (lv_sub hl [0, 1, 2, 3, 4, 5, 6] rfl)
def m_cWr_writeObject_J79 (N : Nat → Nat) (x0 : Nat) (S : CS) (x1 : Option Nat) (x2 : Option Nat) (x3 : Option Nat) (x4 : Int32) (x5 : Int32) (t0 : Option Nat) : Option ((CS × Option Nat × Option Nat × Option Nat × Int32 × Int32) ⊕ CS) := on x3 (gl x0 (N 2) (gn x2 (N 3) (fun j_3 => (if S.i 3 2 j_3 = 6 then m_cWr_writeObject_J105 N x0 S x1 x2 x5 125 (S.r 2 1 x0) else m_cWr_writeObject_J105 N x0 S x1 x2 x5 93 (S.r 2 1 x0))))) (fun j_1 => on t0 (gl j_1 (N 7) (m_cWr_writeObject_J242 N x0 S x1 x2 (S.r 7 2 j_1) x4 x5)) (fun j_7 => gl j_7 (N 3) (gl x0 (N 2) (ob (m_cWr_writeBefore N x0 S j_7) (fun o_9 => (if o_9.i 3 2 j_7 = 6 then m_cWr_writeObject_J193 N x0 o_9 x1 x2 x3 x4 x5 t0 else (if o_9.i 3 2 j_7 = 7 then m_cWr_writeObject_J193 N x0 o_9 x1 x2 x3 x4 x5 t0 else m_cWr_writeObject_J198 N x0 o_9 x1 x2 x3 x4 x5 t0 0)))))))
theorem d_cWr_writeObject_183 : decode prog_4_method_2_code 183 = .ok (.aload 6, 2) := by decide +kernel
theorem d_cWr_writeObject_185 : decode prog_4_method_2_code 185 = .ok (.getfield 27, 3) := by decide +kernel
theorem d_cWr_writeObject_188 : decode prog_4_method_2_code 188 = .ok (.bipush 7, 2) := by decide +kernel
theorem d_cWr_writeObject_190 : decode prog_4_method_2_code 190 = .ok (.if_icmp .ne 7, 3) := by decide +kernel
theorem d_cWr_writeObject_197 : decode prog_4_method_2_code 197 = .ok (.iconst 0, 1) := by decide +kernel
set_option maxHeartbeats 4000000 in
set_option maxRecDepth 100000 in
theorem w_cWr_writeObject_J79 {p : Program} {l : Launch} {e : Env} {s : State} {m : MethodId} {args : Array Value} {below : List Frame} {meth : Method} {c : Code} {A : Nat → Prop} {D : va_G} {ad : Nat → Nat → Nat} {cc : Nat → ClassId} {sad sav : Nat → Nat} {Q : State → Prop} (hC : MCc sad sav "JoinedTrees$JsonWriter" prog_4_method_2_code 8 (some (.object "JoinedTrees$Row")) p s m args meth c A D cc) {N : Nat → Nat} {x0 : Nat} {S : CS} {x1 : Option Nat} {x2 : Option Nat} {x3 : Option Nat} {x4 : Int32} {x5 : Int32} {t0 : Option Nat} {o : ((CS × Option Nat × Option Nat × Option Nat × Int32 × Int32) ⊕ CS)} (Heq : m_cWr_writeObject_J79 N x0 S x1 x2 x3 x4 x5 t0 = some o) (Ka : ∀ b : CS × Option Nat × Option Nat × Option Nat × Int32 × Int32, o = .inl b → ∀ (H : Heap) (locs : List Loc) (ls : Array Slot), va_P D cls (cw ad cc N b.1) H → va_D A (cw ad cc N b.1) → va_S A s.heap H locs → lv_has ls 8 [(0, .ref (ad 2 x0)), (1, rv ad 3 b.2.1), (2, rv ad 3 b.2.2.1), (3, rv ad 7 b.2.2.2.1), (4, .int b.2.2.2.2.1), (5, .int b.2.2.2.2.2)] → W p l e ({ frames := 6, cells := 0, slots := 0, locals := 154 }) s m args below meth c H locs 0 0 Q (F0 m 40 ls [])) (K0 : ∀ b : CS, o = .inr b → ∀ (H : Heap) (locs : List Loc) (ls : Array Slot), va_P D cls (cw ad cc N b) H → va_D A (cw ad cc N b) → va_S A s.heap H locs → lv_has ls 8 [(0, .ref (ad 2 x0))] → W p l e ({ frames := 6, cells := 0, slots := 0, locals := 154 }) s m args below meth c H locs 0 0 Q (F0 m 248 ls [])) : ∀ (H : Heap) (locs : List Loc) (ls : Array Slot), va_P D cls (cw ad cc N S) H → va_D A (cw ad cc N S) → va_S A s.heap H locs → lv_has ls 8 [(0, .ref (ad 2 x0)), (1, rv ad 3 x1), (2, rv ad 3 x2), (3, rv ad 7 x3), (4, .int x4), (5, .int x5)] → W p l e ({ frames := 6, cells := 0, slots := 0, locals := 154 }) s m args below meth c H locs 0 0 Q (F0 m 79 ls [rv ad 3 t0]) := by
  intro H locs ls hP hD hS hl
  obtain ⟨hx, hb, hr, hml, hown, hts, hK, hA, hev, hE, hN, hNS⟩ := id hC
  unfold m_cWr_writeObject_J79 at Heq
  refine tx_astore (x := t0.map (ad 3)) (lv' := [(6, rv ad 3 t0), (0, .ref (ad 2 x0)), (1, rv ad 3 x1), (2, rv ad 3 x2), (3, rv ad 7 x3), (4, .int x4), (5, .int x5)]) hx hb d_cWr_writeObject_79 hl (by decide) rfl (fun ls hl => ?_)
  refine tx_aload_n (x := x3.map (ad 7)) hx hb d_cWr_writeObject_81 rfl (lv_at hl 4 rfl) ?_
  refine w_v (y := rv ad 7 x3) rfl ?_
  rcases on_some Heq with ⟨hj_2, Heq⟩ | ⟨j_1, hj_2, Heq⟩
  · refine w_s (st' := [.null]) (congrArg (fun z9 : Option Nat => [rv ad 7 z9]) hj_2) ?_
    refine lv_ifnonnullN hx hb d_cWr_writeObject_82 ?_
    refine lv_aload_n hx hb d_cWr_writeObject_85 rfl (lv_at hl 1 rfl) ?_
    obtain ⟨hl_x0_2, Heq⟩ := gl_some Heq
    refine va_get (D := D) (ci := 2) (v := rv ad 5 (S.r 2 1 x0)) (C := R_Wr) (T := F_Wr) (N := 2) hx hb hts i_Wr hown hK hP (cPos N 2 x0) (cw_obj (k := 2) (by decide) hl_x0_2) rfl 1 (by decide) (hts _ kw_386) (fun _ h9 => h9) rfl d_cWr_writeObject_86 ?_
    refine tx_aload_n (x := x2.map (ad 3)) hx hb d_cWr_writeObject_89 rfl (lv_at hl 3 rfl) ?_
    refine w_v (y := rv ad 3 x2) rfl ?_
    obtain ⟨j_3, hj_4, hl_5, Heq⟩ := gn_some Heq
    refine w_s (st' := [.ref (ad 3 j_3), rv ad 5 (S.r 2 1 x0)]) (congrArg (fun z9 : Option Nat => [rv ad 3 z9, rv ad 5 (S.r 2 1 x0)]) hj_4) ?_
    refine va_get (D := D) (ci := 3) (v := .int (S.i 3 2 j_3)) (C := R_Op) (T := F_Op) (N := 15) hx hb hts i_Op hown hK hP (cPos N 3 j_3) (cw_obj (k := 3) (by decide) hl_5) rfl 2 (by decide) (hts _ kw_60) (fun _ h9 => h9) rfl d_cWr_writeObject_90 ?_
    refine lv_bipush (v := 6) hx hb d_cWr_writeObject_93 (by decide) ?_
    refine lv_icmp_ne (tgt := 103) hx hb d_cWr_writeObject_95 (by decide) (fun c_6 => ?_) (fun c_6 => ?_)
    · replace Heq := (if_neg c_6).symm.trans Heq
      refine lv_bipush (v := 93) hx hb d_cWr_writeObject_103 (by decide) ?_
      exact w_cWr_writeObject_J105 hC Heq Ka K0 _ _ _ hP hD hS (lv_sub hl [1, 2, 3, 6] rfl)
    · replace Heq := (if_pos c_6).symm.trans Heq
      refine lv_bipush (v := 125) hx hb d_cWr_writeObject_98 (by decide) ?_
      refine lv_goto (tgt := 105) hx hb d_cWr_writeObject_100 (by decide) ?_
      exact w_cWr_writeObject_J105 hC Heq Ka K0 _ _ _ hP hD hS (lv_sub hl [1, 2, 3, 6] rfl)
  · refine w_s (st' := [.ref (ad 7 j_1)]) (congrArg (fun z9 : Option Nat => [rv ad 7 z9]) hj_2) ?_
    refine lv_ifnonnull (tgt := 154) hx hb d_cWr_writeObject_82 (by decide) ?_
    refine tx_aload (x := t0.map (ad 3)) hx hb d_cWr_writeObject_154 (lv_at hl 0 rfl) ?_
    refine w_v (y := rv ad 3 t0) rfl ?_
    rcases on_some Heq with ⟨hj_8, Heq⟩ | ⟨j_7, hj_8, Heq⟩
    · refine w_s (st' := [.null]) (congrArg (fun z9 : Option Nat => [rv ad 3 z9]) hj_8) ?_
      refine lv_ifnonnullN hx hb d_cWr_writeObject_156 ?_
      refine tx_aload_n (x := x3.map (ad 7)) hx hb d_cWr_writeObject_159 rfl (lv_at hl 4 rfl) ?_
      refine w_v (y := rv ad 7 x3) rfl ?_
      refine w_s (st' := [.ref (ad 7 j_1)]) (congrArg (fun z9 : Option Nat => [rv ad 7 z9]) hj_2) ?_
      obtain ⟨hl_j_1_7, Heq⟩ := gl_some Heq
      refine va_get (D := D) (ci := 7) (v := rv ad 7 (S.r 7 2 j_1)) (C := R_Sp) (T := F_Sp) (N := 3) hx hb hts i_Sp hown hK hP (cPos N 7 j_1) (cw_obj (k := 7) (by decide) hl_j_1_7) rfl 2 (by decide) (hts _ kw_746) (fun _ h9 => h9) rfl d_cWr_writeObject_160 ?_
      refine tx_astore_n (i := 3) (x := (S.r 7 2 j_1).map (ad 7)) (lv' := [(3, rv ad 7 (S.r 7 2 j_1)), (6, rv ad 3 t0), (0, .ref (ad 2 x0)), (1, rv ad 3 x1), (2, rv ad 3 x2), (4, .int x4), (5, .int x5)]) hx hb d_cWr_writeObject_163 rfl hl (by decide) (by simp [rv, rf_cat]) (fun ls hl => ?_)
      refine lv_goto (tgt := 242) hx hb d_cWr_writeObject_164 (by decide) ?_
      exact w_cWr_writeObject_J242 hC Heq Ka K0 _ _ _ hP hD hS (lv_sub hl [2, 3, 4, 0, 5, 6] rfl)
    · refine w_s (st' := [.ref (ad 3 j_7)]) (congrArg (fun z9 : Option Nat => [rv ad 3 z9]) hj_8) ?_
      refine lv_ifnonnull (tgt := 167) hx hb d_cWr_writeObject_156 (by decide) ?_
      refine lv_aload_n hx hb d_cWr_writeObject_167 rfl (lv_at hl 1 rfl) ?_
      refine tx_aload (x := t0.map (ad 3)) hx hb d_cWr_writeObject_168 (lv_at hl 0 rfl) ?_
      refine w_v (y := rv ad 3 t0) rfl ?_
      refine w_s (st' := [.ref (ad 3 j_7), .ref (ad 2 x0)]) (congrArg (fun z9 : Option Nat => [rv ad 3 z9, .ref (ad 2 x0)]) hj_8) ?_
      obtain ⟨hl_j_7_3, Heq⟩ := gl_some Heq
      obtain ⟨hl_x0_2, Heq⟩ := gl_some Heq
      obtain ⟨o_9, h_10, Heq⟩ := ob_some Heq
      have hFc := fr_all hD hS hA
      refine va_callv (va_runV (As := [.ref (ad 3 j_7)]) (rest := []) ⟨hx, hb, hml, hown, hts⟩ (g_cWr_writeBefore l D H.size (ad := ad) (cc := cc) (sad := sad) (sav := sav) h_10) (cw_v 1 hts kw_1266 kw_1263 kw_1264 kw_1265 kw_9 rfl rfl (by decide +kernel) ⟨Nat.le_of_ble_eq_true rfl, Nat.le_of_ble_eq_true rfl⟩) ⟨c_blind, va_recv hK hP (ci := 2) (q0 := cPos N 2 x0) rfl (cw_obj (k := 2) (by decide) hl_x0_2), fun U hU hW => c_pre hU hW hP hK hD hev hE hN hNS hS hFc⟩ rfl rfl hl.1 rfl (lv_room (Nat.le_of_ble_eq_true rfl)) d_cWr_writeObject_170 ⟨Nat.le_of_ble_eq_true rfl, Nat.le_of_ble_eq_true rfl⟩) hS (fun q _ h => hFc q h) hFc (fun u t H1 locs ht hvm hw hB hz1 hk1 hS => ?_)
      obtain ⟨hP, -, hD1⟩ := hB
      rw [ht] at hP
      have hD := hD1.weaken (fun _ q _ h => hFc q.1 h)
      generalize H1 = H at hP hS ⊢
      refine W.cs (cells' := 0) (slots' := 0) rfl rfl ?_
      refine tx_aload (x := t0.map (ad 3)) hx hb d_cWr_writeObject_173 (lv_at hl 0 rfl) ?_
      refine w_v (y := rv ad 3 t0) rfl ?_
      refine w_s (st' := [.ref (ad 3 j_7)]) (congrArg (fun z9 : Option Nat => [rv ad 3 z9]) hj_8) ?_
      refine va_get (D := D) (ci := 3) (v := .int (o_9.i 3 2 j_7)) (C := R_Op) (T := F_Op) (N := 15) hx hb hts i_Op hown hK hP (cPos N 3 j_7) (cw_obj (k := 3) (by decide) hl_j_7_3) rfl 2 (by decide) (hts _ kw_60) (fun _ h9 => h9) rfl d_cWr_writeObject_175 ?_
      refine lv_bipush (v := 6) hx hb d_cWr_writeObject_178 (by decide) ?_
      refine lv_icmp_eq (tgt := 193) hx hb d_cWr_writeObject_180 (by decide) (fun c_11 => ?_) (fun c_11 => ?_)
      · replace Heq := (if_pos c_11).symm.trans Heq
        exact w_cWr_writeObject_J193 hC Heq Ka K0 _ _ _ hP hD hS (lv_sub hl [1, 2, 3, 4, 5, 6, 0] rfl)
      · replace Heq := (if_neg c_11).symm.trans Heq
        refine tx_aload (x := t0.map (ad 3)) hx hb d_cWr_writeObject_183 (lv_at hl 0 rfl) ?_
        refine w_v (y := rv ad 3 t0) rfl ?_
        refine w_s (st' := [.ref (ad 3 j_7)]) (congrArg (fun z9 : Option Nat => [rv ad 3 z9]) hj_8) ?_
        refine va_get (D := D) (ci := 3) (v := .int (o_9.i 3 2 j_7)) (C := R_Op) (T := F_Op) (N := 15) hx hb hts i_Op hown hK hP (cPos N 3 j_7) (cw_obj (k := 3) (by decide) hl_j_7_3) rfl 2 (by decide) (hts _ kw_60) (fun _ h9 => h9) rfl d_cWr_writeObject_185 ?_
        refine lv_bipush (v := 7) hx hb d_cWr_writeObject_188 (by decide) ?_
        refine lv_icmp_ne (tgt := 197) hx hb d_cWr_writeObject_190 (by decide) (fun c_12 => ?_) (fun c_12 => ?_)
        · replace Heq := (if_neg c_12).symm.trans Heq
          refine lv_iconst (v := 0) hx hb d_cWr_writeObject_197 (by decide) ?_
          exact w_cWr_writeObject_J198 hC Heq Ka K0 _ _ _ hP hD hS (lv_sub hl [1, 2, 3, 4, 5, 6, 0] rfl)
        · replace Heq := (if_pos c_12).symm.trans Heq
          exact w_cWr_writeObject_J193 hC Heq Ka K0 _ _ _ hP hD hS (lv_sub hl [1, 2, 3, 4, 5, 6, 0] rfl)
def m_cWr_writeObject_B40 (N : Nat → Nat) (x0 : Nat) (S : CS) (x1 : Option Nat) (x2 : Option Nat) (x3 : Option Nat) (x4 : Int32) (x5 : Int32) : Option ((CS × Option Nat × Option Nat × Option Nat × Int32 × Int32) ⊕ CS) := (if 12000 < x5 then some (.inr (S)) else (if x4 = 0 then some (.inr (S)) else gl x0 (N 2) (gn (S.r 2 1 x0) (N 5) (fun j_3 => (if S.i 5 2 j_3 = 0 then on x3 (m_cWr_writeObject_J79 N x0 S x1 x2 x3 x4 x5 none) (fun j_7 => gl j_7 (N 7) (gn (S.r 2 0 x0) (N 10) (fun j_9 => ob (m_cVw_top N j_9 S j_7) (fun o_12 => m_cWr_writeObject_J79 N x0 o_12.1 x1 x2 x3 x4 x5 o_12.2)))) else some (.inr (S)))))))
theorem d_cWr_writeObject_71 : decode prog_4_method_2_code 71 = .ok (.aload_n 0, 1) := by decide +kernel
theorem d_cWr_writeObject_72 : decode prog_4_method_2_code 72 = .ok (.getfield 20, 3) := by decide +kernel
theorem d_cWr_writeObject_75 : decode prog_4_method_2_code 75 = .ok (.aload_n 3, 1) := by decide +kernel
theorem d_cWr_writeObject_76 : decode prog_4_method_2_code 76 = .ok (.invokevirtual 45, 3) := by decide +kernel
set_option maxHeartbeats 4000000 in
set_option maxRecDepth 100000 in
theorem w_cWr_writeObject_B40 {p : Program} {l : Launch} {e : Env} {s : State} {m : MethodId} {args : Array Value} {below : List Frame} {meth : Method} {c : Code} {A : Nat → Prop} {D : va_G} {ad : Nat → Nat → Nat} {cc : Nat → ClassId} {sad sav : Nat → Nat} {Q : State → Prop} (hC : MCc sad sav "JoinedTrees$JsonWriter" prog_4_method_2_code 8 (some (.object "JoinedTrees$Row")) p s m args meth c A D cc) {N : Nat → Nat} {x0 : Nat} {S : CS} {x1 : Option Nat} {x2 : Option Nat} {x3 : Option Nat} {x4 : Int32} {x5 : Int32} {o : ((CS × Option Nat × Option Nat × Option Nat × Int32 × Int32) ⊕ CS)} (Heq : m_cWr_writeObject_B40 N x0 S x1 x2 x3 x4 x5 = some o) (Ka : ∀ b : CS × Option Nat × Option Nat × Option Nat × Int32 × Int32, o = .inl b → ∀ (H : Heap) (locs : List Loc) (ls : Array Slot), va_P D cls (cw ad cc N b.1) H → va_D A (cw ad cc N b.1) → va_S A s.heap H locs → lv_has ls 8 [(0, .ref (ad 2 x0)), (1, rv ad 3 b.2.1), (2, rv ad 3 b.2.2.1), (3, rv ad 7 b.2.2.2.1), (4, .int b.2.2.2.2.1), (5, .int b.2.2.2.2.2)] → W p l e ({ frames := 6, cells := 0, slots := 0, locals := 154 }) s m args below meth c H locs 0 0 Q (F0 m 40 ls [])) (K0 : ∀ b : CS, o = .inr b → ∀ (H : Heap) (locs : List Loc) (ls : Array Slot), va_P D cls (cw ad cc N b) H → va_D A (cw ad cc N b) → va_S A s.heap H locs → lv_has ls 8 [(0, .ref (ad 2 x0))] → W p l e ({ frames := 6, cells := 0, slots := 0, locals := 154 }) s m args below meth c H locs 0 0 Q (F0 m 248 ls [])) : ∀ (H : Heap) (locs : List Loc) (ls : Array Slot), va_P D cls (cw ad cc N S) H → va_D A (cw ad cc N S) → va_S A s.heap H locs → lv_has ls 8 [(0, .ref (ad 2 x0)), (1, rv ad 3 x1), (2, rv ad 3 x2), (3, rv ad 7 x3), (4, .int x4), (5, .int x5)] → W p l e ({ frames := 6, cells := 0, slots := 0, locals := 154 }) s m args below meth c H locs 0 0 Q (F0 m 40 ls []) := by
  intro H locs ls hP hD hS hl
  obtain ⟨hx, hb, hr, hml, hown, hts, hK, hA, hev, hE, hN, hNS⟩ := id hC
  unfold m_cWr_writeObject_B40 at Heq
  refine lv_iload hx hb d_cWr_writeObject_40 (lv_at hl 5 rfl) ?_
  refine lv_sipush (v := 12000) hx hb d_cWr_writeObject_42 (by decide) ?_
  refine lv_icmp_gt (tgt := 248) hx hb d_cWr_writeObject_45 (by decide) (fun c_1 => ?_) (fun c_1 => ?_)
  · replace Heq := (if_pos c_1).symm.trans Heq
    exact K0 _ (Option.some.inj Heq).symm _ _ _ hP hD hS (lv_sub hl [0] rfl)
  · replace Heq := (if_neg c_1).symm.trans Heq
    refine lv_iload hx hb d_cWr_writeObject_48 (lv_at hl 4 rfl) ?_
    refine lv_if_eq (tgt := 248) hx hb d_cWr_writeObject_50 (by decide) (fun c_2 => ?_) (fun c_2 => ?_)
    · replace Heq := (if_pos c_2).symm.trans Heq
      exact K0 _ (Option.some.inj Heq).symm _ _ _ hP hD hS (lv_sub hl [0] rfl)
    · replace Heq := (if_neg c_2).symm.trans Heq
      refine lv_aload_n hx hb d_cWr_writeObject_53 rfl (lv_at hl 0 rfl) ?_
      obtain ⟨hl_x0_2, Heq⟩ := gl_some Heq
      refine va_get (D := D) (ci := 2) (v := rv ad 5 (S.r 2 1 x0)) (C := R_Wr) (T := F_Wr) (N := 2) hx hb hts i_Wr hown hK hP (cPos N 2 x0) (cw_obj (k := 2) (by decide) hl_x0_2) rfl 1 (by decide) (hts _ kw_386) (fun _ h9 => h9) rfl d_cWr_writeObject_54 ?_
      obtain ⟨j_3, hj_4, hl_5, Heq⟩ := gn_some Heq
      refine w_s (st' := [.ref (ad 5 j_3)]) (congrArg (fun z9 : Option Nat => [rv ad 5 z9]) hj_4) ?_
      refine va_get (D := D) (ci := 5) (v := .int (S.i 5 2 j_3)) (C := R_Rw) (T := F_Rw) (N := 3) hx hb hts i_Rw hown hK hP (cPos N 5 j_3) (cw_obj (k := 5) (by decide) hl_5) rfl 2 (by decide) (hts _ kw_149) (fun _ h9 => h9) rfl d_cWr_writeObject_57 ?_
      refine lv_if_ne (tgt := 248) hx hb d_cWr_writeObject_60 (by decide) (fun c_6 => ?_) (fun c_6 => ?_)
      · replace Heq := (if_neg c_6).symm.trans Heq
        exact K0 _ (Option.some.inj Heq).symm _ _ _ hP hD hS (lv_sub hl [0] rfl)
      · replace Heq := (if_pos c_6).symm.trans Heq
        refine tx_aload_n (x := x3.map (ad 7)) hx hb d_cWr_writeObject_63 rfl (lv_at hl 3 rfl) ?_
        refine w_v (y := rv ad 7 x3) rfl ?_
        rcases on_some Heq with ⟨hj_8, Heq⟩ | ⟨j_7, hj_8, Heq⟩
        · refine w_s (st' := [.null]) (congrArg (fun z9 : Option Nat => [rv ad 7 z9]) hj_8) ?_
          refine lv_ifnonnullN hx hb d_cWr_writeObject_64 ?_
          refine lv_null hx hb d_cWr_writeObject_67 ?_
          refine lv_goto (tgt := 79) hx hb d_cWr_writeObject_68 (by decide) ?_
          exact w_cWr_writeObject_J79 hC Heq Ka K0 _ _ _ hP hD hS (lv_sub hl [0, 1, 2, 3, 4, 5] rfl)
        · refine w_s (st' := [.ref (ad 7 j_7)]) (congrArg (fun z9 : Option Nat => [rv ad 7 z9]) hj_8) ?_
          refine lv_ifnonnull (tgt := 71) hx hb d_cWr_writeObject_64 (by decide) ?_
          refine lv_aload_n hx hb d_cWr_writeObject_71 rfl (lv_at hl 0 rfl) ?_
          refine va_get (D := D) (ci := 2) (v := rv ad 10 (S.r 2 0 x0)) (C := R_Wr) (T := F_Wr) (N := 2) hx hb hts i_Wr hown hK hP (cPos N 2 x0) (cw_obj (k := 2) (by decide) hl_x0_2) rfl 0 (by decide) (hts _ kw_385) (fun _ h9 => h9) rfl d_cWr_writeObject_72 ?_
          refine tx_aload_n (x := x3.map (ad 7)) hx hb d_cWr_writeObject_75 rfl (lv_at hl 3 rfl) ?_
          refine w_v (y := rv ad 7 x3) rfl ?_
          refine w_s (st' := [.ref (ad 7 j_7), rv ad 10 (S.r 2 0 x0)]) (congrArg (fun z9 : Option Nat => [rv ad 7 z9, rv ad 10 (S.r 2 0 x0)]) hj_8) ?_
          obtain ⟨hl_j_7_7, Heq⟩ := gl_some Heq
          obtain ⟨j_9, hj_10, hl_11, Heq⟩ := gn_some Heq
          refine w_s (st' := [.ref (ad 7 j_7), .ref (ad 10 j_9)]) (congrArg (fun z9 : Option Nat => [.ref (ad 7 j_7), rv ad 10 z9]) hj_10) ?_
          obtain ⟨o_12, h_13, Heq⟩ := ob_some Heq
          have hFc := fr_all hD hS hA
          refine va_callq (va_runV (As := [.ref (ad 7 j_7)]) (rest := []) ⟨hx, hb, hml, hown, hts⟩ (g_cVw_top l D H.size (ad := ad) (cc := cc) (sad := sad) (sav := sav) h_13) (cw_v 1 hts kw_784 kw_1251 kw_782 kw_783 kw_6 rfl rfl (by decide +kernel) ⟨Nat.le_of_ble_eq_true rfl, Nat.le_of_ble_eq_true rfl⟩) ⟨c_blind, va_recv hK hP (ci := 10) (q0 := cPos N 10 j_9) rfl (cw_obj (k := 10) (by decide) hl_11), fun U hU hW => c_pre hU hW hP hK hD hev hE hN hNS hS hFc⟩ rfl rfl hl.1 rfl (lv_room (Nat.le_of_ble_eq_true rfl)) d_cWr_writeObject_76 ⟨Nat.le_of_ble_eq_true rfl, Nat.le_of_ble_eq_true rfl⟩) hS (fun q _ h => hFc q h) hFc (fun rz u t H1 locs ht hvm hw hB hz1 hk1 hS => ?_)
          obtain ⟨hP, -, hD1⟩ := hB
          rw [ht] at hP
          have hD := hD1.weaken (fun _ q _ h => hFc q.1 h)
          generalize H1 = H at hP hS ⊢
          refine W.cs (cells' := 0) (slots' := 0) rfl rfl ?_
          subst hw
          refine w_v (y := rv ad 3 o_12.2) rfl ?_
          exact w_cWr_writeObject_J79 hC Heq Ka K0 _ _ _ hP hD hS (lv_sub hl [0, 1, 2, 3, 4, 5] rfl)
def m_cWr_writeObject_L40 (N : Nat → Nat) (x0 : Nat) (S : CS) (x1 : Option Nat) (x2 : Option Nat) (x3 : Option Nat) (x4 : Int32) (x5 : Int32) : Option CS := lp (fun a : CS × Option Nat × Option Nat × Option Nat × Int32 × Int32 => m_cWr_writeObject_B40 N x0 a.1 a.2.1 a.2.2.1 a.2.2.2.1 a.2.2.2.2.1 a.2.2.2.2.2) FU (S, x1, x2, x3, x4, x5)
theorem w_cWr_writeObject_L40 {p : Program} {l : Launch} {e : Env} {s : State} {m : MethodId} {args : Array Value} {below : List Frame} {meth : Method} {c : Code} {A : Nat → Prop} {D : va_G} {ad : Nat → Nat → Nat} {cc : Nat → ClassId} {sad sav : Nat → Nat} {Q : State → Prop} (hC : MCc sad sav "JoinedTrees$JsonWriter" prog_4_method_2_code 8 (some (.object "JoinedTrees$Row")) p s m args meth c A D cc) {N : Nat → Nat} {x0 : Nat} {S : CS} {x1 : Option Nat} {x2 : Option Nat} {x3 : Option Nat} {x4 : Int32} {x5 : Int32} {o : CS} (Heq : m_cWr_writeObject_L40 N x0 S x1 x2 x3 x4 x5 = some o) (K0 : ∀ b : CS, o = b → ∀ (H : Heap) (locs : List Loc) (ls : Array Slot), va_P D cls (cw ad cc N b) H → va_D A (cw ad cc N b) → va_S A s.heap H locs → lv_has ls 8 [(0, .ref (ad 2 x0))] → W p l e ({ frames := 6, cells := 0, slots := 0, locals := 154 }) s m args below meth c H locs 0 0 Q (F0 m 248 ls [])) : ∀ (H : Heap) (locs : List Loc) (ls : Array Slot), va_P D cls (cw ad cc N S) H → va_D A (cw ad cc N S) → va_S A s.heap H locs → lv_has ls 8 [(0, .ref (ad 2 x0)), (1, rv ad 3 x1), (2, rv ad 3 x2), (3, rv ad 7 x3), (4, .int x4), (5, .int x5)] → W p l e ({ frames := 6, cells := 0, slots := 0, locals := 154 }) s m args below meth c H locs 0 0 Q (F0 m 40 ls []) := by
  refine lp_w (G := fun a : CS × Option Nat × Option Nat × Option Nat × Int32 × Int32 => ∀ (H : Heap) (locs : List Loc) (ls : Array Slot), va_P D cls (cw ad cc N a.1) H → va_D A (cw ad cc N a.1) → va_S A s.heap H locs → lv_has ls 8 [(0, .ref (ad 2 x0)), (1, rv ad 3 a.2.1), (2, rv ad 3 a.2.2.1), (3, rv ad 7 a.2.2.2.1), (4, .int a.2.2.2.2.1), (5, .int a.2.2.2.2.2)] → W p l e ({ frames := 6, cells := 0, slots := 0, locals := 154 }) s m args below meth c H locs 0 0 Q (F0 m 40 ls [])) ?_ FU (S, x1, x2, x3, x4, x5) Heq
  intro a o1 ho Ka Ke
  exact w_cWr_writeObject_B40 hC ho (fun b h => Ka b h) (fun b h => K0 b (Ke _ h).symm)
def m_cWr_writeObject_J248 (N : Nat → Nat) (x0 : Nat) (S : CS) : Option (CS × Option Nat) := gl x0 (N 2) (some (S, (S.r 2 1 x0)))
theorem d_cWr_writeObject_248 : decode prog_4_method_2_code 248 = .ok (.aload_n 0, 1) := by decide +kernel
theorem d_cWr_writeObject_249 : decode prog_4_method_2_code 249 = .ok (.getfield 14, 3) := by decide +kernel
theorem d_cWr_writeObject_252 : decode prog_4_method_2_code 252 = .ok (.areturn, 1) := by decide +kernel
set_option maxHeartbeats 4000000 in
set_option maxRecDepth 100000 in
theorem w_cWr_writeObject_J248 {p : Program} {l : Launch} {e : Env} {s : State} {m : MethodId} {args : Array Value} {below : List Frame} {meth : Method} {c : Code} {A : Nat → Prop} {D : va_G} {ad : Nat → Nat → Nat} {cc : Nat → ClassId} {sad sav : Nat → Nat} {Q : State → Prop} (hC : MCc sad sav "JoinedTrees$JsonWriter" prog_4_method_2_code 8 (some (.object "JoinedTrees$Row")) p s m args meth c A D cc) {N : Nat → Nat} {x0 : Nat} {S : CS} {o : CS × Option Nat} (Heq : m_cWr_writeObject_J248 N x0 S = some o) (Kr : ∀ r : CS × Option Nat, o = r → ∀ (pc : Nat) (H : Heap) (locs : List Loc) (ls : Array Slot), decode prog_4_method_2_code pc = .ok (.areturn, 1) → va_P D cls (cw ad cc N r.1) H → va_D A (cw ad cc N r.1) → va_S A s.heap H locs → W p l e ({ frames := 6, cells := 0, slots := 0, locals := 154 }) s m args below meth c H locs 0 0 Q (F0 m pc ls [rv ad 5 r.2])) : ∀ (H : Heap) (locs : List Loc) (ls : Array Slot), va_P D cls (cw ad cc N S) H → va_D A (cw ad cc N S) → va_S A s.heap H locs → lv_has ls 8 [(0, .ref (ad 2 x0))] → W p l e ({ frames := 6, cells := 0, slots := 0, locals := 154 }) s m args below meth c H locs 0 0 Q (F0 m 248 ls []) := by
  intro H locs ls hP hD hS hl
  obtain ⟨hx, hb, hr, hml, hown, hts, hK, hA, hev, hE, hN, hNS⟩ := id hC
  unfold m_cWr_writeObject_J248 at Heq
  refine lv_aload_n hx hb d_cWr_writeObject_248 rfl (lv_at hl 0 rfl) ?_
  obtain ⟨hl_x0_2, Heq⟩ := gl_some Heq
  refine va_get (D := D) (ci := 2) (v := rv ad 5 (S.r 2 1 x0)) (C := R_Wr) (T := F_Wr) (N := 2) hx hb hts i_Wr hown hK hP (cPos N 2 x0) (cw_obj (k := 2) (by decide) hl_x0_2) rfl 1 (by decide) (hts _ kw_386) (fun _ h9 => h9) rfl d_cWr_writeObject_249 ?_
  exact Kr _ (Option.some.inj Heq).symm 252 _ _ _ d_cWr_writeObject_252 hP hD hS
def m_cWr_writeObject_J0 (N : Nat → Nat) (x0 : Nat) (S : CS) (x1 : Nat) : Option (CS × Option Nat) := gl x0 (N 2) (gn (S.r 2 1 x0) (N 5) (fun j_1 => ob (m_cRw_clear N j_1 S) (fun o_4 => gl x1 (N 3) ((if o_4.i 3 2 x1 = 8 then ob (m_cWr_writePlain N x0 o_4 x1) (fun o_11 => some (o_11, (o_11.r 2 1 x0))) else ob (m_cWr_enter N x0 o_4 x1) (fun o_7 => ob (m_cWr_writeObject_L40 N x0 o_7.1 (some x1) (some x1) o_7.2 1 0) (fun b_9 => m_cWr_writeObject_J248 N x0 b_9)))))))
theorem d_cWr_writeObject_16 : decode prog_4_method_2_code 16 = .ok (.aload_n 0, 1) := by decide +kernel
theorem d_cWr_writeObject_17 : decode prog_4_method_2_code 17 = .ok (.aload_n 1, 1) := by decide +kernel
theorem d_cWr_writeObject_18 : decode prog_4_method_2_code 18 = .ok (.invokevirtual 33, 3) := by decide +kernel
theorem d_cWr_writeObject_21 : decode prog_4_method_2_code 21 = .ok (.aload_n 0, 1) := by decide +kernel
theorem d_cWr_writeObject_22 : decode prog_4_method_2_code 22 = .ok (.getfield 14, 3) := by decide +kernel
theorem d_cWr_writeObject_25 : decode prog_4_method_2_code 25 = .ok (.areturn, 1) := by decide +kernel
set_option maxHeartbeats 4000000 in
set_option maxRecDepth 100000 in
theorem w_cWr_writeObject_J0 {p : Program} {l : Launch} {e : Env} {s : State} {m : MethodId} {args : Array Value} {below : List Frame} {meth : Method} {c : Code} {A : Nat → Prop} {D : va_G} {ad : Nat → Nat → Nat} {cc : Nat → ClassId} {sad sav : Nat → Nat} {Q : State → Prop} (hC : MCc sad sav "JoinedTrees$JsonWriter" prog_4_method_2_code 8 (some (.object "JoinedTrees$Row")) p s m args meth c A D cc) {N : Nat → Nat} {x0 : Nat} {S : CS} {x1 : Nat} {o : CS × Option Nat} (Heq : m_cWr_writeObject_J0 N x0 S x1 = some o) (Kr : ∀ r : CS × Option Nat, o = r → ∀ (pc : Nat) (H : Heap) (locs : List Loc) (ls : Array Slot), decode prog_4_method_2_code pc = .ok (.areturn, 1) → va_P D cls (cw ad cc N r.1) H → va_D A (cw ad cc N r.1) → va_S A s.heap H locs → W p l e ({ frames := 6, cells := 0, slots := 0, locals := 154 }) s m args below meth c H locs 0 0 Q (F0 m pc ls [rv ad 5 r.2])) : ∀ (H : Heap) (locs : List Loc) (ls : Array Slot), va_P D cls (cw ad cc N S) H → va_D A (cw ad cc N S) → va_S A s.heap H locs → lv_has ls 8 [(0, .ref (ad 2 x0)), (1, .ref (ad 3 x1))] → W p l e ({ frames := 6, cells := 0, slots := 0, locals := 154 }) s m args below meth c H locs 0 0 Q (F0 m 0 ls []) := by
  intro H locs ls hP hD hS hl
  obtain ⟨hx, hb, hr, hml, hown, hts, hK, hA, hev, hE, hN, hNS⟩ := id hC
  unfold m_cWr_writeObject_J0 at Heq
  refine lv_aload_n hx hb d_cWr_writeObject_0 rfl (lv_at hl 0 rfl) ?_
  obtain ⟨hl_x0_2, Heq⟩ := gl_some Heq
  refine va_get (D := D) (ci := 2) (v := rv ad 5 (S.r 2 1 x0)) (C := R_Wr) (T := F_Wr) (N := 2) hx hb hts i_Wr hown hK hP (cPos N 2 x0) (cw_obj (k := 2) (by decide) hl_x0_2) rfl 1 (by decide) (hts _ kw_386) (fun _ h9 => h9) rfl d_cWr_writeObject_1 ?_
  obtain ⟨j_1, hj_2, hl_3, Heq⟩ := gn_some Heq
  refine w_s (st' := [.ref (ad 5 j_1)]) (congrArg (fun z9 : Option Nat => [rv ad 5 z9]) hj_2) ?_
  obtain ⟨o_4, h_5, Heq⟩ := ob_some Heq
  have hFc := fr_all hD hS hA
  refine va_callv (va_runV (As := []) (rest := []) ⟨hx, hb, hml, hown, hts⟩ (g_cRw_clear l D H.size (ad := ad) (cc := cc) (sad := sad) (sav := sav) h_5) (cw_v 0 hts kw_576 kw_1220 kw_574 kw_575 kw_4 rfl rfl (by decide +kernel) ⟨Nat.le_of_ble_eq_true rfl, Nat.le_of_ble_eq_true rfl⟩) ⟨c_blind, va_recv hK hP (ci := 5) (q0 := cPos N 5 j_1) rfl (cw_obj (k := 5) (by decide) hl_3), fun U hU hW => c_pre hU hW hP hK hD hev hE hN hNS hS hFc⟩ rfl rfl hl.1 rfl (lv_room (Nat.le_of_ble_eq_true rfl)) d_cWr_writeObject_4 ⟨Nat.le_of_ble_eq_true rfl, Nat.le_of_ble_eq_true rfl⟩) hS (fun q _ h => hFc q h) hFc (fun u t H1 locs ht hvm hw hB hz1 hk1 hS => ?_)
  obtain ⟨hP, -, hD1⟩ := hB
  rw [ht] at hP
  have hD := hD1.weaken (fun _ q _ h => hFc q.1 h)
  generalize H1 = H at hP hS ⊢
  refine W.cs (cells' := 0) (slots' := 0) rfl rfl ?_
  refine lv_aload_n hx hb d_cWr_writeObject_7 rfl (lv_at hl 1 rfl) ?_
  obtain ⟨hl_x1_3, Heq⟩ := gl_some Heq
  refine va_get (D := D) (ci := 3) (v := .int (o_4.i 3 2 x1)) (C := R_Op) (T := F_Op) (N := 15) hx hb hts i_Op hown hK hP (cPos N 3 x1) (cw_obj (k := 3) (by decide) hl_x1_3) rfl 2 (by decide) (hts _ kw_60) (fun _ h9 => h9) rfl d_cWr_writeObject_8 ?_
  refine lv_bipush (v := 8) hx hb d_cWr_writeObject_11 (by decide) ?_
  refine lv_icmp_ne (tgt := 26) hx hb d_cWr_writeObject_13 (by decide) (fun c_6 => ?_) (fun c_6 => ?_)
  · replace Heq := (if_neg c_6).symm.trans Heq
    refine lv_aload_n hx hb d_cWr_writeObject_26 rfl (lv_at hl 1 rfl) ?_
    refine lv_astore_n (lv' := [(2, .ref (ad 3 x1)), (0, .ref (ad 2 x0)), (1, .ref (ad 3 x1))]) hx hb d_cWr_writeObject_27 rfl hl (by decide) rfl (fun ls hl => ?_)
    refine lv_aload_n hx hb d_cWr_writeObject_28 rfl (lv_at hl 1 rfl) ?_
    refine lv_aload_n hx hb d_cWr_writeObject_29 rfl (lv_at hl 2 rfl) ?_
    obtain ⟨o_7, h_8, Heq⟩ := ob_some Heq
    have hFc := fr_all hD hS hA
    refine va_callq (va_runV (As := [.ref (ad 3 x1)]) (rest := []) ⟨hx, hb, hml, hown, hts⟩ (g_cWr_enter l D H.size (ad := ad) (cc := cc) (sad := sad) (sav := sav) h_8) (cw_v 1 hts kw_1262 kw_1259 kw_1260 kw_1261 kw_9 rfl rfl (by decide +kernel) ⟨Nat.le_of_ble_eq_true rfl, Nat.le_of_ble_eq_true rfl⟩) ⟨c_blind, va_recv hK hP (ci := 2) (q0 := cPos N 2 x0) rfl (cw_obj (k := 2) (by decide) hl_x0_2), fun U hU hW => c_pre hU hW hP hK hD hev hE hN hNS hS hFc⟩ rfl rfl hl.1 rfl (lv_room (Nat.le_of_ble_eq_true rfl)) d_cWr_writeObject_30 ⟨Nat.le_of_ble_eq_true rfl, Nat.le_of_ble_eq_true rfl⟩) hS (fun q _ h => hFc q h) hFc (fun rz u t H1 locs ht hvm hw hB hz1 hk1 hS => ?_)
    obtain ⟨hP, -, hD1⟩ := hB
    rw [ht] at hP
    have hD := hD1.weaken (fun _ q _ h => hFc q.1 h)
    generalize H1 = H at hP hS ⊢
    refine W.cs (cells' := 0) (slots' := 0) rfl rfl ?_
    subst hw
    refine w_v (y := rv ad 7 o_7.2) rfl ?_
    refine tx_astore_n (x := o_7.2.map (ad 7)) (lv' := [(3, rv ad 7 o_7.2), (2, .ref (ad 3 x1)), (0, .ref (ad 2 x0)), (1, .ref (ad 3 x1))]) hx hb d_cWr_writeObject_33 rfl hl (by decide) rfl (fun ls hl => ?_)
    refine lv_iconst (v := 1) hx hb d_cWr_writeObject_34 (by decide) ?_
    refine lv_istore (lv' := [(4, .int 1), (3, rv ad 7 o_7.2), (2, .ref (ad 3 x1)), (0, .ref (ad 2 x0)), (1, .ref (ad 3 x1))]) hx hb d_cWr_writeObject_35 hl (by decide) (by simp [rv, rf_cat]) (fun ls hl => ?_)
    refine lv_iconst (v := 0) hx hb d_cWr_writeObject_37 (by decide) ?_
    refine lv_istore (lv' := [(5, .int 0), (4, .int 1), (3, rv ad 7 o_7.2), (2, .ref (ad 3 x1)), (0, .ref (ad 2 x0)), (1, .ref (ad 3 x1))]) hx hb d_cWr_writeObject_38 hl (by decide) rfl (fun ls hl => ?_)
    obtain ⟨b_9, h_10, Heq⟩ := ob_some Heq
    refine w_cWr_writeObject_L40 hC h_10 (fun b h => ?_) _ _ _ hP hD hS (lv_sub hl [4, 5, 3, 2, 1, 0] rfl)
    subst h
    intro H locs ls hP hD hS hl
    exact w_cWr_writeObject_J248 hC Heq Kr _ _ _ hP hD hS (lv_sub hl [0] rfl)
  · replace Heq := (if_pos c_6).symm.trans Heq
    refine lv_aload_n hx hb d_cWr_writeObject_16 rfl (lv_at hl 0 rfl) ?_
    refine lv_aload_n hx hb d_cWr_writeObject_17 rfl (lv_at hl 1 rfl) ?_
    obtain ⟨o_11, h_12, Heq⟩ := ob_some Heq
    have hFc := fr_all hD hS hA
    refine va_callv (va_runV (As := [.ref (ad 3 x1)]) (rest := []) ⟨hx, hb, hml, hown, hts⟩ (g_cWr_writePlain l D H.size (ad := ad) (cc := cc) (sad := sad) (sav := sav) h_12) (cw_v 1 hts kw_1224 kw_1221 kw_1222 kw_1223 kw_9 rfl rfl (by decide +kernel) ⟨Nat.le_of_ble_eq_true rfl, Nat.le_of_ble_eq_true rfl⟩) ⟨c_blind, va_recv hK hP (ci := 2) (q0 := cPos N 2 x0) rfl (cw_obj (k := 2) (by decide) hl_x0_2), fun U hU hW => c_pre hU hW hP hK hD hev hE hN hNS hS hFc⟩ rfl rfl hl.1 rfl (lv_room (Nat.le_of_ble_eq_true rfl)) d_cWr_writeObject_18 ⟨Nat.le_of_ble_eq_true rfl, Nat.le_of_ble_eq_true rfl⟩) hS (fun q _ h => hFc q h) hFc (fun u t H1 locs ht hvm hw hB hz1 hk1 hS => ?_)
    obtain ⟨hP, -, hD1⟩ := hB
    rw [ht] at hP
    have hD := hD1.weaken (fun _ q _ h => hFc q.1 h)
    generalize H1 = H at hP hS ⊢
    refine W.cs (cells' := 0) (slots' := 0) rfl rfl ?_
    refine lv_aload_n hx hb d_cWr_writeObject_21 rfl (lv_at hl 0 rfl) ?_
    refine va_get (D := D) (ci := 2) (v := rv ad 5 (o_11.r 2 1 x0)) (C := R_Wr) (T := F_Wr) (N := 2) hx hb hts i_Wr hown hK hP (cPos N 2 x0) (cw_obj (k := 2) (by decide) hl_x0_2) rfl 1 (by decide) (hts _ kw_386) (fun _ h9 => h9) rfl d_cWr_writeObject_22 ?_
    exact Kr _ (Option.some.inj Heq).symm 25 _ _ _ d_cWr_writeObject_25 hP hD hS
def m_cWr_writeObject (N : Nat → Nat) (x0 : Nat) (S : CS) (x1 : Nat) : Option (CS × Option Nat) := m_cWr_writeObject_J0 N x0 S x1
set_option maxHeartbeats 4000000 in
theorem g_cWr_writeObject (l : Launch) (D : va_G) (sz : Nat) {ad : Nat → Nat → Nat} {cc : Nat → ClassId} {sad sav : Nat → Nat} {N : Nat → Nat} {x0 : Nat} {S : CS} {x1 : Nat} {o : CS × Option Nat} (Heq : m_cWr_writeObject N x0 S x1 = some o) : Met l ⟨"JoinedTrees$JsonWriter", "writeObject", "(LJoinedTrees$Op;)LJoinedTrees$Row;"⟩ (Cond.code ⟨"JoinedTrees$JsonWriter", "writeObject", "(LJoinedTrees$Op;)LJoinedTrees$Row;"⟩ prog_4_method_2_code 8 (some (.object "JoinedTrees$Row")) :: gb) ({ frames := 6, cells := 0, slots := 0, locals := 154 }) (cPc sad sav D (cw ad cc N S) (cty cc) sz [.ref (ad 2 x0), .ref (ad 3 x1)]) (va_Qq (fun (r : Option Nat) (_ : Unit) => r = o.2.map (ad 5)) (fun _ t => gO D (cw ad cc N o.1) (cty cc) (va_A (cw ad cc N S) sz) t) (va_A (cw ad cc N S) sz)) 0 0 (va_A (cw ad cc N S) sz) := by
  refine Met.ofW (cc := prog_4_method_2_code) (maxL := 8) (ret := (some (.object "JoinedTrees$Row"))) (by decide) rfl ?_
  intro p e s m args below meth c s₁ B hml hv
  obtain ⟨rfl, hsz, hP, hK, hD0, hev, hE, hN⟩ := hv
  have hx := B.exec
  have hb := B.bytes
  have hr := B.returns
  have hts : ∀ w9 ∈ gb, w9.before [.ref (ad 2 x0), .ref (ad 3 x1)].toArray s = true := fun w9 h => atoms_spec (ws := Cond.code ⟨"JoinedTrees$JsonWriter", "writeObject", "(LJoinedTrees$Op;)LJoinedTrees$Row;"⟩ prog_4_method_2_code 8 (some (.object "JoinedTrees$Row")) :: gb) B.pre w9 (List.mem_cons_of_mem _ h)
  have hown : s.vm.findClass "JoinedTrees$JsonWriter" = some m.cls := findClass_of_methodNamed B.named
  have hlocks := B.notSynchronized
  have hNS := ns_of hP
  subst hsz
  have hD := hD0.self (sz := s.heap.size)
  generalize hAe : va_A (cw ad cc N S) s.heap.size = A at hD hev hE hNS ⊢
  have hA : ∀ q : Nat, s.heap.size ≤ q → A q := fun q h => by rw [← hAe]; exact Or.inr h
  have hS : va_S A s.heap s.heap [] := va_S.rf
  obtain ⟨ls, hl, hle⟩ : ∃ ls : Array Slot, lv_has ls 8 [(0, .ref (ad 2 x0)), (1, .ref (ad 3 x1))] ∧ entryFrame m ([.ref (ad 2 x0), .ref (ad 3 x1)] : List Value).toArray 8 = F0 m 0 ls [] := by
    exact ⟨_, lv_entry (n := 8) _ (Nat.le_of_ble_eq_true rfl), lg_entry_eq ..⟩
  rw [hle]
  refine w_cWr_writeObject_J0 ⟨hx, hb, hr, hml, hown, hts, hK, hA, hev, hE, hN, hNS⟩ Heq (fun r h pc H locs ls hd hP hD hS => ?_) _ _ _ hP hD hS (lv_sub hl [0, 1] rfl)
  subst h
  exact W.aret hx hb hr (Or.inl ⟨_, rfl⟩) (va_rf_or _) (fun t ht hW => ⟨⟨_, (), rfl, rfl, by rw [ht]; exact hP, va_K.moved hW.alike hK, hD⟩, hS.F ht⟩) hS.2.2 hd
