def m_cJT_find_J23 (N : Nat → Nat) (x0 : Nat) (S : CS) : Option ((CS × Int32) ⊕ (CS × Nat)) := some (.inr (S, 1))
theorem d_cJT_find_0 : decode prog_1_method_22_code 0 = .ok (.aload_n 0, 1) := by decide +kernel
theorem d_cJT_find_1 : decode prog_1_method_22_code 1 = .ok (.invokevirtual 102, 3) := by decide +kernel
theorem d_cJT_find_4 : decode prog_1_method_22_code 4 = .ok (.istore_n 2, 1) := by decide +kernel
theorem d_cJT_find_5 : decode prog_1_method_22_code 5 = .ok (.aload_n 0, 1) := by decide +kernel
theorem d_cJT_find_6 : decode prog_1_method_22_code 6 = .ok (.iload_n 1, 1) := by decide +kernel
theorem d_cJT_find_7 : decode prog_1_method_22_code 7 = .ok (.invokevirtual 105, 3) := by decide +kernel
theorem d_cJT_find_10 : decode prog_1_method_22_code 10 = .ok (.pop, 1) := by decide +kernel
theorem d_cJT_find_11 : decode prog_1_method_22_code 11 = .ok (.iload_n 2, 1) := by decide +kernel
theorem d_cJT_find_12 : decode prog_1_method_22_code 12 = .ok (.iconst 1, 1) := by decide +kernel
theorem d_cJT_find_13 : decode prog_1_method_22_code 13 = .ok (.if_icmp .ne 10, 3) := by decide +kernel
theorem d_cJT_find_23 : decode prog_1_method_22_code 23 = .ok (.new 93, 3) := by decide +kernel
theorem d_cJT_find_26 : decode prog_1_method_22_code 26 = .ok (.dup, 1) := by decide +kernel
theorem d_cJT_find_27 : decode prog_1_method_22_code 27 = .ok (.invokespecial 95, 3) := by decide +kernel
theorem d_cJT_find_30 : decode prog_1_method_22_code 30 = .ok (.athrow, 1) := by decide +kernel
set_option maxHeartbeats 4000000 in
set_option maxRecDepth 100000 in
theorem w_cJT_find_J23 {p : Program} {l : Launch} {e : Env} {s : State} {m : MethodId} {args : Array Value} {below : List Frame} {meth : Method} {c : Code} {A : Nat → Prop} {D : va_G} {ad : Nat → Nat → Nat} {cc : Nat → ClassId} {sad sav : Nat → Nat} {Q : State → Prop} {cR sR : Nat} (hfl : l.flags = flags0) (hC : MCc sad sav "JoinedTrees" prog_1_method_22_code 7 (some .int) p s m args meth c A D cc) {N : Nat → Nat} {x0 : Nat} {S : CS} {o : ((CS × Int32) ⊕ (CS × Nat))} (Heq : m_cJT_find_J23 N x0 S = some o) (Kr : ∀ r : ((CS × Int32) ⊕ (CS × Nat)), o = r → (∀ v9 : CS × Int32, r = .inl v9 → ∀ (pc : Nat) (H : Heap) (locs : List Loc) (ls : Array Slot), decode prog_1_method_22_code pc = .ok (.ireturn, 1) → va_P D cls (cw ad cc N v9.1) H → va_D A (cw ad cc N v9.1) → va_S A s.heap H locs → W p l e ({ frames := 7, cells := cR, slots := sR, locals := 122 }) s m args below meth c H locs 0 0 Q (F0 m pc ls [.int v9.2])) ∧ (∀ t9 : CS × Nat, r = .inr t9 → (1 ≤ cR ∧ 6 ≤ sR) ∧ (∀ (pc : Nat) (H : Heap) (locs : List Loc) (ls : Array Slot), thD prog_1_method_22_code t9.2 pc → ls.size = 7 → va_P D cls (cw ad cc N t9.1) H → va_D A (cw ad cc N t9.1) → va_S A s.heap H locs → W p l e ({ frames := 7, cells := cR, slots := sR, locals := 122 }) s m args below meth c H locs 0 0 Q (F0 m pc ls [])) ∧ (∀ (pc : Nat) (H : Heap) (locs : List Loc) (ls : Array Slot) (st0 rest9 : List Value) (A9 : Nat → Prop), tx_Thr p l e ({ frames := 7, cells := cR, slots := sR, locals := 122 }) s m args below meth c H locs 0 0 1 6 (F0 m pc ls st0) rest9 (exN t9.2) A9 (fun H1 => va_P D cls (cw ad cc N t9.1) H1) → (∀ q, A9 q → A q) → va_S A s.heap H locs → W p l e ({ frames := 7, cells := cR, slots := sR, locals := 122 }) s m args below meth c H locs 0 0 Q (F0 m pc ls st0)))) : ∀ (H : Heap) (locs : List Loc) (ls : Array Slot), va_P D cls (cw ad cc N S) H → va_D A (cw ad cc N S) → va_S A s.heap H locs → lv_has ls 7 [(0, .ref (ad 11 x0))] → W p l e ({ frames := 7, cells := cR, slots := sR, locals := 122 }) s m args below meth c H locs 0 0 Q (F0 m 23 ls []) := by
  intro H locs ls hP hD hS hl
  obtain ⟨hx, hb, hr, hml, hown, hts, hK, hA, hev, hE, hN, hNS⟩ := id hC
  unfold m_cJT_find_J23 at Heq
  exact ((Kr _ (Option.some.inj Heq).symm).2 _ rfl).2.1 23 _ _ _ ⟨⟨show 1 ≤ 1 by decide, show 1 ≤ 5 by decide⟩, d_cJT_find_23, d_cJT_find_26, d_cJT_find_27, d_cJT_find_30⟩ hl.1 hP hD hS
def m_cJT_find_J123 (N : Nat → Nat) (x0 : Nat) (S : CS) (x5 : Int32) (x6 : Int32) (t0 : Option Nat) : Option ((CS × Option Nat × Int32 × Int32) ⊕ (CS × Option Nat)) := some (.inl (S, t0, x6, (x5 + 1)))
theorem d_cJT_find_16 : decode prog_1_method_22_code 16 = .ok (.aload_n 0, 1) := by decide +kernel
theorem d_cJT_find_17 : decode prog_1_method_22_code 17 = .ok (.invokevirtual 324, 3) := by decide +kernel
theorem d_cJT_find_20 : decode prog_1_method_22_code 20 = .ok (.ifCond .ne 11, 3) := by decide +kernel
theorem d_cJT_find_31 : decode prog_1_method_22_code 31 = .ok (.aload_n 0, 1) := by decide +kernel
theorem d_cJT_find_32 : decode prog_1_method_22_code 32 = .ok (.getfield 12, 3) := by decide +kernel
theorem d_cJT_find_35 : decode prog_1_method_22_code 35 = .ok (.getfield 328, 3) := by decide +kernel
theorem d_cJT_find_38 : decode prog_1_method_22_code 38 = .ok (.astore_n 3, 1) := by decide +kernel
theorem d_cJT_find_39 : decode prog_1_method_22_code 39 = .ok (.iconst 0, 1) := by decide +kernel
theorem d_cJT_find_40 : decode prog_1_method_22_code 40 = .ok (.istore 4, 2) := by decide +kernel
theorem d_cJT_find_42 : decode prog_1_method_22_code 42 = .ok (.iconst 0, 1) := by decide +kernel
theorem d_cJT_find_43 : decode prog_1_method_22_code 43 = .ok (.istore 5, 2) := by decide +kernel
theorem d_cJT_find_45 : decode prog_1_method_22_code 45 = .ok (.iload 5, 2) := by decide +kernel
theorem d_cJT_find_47 : decode prog_1_method_22_code 47 = .ok (.sipush 8192, 3) := by decide +kernel
theorem d_cJT_find_50 : decode prog_1_method_22_code 50 = .ok (.if_icmp .ge 84, 3) := by decide +kernel
theorem d_cJT_find_53 : decode prog_1_method_22_code 53 = .ok (.aload_n 3, 1) := by decide +kernel
theorem d_cJT_find_54 : decode prog_1_method_22_code 54 = .ok (.ifnull 80, 3) := by decide +kernel
theorem d_cJT_find_57 : decode prog_1_method_22_code 57 = .ok (.iload 4, 2) := by decide +kernel
theorem d_cJT_find_59 : decode prog_1_method_22_code 59 = .ok (.aload_n 0, 1) := by decide +kernel
theorem d_cJT_find_60 : decode prog_1_method_22_code 60 = .ok (.getfield 70, 3) := by decide +kernel
theorem d_cJT_find_63 : decode prog_1_method_22_code 63 = .ok (.getfield 80, 3) := by decide +kernel
theorem d_cJT_find_66 : decode prog_1_method_22_code 66 = .ok (.if_icmp .ge 68, 3) := by decide +kernel
theorem d_cJT_find_69 : decode prog_1_method_22_code 69 = .ok (.aload_n 0, 1) := by decide +kernel
theorem d_cJT_find_70 : decode prog_1_method_22_code 70 = .ok (.iload 4, 2) := by decide +kernel
theorem d_cJT_find_72 : decode prog_1_method_22_code 72 = .ok (.invokevirtual 331, 3) := by decide +kernel
theorem d_cJT_find_75 : decode prog_1_method_22_code 75 = .ok (.istore 6, 2) := by decide +kernel
theorem d_cJT_find_77 : decode prog_1_method_22_code 77 = .ok (.aload_n 0, 1) := by decide +kernel
theorem d_cJT_find_78 : decode prog_1_method_22_code 78 = .ok (.getfield 70, 3) := by decide +kernel
theorem d_cJT_find_81 : decode prog_1_method_22_code 81 = .ok (.iload 4, 2) := by decide +kernel
theorem d_cJT_find_83 : decode prog_1_method_22_code 83 = .ok (.invokevirtual 293, 3) := by decide +kernel
theorem d_cJT_find_86 : decode prog_1_method_22_code 86 = .ok (.bipush 91, 2) := by decide +kernel
theorem d_cJT_find_88 : decode prog_1_method_22_code 88 = .ok (.if_icmp .ne 15, 3) := by decide +kernel
theorem d_cJT_find_103 : decode prog_1_method_22_code 103 = .ok (.aload_n 0, 1) := by decide +kernel
theorem d_cJT_find_104 : decode prog_1_method_22_code 104 = .ok (.aload_n 3, 1) := by decide +kernel
theorem d_cJT_find_105 : decode prog_1_method_22_code 105 = .ok (.iload 4, 2) := by decide +kernel
theorem d_cJT_find_107 : decode prog_1_method_22_code 107 = .ok (.ifCond .ne 7, 3) := by decide +kernel
theorem d_cJT_find_114 : decode prog_1_method_22_code 114 = .ok (.iload 4, 2) := by decide +kernel
theorem d_cJT_find_116 : decode prog_1_method_22_code 116 = .ok (.iconst 1, 1) := by decide +kernel
theorem d_cJT_find_117 : decode prog_1_method_22_code 117 = .ok (.iadd, 1) := by decide +kernel
theorem d_cJT_find_118 : decode prog_1_method_22_code 118 = .ok (.iload 6, 2) := by decide +kernel
theorem d_cJT_find_120 : decode prog_1_method_22_code 120 = .ok (.invokevirtual 338, 3) := by decide +kernel
theorem d_cJT_find_123 : decode prog_1_method_22_code 123 = .ok (.astore_n 3, 1) := by decide +kernel
theorem d_cJT_find_124 : decode prog_1_method_22_code 124 = .ok (.iload 6, 2) := by decide +kernel
theorem d_cJT_find_126 : decode prog_1_method_22_code 126 = .ok (.istore 4, 2) := by decide +kernel
theorem d_cJT_find_128 : decode prog_1_method_22_code 128 = .ok (.iinc 5 1, 3) := by decide +kernel
theorem d_cJT_find_131 : decode prog_1_method_22_code 131 = .ok (.goto (-86), 3) := by decide +kernel
set_option maxHeartbeats 4000000 in
set_option maxRecDepth 100000 in
theorem w_cJT_find_J123 {p : Program} {l : Launch} {e : Env} {s : State} {m : MethodId} {args : Array Value} {below : List Frame} {meth : Method} {c : Code} {A : Nat → Prop} {D : va_G} {ad : Nat → Nat → Nat} {cc : Nat → ClassId} {sad sav : Nat → Nat} {Q : State → Prop} {cR sR : Nat} (hfl : l.flags = flags0) (hC : MCc sad sav "JoinedTrees" prog_1_method_22_code 7 (some .int) p s m args meth c A D cc) {N : Nat → Nat} {x0 : Nat} {S : CS} {x5 : Int32} {x6 : Int32} {t0 : Option Nat} {o : ((CS × Option Nat × Int32 × Int32) ⊕ (CS × Option Nat))} (Heq : m_cJT_find_J123 N x0 S x5 x6 t0 = some o) (Ka : ∀ b : CS × Option Nat × Int32 × Int32, o = .inl b → ∀ (H : Heap) (locs : List Loc) (ls : Array Slot), va_P D cls (cw ad cc N b.1) H → va_D A (cw ad cc N b.1) → va_S A s.heap H locs → lv_has ls 7 [(0, .ref (ad 11 x0)), (3, rv ad 3 b.2.1), (4, .int b.2.2.1), (5, .int b.2.2.2)] → W p l e ({ frames := 7, cells := cR, slots := sR, locals := 122 }) s m args below meth c H locs 0 0 Q (F0 m 45 ls [])) (K0 : ∀ b : CS × Option Nat, o = .inr b → ∀ (H : Heap) (locs : List Loc) (ls : Array Slot), va_P D cls (cw ad cc N b.1) H → va_D A (cw ad cc N b.1) → va_S A s.heap H locs → lv_has ls 7 [(0, .ref (ad 11 x0)), (3, rv ad 3 b.2)] → W p l e ({ frames := 7, cells := cR, slots := sR, locals := 122 }) s m args below meth c H locs 0 0 Q (F0 m 134 ls [])) : ∀ (H : Heap) (locs : List Loc) (ls : Array Slot), va_P D cls (cw ad cc N S) H → va_D A (cw ad cc N S) → va_S A s.heap H locs → lv_has ls 7 [(0, .ref (ad 11 x0)), (5, .int x5), (6, .int x6)] → W p l e ({ frames := 7, cells := cR, slots := sR, locals := 122 }) s m args below meth c H locs 0 0 Q (F0 m 123 ls [rv ad 3 t0]) := by
  intro H locs ls hP hD hS hl
  obtain ⟨hx, hb, hr, hml, hown, hts, hK, hA, hev, hE, hN, hNS⟩ := id hC
  unfold m_cJT_find_J123 at Heq
  refine tx_astore_n (x := t0.map (ad 3)) (lv' := [(3, rv ad 3 t0), (0, .ref (ad 11 x0)), (5, .int x5), (6, .int x6)]) hx hb d_cJT_find_123 rfl hl (by decide) rfl (fun ls hl => ?_)
  refine lv_iload hx hb d_cJT_find_124 (lv_at hl 3 rfl) ?_
  refine lv_istore (lv' := [(4, .int x6), (3, rv ad 3 t0), (0, .ref (ad 11 x0)), (5, .int x5), (6, .int x6)]) hx hb d_cJT_find_126 hl (by decide) (by simp [rv, rf_cat]) (fun ls hl => ?_)
  refine lv_iinc (v := x5 + 1) (lv' := [(5, .int (x5 + 1)), (4, .int x6), (3, rv ad 3 t0), (0, .ref (ad 11 x0)), (6, .int x6)]) hx hb d_cJT_find_128 hl (k := 3) rfl rfl (by decide) rfl (fun ls hl => ?_)
  refine lv_goto (tgt := 45) hx hb d_cJT_find_131 (by decide) ?_
  exact Ka _ (Option.some.inj Heq).symm _ _ _ hP hD hS (lv_sub hl [3, 2, 1, 0] rfl)
def m_cJT_find_J118 (N : Nat → Nat) (x0 : Nat) (S : CS) (x5 : Int32) (x6 : Int32) (t0 : Int32) (t1 : Option Nat) (t2 : Option Nat) : Option ((CS × Option Nat × Int32 × Int32) ⊕ (CS × Option Nat)) := gn t1 (N 3) (fun j_1 => gn t2 (N 11) (fun j_4 => ob (m_cJT_keyOf N j_4 S j_1 t0 x6) (fun o_7 => m_cJT_find_J123 N x0 o_7.1 x5 x6 o_7.2)))
set_option maxHeartbeats 4000000 in
set_option maxRecDepth 100000 in
theorem w_cJT_find_J118 {p : Program} {l : Launch} {e : Env} {s : State} {m : MethodId} {args : Array Value} {below : List Frame} {meth : Method} {c : Code} {A : Nat → Prop} {D : va_G} {ad : Nat → Nat → Nat} {cc : Nat → ClassId} {sad sav : Nat → Nat} {Q : State → Prop} {cR sR : Nat} (hfl : l.flags = flags0) (hC : MCc sad sav "JoinedTrees" prog_1_method_22_code 7 (some .int) p s m args meth c A D cc) {N : Nat → Nat} {x0 : Nat} {S : CS} {x5 : Int32} {x6 : Int32} {t0 : Int32} {t1 : Option Nat} {t2 : Option Nat} {o : ((CS × Option Nat × Int32 × Int32) ⊕ (CS × Option Nat))} (Heq : m_cJT_find_J118 N x0 S x5 x6 t0 t1 t2 = some o) (Ka : ∀ b : CS × Option Nat × Int32 × Int32, o = .inl b → ∀ (H : Heap) (locs : List Loc) (ls : Array Slot), va_P D cls (cw ad cc N b.1) H → va_D A (cw ad cc N b.1) → va_S A s.heap H locs → lv_has ls 7 [(0, .ref (ad 11 x0)), (3, rv ad 3 b.2.1), (4, .int b.2.2.1), (5, .int b.2.2.2)] → W p l e ({ frames := 7, cells := cR, slots := sR, locals := 122 }) s m args below meth c H locs 0 0 Q (F0 m 45 ls [])) (K0 : ∀ b : CS × Option Nat, o = .inr b → ∀ (H : Heap) (locs : List Loc) (ls : Array Slot), va_P D cls (cw ad cc N b.1) H → va_D A (cw ad cc N b.1) → va_S A s.heap H locs → lv_has ls 7 [(0, .ref (ad 11 x0)), (3, rv ad 3 b.2)] → W p l e ({ frames := 7, cells := cR, slots := sR, locals := 122 }) s m args below meth c H locs 0 0 Q (F0 m 134 ls [])) : ∀ (H : Heap) (locs : List Loc) (ls : Array Slot), va_P D cls (cw ad cc N S) H → va_D A (cw ad cc N S) → va_S A s.heap H locs → lv_has ls 7 [(0, .ref (ad 11 x0)), (5, .int x5), (6, .int x6)] → W p l e ({ frames := 7, cells := cR, slots := sR, locals := 122 }) s m args below meth c H locs 0 0 Q (F0 m 118 ls [.int t0, rv ad 3 t1, rv ad 11 t2]) := by
  intro H locs ls hP hD hS hl
  obtain ⟨hx, hb, hr, hml, hown, hts, hK, hA, hev, hE, hN, hNS⟩ := id hC
  unfold m_cJT_find_J118 at Heq
  refine lv_iload hx hb d_cJT_find_118 (lv_at hl 2 rfl) ?_
  obtain ⟨j_1, hj_2, hl_3, Heq⟩ := gn_some Heq
  refine w_s (st' := [.int x6, .int t0, .ref (ad 3 j_1), rv ad 11 t2]) (congrArg (fun z9 : Option Nat => [.int x6, .int t0, rv ad 3 z9, rv ad 11 t2]) hj_2) ?_
  obtain ⟨j_4, hj_5, hl_6, Heq⟩ := gn_some Heq
  refine w_s (st' := [.int x6, .int t0, .ref (ad 3 j_1), .ref (ad 11 j_4)]) (congrArg (fun z9 : Option Nat => [.int x6, .int t0, .ref (ad 3 j_1), rv ad 11 z9]) hj_5) ?_
  obtain ⟨o_7, h_8, Heq⟩ := ob_some Heq
  have hFc := fr_all hD hS hA
  refine va_callq (va_runV (As := [.ref (ad 3 j_1), .int t0, .int x6]) (rest := []) ⟨hx, hb, hml, hown, hts⟩ (g_cJT_keyOf l D H.size (ad := ad) (cc := cc) (sad := sad) (sav := sav) h_8) (cw_v 3 hts kw_1208 kw_1205 kw_1207 kp_28 kw_1 rfl rfl (by decide +kernel) ⟨Nat.le_of_ble_eq_true rfl, Nat.le_of_ble_eq_true rfl⟩) ⟨c_blind, va_recv hK hP (ci := 11) (q0 := cPos N 11 j_4) rfl (cw_obj (k := 11) (by decide) hl_6), fun U hU hW => c_pre hU hW hP hK hD hev hE hN hNS hS hFc⟩ rfl rfl hl.1 rfl (lv_room (Nat.le_of_ble_eq_true rfl)) d_cJT_find_120 ⟨Nat.zero_le _, Nat.zero_le _⟩) hS (fun q _ h => hFc q h) hFc (fun rz u t H1 locs ht hvm hw hB hz1 hk1 hS => ?_)
  obtain ⟨hP, -, hD1⟩ := hB
  rw [ht] at hP
  have hD := hD1.weaken (fun _ q _ h => hFc q.1 h)
  generalize H1 = H at hP hS ⊢
  refine W.cs (cells' := 0) (slots' := 0) rfl rfl ?_
  subst hw
  refine w_v (y := rv ad 3 o_7.2) rfl ?_
  exact w_cJT_find_J123 hfl hC Heq Ka K0 _ _ _ hP hD hS (lv_sub hl [0, 1, 2] rfl)
def m_cJT_find_B45 (N : Nat → Nat) (x0 : Nat) (S : CS) (x3 : Option Nat) (x4 : Int32) (x5 : Int32) : Option ((CS × Option Nat × Int32 × Int32) ⊕ (CS × Option Nat)) := (if 8192 ≤ x5 then some (.inr (S, x3)) else on x3 (some (.inr (S, x3))) (fun j_2 => gl x0 (N 11) (gn (S.r 11 9 x0) (N 5) (fun j_4 => (if S.i 5 1 j_4 ≤ x4 then some (.inr (S, x3)) else ob (m_cJT_stepEnd N x0 S x4) (fun o_8 => gn (o_8.1.r 11 9 x0) (N 5) (fun j_10 => ob (m_cRw_at N j_10 o_8.1 x4) (fun o_13 => (if o_13.2 = 91 then gl j_2 (N 3) (ob (m_cJT_elementOf N x0 o_13.1 j_2 x4 o_8.2) (fun o_17 => m_cJT_find_J123 N x0 o_17.1 x5 o_8.2 o_17.2)) else (if x4 = 0 then m_cJT_find_J118 N x0 o_13.1 x5 o_8.2 0 x3 (some x0) else m_cJT_find_J118 N x0 o_13.1 x5 o_8.2 (x4 + 1) x3 (some x0)))))))))))
theorem d_cJT_find_110 : decode prog_1_method_22_code 110 = .ok (.iconst 0, 1) := by decide +kernel
theorem d_cJT_find_111 : decode prog_1_method_22_code 111 = .ok (.goto 7, 3) := by decide +kernel
theorem d_cJT_find_91 : decode prog_1_method_22_code 91 = .ok (.aload_n 0, 1) := by decide +kernel
theorem d_cJT_find_92 : decode prog_1_method_22_code 92 = .ok (.aload_n 3, 1) := by decide +kernel
theorem d_cJT_find_93 : decode prog_1_method_22_code 93 = .ok (.iload 4, 2) := by decide +kernel
theorem d_cJT_find_95 : decode prog_1_method_22_code 95 = .ok (.iload 6, 2) := by decide +kernel
theorem d_cJT_find_97 : decode prog_1_method_22_code 97 = .ok (.invokevirtual 334, 3) := by decide +kernel
theorem d_cJT_find_100 : decode prog_1_method_22_code 100 = .ok (.goto 23, 3) := by decide +kernel
set_option maxHeartbeats 4000000 in
set_option maxRecDepth 100000 in
theorem w_cJT_find_B45 {p : Program} {l : Launch} {e : Env} {s : State} {m : MethodId} {args : Array Value} {below : List Frame} {meth : Method} {c : Code} {A : Nat → Prop} {D : va_G} {ad : Nat → Nat → Nat} {cc : Nat → ClassId} {sad sav : Nat → Nat} {Q : State → Prop} {cR sR : Nat} (hfl : l.flags = flags0) (hC : MCc sad sav "JoinedTrees" prog_1_method_22_code 7 (some .int) p s m args meth c A D cc) {N : Nat → Nat} {x0 : Nat} {S : CS} {x3 : Option Nat} {x4 : Int32} {x5 : Int32} {o : ((CS × Option Nat × Int32 × Int32) ⊕ (CS × Option Nat))} (Heq : m_cJT_find_B45 N x0 S x3 x4 x5 = some o) (Ka : ∀ b : CS × Option Nat × Int32 × Int32, o = .inl b → ∀ (H : Heap) (locs : List Loc) (ls : Array Slot), va_P D cls (cw ad cc N b.1) H → va_D A (cw ad cc N b.1) → va_S A s.heap H locs → lv_has ls 7 [(0, .ref (ad 11 x0)), (3, rv ad 3 b.2.1), (4, .int b.2.2.1), (5, .int b.2.2.2)] → W p l e ({ frames := 7, cells := cR, slots := sR, locals := 122 }) s m args below meth c H locs 0 0 Q (F0 m 45 ls [])) (K0 : ∀ b : CS × Option Nat, o = .inr b → ∀ (H : Heap) (locs : List Loc) (ls : Array Slot), va_P D cls (cw ad cc N b.1) H → va_D A (cw ad cc N b.1) → va_S A s.heap H locs → lv_has ls 7 [(0, .ref (ad 11 x0)), (3, rv ad 3 b.2)] → W p l e ({ frames := 7, cells := cR, slots := sR, locals := 122 }) s m args below meth c H locs 0 0 Q (F0 m 134 ls [])) : ∀ (H : Heap) (locs : List Loc) (ls : Array Slot), va_P D cls (cw ad cc N S) H → va_D A (cw ad cc N S) → va_S A s.heap H locs → lv_has ls 7 [(0, .ref (ad 11 x0)), (3, rv ad 3 x3), (4, .int x4), (5, .int x5)] → W p l e ({ frames := 7, cells := cR, slots := sR, locals := 122 }) s m args below meth c H locs 0 0 Q (F0 m 45 ls []) := by
  intro H locs ls hP hD hS hl
  obtain ⟨hx, hb, hr, hml, hown, hts, hK, hA, hev, hE, hN, hNS⟩ := id hC
  unfold m_cJT_find_B45 at Heq
  refine lv_iload hx hb d_cJT_find_45 (lv_at hl 3 rfl) ?_
  refine lv_sipush (v := 8192) hx hb d_cJT_find_47 (by decide) ?_
  refine lv_icmp_ge (tgt := 134) hx hb d_cJT_find_50 (by decide) (fun c_1 => ?_) (fun c_1 => ?_)
  · replace Heq := (if_pos c_1).symm.trans Heq
    exact K0 _ (Option.some.inj Heq).symm _ _ _ hP hD hS (lv_sub hl [0, 1] rfl)
  · replace Heq := (if_neg c_1).symm.trans Heq
    refine tx_aload_n (x := x3.map (ad 3)) hx hb d_cJT_find_53 rfl (lv_at hl 1 rfl) ?_
    refine w_v (y := rv ad 3 x3) rfl ?_
    rcases on_some Heq with ⟨hj_3, Heq⟩ | ⟨j_2, hj_3, Heq⟩
    · refine w_s (st' := [.null]) (congrArg (fun z9 : Option Nat => [rv ad 3 z9]) hj_3) ?_
      refine lv_ifnullN (tgt := 134) hx hb d_cJT_find_54 (by decide) ?_
      exact K0 _ (Option.some.inj Heq).symm _ _ _ hP hD hS (lv_sub hl [0, 1] rfl)
    · refine w_s (st' := [.ref (ad 3 j_2)]) (congrArg (fun z9 : Option Nat => [rv ad 3 z9]) hj_3) ?_
      refine lv_ifnull hx hb d_cJT_find_54 ?_
      refine lv_iload hx hb d_cJT_find_57 (lv_at hl 2 rfl) ?_
      refine lv_aload_n hx hb d_cJT_find_59 rfl (lv_at hl 0 rfl) ?_
      obtain ⟨hl_x0_11, Heq⟩ := gl_some Heq
      refine va_get (D := D) (ci := 11) (v := rv ad 5 (S.r 11 9 x0)) (C := R_JT) (T := F_JT) (N := 13) hx hb hts i_JT hown hK hP (cPos N 11 x0) (cw_obj (k := 11) (by decide) hl_x0_11) rfl 9 (by decide) (hts _ kw_430) (fun _ h9 => h9) rfl d_cJT_find_60 ?_
      obtain ⟨j_4, hj_5, hl_6, Heq⟩ := gn_some Heq
      refine w_s (st' := [.ref (ad 5 j_4), .int x4]) (congrArg (fun z9 : Option Nat => [rv ad 5 z9, .int x4]) hj_5) ?_
      refine va_get (D := D) (ci := 5) (v := .int (S.i 5 1 j_4)) (C := R_Rw) (T := F_Rw) (N := 3) hx hb hts i_Rw hown hK hP (cPos N 5 j_4) (cw_obj (k := 5) (by decide) hl_6) rfl 1 (by decide) (hts _ kw_143) (fun _ h9 => h9) rfl d_cJT_find_63 ?_
      refine lv_icmp_ge (tgt := 134) hx hb d_cJT_find_66 (by decide) (fun c_7 => ?_) (fun c_7 => ?_)
      · replace Heq := (if_pos c_7).symm.trans Heq
        exact K0 _ (Option.some.inj Heq).symm _ _ _ hP hD hS (lv_sub hl [0, 1] rfl)
      · replace Heq := (if_neg c_7).symm.trans Heq
        refine lv_aload_n hx hb d_cJT_find_69 rfl (lv_at hl 0 rfl) ?_
        refine lv_iload hx hb d_cJT_find_70 (lv_at hl 2 rfl) ?_
        obtain ⟨o_8, h_9, Heq⟩ := ob_some Heq
        have hFc := fr_all hD hS hA
        refine va_calli (va_runV (As := [.int x4]) (rest := []) ⟨hx, hb, hml, hown, hts⟩ (g_cJT_stepEnd l D H.size (ad := ad) (cc := cc) (sad := sad) (sav := sav) h_9) (cw_v 1 hts kw_1188 kw_1185 kw_1187 kp_24 kw_1 rfl rfl (by decide +kernel) ⟨Nat.le_of_ble_eq_true rfl, Nat.le_of_ble_eq_true rfl⟩) ⟨c_blind, va_recv hK hP (ci := 11) (q0 := cPos N 11 x0) rfl (cw_obj (k := 11) (by decide) hl_x0_11), fun U hU hW => c_pre hU hW hP hK hD hev hE hN hNS hS hFc⟩ rfl rfl hl.1 rfl (lv_room (Nat.le_of_ble_eq_true rfl)) d_cJT_find_72 ⟨Nat.zero_le _, Nat.zero_le _⟩) hS (fun q _ h => hFc q h) hFc (fun rz u t H1 locs ht hvm hw hB hz1 hk1 hS => ?_)
        obtain ⟨hP, -, hD1⟩ := hB
        rw [ht] at hP
        have hD := hD1.weaken (fun _ q _ h => hFc q.1 h)
        generalize H1 = H at hP hS ⊢
        refine W.cs (cells' := 0) (slots' := 0) rfl rfl ?_
        subst hw
        refine lv_istore (lv' := [(6, .int o_8.2), (0, .ref (ad 11 x0)), (3, rv ad 3 x3), (4, .int x4), (5, .int x5)]) hx hb d_cJT_find_75 hl (by decide) rfl (fun ls hl => ?_)
        refine lv_aload_n hx hb d_cJT_find_77 rfl (lv_at hl 1 rfl) ?_
        refine va_get (D := D) (ci := 11) (v := rv ad 5 (o_8.1.r 11 9 x0)) (C := R_JT) (T := F_JT) (N := 13) hx hb hts i_JT hown hK hP (cPos N 11 x0) (cw_obj (k := 11) (by decide) hl_x0_11) rfl 9 (by decide) (hts _ kw_430) (fun _ h9 => h9) rfl d_cJT_find_78 ?_
        refine lv_iload hx hb d_cJT_find_81 (lv_at hl 3 rfl) ?_
        obtain ⟨j_10, hj_11, hl_12, Heq⟩ := gn_some Heq
        refine w_s (st' := [.int x4, .ref (ad 5 j_10)]) (congrArg (fun z9 : Option Nat => [.int x4, rv ad 5 z9]) hj_11) ?_
        obtain ⟨o_13, h_14, Heq⟩ := ob_some Heq
        have hFc := fr_all hD hS hA
        refine va_calli (va_runV (As := [.int x4]) (rest := []) ⟨hx, hb, hml, hown, hts⟩ (g_cRw_at l D H.size (ad := ad) (cc := cc) (sad := sad) (sav := sav) h_14) (cw_v 1 hts kw_689 kw_1136 kw_687 kw_688 kw_4 rfl rfl (by decide +kernel) ⟨Nat.le_of_ble_eq_true rfl, Nat.le_of_ble_eq_true rfl⟩) ⟨c_blind, va_recv hK hP (ci := 5) (q0 := cPos N 5 j_10) rfl (cw_obj (k := 5) (by decide) hl_12), fun U hU hW => c_pre hU hW hP hK hD hev hE hN hNS hS hFc⟩ rfl rfl hl.1 rfl (lv_room (Nat.le_of_ble_eq_true rfl)) d_cJT_find_83 ⟨Nat.zero_le _, Nat.zero_le _⟩) hS (fun q _ h => hFc q h) hFc (fun rz u t H1 locs ht hvm hw hB hz1 hk1 hS => ?_)
        obtain ⟨hP, -, hD1⟩ := hB
        rw [ht] at hP
        have hD := hD1.weaken (fun _ q _ h => hFc q.1 h)
        generalize H1 = H at hP hS ⊢
        refine W.cs (cells' := 0) (slots' := 0) rfl rfl ?_
        subst hw
        refine lv_bipush (v := 91) hx hb d_cJT_find_86 (by decide) ?_
        refine lv_icmp_ne (tgt := 103) hx hb d_cJT_find_88 (by decide) (fun c_15 => ?_) (fun c_15 => ?_)
        · replace Heq := (if_neg c_15).symm.trans Heq
          refine lv_aload_n hx hb d_cJT_find_103 rfl (lv_at hl 1 rfl) ?_
          refine tx_aload_n (x := x3.map (ad 3)) hx hb d_cJT_find_104 rfl (lv_at hl 2 rfl) ?_
          refine w_v (y := rv ad 3 x3) rfl ?_
          refine lv_iload hx hb d_cJT_find_105 (lv_at hl 3 rfl) ?_
          refine lv_if_ne (tgt := 114) hx hb d_cJT_find_107 (by decide) (fun c_16 => ?_) (fun c_16 => ?_)
          · replace Heq := (if_neg c_16).symm.trans Heq
            refine lv_iload hx hb d_cJT_find_114 (lv_at hl 3 rfl) ?_
            refine lv_iconst (v := 1) hx hb d_cJT_find_116 (by decide) ?_
            refine lv_iadd hx hb d_cJT_find_117 ?_
            refine w_i (y := x4 + 1) rfl ?_
            exact w_cJT_find_J118 hfl hC Heq Ka K0 _ _ _ hP hD hS (lv_sub hl [1, 4, 0] rfl)
          · replace Heq := (if_pos c_16).symm.trans Heq
            refine lv_iconst (v := 0) hx hb d_cJT_find_110 (by decide) ?_
            refine lv_goto (tgt := 118) hx hb d_cJT_find_111 (by decide) ?_
            exact w_cJT_find_J118 hfl hC Heq Ka K0 _ _ _ hP hD hS (lv_sub hl [1, 4, 0] rfl)
        · replace Heq := (if_pos c_15).symm.trans Heq
          refine lv_aload_n hx hb d_cJT_find_91 rfl (lv_at hl 1 rfl) ?_
          refine tx_aload_n (x := x3.map (ad 3)) hx hb d_cJT_find_92 rfl (lv_at hl 2 rfl) ?_
          refine w_v (y := rv ad 3 x3) rfl ?_
          refine lv_iload hx hb d_cJT_find_93 (lv_at hl 3 rfl) ?_
          refine lv_iload hx hb d_cJT_find_95 (lv_at hl 0 rfl) ?_
          refine w_s (st' := [.int o_8.2, .int x4, .ref (ad 3 j_2), .ref (ad 11 x0)]) (congrArg (fun z9 : Option Nat => [.int o_8.2, .int x4, rv ad 3 z9, .ref (ad 11 x0)]) hj_3) ?_
          obtain ⟨hl_j_2_3, Heq⟩ := gl_some Heq
          obtain ⟨o_17, h_18, Heq⟩ := ob_some Heq
          have hFc := fr_all hD hS hA
          refine va_callq (va_runV (As := [.ref (ad 3 j_2), .int x4, .int o_8.2]) (rest := []) ⟨hx, hb, hml, hown, hts⟩ (g_cJT_elementOf l D H.size (ad := ad) (cc := cc) (sad := sad) (sav := sav) h_18) (cw_v 3 hts kw_1204 kw_1201 kw_1203 kp_27 kw_1 rfl rfl (by decide +kernel) ⟨Nat.le_of_ble_eq_true rfl, Nat.le_of_ble_eq_true rfl⟩) ⟨c_blind, va_recv hK hP (ci := 11) (q0 := cPos N 11 x0) rfl (cw_obj (k := 11) (by decide) hl_x0_11), fun U hU hW => c_pre hU hW hP hK hD hev hE hN hNS hS hFc⟩ rfl rfl hl.1 rfl (lv_room (Nat.le_of_ble_eq_true rfl)) d_cJT_find_97 ⟨Nat.zero_le _, Nat.zero_le _⟩) hS (fun q _ h => hFc q h) hFc (fun rz u t H1 locs ht hvm hw hB hz1 hk1 hS => ?_)
          obtain ⟨hP, -, hD1⟩ := hB
          rw [ht] at hP
          have hD := hD1.weaken (fun _ q _ h => hFc q.1 h)
          generalize H1 = H at hP hS ⊢
          refine W.cs (cells' := 0) (slots' := 0) rfl rfl ?_
          subst hw
          refine w_v (y := rv ad 3 o_17.2) rfl ?_
          refine lv_goto (tgt := 123) hx hb d_cJT_find_100 (by decide) ?_
          exact w_cJT_find_J123 hfl hC Heq Ka K0 _ _ _ hP hD hS (lv_sub hl [1, 4, 0] rfl)
def m_cJT_find_L45 (N : Nat → Nat) (x0 : Nat) (S : CS) (x3 : Option Nat) (x4 : Int32) (x5 : Int32) : Option (CS × Option Nat) := lp (fun a : CS × Option Nat × Int32 × Int32 => m_cJT_find_B45 N x0 a.1 a.2.1 a.2.2.1 a.2.2.2) FU (S, x3, x4, x5)
theorem w_cJT_find_L45 {p : Program} {l : Launch} {e : Env} {s : State} {m : MethodId} {args : Array Value} {below : List Frame} {meth : Method} {c : Code} {A : Nat → Prop} {D : va_G} {ad : Nat → Nat → Nat} {cc : Nat → ClassId} {sad sav : Nat → Nat} {Q : State → Prop} {cR sR : Nat} (hfl : l.flags = flags0) (hC : MCc sad sav "JoinedTrees" prog_1_method_22_code 7 (some .int) p s m args meth c A D cc) {N : Nat → Nat} {x0 : Nat} {S : CS} {x3 : Option Nat} {x4 : Int32} {x5 : Int32} {o : CS × Option Nat} (Heq : m_cJT_find_L45 N x0 S x3 x4 x5 = some o) (K0 : ∀ b : CS × Option Nat, o = b → ∀ (H : Heap) (locs : List Loc) (ls : Array Slot), va_P D cls (cw ad cc N b.1) H → va_D A (cw ad cc N b.1) → va_S A s.heap H locs → lv_has ls 7 [(0, .ref (ad 11 x0)), (3, rv ad 3 b.2)] → W p l e ({ frames := 7, cells := cR, slots := sR, locals := 122 }) s m args below meth c H locs 0 0 Q (F0 m 134 ls [])) : ∀ (H : Heap) (locs : List Loc) (ls : Array Slot), va_P D cls (cw ad cc N S) H → va_D A (cw ad cc N S) → va_S A s.heap H locs → lv_has ls 7 [(0, .ref (ad 11 x0)), (3, rv ad 3 x3), (4, .int x4), (5, .int x5)] → W p l e ({ frames := 7, cells := cR, slots := sR, locals := 122 }) s m args below meth c H locs 0 0 Q (F0 m 45 ls []) := by
  refine lp_w (G := fun a : CS × Option Nat × Int32 × Int32 => ∀ (H : Heap) (locs : List Loc) (ls : Array Slot), va_P D cls (cw ad cc N a.1) H → va_D A (cw ad cc N a.1) → va_S A s.heap H locs → lv_has ls 7 [(0, .ref (ad 11 x0)), (3, rv ad 3 a.2.1), (4, .int a.2.2.1), (5, .int a.2.2.2)] → W p l e ({ frames := 7, cells := cR, slots := sR, locals := 122 }) s m args below meth c H locs 0 0 Q (F0 m 45 ls [])) ?_ FU (S, x3, x4, x5) Heq
  intro a o1 ho Ka Ke
  exact w_cJT_find_B45 hfl hC ho (fun b h => Ka b h) (fun b h => K0 b (Ke _ h).symm)
def m_cJT_find_J134 (N : Nat → Nat) (x0 : Nat) (S : CS) (x3 : Option Nat) : Option ((CS × Int32) ⊕ (CS × Nat)) := on x3 (some (.inr (S, 3))) (fun j_1 => gl j_1 (N 3) (some (.inl (S, S.i 3 0 j_1))))
theorem d_cJT_find_134 : decode prog_1_method_22_code 134 = .ok (.aload_n 3, 1) := by decide +kernel
theorem d_cJT_find_135 : decode prog_1_method_22_code 135 = .ok (.ifnonnull 11, 3) := by decide +kernel
theorem d_cJT_find_138 : decode prog_1_method_22_code 138 = .ok (.new 178, 3) := by decide +kernel
theorem d_cJT_find_141 : decode prog_1_method_22_code 141 = .ok (.dup, 1) := by decide +kernel
theorem d_cJT_find_142 : decode prog_1_method_22_code 142 = .ok (.invokespecial 180, 3) := by decide +kernel
theorem d_cJT_find_145 : decode prog_1_method_22_code 145 = .ok (.athrow, 1) := by decide +kernel
theorem d_cJT_find_146 : decode prog_1_method_22_code 146 = .ok (.aload_n 3, 1) := by decide +kernel
theorem d_cJT_find_147 : decode prog_1_method_22_code 147 = .ok (.getfield 140, 3) := by decide +kernel
theorem d_cJT_find_150 : decode prog_1_method_22_code 150 = .ok (.ireturn, 1) := by decide +kernel
set_option maxHeartbeats 4000000 in
set_option maxRecDepth 100000 in
theorem w_cJT_find_J134 {p : Program} {l : Launch} {e : Env} {s : State} {m : MethodId} {args : Array Value} {below : List Frame} {meth : Method} {c : Code} {A : Nat → Prop} {D : va_G} {ad : Nat → Nat → Nat} {cc : Nat → ClassId} {sad sav : Nat → Nat} {Q : State → Prop} {cR sR : Nat} (hfl : l.flags = flags0) (hC : MCc sad sav "JoinedTrees" prog_1_method_22_code 7 (some .int) p s m args meth c A D cc) {N : Nat → Nat} {x0 : Nat} {S : CS} {x3 : Option Nat} {o : ((CS × Int32) ⊕ (CS × Nat))} (Heq : m_cJT_find_J134 N x0 S x3 = some o) (Kr : ∀ r : ((CS × Int32) ⊕ (CS × Nat)), o = r → (∀ v9 : CS × Int32, r = .inl v9 → ∀ (pc : Nat) (H : Heap) (locs : List Loc) (ls : Array Slot), decode prog_1_method_22_code pc = .ok (.ireturn, 1) → va_P D cls (cw ad cc N v9.1) H → va_D A (cw ad cc N v9.1) → va_S A s.heap H locs → W p l e ({ frames := 7, cells := cR, slots := sR, locals := 122 }) s m args below meth c H locs 0 0 Q (F0 m pc ls [.int v9.2])) ∧ (∀ t9 : CS × Nat, r = .inr t9 → (1 ≤ cR ∧ 6 ≤ sR) ∧ (∀ (pc : Nat) (H : Heap) (locs : List Loc) (ls : Array Slot), thD prog_1_method_22_code t9.2 pc → ls.size = 7 → va_P D cls (cw ad cc N t9.1) H → va_D A (cw ad cc N t9.1) → va_S A s.heap H locs → W p l e ({ frames := 7, cells := cR, slots := sR, locals := 122 }) s m args below meth c H locs 0 0 Q (F0 m pc ls [])) ∧ (∀ (pc : Nat) (H : Heap) (locs : List Loc) (ls : Array Slot) (st0 rest9 : List Value) (A9 : Nat → Prop), tx_Thr p l e ({ frames := 7, cells := cR, slots := sR, locals := 122 }) s m args below meth c H locs 0 0 1 6 (F0 m pc ls st0) rest9 (exN t9.2) A9 (fun H1 => va_P D cls (cw ad cc N t9.1) H1) → (∀ q, A9 q → A q) → va_S A s.heap H locs → W p l e ({ frames := 7, cells := cR, slots := sR, locals := 122 }) s m args below meth c H locs 0 0 Q (F0 m pc ls st0)))) : ∀ (H : Heap) (locs : List Loc) (ls : Array Slot), va_P D cls (cw ad cc N S) H → va_D A (cw ad cc N S) → va_S A s.heap H locs → lv_has ls 7 [(0, .ref (ad 11 x0)), (3, rv ad 3 x3)] → W p l e ({ frames := 7, cells := cR, slots := sR, locals := 122 }) s m args below meth c H locs 0 0 Q (F0 m 134 ls []) := by
  intro H locs ls hP hD hS hl
  obtain ⟨hx, hb, hr, hml, hown, hts, hK, hA, hev, hE, hN, hNS⟩ := id hC
  unfold m_cJT_find_J134 at Heq
  refine tx_aload_n (x := x3.map (ad 3)) hx hb d_cJT_find_134 rfl (lv_at hl 1 rfl) ?_
  refine w_v (y := rv ad 3 x3) rfl ?_
  rcases on_some Heq with ⟨hj_2, Heq⟩ | ⟨j_1, hj_2, Heq⟩
  · refine w_s (st' := [.null]) (congrArg (fun z9 : Option Nat => [rv ad 3 z9]) hj_2) ?_
    refine lv_ifnonnullN hx hb d_cJT_find_135 ?_
    exact ((Kr _ (Option.some.inj Heq).symm).2 _ rfl).2.1 138 _ _ _ ⟨⟨show 1 ≤ 3 by decide, show 3 ≤ 5 by decide⟩, d_cJT_find_138, d_cJT_find_141, d_cJT_find_142, d_cJT_find_145⟩ hl.1 hP hD hS
  · refine w_s (st' := [.ref (ad 3 j_1)]) (congrArg (fun z9 : Option Nat => [rv ad 3 z9]) hj_2) ?_
    refine lv_ifnonnull (tgt := 146) hx hb d_cJT_find_135 (by decide) ?_
    refine tx_aload_n (x := x3.map (ad 3)) hx hb d_cJT_find_146 rfl (lv_at hl 1 rfl) ?_
    refine w_v (y := rv ad 3 x3) rfl ?_
    refine w_s (st' := [.ref (ad 3 j_1)]) (congrArg (fun z9 : Option Nat => [rv ad 3 z9]) hj_2) ?_
    obtain ⟨hl_j_1_3, Heq⟩ := gl_some Heq
    refine va_get (D := D) (ci := 3) (v := .int (S.i 3 0 j_1)) (C := R_Op) (T := F_Op) (N := 15) hx hb hts i_Op hown hK hP (cPos N 3 j_1) (cw_obj (k := 3) (by decide) hl_j_1_3) rfl 0 (by decide) (hts _ kw_52) (fun _ h9 => h9) rfl d_cJT_find_147 ?_
    exact (Kr _ (Option.some.inj Heq).symm).1 _ rfl 150 _ _ _ d_cJT_find_150 hP hD hS
def m_cJT_find_J0 (N : Nat → Nat) (x0 : Nat) (S : CS) (x1 : Int32) : Option ((CS × Int32) ⊕ (CS × Nat)) := gl x0 (N 11) (ob (m_cJT_takeArguments N x0 S) (fun o_1 => oe (m_cJT_shown N x0 o_1.1 x1) (fun o_3 => (if o_1.2 = 1 then ob (m_cJT_isPath N x0 o_3.1) (fun o_7 => (if o_7.2 = 0 then m_cJT_find_J23 N x0 o_7.1 else gn (o_7.1.r 11 0 x0) (N 8) (fun j_10 => ob (m_cJT_find_L45 N x0 o_7.1 (o_7.1.r 8 0 j_10) 0 0) (fun b_13 => m_cJT_find_J134 N x0 b_13.1 b_13.2)))) else m_cJT_find_J23 N x0 o_3.1)) (fun t_5 => some (.inr t_5))))
set_option maxHeartbeats 4000000 in
set_option maxRecDepth 100000 in
theorem w_cJT_find_J0 {p : Program} {l : Launch} {e : Env} {s : State} {m : MethodId} {args : Array Value} {below : List Frame} {meth : Method} {c : Code} {A : Nat → Prop} {D : va_G} {ad : Nat → Nat → Nat} {cc : Nat → ClassId} {sad sav : Nat → Nat} {Q : State → Prop} {cR sR : Nat} (hfl : l.flags = flags0) (hC : MCc sad sav "JoinedTrees" prog_1_method_22_code 7 (some .int) p s m args meth c A D cc) {N : Nat → Nat} {x0 : Nat} {S : CS} {x1 : Int32} {o : ((CS × Int32) ⊕ (CS × Nat))} (Heq : m_cJT_find_J0 N x0 S x1 = some o) (Kr : ∀ r : ((CS × Int32) ⊕ (CS × Nat)), o = r → (∀ v9 : CS × Int32, r = .inl v9 → ∀ (pc : Nat) (H : Heap) (locs : List Loc) (ls : Array Slot), decode prog_1_method_22_code pc = .ok (.ireturn, 1) → va_P D cls (cw ad cc N v9.1) H → va_D A (cw ad cc N v9.1) → va_S A s.heap H locs → W p l e ({ frames := 7, cells := cR, slots := sR, locals := 122 }) s m args below meth c H locs 0 0 Q (F0 m pc ls [.int v9.2])) ∧ (∀ t9 : CS × Nat, r = .inr t9 → (1 ≤ cR ∧ 6 ≤ sR) ∧ (∀ (pc : Nat) (H : Heap) (locs : List Loc) (ls : Array Slot), thD prog_1_method_22_code t9.2 pc → ls.size = 7 → va_P D cls (cw ad cc N t9.1) H → va_D A (cw ad cc N t9.1) → va_S A s.heap H locs → W p l e ({ frames := 7, cells := cR, slots := sR, locals := 122 }) s m args below meth c H locs 0 0 Q (F0 m pc ls [])) ∧ (∀ (pc : Nat) (H : Heap) (locs : List Loc) (ls : Array Slot) (st0 rest9 : List Value) (A9 : Nat → Prop), tx_Thr p l e ({ frames := 7, cells := cR, slots := sR, locals := 122 }) s m args below meth c H locs 0 0 1 6 (F0 m pc ls st0) rest9 (exN t9.2) A9 (fun H1 => va_P D cls (cw ad cc N t9.1) H1) → (∀ q, A9 q → A q) → va_S A s.heap H locs → W p l e ({ frames := 7, cells := cR, slots := sR, locals := 122 }) s m args below meth c H locs 0 0 Q (F0 m pc ls st0)))) : ∀ (H : Heap) (locs : List Loc) (ls : Array Slot), va_P D cls (cw ad cc N S) H → va_D A (cw ad cc N S) → va_S A s.heap H locs → lv_has ls 7 [(0, .ref (ad 11 x0)), (1, .int x1)] → W p l e ({ frames := 7, cells := cR, slots := sR, locals := 122 }) s m args below meth c H locs 0 0 Q (F0 m 0 ls []) := by
  intro H locs ls hP hD hS hl
  obtain ⟨hx, hb, hr, hml, hown, hts, hK, hA, hev, hE, hN, hNS⟩ := id hC
  unfold m_cJT_find_J0 at Heq
  refine lv_aload_n hx hb d_cJT_find_0 rfl (lv_at hl 0 rfl) ?_
  obtain ⟨hl_x0_11, Heq⟩ := gl_some Heq
  obtain ⟨o_1, h_2, Heq⟩ := ob_some Heq
  have hFc := fr_all hD hS hA
  refine va_calli (va_runV (As := []) (rest := []) ⟨hx, hb, hml, hown, hts⟩ (g_cJT_takeArguments l D H.size (ad := ad) (cc := cc) (sad := sad) (sav := sav) h_2) (cw_v 0 hts kw_589 kw_586 kw_588 kp_2 kw_1 rfl rfl (by decide +kernel) ⟨Nat.le_of_ble_eq_true rfl, Nat.le_of_ble_eq_true rfl⟩) ⟨c_blind, va_recv hK hP (ci := 11) (q0 := cPos N 11 x0) rfl (cw_obj (k := 11) (by decide) hl_x0_11), fun U hU hW => c_pre hU hW hP hK hD hev hE hN hNS hS hFc⟩ rfl rfl hl.1 rfl (lv_room (Nat.le_of_ble_eq_true rfl)) d_cJT_find_1 ⟨Nat.zero_le _, Nat.zero_le _⟩) hS (fun q _ h => hFc q h) hFc (fun rz u t H1 locs ht hvm hw hB hz1 hk1 hS => ?_)
  obtain ⟨hP, -, hD1⟩ := hB
  rw [ht] at hP
  have hD := hD1.weaken (fun _ q _ h => hFc q.1 h)
  generalize H1 = H at hP hS ⊢
  refine W.cs (cells' := 0) (slots' := 0) rfl rfl ?_
  subst hw
  refine lv_istore_n (lv' := [(2, .int o_1.2), (0, .ref (ad 11 x0)), (1, .int x1)]) hx hb d_cJT_find_4 rfl hl (by decide) rfl (fun ls hl => ?_)
  refine lv_aload_n hx hb d_cJT_find_5 rfl (lv_at hl 1 rfl) ?_
  refine lv_iload_n hx hb d_cJT_find_6 rfl (lv_at hl 2 rfl) ?_
  have hFc := fr_all hD hS hA
  rcases oe_some Heq with ⟨o_3, h_4, Heq⟩ | ⟨t_5, h_4, Heq⟩
  case inr => exact ((Kr _ (Option.some.inj Heq).symm).2 _ rfl).2.2 7 _ _ _ _ _ _ (tx_runV (As := [.int x1]) (rest := []) ⟨hx, hb, hml, hown, hts⟩ (g_cJT_shown_t l hfl D H.size (ad := ad) (cc := cc) (sad := sad) (sav := sav) h_4) (cw_v 1 hts kw_593 kw_590 kw_592 kp_3 kw_1 rfl rfl (by decide +kernel) ⟨Nat.le_of_ble_eq_true rfl, Nat.le_of_ble_eq_true rfl⟩) ⟨c_blind, va_recv hK hP (ci := 11) (q0 := cPos N 11 x0) rfl (cw_obj (k := 11) (by decide) hl_x0_11), fun U hU hW => c_pre hU hW hP hK hD hev hE hN hNS hS hFc⟩ rfl rfl hl.1 rfl (lv_room (Nat.le_of_ble_eq_true rfl)) d_cJT_find_7 ((Kr _ (Option.some.inj Heq).symm).2 _ rfl).1) hFc hS
  refine va_callq (va_runV (As := [.int x1]) (rest := []) ⟨hx, hb, hml, hown, hts⟩ (g_cJT_shown l hfl D H.size (ad := ad) (cc := cc) (sad := sad) (sav := sav) h_4) (cw_v 1 hts kw_593 kw_590 kw_592 kp_3 kw_1 rfl rfl (by decide +kernel) ⟨Nat.le_of_ble_eq_true rfl, Nat.le_of_ble_eq_true rfl⟩) ⟨c_blind, va_recv hK hP (ci := 11) (q0 := cPos N 11 x0) rfl (cw_obj (k := 11) (by decide) hl_x0_11), fun U hU hW => c_pre hU hW hP hK hD hev hE hN hNS hS hFc⟩ rfl rfl hl.1 rfl (lv_room (Nat.le_of_ble_eq_true rfl)) d_cJT_find_7 ⟨Nat.zero_le _, Nat.zero_le _⟩) hS (fun q _ h => hFc q h) hFc (fun rz u t H1 locs ht hvm hw hB hz1 hk1 hS => ?_)
  obtain ⟨hP, -, hD1⟩ := hB
  rw [ht] at hP
  have hD := hD1.weaken (fun _ q _ h => hFc q.1 h)
  generalize H1 = H at hP hS ⊢
  refine W.cs (cells' := 0) (slots' := 0) rfl rfl ?_
  subst hw
  refine w_v (y := rv ad 4 o_3.2) rfl ?_
  refine lv_pop hx hb d_cJT_find_10 (by first | rfl | exact rv_cat) ?_
  refine lv_iload_n hx hb d_cJT_find_11 rfl (lv_at hl 0 rfl) ?_
  refine lv_iconst (v := 1) hx hb d_cJT_find_12 (by decide) ?_
  refine lv_icmp_ne (tgt := 23) hx hb d_cJT_find_13 (by decide) (fun c_6 => ?_) (fun c_6 => ?_)
  · replace Heq := (if_neg c_6).symm.trans Heq
    exact w_cJT_find_J23 hfl hC Heq Kr _ _ _ hP hD hS (lv_sub hl [1] rfl)
  · replace Heq := (if_pos c_6).symm.trans Heq
    refine lv_aload_n hx hb d_cJT_find_16 rfl (lv_at hl 1 rfl) ?_
    obtain ⟨o_7, h_8, Heq⟩ := ob_some Heq
    have hFc := fr_all hD hS hA
    refine va_calli (va_runV (As := []) (rest := []) ⟨hx, hb, hml, hown, hts⟩ (g_cJT_isPath l D H.size (ad := ad) (cc := cc) (sad := sad) (sav := sav) h_8) (cw_v 0 hts kw_1184 kw_1181 kw_1183 kp_23 kw_1 rfl rfl (by decide +kernel) ⟨Nat.le_of_ble_eq_true rfl, Nat.le_of_ble_eq_true rfl⟩) ⟨c_blind, va_recv hK hP (ci := 11) (q0 := cPos N 11 x0) rfl (cw_obj (k := 11) (by decide) hl_x0_11), fun U hU hW => c_pre hU hW hP hK hD hev hE hN hNS hS hFc⟩ rfl rfl hl.1 rfl (lv_room (Nat.le_of_ble_eq_true rfl)) d_cJT_find_17 ⟨Nat.zero_le _, Nat.zero_le _⟩) hS (fun q _ h => hFc q h) hFc (fun rz u t H1 locs ht hvm hw hB hz1 hk1 hS => ?_)
    obtain ⟨hP, -, hD1⟩ := hB
    rw [ht] at hP
    have hD := hD1.weaken (fun _ q _ h => hFc q.1 h)
    generalize H1 = H at hP hS ⊢
    refine W.cs (cells' := 0) (slots' := 0) rfl rfl ?_
    subst hw
    refine lv_if_ne (tgt := 31) hx hb d_cJT_find_20 (by decide) (fun c_9 => ?_) (fun c_9 => ?_)
    · replace Heq := (if_neg c_9).symm.trans Heq
      refine lv_aload_n hx hb d_cJT_find_31 rfl (lv_at hl 1 rfl) ?_
      refine va_get (D := D) (ci := 11) (v := rv ad 8 (o_7.1.r 11 0 x0)) (C := R_JT) (T := F_JT) (N := 13) hx hb hts i_JT hown hK hP (cPos N 11 x0) (cw_obj (k := 11) (by decide) hl_x0_11) rfl 0 (by decide) (hts _ kw_421) (fun _ h9 => h9) rfl d_cJT_find_32 ?_
      obtain ⟨j_10, hj_11, hl_12, Heq⟩ := gn_some Heq
      refine w_s (st' := [.ref (ad 8 j_10)]) (congrArg (fun z9 : Option Nat => [rv ad 8 z9]) hj_11) ?_
      refine va_get (D := D) (ci := 8) (v := rv ad 3 (o_7.1.r 8 0 j_10)) (C := R_St) (T := F_St) (N := 6) hx hb hts i_St hown hK hP (cPos N 8 j_10) (cw_obj (k := 8) (by decide) hl_12) rfl 0 (by decide) (hts _ kw_163) (fun _ h9 => h9) rfl d_cJT_find_35 ?_
      refine tx_astore_n (x := (o_7.1.r 8 0 j_10).map (ad 3)) (lv' := [(3, rv ad 3 (o_7.1.r 8 0 j_10)), (2, .int o_1.2), (0, .ref (ad 11 x0)), (1, .int x1)]) hx hb d_cJT_find_38 rfl hl (by decide) rfl (fun ls hl => ?_)
      refine lv_iconst (v := 0) hx hb d_cJT_find_39 (by decide) ?_
      refine lv_istore (lv' := [(4, .int 0), (3, rv ad 3 (o_7.1.r 8 0 j_10)), (2, .int o_1.2), (0, .ref (ad 11 x0)), (1, .int x1)]) hx hb d_cJT_find_40 hl (by decide) (by simp [rv, rf_cat]) (fun ls hl => ?_)
      refine lv_iconst (v := 0) hx hb d_cJT_find_42 (by decide) ?_
      refine lv_istore (lv' := [(5, .int 0), (4, .int 0), (3, rv ad 3 (o_7.1.r 8 0 j_10)), (2, .int o_1.2), (0, .ref (ad 11 x0)), (1, .int x1)]) hx hb d_cJT_find_43 hl (by decide) rfl (fun ls hl => ?_)
      obtain ⟨b_13, h_14, Heq⟩ := ob_some Heq
      refine w_cJT_find_L45 hfl hC h_14 (fun b h => ?_) _ _ _ hP hD hS (lv_sub hl [4, 2, 1, 0] rfl)
      subst h
      intro H locs ls hP hD hS hl
      exact w_cJT_find_J134 hfl hC Heq Kr _ _ _ hP hD hS (lv_sub hl [0, 1] rfl)
    · replace Heq := (if_pos c_9).symm.trans Heq
      exact w_cJT_find_J23 hfl hC Heq Kr _ _ _ hP hD hS (lv_sub hl [1] rfl)
def m_cJT_find (N : Nat → Nat) (x0 : Nat) (S : CS) (x1 : Int32) : Option ((CS × Int32) ⊕ (CS × Nat)) := m_cJT_find_J0 N x0 S x1
set_option maxHeartbeats 4000000 in
theorem g_cJT_find (l : Launch) (hfl : l.flags = flags0) (D : va_G) (sz : Nat) {ad : Nat → Nat → Nat} {cc : Nat → ClassId} {sad sav : Nat → Nat} {N : Nat → Nat} {x0 : Nat} {S : CS} {x1 : Int32} {o : CS × Int32} (Heq : m_cJT_find N x0 S x1 = some (.inl o)) : Met l ⟨"JoinedTrees", "find", "(I)I"⟩ (Cond.code ⟨"JoinedTrees", "find", "(I)I"⟩ prog_1_method_22_code 7 (some .int) :: gb) ({ frames := 7, cells := 0, slots := 0, locals := 122 }) (cPc sad sav D (cw ad cc N S) (cty cc) sz [.ref (ad 11 x0), .int x1]) (va_Qi (fun (r : Int32) (_ : Unit) => r = o.2) (fun _ t => gO D (cw ad cc N o.1) (cty cc) (va_A (cw ad cc N S) sz) t) (va_A (cw ad cc N S) sz)) 0 0 (va_A (cw ad cc N S) sz) := by
  refine Met.ofW (cc := prog_1_method_22_code) (maxL := 7) (ret := (some .int)) (by decide) rfl ?_
  intro p e s m args below meth c s₁ B hml hv
  obtain ⟨rfl, hsz, hP, hK, hD0, hev, hE, hN⟩ := hv
  have hx := B.exec
  have hb := B.bytes
  have hr := B.returns
  have hts : ∀ w9 ∈ gb, w9.before [.ref (ad 11 x0), .int x1].toArray s = true := fun w9 h => atoms_spec (ws := Cond.code ⟨"JoinedTrees", "find", "(I)I"⟩ prog_1_method_22_code 7 (some .int) :: gb) B.pre w9 (List.mem_cons_of_mem _ h)
  have hown : s.vm.findClass "JoinedTrees" = some m.cls := findClass_of_methodNamed B.named
  have hlocks := B.notSynchronized
  have hNS := ns_of hP
  subst hsz
  have hD := hD0.self (sz := s.heap.size)
  generalize hAe : va_A (cw ad cc N S) s.heap.size = A at hD hev hE hNS ⊢
  have hA : ∀ q : Nat, s.heap.size ≤ q → A q := fun q h => by rw [← hAe]; exact Or.inr h
  have hS : va_S A s.heap s.heap [] := va_S.rf
  obtain ⟨ls, hl, hle⟩ : ∃ ls : Array Slot, lv_has ls 7 [(0, .ref (ad 11 x0)), (1, .int x1)] ∧ entryFrame m ([.ref (ad 11 x0), .int x1] : List Value).toArray 7 = F0 m 0 ls [] := by
    exact ⟨_, lv_entry (n := 7) _ (Nat.le_of_ble_eq_true rfl), lg_entry_eq ..⟩
  rw [hle]
  refine w_cJT_find_J0 (cR := 0) (sR := 0) hfl ⟨hx, hb, hr, hml, hown, hts, hK, hA, hev, hE, hN, hNS⟩ Heq (fun r h => ⟨fun v9 hv9 pc H locs ls hd hP hD hS => ?_, fun t9 ht9 => (by subst h; cases ht9)⟩) _ _ _ hP hD hS (lv_sub hl [0, 1] rfl)
  subst h
  cases hv9
  exact W.iret hx hb hr (fun t ht hW => ⟨⟨_, (), rfl, rfl, by rw [ht]; exact hP, va_K.moved hW.alike hK, hD⟩, hS.F ht⟩) hS.2.2 hd
set_option maxHeartbeats 4000000 in
theorem g_cJT_find_t (l : Launch) (hfl : l.flags = flags0) (D : va_G) (sz : Nat) {ad : Nat → Nat → Nat} {cc : Nat → ClassId} {sad sav : Nat → Nat} {N : Nat → Nat} {x0 : Nat} {S : CS} {x1 : Int32} {o : CS × Nat} (Heq : m_cJT_find N x0 S x1 = some (.inr o)) : MeT l ⟨"JoinedTrees", "find", "(I)I"⟩ (Cond.code ⟨"JoinedTrees", "find", "(I)I"⟩ prog_1_method_22_code 7 (some .int) :: gb) ({ frames := 7, cells := 1, slots := 6, locals := 122 }) (cPc sad sav D (cw ad cc N S) (cty cc) sz [.ref (ad 11 x0), .int x1]) (exN o.2) (va_A (cw ad cc N S) sz) (fun H1 => va_P D cls (cw ad cc N o.1) H1) 1 6 := by
  refine MeT.ofW (cc := prog_1_method_22_code) (maxL := 7) (ret := (some .int)) (by decide) rfl ?_
  intro p e s m args below meth c s₁ B hml hno hv
  obtain ⟨rfl, hsz, hP, hK, hD0, hev, hE, hN⟩ := hv
  have hx := B.exec
  have hb := B.bytes
  have hr := B.returns
  have hts : ∀ w9 ∈ gb, w9.before [.ref (ad 11 x0), .int x1].toArray s = true := fun w9 h => atoms_spec (ws := Cond.code ⟨"JoinedTrees", "find", "(I)I"⟩ prog_1_method_22_code 7 (some .int) :: gb) B.pre w9 (List.mem_cons_of_mem _ h)
  have hown : s.vm.findClass "JoinedTrees" = some m.cls := findClass_of_methodNamed B.named
  have hlocks := B.notSynchronized
  have hNS := ns_of hP
  subst hsz
  have hD := hD0.self (sz := s.heap.size)
  generalize hAe : va_A (cw ad cc N S) s.heap.size = A at hD hev hE hNS ⊢
  have hA : ∀ q : Nat, s.heap.size ≤ q → A q := fun q h => by rw [← hAe]; exact Or.inr h
  have hS : va_S A s.heap s.heap [] := va_S.rf
  obtain ⟨ls, hl, hle⟩ : ∃ ls : Array Slot, lv_has ls 7 [(0, .ref (ad 11 x0)), (1, .int x1)] ∧ entryFrame m ([.ref (ad 11 x0), .int x1] : List Value).toArray 7 = F0 m 0 ls [] := by
    exact ⟨_, lv_entry (n := 7) _ (Nat.le_of_ble_eq_true rfl), lg_entry_eq ..⟩
  rw [hle]
  refine w_cJT_find_J0 (cR := 1) (sR := 6) hfl ⟨hx, hb, hr, hml, hown, hts, hK, hA, hev, hE, hN, hNS⟩ Heq (fun r h => ⟨fun v9 hv9 => (by subst h; cases hv9), fun t9 ht9 => ⟨⟨Nat.le_refl _, Nat.le_refl _⟩, fun pc H locs ls hd hsz hP hD hS => ?_, fun pc H locs ls st0 rest9 A9 hr9 hF9 hS => ?_⟩⟩) _ _ _ hP hD hS (lv_sub hl [0, 1] rfl)
  · subst h; cases ht9; exact tx_thr hfl hx hb hno hlocks hown hts hev hN hNS hd (hsz.trans hml.symm) hP hS hA (Nat.le_refl _) (Nat.le_refl _) (Nat.le_of_ble_eq_true rfl) (Nat.le_of_ble_eq_true rfl)
  · subst h; cases ht9; exact tx_on hr9 hno hlocks hS hF9
def m_cJT_text_J0 (N : Nat → Nat) (x0 : Nat) (S : CS) (x1 : Int32) (x2 : Int32) : Option ((CS × Int32) ⊕ (CS × Nat)) := gl x0 (N 11) (oe (m_cJT_shown N x0 S x1) (fun o_1 => oe (m_cJT_objectAt N x0 o_1.1 x2) (fun o_4 => gn o_4.2 (N 3) (fun j_7 => gn (o_1.1.r 11 4 x0) (N 2) (fun j_10 => ob (m_cWr_writeObject N j_10 o_4.1 j_7) (fun o_13 => gn o_13.2 (N 5) (fun j_15 => (if o_13.1.i 5 2 j_15 = 0 then gn (o_13.1.r 11 6 x0) (N 5) (fun j_19 => ob (m_cRw_clear N j_19 o_13.1) (fun o_22 => gn (o_22.r 11 6 x0) (N 5) (fun j_24 => ob (m_cRw_writeAll N j_24 o_22 j_15 0 (o_22.i 5 1 j_15)) (fun o_27 => gn (o_27.r 11 6 x0) (N 5) (fun j_29 => some (.inl ((o_27.setI 11 7 x0 0), o_27.i 5 1 j_29))))))) else some (.inr (o_13.1, 2)))))))) (fun t_6 => some (.inr t_6))) (fun t_3 => some (.inr t_3)))
theorem d_cJT_text_0 : decode prog_1_method_23_code 0 = .ok (.aload_n 0, 1) := by decide +kernel
theorem d_cJT_text_1 : decode prog_1_method_23_code 1 = .ok (.iload_n 1, 1) := by decide +kernel
theorem d_cJT_text_2 : decode prog_1_method_23_code 2 = .ok (.invokevirtual 105, 3) := by decide +kernel
theorem d_cJT_text_5 : decode prog_1_method_23_code 5 = .ok (.pop, 1) := by decide +kernel
theorem d_cJT_text_6 : decode prog_1_method_23_code 6 = .ok (.aload_n 0, 1) := by decide +kernel
theorem d_cJT_text_7 : decode prog_1_method_23_code 7 = .ok (.getfield 46, 3) := by decide +kernel
theorem d_cJT_text_10 : decode prog_1_method_23_code 10 = .ok (.aload_n 0, 1) := by decide +kernel
theorem d_cJT_text_11 : decode prog_1_method_23_code 11 = .ok (.iload_n 2, 1) := by decide +kernel
theorem d_cJT_text_12 : decode prog_1_method_23_code 12 = .ok (.invokevirtual 168, 3) := by decide +kernel
theorem d_cJT_text_15 : decode prog_1_method_23_code 15 = .ok (.invokevirtual 341, 3) := by decide +kernel
theorem d_cJT_text_18 : decode prog_1_method_23_code 18 = .ok (.astore_n 3, 1) := by decide +kernel
theorem d_cJT_text_19 : decode prog_1_method_23_code 19 = .ok (.aload_n 3, 1) := by decide +kernel
theorem d_cJT_text_20 : decode prog_1_method_23_code 20 = .ok (.getfield 345, 3) := by decide +kernel
theorem d_cJT_text_23 : decode prog_1_method_23_code 23 = .ok (.ifCond .eq 11, 3) := by decide +kernel
theorem d_cJT_text_34 : decode prog_1_method_23_code 34 = .ok (.aload_n 0, 1) := by decide +kernel
theorem d_cJT_text_35 : decode prog_1_method_23_code 35 = .ok (.getfield 54, 3) := by decide +kernel
theorem d_cJT_text_38 : decode prog_1_method_23_code 38 = .ok (.invokevirtual 99, 3) := by decide +kernel
theorem d_cJT_text_41 : decode prog_1_method_23_code 41 = .ok (.aload_n 0, 1) := by decide +kernel
theorem d_cJT_text_42 : decode prog_1_method_23_code 42 = .ok (.getfield 54, 3) := by decide +kernel
theorem d_cJT_text_45 : decode prog_1_method_23_code 45 = .ok (.aload_n 3, 1) := by decide +kernel
theorem d_cJT_text_46 : decode prog_1_method_23_code 46 = .ok (.iconst 0, 1) := by decide +kernel
theorem d_cJT_text_47 : decode prog_1_method_23_code 47 = .ok (.aload_n 3, 1) := by decide +kernel
theorem d_cJT_text_48 : decode prog_1_method_23_code 48 = .ok (.getfield 80, 3) := by decide +kernel
theorem d_cJT_text_51 : decode prog_1_method_23_code 51 = .ok (.invokevirtual 348, 3) := by decide +kernel
theorem d_cJT_text_54 : decode prog_1_method_23_code 54 = .ok (.aload_n 0, 1) := by decide +kernel
theorem d_cJT_text_55 : decode prog_1_method_23_code 55 = .ok (.iconst 0, 1) := by decide +kernel
theorem d_cJT_text_56 : decode prog_1_method_23_code 56 = .ok (.putfield 352, 3) := by decide +kernel
theorem d_cJT_text_59 : decode prog_1_method_23_code 59 = .ok (.aload_n 0, 1) := by decide +kernel
theorem d_cJT_text_60 : decode prog_1_method_23_code 60 = .ok (.getfield 54, 3) := by decide +kernel
theorem d_cJT_text_63 : decode prog_1_method_23_code 63 = .ok (.getfield 80, 3) := by decide +kernel
theorem d_cJT_text_66 : decode prog_1_method_23_code 66 = .ok (.ireturn, 1) := by decide +kernel
theorem d_cJT_text_26 : decode prog_1_method_23_code 26 = .ok (.new 223, 3) := by decide +kernel
theorem d_cJT_text_29 : decode prog_1_method_23_code 29 = .ok (.dup, 1) := by decide +kernel
theorem d_cJT_text_30 : decode prog_1_method_23_code 30 = .ok (.invokespecial 225, 3) := by decide +kernel
theorem d_cJT_text_33 : decode prog_1_method_23_code 33 = .ok (.athrow, 1) := by decide +kernel
set_option maxHeartbeats 4000000 in
set_option maxRecDepth 100000 in
theorem w_cJT_text_J0 {p : Program} {l : Launch} {e : Env} {s : State} {m : MethodId} {args : Array Value} {below : List Frame} {meth : Method} {c : Code} {A : Nat → Prop} {D : va_G} {ad : Nat → Nat → Nat} {cc : Nat → ClassId} {sad sav : Nat → Nat} {Q : State → Prop} {cR sR : Nat} (hfl : l.flags = flags0) (hC : MCc sad sav "JoinedTrees" prog_1_method_23_code 4 (some .int) p s m args meth c A D cc) {N : Nat → Nat} {x0 : Nat} {S : CS} {x1 : Int32} {x2 : Int32} {o : ((CS × Int32) ⊕ (CS × Nat))} (Heq : m_cJT_text_J0 N x0 S x1 x2 = some o) (Kr : ∀ r : ((CS × Int32) ⊕ (CS × Nat)), o = r → (∀ v9 : CS × Int32, r = .inl v9 → ∀ (pc : Nat) (H : Heap) (locs : List Loc) (ls : Array Slot), decode prog_1_method_23_code pc = .ok (.ireturn, 1) → va_P D cls (cw ad cc N v9.1) H → va_D A (cw ad cc N v9.1) → va_S A s.heap H locs → W p l e ({ frames := 7, cells := cR, slots := sR, locals := 181 }) s m args below meth c H locs 0 0 Q (F0 m pc ls [.int v9.2])) ∧ (∀ t9 : CS × Nat, r = .inr t9 → (1 ≤ cR ∧ 6 ≤ sR) ∧ (∀ (pc : Nat) (H : Heap) (locs : List Loc) (ls : Array Slot), thD prog_1_method_23_code t9.2 pc → ls.size = 4 → va_P D cls (cw ad cc N t9.1) H → va_D A (cw ad cc N t9.1) → va_S A s.heap H locs → W p l e ({ frames := 7, cells := cR, slots := sR, locals := 181 }) s m args below meth c H locs 0 0 Q (F0 m pc ls [])) ∧ (∀ (pc : Nat) (H : Heap) (locs : List Loc) (ls : Array Slot) (st0 rest9 : List Value) (A9 : Nat → Prop), tx_Thr p l e ({ frames := 7, cells := cR, slots := sR, locals := 181 }) s m args below meth c H locs 0 0 1 6 (F0 m pc ls st0) rest9 (exN t9.2) A9 (fun H1 => va_P D cls (cw ad cc N t9.1) H1) → (∀ q, A9 q → A q) → va_S A s.heap H locs → W p l e ({ frames := 7, cells := cR, slots := sR, locals := 181 }) s m args below meth c H locs 0 0 Q (F0 m pc ls st0)))) : ∀ (H : Heap) (locs : List Loc) (ls : Array Slot), va_P D cls (cw ad cc N S) H → va_D A (cw ad cc N S) → va_S A s.heap H locs → lv_has ls 4 [(0, .ref (ad 11 x0)), (1, .int x1), (2, .int x2)] → W p l e ({ frames := 7, cells := cR, slots := sR, locals := 181 }) s m args below meth c H locs 0 0 Q (F0 m 0 ls []) := by
  intro H locs ls hP hD hS hl
  obtain ⟨hx, hb, hr, hml, hown, hts, hK, hA, hev, hE, hN, hNS⟩ := id hC
  unfold m_cJT_text_J0 at Heq
  refine lv_aload_n hx hb d_cJT_text_0 rfl (lv_at hl 0 rfl) ?_
  refine lv_iload_n hx hb d_cJT_text_1 rfl (lv_at hl 1 rfl) ?_
  obtain ⟨hl_x0_11, Heq⟩ := gl_some Heq
  have hFc := fr_all hD hS hA
  rcases oe_some Heq with ⟨o_1, h_2, Heq⟩ | ⟨t_3, h_2, Heq⟩
  case inr => exact ((Kr _ (Option.some.inj Heq).symm).2 _ rfl).2.2 2 _ _ _ _ _ _ (tx_runV (As := [.int x1]) (rest := []) ⟨hx, hb, hml, hown, hts⟩ (g_cJT_shown_t l hfl D H.size (ad := ad) (cc := cc) (sad := sad) (sav := sav) h_2) (cw_v 1 hts kw_593 kw_590 kw_592 kp_3 kw_1 rfl rfl (by decide +kernel) ⟨Nat.le_of_ble_eq_true rfl, Nat.le_of_ble_eq_true rfl⟩) ⟨c_blind, va_recv hK hP (ci := 11) (q0 := cPos N 11 x0) rfl (cw_obj (k := 11) (by decide) hl_x0_11), fun U hU hW => c_pre hU hW hP hK hD hev hE hN hNS hS hFc⟩ rfl rfl hl.1 rfl (lv_room (Nat.le_of_ble_eq_true rfl)) d_cJT_text_2 ((Kr _ (Option.some.inj Heq).symm).2 _ rfl).1) hFc hS
  refine va_callq (va_runV (As := [.int x1]) (rest := []) ⟨hx, hb, hml, hown, hts⟩ (g_cJT_shown l hfl D H.size (ad := ad) (cc := cc) (sad := sad) (sav := sav) h_2) (cw_v 1 hts kw_593 kw_590 kw_592 kp_3 kw_1 rfl rfl (by decide +kernel) ⟨Nat.le_of_ble_eq_true rfl, Nat.le_of_ble_eq_true rfl⟩) ⟨c_blind, va_recv hK hP (ci := 11) (q0 := cPos N 11 x0) rfl (cw_obj (k := 11) (by decide) hl_x0_11), fun U hU hW => c_pre hU hW hP hK hD hev hE hN hNS hS hFc⟩ rfl rfl hl.1 rfl (lv_room (Nat.le_of_ble_eq_true rfl)) d_cJT_text_2 ⟨Nat.zero_le _, Nat.zero_le _⟩) hS (fun q _ h => hFc q h) hFc (fun rz u t H1 locs ht hvm hw hB hz1 hk1 hS => ?_)
  obtain ⟨hP, -, hD1⟩ := hB
  rw [ht] at hP
  have hD := hD1.weaken (fun _ q _ h => hFc q.1 h)
  generalize H1 = H at hP hS ⊢
  refine W.cs (cells' := 0) (slots' := 0) rfl rfl ?_
  subst hw
  refine w_v (y := rv ad 4 o_1.2) rfl ?_
  refine lv_pop hx hb d_cJT_text_5 (by first | rfl | exact rv_cat) ?_
  refine lv_aload_n hx hb d_cJT_text_6 rfl (lv_at hl 0 rfl) ?_
  refine va_get (D := D) (ci := 11) (v := rv ad 2 (o_1.1.r 11 4 x0)) (C := R_JT) (T := F_JT) (N := 13) hx hb hts i_JT hown hK hP (cPos N 11 x0) (cw_obj (k := 11) (by decide) hl_x0_11) rfl 4 (by decide) (hts _ kw_425) (fun _ h9 => h9) rfl d_cJT_text_7 ?_
  refine lv_aload_n hx hb d_cJT_text_10 rfl (lv_at hl 0 rfl) ?_
  refine lv_iload_n hx hb d_cJT_text_11 rfl (lv_at hl 2 rfl) ?_
  have hFc := fr_all hD hS hA
  rcases oe_some Heq with ⟨o_4, h_5, Heq⟩ | ⟨t_6, h_5, Heq⟩
  case inr => exact ((Kr _ (Option.some.inj Heq).symm).2 _ rfl).2.2 12 _ _ _ _ _ _ (tx_runV (As := [.int x2]) (rest := [rv ad 2 (o_1.1.r 11 4 x0)]) ⟨hx, hb, hml, hown, hts⟩ (g_cJT_objectAt_t l hfl D H.size (ad := ad) (cc := cc) (sad := sad) (sav := sav) h_5) (cw_v 1 hts kw_616 kw_613 kw_615 kp_7 kw_1 rfl rfl (by decide +kernel) ⟨Nat.le_of_ble_eq_true rfl, Nat.le_of_ble_eq_true rfl⟩) ⟨c_blind, va_recv hK hP (ci := 11) (q0 := cPos N 11 x0) rfl (cw_obj (k := 11) (by decide) hl_x0_11), fun U hU hW => c_pre hU hW hP hK hD hev hE hN hNS hS hFc⟩ rfl rfl hl.1 rfl (lv_room (by simp only [List.map_cons, List.map_nil, List.sum_cons, List.sum_nil, rv_cat]; exact Nat.le_of_ble_eq_true rfl)) d_cJT_text_12 ((Kr _ (Option.some.inj Heq).symm).2 _ rfl).1) hFc hS
  refine va_callq (va_runV (As := [.int x2]) (rest := [rv ad 2 (o_1.1.r 11 4 x0)]) ⟨hx, hb, hml, hown, hts⟩ (g_cJT_objectAt l hfl D H.size (ad := ad) (cc := cc) (sad := sad) (sav := sav) h_5) (cw_v 1 hts kw_616 kw_613 kw_615 kp_7 kw_1 rfl rfl (by decide +kernel) ⟨Nat.le_of_ble_eq_true rfl, Nat.le_of_ble_eq_true rfl⟩) ⟨c_blind, va_recv hK hP (ci := 11) (q0 := cPos N 11 x0) rfl (cw_obj (k := 11) (by decide) hl_x0_11), fun U hU hW => c_pre hU hW hP hK hD hev hE hN hNS hS hFc⟩ rfl rfl hl.1 rfl (lv_room (by simp only [List.map_cons, List.map_nil, List.sum_cons, List.sum_nil, rv_cat]; exact Nat.le_of_ble_eq_true rfl)) d_cJT_text_12 ⟨Nat.zero_le _, Nat.zero_le _⟩) hS (fun q _ h => hFc q h) hFc (fun rz u t H1 locs ht hvm hw hB hz1 hk1 hS => ?_)
  obtain ⟨hP, -, hD1⟩ := hB
  rw [ht] at hP
  have hD := hD1.weaken (fun _ q _ h => hFc q.1 h)
  generalize H1 = H at hP hS ⊢
  refine W.cs (cells' := 0) (slots' := 0) rfl rfl ?_
  subst hw
  refine w_v (y := rv ad 3 o_4.2) rfl ?_
  obtain ⟨j_7, hj_8, hl_9, Heq⟩ := gn_some Heq
  refine w_s (st' := [.ref (ad 3 j_7), rv ad 2 (o_1.1.r 11 4 x0)]) (congrArg (fun z9 : Option Nat => [rv ad 3 z9, rv ad 2 (o_1.1.r 11 4 x0)]) hj_8) ?_
  obtain ⟨j_10, hj_11, hl_12, Heq⟩ := gn_some Heq
  refine w_s (st' := [.ref (ad 3 j_7), .ref (ad 2 j_10)]) (congrArg (fun z9 : Option Nat => [.ref (ad 3 j_7), rv ad 2 z9]) hj_11) ?_
  obtain ⟨o_13, h_14, Heq⟩ := ob_some Heq
  have hFc := fr_all hD hS hA
  refine va_callq (va_runV (As := [.ref (ad 3 j_7)]) (rest := []) ⟨hx, hb, hml, hown, hts⟩ (g_cWr_writeObject l D H.size (ad := ad) (cc := cc) (sad := sad) (sav := sav) h_14) (cw_v 1 hts kw_1219 kw_1216 kw_1217 kw_1218 kw_9 rfl rfl (by decide +kernel) ⟨Nat.le_of_ble_eq_true rfl, Nat.le_of_ble_eq_true rfl⟩) ⟨c_blind, va_recv hK hP (ci := 2) (q0 := cPos N 2 j_10) rfl (cw_obj (k := 2) (by decide) hl_12), fun U hU hW => c_pre hU hW hP hK hD hev hE hN hNS hS hFc⟩ rfl rfl hl.1 rfl (lv_room (Nat.le_of_ble_eq_true rfl)) d_cJT_text_15 ⟨Nat.zero_le _, Nat.zero_le _⟩) hS (fun q _ h => hFc q h) hFc (fun rz u t H1 locs ht hvm hw hB hz1 hk1 hS => ?_)
  obtain ⟨hP, -, hD1⟩ := hB
  rw [ht] at hP
  have hD := hD1.weaken (fun _ q _ h => hFc q.1 h)
  generalize H1 = H at hP hS ⊢
  refine W.cs (cells' := 0) (slots' := 0) rfl rfl ?_
  subst hw
  refine w_v (y := rv ad 5 o_13.2) rfl ?_
  refine tx_astore_n (x := o_13.2.map (ad 5)) (lv' := [(3, rv ad 5 o_13.2), (0, .ref (ad 11 x0)), (1, .int x1), (2, .int x2)]) hx hb d_cJT_text_18 rfl hl (by decide) rfl (fun ls hl => ?_)
  refine tx_aload_n (x := o_13.2.map (ad 5)) hx hb d_cJT_text_19 rfl (lv_at hl 0 rfl) ?_
  refine w_v (y := rv ad 5 o_13.2) rfl ?_
  obtain ⟨j_15, hj_16, hl_17, Heq⟩ := gn_some Heq
  refine w_s (st' := [.ref (ad 5 j_15)]) (congrArg (fun z9 : Option Nat => [rv ad 5 z9]) hj_16) ?_
  refine va_get (D := D) (ci := 5) (v := .int (o_13.1.i 5 2 j_15)) (C := R_Rw) (T := F_Rw) (N := 3) hx hb hts i_Rw hown hK hP (cPos N 5 j_15) (cw_obj (k := 5) (by decide) hl_17) rfl 2 (by decide) (hts _ kw_150) (fun _ h9 => h9) rfl d_cJT_text_20 ?_
  refine lv_if_eq (tgt := 34) hx hb d_cJT_text_23 (by decide) (fun c_18 => ?_) (fun c_18 => ?_)
  · replace Heq := (if_pos c_18).symm.trans Heq
    refine lv_aload_n hx hb d_cJT_text_34 rfl (lv_at hl 1 rfl) ?_
    refine va_get (D := D) (ci := 11) (v := rv ad 5 (o_13.1.r 11 6 x0)) (C := R_JT) (T := F_JT) (N := 13) hx hb hts i_JT hown hK hP (cPos N 11 x0) (cw_obj (k := 11) (by decide) hl_x0_11) rfl 6 (by decide) (hts _ kw_427) (fun _ h9 => h9) rfl d_cJT_text_35 ?_
    obtain ⟨j_19, hj_20, hl_21, Heq⟩ := gn_some Heq
    refine w_s (st' := [.ref (ad 5 j_19)]) (congrArg (fun z9 : Option Nat => [rv ad 5 z9]) hj_20) ?_
    obtain ⟨o_22, h_23, Heq⟩ := ob_some Heq
    have hFc := fr_all hD hS hA
    refine va_callv (va_runV (As := []) (rest := []) ⟨hx, hb, hml, hown, hts⟩ (g_cRw_clear l D H.size (ad := ad) (cc := cc) (sad := sad) (sav := sav) h_23) (cw_v 0 hts kw_576 kw_573 kw_574 kw_575 kw_4 rfl rfl (by decide +kernel) ⟨Nat.le_of_ble_eq_true rfl, Nat.le_of_ble_eq_true rfl⟩) ⟨c_blind, va_recv hK hP (ci := 5) (q0 := cPos N 5 j_19) rfl (cw_obj (k := 5) (by decide) hl_21), fun U hU hW => c_pre hU hW hP hK hD hev hE hN hNS hS hFc⟩ rfl rfl hl.1 rfl (lv_room (Nat.le_of_ble_eq_true rfl)) d_cJT_text_38 ⟨Nat.zero_le _, Nat.zero_le _⟩) hS (fun q _ h => hFc q h) hFc (fun u t H1 locs ht hvm hw hB hz1 hk1 hS => ?_)
    obtain ⟨hP, -, hD1⟩ := hB
    rw [ht] at hP
    have hD := hD1.weaken (fun _ q _ h => hFc q.1 h)
    generalize H1 = H at hP hS ⊢
    refine W.cs (cells' := 0) (slots' := 0) rfl rfl ?_
    refine lv_aload_n hx hb d_cJT_text_41 rfl (lv_at hl 1 rfl) ?_
    refine va_get (D := D) (ci := 11) (v := rv ad 5 (o_22.r 11 6 x0)) (C := R_JT) (T := F_JT) (N := 13) hx hb hts i_JT hown hK hP (cPos N 11 x0) (cw_obj (k := 11) (by decide) hl_x0_11) rfl 6 (by decide) (hts _ kw_427) (fun _ h9 => h9) rfl d_cJT_text_42 ?_
    refine tx_aload_n (x := o_13.2.map (ad 5)) hx hb d_cJT_text_45 rfl (lv_at hl 0 rfl) ?_
    refine w_v (y := rv ad 5 o_13.2) rfl ?_
    refine lv_iconst (v := 0) hx hb d_cJT_text_46 (by decide) ?_
    refine tx_aload_n (x := o_13.2.map (ad 5)) hx hb d_cJT_text_47 rfl (lv_at hl 0 rfl) ?_
    refine w_v (y := rv ad 5 o_13.2) rfl ?_
    refine w_s (st' := [.ref (ad 5 j_15), .int 0, rv ad 5 o_13.2, rv ad 5 (o_22.r 11 6 x0)]) (congrArg (fun z9 : Option Nat => [rv ad 5 z9, .int 0, rv ad 5 o_13.2, rv ad 5 (o_22.r 11 6 x0)]) hj_16) ?_
    refine va_get (D := D) (ci := 5) (v := .int (o_22.i 5 1 j_15)) (C := R_Rw) (T := F_Rw) (N := 3) hx hb hts i_Rw hown hK hP (cPos N 5 j_15) (cw_obj (k := 5) (by decide) hl_17) rfl 1 (by decide) (hts _ kw_143) (fun _ h9 => h9) rfl d_cJT_text_48 ?_
    refine w_s (st' := [.int (o_22.i 5 1 j_15), .int 0, .ref (ad 5 j_15), rv ad 5 (o_22.r 11 6 x0)]) (congrArg (fun z9 : Option Nat => [.int (o_22.i 5 1 j_15), .int 0, rv ad 5 z9, rv ad 5 (o_22.r 11 6 x0)]) hj_16) ?_
    obtain ⟨j_24, hj_25, hl_26, Heq⟩ := gn_some Heq
    refine w_s (st' := [.int (o_22.i 5 1 j_15), .int 0, .ref (ad 5 j_15), .ref (ad 5 j_24)]) (congrArg (fun z9 : Option Nat => [.int (o_22.i 5 1 j_15), .int 0, .ref (ad 5 j_15), rv ad 5 z9]) hj_25) ?_
    obtain ⟨o_27, h_28, Heq⟩ := ob_some Heq
    have hFc := fr_all hD hS hA
    refine va_callv (va_runV (As := [.ref (ad 5 j_15), .int 0, .int (o_22.i 5 1 j_15)]) (rest := []) ⟨hx, hb, hml, hown, hts⟩ (g_cRw_writeAll l D H.size (ad := ad) (cc := cc) (sad := sad) (sav := sav) h_28) (cw_v 3 hts kw_721 kw_1267 kw_719 kw_720 kw_4 rfl rfl (by decide +kernel) ⟨Nat.le_of_ble_eq_true rfl, Nat.le_of_ble_eq_true rfl⟩) ⟨c_blind, va_recv hK hP (ci := 5) (q0 := cPos N 5 j_24) rfl (cw_obj (k := 5) (by decide) hl_26), fun U hU hW => c_pre hU hW hP hK hD hev hE hN hNS hS hFc⟩ rfl rfl hl.1 rfl (lv_room (Nat.le_of_ble_eq_true rfl)) d_cJT_text_51 ⟨Nat.zero_le _, Nat.zero_le _⟩) hS (fun q _ h => hFc q h) hFc (fun u t H1 locs ht hvm hw hB hz1 hk1 hS => ?_)
    obtain ⟨hP, -, hD1⟩ := hB
    rw [ht] at hP
    have hD := hD1.weaken (fun _ q _ h => hFc q.1 h)
    generalize H1 = H at hP hS ⊢
    refine W.cs (cells' := 0) (slots' := 0) rfl rfl ?_
    refine lv_aload_n hx hb d_cJT_text_54 rfl (lv_at hl 1 rfl) ?_
    refine lv_iconst (v := 0) hx hb d_cJT_text_55 (by decide) ?_
    refine va_put (D := D) (ci := 11) (v := .int 0) (ty := .boolean) (C := R_JT) (T := F_JT) (N := 13) hx hb hts i_JT t_JT t_JT_ok n_JT hown hK hP hD hS (cPos N 11 x0) (cw_obj (k := 11) (by decide) hl_x0_11) rfl 7 (by decide) (hts _ kw_428) (fun _ h9 => h9) rfl (by decide +kernel) (by decide) (by decide) (Nat.le_of_ble_eq_true rfl) d_cJT_text_56 (fun H locs hP hD hS => ?_)
    have hD := (congrArg (fun w9 => va_D A w9) (cw_setI (ad := ad) (cc := cc) (S := o_27) (k := 11) (f := 7) (v := 0) (by decide) rfl hl_x0_11)).mp hD
    have hP := (congrArg (fun w9 => va_P D cls w9 H) (cw_setI (ad := ad) (cc := cc) (S := o_27) (k := 11) (f := 7) (v := 0) (by decide) rfl hl_x0_11)).mp hP
    refine lv_aload_n hx hb d_cJT_text_59 rfl (lv_at hl 1 rfl) ?_
    refine va_get (D := D) (ci := 11) (v := rv ad 5 ((o_27.setI 11 7 x0 0).r 11 6 x0)) (C := R_JT) (T := F_JT) (N := 13) hx hb hts i_JT hown hK hP (cPos N 11 x0) (cw_obj (k := 11) (by decide) hl_x0_11) rfl 6 (by decide) (hts _ kw_427) (fun _ h9 => h9) rfl d_cJT_text_60 ?_
    refine w_v (y := rv ad 5 (o_27.r 11 6 x0)) (congrArg (rv ad 5) rfl) ?_
    obtain ⟨j_29, hj_30, hl_31, Heq⟩ := gn_some Heq
    refine w_s (st' := [.ref (ad 5 j_29)]) (congrArg (fun z9 : Option Nat => [rv ad 5 z9]) hj_30) ?_
    refine va_get (D := D) (ci := 5) (v := .int ((o_27.setI 11 7 x0 0).i 5 1 j_29)) (C := R_Rw) (T := F_Rw) (N := 3) hx hb hts i_Rw hown hK hP (cPos N 5 j_29) (cw_obj (k := 5) (by decide) hl_31) rfl 1 (by decide) (hts _ kw_143) (fun _ h9 => h9) rfl d_cJT_text_63 ?_
    refine w_i (y := o_27.i 5 1 j_29) rfl ?_
    exact (Kr _ (Option.some.inj Heq).symm).1 _ rfl 66 _ _ _ d_cJT_text_66 hP hD hS
  · replace Heq := (if_neg c_18).symm.trans Heq
    exact ((Kr _ (Option.some.inj Heq).symm).2 _ rfl).2.1 26 _ _ _ ⟨⟨show 1 ≤ 2 by decide, show 2 ≤ 5 by decide⟩, d_cJT_text_26, d_cJT_text_29, d_cJT_text_30, d_cJT_text_33⟩ hl.1 hP hD hS
def m_cJT_text (N : Nat → Nat) (x0 : Nat) (S : CS) (x1 : Int32) (x2 : Int32) : Option ((CS × Int32) ⊕ (CS × Nat)) := m_cJT_text_J0 N x0 S x1 x2
set_option maxHeartbeats 4000000 in
theorem g_cJT_text (l : Launch) (hfl : l.flags = flags0) (D : va_G) (sz : Nat) {ad : Nat → Nat → Nat} {cc : Nat → ClassId} {sad sav : Nat → Nat} {N : Nat → Nat} {x0 : Nat} {S : CS} {x1 : Int32} {x2 : Int32} {o : CS × Int32} (Heq : m_cJT_text N x0 S x1 x2 = some (.inl o)) : Met l ⟨"JoinedTrees", "text", "(II)I"⟩ (Cond.code ⟨"JoinedTrees", "text", "(II)I"⟩ prog_1_method_23_code 4 (some .int) :: gb) ({ frames := 7, cells := 0, slots := 0, locals := 181 }) (cPc sad sav D (cw ad cc N S) (cty cc) sz [.ref (ad 11 x0), .int x1, .int x2]) (va_Qi (fun (r : Int32) (_ : Unit) => r = o.2) (fun _ t => gO D (cw ad cc N o.1) (cty cc) (va_A (cw ad cc N S) sz) t) (va_A (cw ad cc N S) sz)) 0 0 (va_A (cw ad cc N S) sz) := by
  refine Met.ofW (cc := prog_1_method_23_code) (maxL := 4) (ret := (some .int)) (by decide) rfl ?_
  intro p e s m args below meth c s₁ B hml hv
  obtain ⟨rfl, hsz, hP, hK, hD0, hev, hE, hN⟩ := hv
  have hx := B.exec
  have hb := B.bytes
  have hr := B.returns
  have hts : ∀ w9 ∈ gb, w9.before [.ref (ad 11 x0), .int x1, .int x2].toArray s = true := fun w9 h => atoms_spec (ws := Cond.code ⟨"JoinedTrees", "text", "(II)I"⟩ prog_1_method_23_code 4 (some .int) :: gb) B.pre w9 (List.mem_cons_of_mem _ h)
  have hown : s.vm.findClass "JoinedTrees" = some m.cls := findClass_of_methodNamed B.named
  have hlocks := B.notSynchronized
  have hNS := ns_of hP
  subst hsz
  have hD := hD0.self (sz := s.heap.size)
  generalize hAe : va_A (cw ad cc N S) s.heap.size = A at hD hev hE hNS ⊢
  have hA : ∀ q : Nat, s.heap.size ≤ q → A q := fun q h => by rw [← hAe]; exact Or.inr h
  have hS : va_S A s.heap s.heap [] := va_S.rf
  obtain ⟨ls, hl, hle⟩ : ∃ ls : Array Slot, lv_has ls 4 [(0, .ref (ad 11 x0)), (1, .int x1), (2, .int x2)] ∧ entryFrame m ([.ref (ad 11 x0), .int x1, .int x2] : List Value).toArray 4 = F0 m 0 ls [] := by
    exact ⟨_, lv_entry (n := 4) _ (Nat.le_of_ble_eq_true rfl), lg_entry_eq ..⟩
  rw [hle]
  refine w_cJT_text_J0 (cR := 0) (sR := 0) hfl ⟨hx, hb, hr, hml, hown, hts, hK, hA, hev, hE, hN, hNS⟩ Heq (fun r h => ⟨fun v9 hv9 pc H locs ls hd hP hD hS => ?_, fun t9 ht9 => (by subst h; cases ht9)⟩) _ _ _ hP hD hS (lv_sub hl [0, 1, 2] rfl)
  subst h
  cases hv9
  exact W.iret hx hb hr (fun t ht hW => ⟨⟨_, (), rfl, rfl, by rw [ht]; exact hP, va_K.moved hW.alike hK, hD⟩, hS.F ht⟩) hS.2.2 hd
set_option maxHeartbeats 4000000 in
theorem g_cJT_text_t (l : Launch) (hfl : l.flags = flags0) (D : va_G) (sz : Nat) {ad : Nat → Nat → Nat} {cc : Nat → ClassId} {sad sav : Nat → Nat} {N : Nat → Nat} {x0 : Nat} {S : CS} {x1 : Int32} {x2 : Int32} {o : CS × Nat} (Heq : m_cJT_text N x0 S x1 x2 = some (.inr o)) : MeT l ⟨"JoinedTrees", "text", "(II)I"⟩ (Cond.code ⟨"JoinedTrees", "text", "(II)I"⟩ prog_1_method_23_code 4 (some .int) :: gb) ({ frames := 7, cells := 1, slots := 6, locals := 181 }) (cPc sad sav D (cw ad cc N S) (cty cc) sz [.ref (ad 11 x0), .int x1, .int x2]) (exN o.2) (va_A (cw ad cc N S) sz) (fun H1 => va_P D cls (cw ad cc N o.1) H1) 1 6 := by
  refine MeT.ofW (cc := prog_1_method_23_code) (maxL := 4) (ret := (some .int)) (by decide) rfl ?_
  intro p e s m args below meth c s₁ B hml hno hv
  obtain ⟨rfl, hsz, hP, hK, hD0, hev, hE, hN⟩ := hv
  have hx := B.exec
  have hb := B.bytes
  have hr := B.returns
  have hts : ∀ w9 ∈ gb, w9.before [.ref (ad 11 x0), .int x1, .int x2].toArray s = true := fun w9 h => atoms_spec (ws := Cond.code ⟨"JoinedTrees", "text", "(II)I"⟩ prog_1_method_23_code 4 (some .int) :: gb) B.pre w9 (List.mem_cons_of_mem _ h)
  have hown : s.vm.findClass "JoinedTrees" = some m.cls := findClass_of_methodNamed B.named
  have hlocks := B.notSynchronized
  have hNS := ns_of hP
  subst hsz
  have hD := hD0.self (sz := s.heap.size)
  generalize hAe : va_A (cw ad cc N S) s.heap.size = A at hD hev hE hNS ⊢
  have hA : ∀ q : Nat, s.heap.size ≤ q → A q := fun q h => by rw [← hAe]; exact Or.inr h
  have hS : va_S A s.heap s.heap [] := va_S.rf
  obtain ⟨ls, hl, hle⟩ : ∃ ls : Array Slot, lv_has ls 4 [(0, .ref (ad 11 x0)), (1, .int x1), (2, .int x2)] ∧ entryFrame m ([.ref (ad 11 x0), .int x1, .int x2] : List Value).toArray 4 = F0 m 0 ls [] := by
    exact ⟨_, lv_entry (n := 4) _ (Nat.le_of_ble_eq_true rfl), lg_entry_eq ..⟩
  rw [hle]
  refine w_cJT_text_J0 (cR := 1) (sR := 6) hfl ⟨hx, hb, hr, hml, hown, hts, hK, hA, hev, hE, hN, hNS⟩ Heq (fun r h => ⟨fun v9 hv9 => (by subst h; cases hv9), fun t9 ht9 => ⟨⟨Nat.le_refl _, Nat.le_refl _⟩, fun pc H locs ls hd hsz hP hD hS => ?_, fun pc H locs ls st0 rest9 A9 hr9 hF9 hS => ?_⟩⟩) _ _ _ hP hD hS (lv_sub hl [0, 1, 2] rfl)
  · subst h; cases ht9; exact tx_thr hfl hx hb hno hlocks hown hts hev hN hNS hd (hsz.trans hml.symm) hP hS hA (Nat.le_refl _) (Nat.le_refl _) (Nat.le_of_ble_eq_true rfl) (Nat.le_of_ble_eq_true rfl)
  · subst h; cases ht9; exact tx_on hr9 hno hlocks hS hF9
def m_cJT_save_J0 (N : Nat → Nat) (x0 : Nat) (S : CS) (x1 : Int32) : Option ((CS × Int32) ⊕ (CS × Nat)) := gl x0 (N 11) (oe (m_cJT_shown N x0 S x1) (fun o_1 => gn o_1.2 (N 4) (fun j_4 => oe (m_cJT_needNoneOpen N x0 o_1.1 j_4) (fun o_7 => gn (o_7.r 11 5 x0) (N 6) (fun j_10 => ob (m_cSv_writeSaved N j_10 o_7 j_4) (fun o_13 => gn (o_13.r 11 6 x0) (N 5) (fun j_15 => some (.inl ((o_13.setI 11 7 x0 1), o_13.i 5 1 j_15)))))) (fun t_9 => some (.inr t_9)))) (fun t_3 => some (.inr t_3)))
theorem d_cJT_save_0 : decode prog_1_method_24_code 0 = .ok (.aload_n 0, 1) := by decide +kernel
theorem d_cJT_save_1 : decode prog_1_method_24_code 1 = .ok (.iload_n 1, 1) := by decide +kernel
theorem d_cJT_save_2 : decode prog_1_method_24_code 2 = .ok (.invokevirtual 105, 3) := by decide +kernel
theorem d_cJT_save_5 : decode prog_1_method_24_code 5 = .ok (.astore_n 2, 1) := by decide +kernel
theorem d_cJT_save_6 : decode prog_1_method_24_code 6 = .ok (.aload_n 0, 1) := by decide +kernel
theorem d_cJT_save_7 : decode prog_1_method_24_code 7 = .ok (.aload_n 2, 1) := by decide +kernel
theorem d_cJT_save_8 : decode prog_1_method_24_code 8 = .ok (.invokevirtual 253, 3) := by decide +kernel
theorem d_cJT_save_11 : decode prog_1_method_24_code 11 = .ok (.aload_n 0, 1) := by decide +kernel
theorem d_cJT_save_12 : decode prog_1_method_24_code 12 = .ok (.getfield 63, 3) := by decide +kernel
theorem d_cJT_save_15 : decode prog_1_method_24_code 15 = .ok (.aload_n 2, 1) := by decide +kernel
theorem d_cJT_save_16 : decode prog_1_method_24_code 16 = .ok (.invokevirtual 355, 3) := by decide +kernel
theorem d_cJT_save_19 : decode prog_1_method_24_code 19 = .ok (.aload_n 0, 1) := by decide +kernel
theorem d_cJT_save_20 : decode prog_1_method_24_code 20 = .ok (.iconst 1, 1) := by decide +kernel
theorem d_cJT_save_21 : decode prog_1_method_24_code 21 = .ok (.putfield 352, 3) := by decide +kernel
theorem d_cJT_save_24 : decode prog_1_method_24_code 24 = .ok (.aload_n 0, 1) := by decide +kernel
theorem d_cJT_save_25 : decode prog_1_method_24_code 25 = .ok (.getfield 54, 3) := by decide +kernel
theorem d_cJT_save_28 : decode prog_1_method_24_code 28 = .ok (.getfield 80, 3) := by decide +kernel
theorem d_cJT_save_31 : decode prog_1_method_24_code 31 = .ok (.ireturn, 1) := by decide +kernel
set_option maxHeartbeats 4000000 in
set_option maxRecDepth 100000 in
theorem w_cJT_save_J0 {p : Program} {l : Launch} {e : Env} {s : State} {m : MethodId} {args : Array Value} {below : List Frame} {meth : Method} {c : Code} {A : Nat → Prop} {D : va_G} {ad : Nat → Nat → Nat} {cc : Nat → ClassId} {sad sav : Nat → Nat} {Q : State → Prop} {cR sR : Nat} (hfl : l.flags = flags0) (hC : MCc sad sav "JoinedTrees" prog_1_method_24_code 3 (some .int) p s m args meth c A D cc) {N : Nat → Nat} {x0 : Nat} {S : CS} {x1 : Int32} {o : ((CS × Int32) ⊕ (CS × Nat))} (Heq : m_cJT_save_J0 N x0 S x1 = some o) (Kr : ∀ r : ((CS × Int32) ⊕ (CS × Nat)), o = r → (∀ v9 : CS × Int32, r = .inl v9 → ∀ (pc : Nat) (H : Heap) (locs : List Loc) (ls : Array Slot), decode prog_1_method_24_code pc = .ok (.ireturn, 1) → va_P D cls (cw ad cc N v9.1) H → va_D A (cw ad cc N v9.1) → va_S A s.heap H locs → W p l e ({ frames := 7, cells := cR, slots := sR, locals := 137 }) s m args below meth c H locs 0 0 Q (F0 m pc ls [.int v9.2])) ∧ (∀ t9 : CS × Nat, r = .inr t9 → (1 ≤ cR ∧ 6 ≤ sR) ∧ (∀ (pc : Nat) (H : Heap) (locs : List Loc) (ls : Array Slot), thD prog_1_method_24_code t9.2 pc → ls.size = 3 → va_P D cls (cw ad cc N t9.1) H → va_D A (cw ad cc N t9.1) → va_S A s.heap H locs → W p l e ({ frames := 7, cells := cR, slots := sR, locals := 137 }) s m args below meth c H locs 0 0 Q (F0 m pc ls [])) ∧ (∀ (pc : Nat) (H : Heap) (locs : List Loc) (ls : Array Slot) (st0 rest9 : List Value) (A9 : Nat → Prop), tx_Thr p l e ({ frames := 7, cells := cR, slots := sR, locals := 137 }) s m args below meth c H locs 0 0 1 6 (F0 m pc ls st0) rest9 (exN t9.2) A9 (fun H1 => va_P D cls (cw ad cc N t9.1) H1) → (∀ q, A9 q → A q) → va_S A s.heap H locs → W p l e ({ frames := 7, cells := cR, slots := sR, locals := 137 }) s m args below meth c H locs 0 0 Q (F0 m pc ls st0)))) : ∀ (H : Heap) (locs : List Loc) (ls : Array Slot), va_P D cls (cw ad cc N S) H → va_D A (cw ad cc N S) → va_S A s.heap H locs → lv_has ls 3 [(0, .ref (ad 11 x0)), (1, .int x1)] → W p l e ({ frames := 7, cells := cR, slots := sR, locals := 137 }) s m args below meth c H locs 0 0 Q (F0 m 0 ls []) := by
  intro H locs ls hP hD hS hl
  obtain ⟨hx, hb, hr, hml, hown, hts, hK, hA, hev, hE, hN, hNS⟩ := id hC
  unfold m_cJT_save_J0 at Heq
  refine lv_aload_n hx hb d_cJT_save_0 rfl (lv_at hl 0 rfl) ?_
  refine lv_iload_n hx hb d_cJT_save_1 rfl (lv_at hl 1 rfl) ?_
  obtain ⟨hl_x0_11, Heq⟩ := gl_some Heq
  have hFc := fr_all hD hS hA
  rcases oe_some Heq with ⟨o_1, h_2, Heq⟩ | ⟨t_3, h_2, Heq⟩
  case inr => exact ((Kr _ (Option.some.inj Heq).symm).2 _ rfl).2.2 2 _ _ _ _ _ _ (tx_runV (As := [.int x1]) (rest := []) ⟨hx, hb, hml, hown, hts⟩ (g_cJT_shown_t l hfl D H.size (ad := ad) (cc := cc) (sad := sad) (sav := sav) h_2) (cw_v 1 hts kw_593 kw_590 kw_592 kp_3 kw_1 rfl rfl (by decide +kernel) ⟨Nat.le_of_ble_eq_true rfl, Nat.le_of_ble_eq_true rfl⟩) ⟨c_blind, va_recv hK hP (ci := 11) (q0 := cPos N 11 x0) rfl (cw_obj (k := 11) (by decide) hl_x0_11), fun U hU hW => c_pre hU hW hP hK hD hev hE hN hNS hS hFc⟩ rfl rfl hl.1 rfl (lv_room (Nat.le_of_ble_eq_true rfl)) d_cJT_save_2 ((Kr _ (Option.some.inj Heq).symm).2 _ rfl).1) hFc hS
  refine va_callq (va_runV (As := [.int x1]) (rest := []) ⟨hx, hb, hml, hown, hts⟩ (g_cJT_shown l hfl D H.size (ad := ad) (cc := cc) (sad := sad) (sav := sav) h_2) (cw_v 1 hts kw_593 kw_590 kw_592 kp_3 kw_1 rfl rfl (by decide +kernel) ⟨Nat.le_of_ble_eq_true rfl, Nat.le_of_ble_eq_true rfl⟩) ⟨c_blind, va_recv hK hP (ci := 11) (q0 := cPos N 11 x0) rfl (cw_obj (k := 11) (by decide) hl_x0_11), fun U hU hW => c_pre hU hW hP hK hD hev hE hN hNS hS hFc⟩ rfl rfl hl.1 rfl (lv_room (Nat.le_of_ble_eq_true rfl)) d_cJT_save_2 ⟨Nat.zero_le _, Nat.zero_le _⟩) hS (fun q _ h => hFc q h) hFc (fun rz u t H1 locs ht hvm hw hB hz1 hk1 hS => ?_)
  obtain ⟨hP, -, hD1⟩ := hB
  rw [ht] at hP
  have hD := hD1.weaken (fun _ q _ h => hFc q.1 h)
  generalize H1 = H at hP hS ⊢
  refine W.cs (cells' := 0) (slots' := 0) rfl rfl ?_
  subst hw
  refine w_v (y := rv ad 4 o_1.2) rfl ?_
  refine tx_astore_n (x := o_1.2.map (ad 4)) (lv' := [(2, rv ad 4 o_1.2), (0, .ref (ad 11 x0)), (1, .int x1)]) hx hb d_cJT_save_5 rfl hl (by decide) rfl (fun ls hl => ?_)
  refine lv_aload_n hx hb d_cJT_save_6 rfl (lv_at hl 1 rfl) ?_
  refine tx_aload_n (x := o_1.2.map (ad 4)) hx hb d_cJT_save_7 rfl (lv_at hl 0 rfl) ?_
  refine w_v (y := rv ad 4 o_1.2) rfl ?_
  obtain ⟨j_4, hj_5, hl_6, Heq⟩ := gn_some Heq
  refine w_s (st' := [.ref (ad 4 j_4), .ref (ad 11 x0)]) (congrArg (fun z9 : Option Nat => [rv ad 4 z9, .ref (ad 11 x0)]) hj_5) ?_
  have hFc := fr_all hD hS hA
  rcases oe_some Heq with ⟨o_7, h_8, Heq⟩ | ⟨t_9, h_8, Heq⟩
  case inr => exact ((Kr _ (Option.some.inj Heq).symm).2 _ rfl).2.2 8 _ _ _ _ _ _ (tx_runV (As := [.ref (ad 4 j_4)]) (rest := []) ⟨hx, hb, hml, hown, hts⟩ (g_cJT_needNoneOpen_t l hfl D H.size (ad := ad) (cc := cc) (sad := sad) (sav := sav) h_8) (cw_v 1 hts kw_1087 kw_1084 kw_1086 kp_22 kw_1 rfl rfl (by decide +kernel) ⟨Nat.le_of_ble_eq_true rfl, Nat.le_of_ble_eq_true rfl⟩) ⟨c_blind, va_recv hK hP (ci := 11) (q0 := cPos N 11 x0) rfl (cw_obj (k := 11) (by decide) hl_x0_11), fun U hU hW => c_pre hU hW hP hK hD hev hE hN hNS hS hFc⟩ rfl rfl hl.1 rfl (lv_room (Nat.le_of_ble_eq_true rfl)) d_cJT_save_8 ((Kr _ (Option.some.inj Heq).symm).2 _ rfl).1) hFc hS
  refine va_callv (va_runV (As := [.ref (ad 4 j_4)]) (rest := []) ⟨hx, hb, hml, hown, hts⟩ (g_cJT_needNoneOpen l hfl D H.size (ad := ad) (cc := cc) (sad := sad) (sav := sav) h_8) (cw_v 1 hts kw_1087 kw_1084 kw_1086 kp_22 kw_1 rfl rfl (by decide +kernel) ⟨Nat.le_of_ble_eq_true rfl, Nat.le_of_ble_eq_true rfl⟩) ⟨c_blind, va_recv hK hP (ci := 11) (q0 := cPos N 11 x0) rfl (cw_obj (k := 11) (by decide) hl_x0_11), fun U hU hW => c_pre hU hW hP hK hD hev hE hN hNS hS hFc⟩ rfl rfl hl.1 rfl (lv_room (Nat.le_of_ble_eq_true rfl)) d_cJT_save_8 ⟨Nat.zero_le _, Nat.zero_le _⟩) hS (fun q _ h => hFc q h) hFc (fun u t H1 locs ht hvm hw hB hz1 hk1 hS => ?_)
  obtain ⟨hP, -, hD1⟩ := hB
  rw [ht] at hP
  have hD := hD1.weaken (fun _ q _ h => hFc q.1 h)
  generalize H1 = H at hP hS ⊢
  refine W.cs (cells' := 0) (slots' := 0) rfl rfl ?_
  refine lv_aload_n hx hb d_cJT_save_11 rfl (lv_at hl 1 rfl) ?_
  refine va_get (D := D) (ci := 11) (v := rv ad 6 (o_7.r 11 5 x0)) (C := R_JT) (T := F_JT) (N := 13) hx hb hts i_JT hown hK hP (cPos N 11 x0) (cw_obj (k := 11) (by decide) hl_x0_11) rfl 5 (by decide) (hts _ kw_426) (fun _ h9 => h9) rfl d_cJT_save_12 ?_
  refine tx_aload_n (x := o_1.2.map (ad 4)) hx hb d_cJT_save_15 rfl (lv_at hl 0 rfl) ?_
  refine w_v (y := rv ad 4 o_1.2) rfl ?_
  refine w_s (st' := [.ref (ad 4 j_4), rv ad 6 (o_7.r 11 5 x0)]) (congrArg (fun z9 : Option Nat => [rv ad 4 z9, rv ad 6 (o_7.r 11 5 x0)]) hj_5) ?_
  obtain ⟨j_10, hj_11, hl_12, Heq⟩ := gn_some Heq
  refine w_s (st' := [.ref (ad 4 j_4), .ref (ad 6 j_10)]) (congrArg (fun z9 : Option Nat => [.ref (ad 4 j_4), rv ad 6 z9]) hj_11) ?_
  obtain ⟨o_13, h_14, Heq⟩ := ob_some Heq
  have hFc := fr_all hD hS hA
  refine va_callv (va_runV (As := [.ref (ad 4 j_4)]) (rest := []) ⟨hx, hb, hml, hown, hts⟩ (g_cSv_writeSaved l D H.size (ad := ad) (cc := cc) (sad := sad) (sav := sav) h_14) (cw_v 1 hts kw_1278 kw_1275 kw_1276 kw_1277 kw_10 rfl rfl (by decide +kernel) ⟨Nat.le_of_ble_eq_true rfl, Nat.le_of_ble_eq_true rfl⟩) ⟨c_blind, va_recv hK hP (ci := 6) (q0 := cPos N 6 j_10) rfl (cw_obj (k := 6) (by decide) hl_12), fun U hU hW => c_pre hU hW hP hK hD hev hE hN hNS hS hFc⟩ rfl rfl hl.1 rfl (lv_room (Nat.le_of_ble_eq_true rfl)) d_cJT_save_16 ⟨Nat.zero_le _, Nat.zero_le _⟩) hS (fun q _ h => hFc q h) hFc (fun u t H1 locs ht hvm hw hB hz1 hk1 hS => ?_)
  obtain ⟨hP, -, hD1⟩ := hB
  rw [ht] at hP
  have hD := hD1.weaken (fun _ q _ h => hFc q.1 h)
  generalize H1 = H at hP hS ⊢
  refine W.cs (cells' := 0) (slots' := 0) rfl rfl ?_
  refine lv_aload_n hx hb d_cJT_save_19 rfl (lv_at hl 1 rfl) ?_
  refine lv_iconst (v := 1) hx hb d_cJT_save_20 (by decide) ?_
  refine va_put (D := D) (ci := 11) (v := .int 1) (ty := .boolean) (C := R_JT) (T := F_JT) (N := 13) hx hb hts i_JT t_JT t_JT_ok n_JT hown hK hP hD hS (cPos N 11 x0) (cw_obj (k := 11) (by decide) hl_x0_11) rfl 7 (by decide) (hts _ kw_428) (fun _ h9 => h9) rfl (by decide +kernel) (by decide) (by decide) (Nat.le_of_ble_eq_true rfl) d_cJT_save_21 (fun H locs hP hD hS => ?_)
  have hD := (congrArg (fun w9 => va_D A w9) (cw_setI (ad := ad) (cc := cc) (S := o_13) (k := 11) (f := 7) (v := 1) (by decide) rfl hl_x0_11)).mp hD
  have hP := (congrArg (fun w9 => va_P D cls w9 H) (cw_setI (ad := ad) (cc := cc) (S := o_13) (k := 11) (f := 7) (v := 1) (by decide) rfl hl_x0_11)).mp hP
  refine lv_aload_n hx hb d_cJT_save_24 rfl (lv_at hl 1 rfl) ?_
  refine va_get (D := D) (ci := 11) (v := rv ad 5 ((o_13.setI 11 7 x0 1).r 11 6 x0)) (C := R_JT) (T := F_JT) (N := 13) hx hb hts i_JT hown hK hP (cPos N 11 x0) (cw_obj (k := 11) (by decide) hl_x0_11) rfl 6 (by decide) (hts _ kw_427) (fun _ h9 => h9) rfl d_cJT_save_25 ?_
  refine w_v (y := rv ad 5 (o_13.r 11 6 x0)) (congrArg (rv ad 5) rfl) ?_
  obtain ⟨j_15, hj_16, hl_17, Heq⟩ := gn_some Heq
  refine w_s (st' := [.ref (ad 5 j_15)]) (congrArg (fun z9 : Option Nat => [rv ad 5 z9]) hj_16) ?_
  refine va_get (D := D) (ci := 5) (v := .int ((o_13.setI 11 7 x0 1).i 5 1 j_15)) (C := R_Rw) (T := F_Rw) (N := 3) hx hb hts i_Rw hown hK hP (cPos N 5 j_15) (cw_obj (k := 5) (by decide) hl_17) rfl 1 (by decide) (hts _ kw_143) (fun _ h9 => h9) rfl d_cJT_save_28 ?_
  refine w_i (y := o_13.i 5 1 j_15) rfl ?_
  exact (Kr _ (Option.some.inj Heq).symm).1 _ rfl 31 _ _ _ d_cJT_save_31 hP hD hS
def m_cJT_save (N : Nat → Nat) (x0 : Nat) (S : CS) (x1 : Int32) : Option ((CS × Int32) ⊕ (CS × Nat)) := m_cJT_save_J0 N x0 S x1
set_option maxHeartbeats 4000000 in
theorem g_cJT_save (l : Launch) (hfl : l.flags = flags0) (D : va_G) (sz : Nat) {ad : Nat → Nat → Nat} {cc : Nat → ClassId} {sad sav : Nat → Nat} {N : Nat → Nat} {x0 : Nat} {S : CS} {x1 : Int32} {o : CS × Int32} (Heq : m_cJT_save N x0 S x1 = some (.inl o)) : Met l ⟨"JoinedTrees", "save", "(I)I"⟩ (Cond.code ⟨"JoinedTrees", "save", "(I)I"⟩ prog_1_method_24_code 3 (some .int) :: gb) ({ frames := 7, cells := 0, slots := 0, locals := 137 }) (cPc sad sav D (cw ad cc N S) (cty cc) sz [.ref (ad 11 x0), .int x1]) (va_Qi (fun (r : Int32) (_ : Unit) => r = o.2) (fun _ t => gO D (cw ad cc N o.1) (cty cc) (va_A (cw ad cc N S) sz) t) (va_A (cw ad cc N S) sz)) 0 0 (va_A (cw ad cc N S) sz) := by
  refine Met.ofW (cc := prog_1_method_24_code) (maxL := 3) (ret := (some .int)) (by decide) rfl ?_
  intro p e s m args below meth c s₁ B hml hv
  obtain ⟨rfl, hsz, hP, hK, hD0, hev, hE, hN⟩ := hv
  have hx := B.exec
  have hb := B.bytes
  have hr := B.returns
  have hts : ∀ w9 ∈ gb, w9.before [.ref (ad 11 x0), .int x1].toArray s = true := fun w9 h => atoms_spec (ws := Cond.code ⟨"JoinedTrees", "save", "(I)I"⟩ prog_1_method_24_code 3 (some .int) :: gb) B.pre w9 (List.mem_cons_of_mem _ h)
  have hown : s.vm.findClass "JoinedTrees" = some m.cls := findClass_of_methodNamed B.named
  have hlocks := B.notSynchronized
  have hNS := ns_of hP
  subst hsz
  have hD := hD0.self (sz := s.heap.size)
  generalize hAe : va_A (cw ad cc N S) s.heap.size = A at hD hev hE hNS ⊢
  have hA : ∀ q : Nat, s.heap.size ≤ q → A q := fun q h => by rw [← hAe]; exact Or.inr h
  have hS : va_S A s.heap s.heap [] := va_S.rf
  obtain ⟨ls, hl, hle⟩ : ∃ ls : Array Slot, lv_has ls 3 [(0, .ref (ad 11 x0)), (1, .int x1)] ∧ entryFrame m ([.ref (ad 11 x0), .int x1] : List Value).toArray 3 = F0 m 0 ls [] := by
    exact ⟨_, lv_entry (n := 3) _ (Nat.le_of_ble_eq_true rfl), lg_entry_eq ..⟩
  rw [hle]
  refine w_cJT_save_J0 (cR := 0) (sR := 0) hfl ⟨hx, hb, hr, hml, hown, hts, hK, hA, hev, hE, hN, hNS⟩ Heq (fun r h => ⟨fun v9 hv9 pc H locs ls hd hP hD hS => ?_, fun t9 ht9 => (by subst h; cases ht9)⟩) _ _ _ hP hD hS (lv_sub hl [0, 1] rfl)
  subst h
  cases hv9
  exact W.iret hx hb hr (fun t ht hW => ⟨⟨_, (), rfl, rfl, by rw [ht]; exact hP, va_K.moved hW.alike hK, hD⟩, hS.F ht⟩) hS.2.2 hd
set_option maxHeartbeats 4000000 in
theorem g_cJT_save_t (l : Launch) (hfl : l.flags = flags0) (D : va_G) (sz : Nat) {ad : Nat → Nat → Nat} {cc : Nat → ClassId} {sad sav : Nat → Nat} {N : Nat → Nat} {x0 : Nat} {S : CS} {x1 : Int32} {o : CS × Nat} (Heq : m_cJT_save N x0 S x1 = some (.inr o)) : MeT l ⟨"JoinedTrees", "save", "(I)I"⟩ (Cond.code ⟨"JoinedTrees", "save", "(I)I"⟩ prog_1_method_24_code 3 (some .int) :: gb) ({ frames := 7, cells := 1, slots := 6, locals := 137 }) (cPc sad sav D (cw ad cc N S) (cty cc) sz [.ref (ad 11 x0), .int x1]) (exN o.2) (va_A (cw ad cc N S) sz) (fun H1 => va_P D cls (cw ad cc N o.1) H1) 1 6 := by
  refine MeT.ofW (cc := prog_1_method_24_code) (maxL := 3) (ret := (some .int)) (by decide) rfl ?_
  intro p e s m args below meth c s₁ B hml hno hv
  obtain ⟨rfl, hsz, hP, hK, hD0, hev, hE, hN⟩ := hv
  have hx := B.exec
  have hb := B.bytes
  have hr := B.returns
  have hts : ∀ w9 ∈ gb, w9.before [.ref (ad 11 x0), .int x1].toArray s = true := fun w9 h => atoms_spec (ws := Cond.code ⟨"JoinedTrees", "save", "(I)I"⟩ prog_1_method_24_code 3 (some .int) :: gb) B.pre w9 (List.mem_cons_of_mem _ h)
  have hown : s.vm.findClass "JoinedTrees" = some m.cls := findClass_of_methodNamed B.named
  have hlocks := B.notSynchronized
  have hNS := ns_of hP
  subst hsz
  have hD := hD0.self (sz := s.heap.size)
  generalize hAe : va_A (cw ad cc N S) s.heap.size = A at hD hev hE hNS ⊢
  have hA : ∀ q : Nat, s.heap.size ≤ q → A q := fun q h => by rw [← hAe]; exact Or.inr h
  have hS : va_S A s.heap s.heap [] := va_S.rf
  obtain ⟨ls, hl, hle⟩ : ∃ ls : Array Slot, lv_has ls 3 [(0, .ref (ad 11 x0)), (1, .int x1)] ∧ entryFrame m ([.ref (ad 11 x0), .int x1] : List Value).toArray 3 = F0 m 0 ls [] := by
    exact ⟨_, lv_entry (n := 3) _ (Nat.le_of_ble_eq_true rfl), lg_entry_eq ..⟩
  rw [hle]
  refine w_cJT_save_J0 (cR := 1) (sR := 6) hfl ⟨hx, hb, hr, hml, hown, hts, hK, hA, hev, hE, hN, hNS⟩ Heq (fun r h => ⟨fun v9 hv9 => (by subst h; cases hv9), fun t9 ht9 => ⟨⟨Nat.le_refl _, Nat.le_refl _⟩, fun pc H locs ls hd hsz hP hD hS => ?_, fun pc H locs ls st0 rest9 A9 hr9 hF9 hS => ?_⟩⟩) _ _ _ hP hD hS (lv_sub hl [0, 1] rfl)
  · subst h; cases ht9; exact tx_thr hfl hx hb hno hlocks hown hts hev hN hNS hd (hsz.trans hml.symm) hP hS hA (Nat.le_refl _) (Nat.le_refl _) (Nat.le_of_ble_eq_true rfl) (Nat.le_of_ble_eq_true rfl)
  · subst h; cases ht9; exact tx_on hr9 hno hlocks hS hF9
def m_cJT_load_J95 (N : Nat → Nat) (x0 : Nat) (S : CS) (x2 : Option Nat) (x3 : Int32) : Option ((CS × Option Nat × Int32) ⊕ (CS × Option Nat)) := some (.inl (S, x2, (x3 + 1)))
theorem d_cJT_load_0 : decode prog_1_method_25_code 0 = .ok (.aload_n 0, 1) := by decide +kernel
theorem d_cJT_load_1 : decode prog_1_method_25_code 1 = .ok (.iload_n 1, 1) := by decide +kernel
theorem d_cJT_load_2 : decode prog_1_method_25_code 2 = .ok (.invokevirtual 105, 3) := by decide +kernel
theorem d_cJT_load_5 : decode prog_1_method_25_code 5 = .ok (.astore_n 2, 1) := by decide +kernel
theorem d_cJT_load_6 : decode prog_1_method_25_code 6 = .ok (.aload_n 0, 1) := by decide +kernel
theorem d_cJT_load_7 : decode prog_1_method_25_code 7 = .ok (.aload_n 2, 1) := by decide +kernel
theorem d_cJT_load_8 : decode prog_1_method_25_code 8 = .ok (.invokevirtual 253, 3) := by decide +kernel
theorem d_cJT_load_11 : decode prog_1_method_25_code 11 = .ok (.aload_n 0, 1) := by decide +kernel
theorem d_cJT_load_12 : decode prog_1_method_25_code 12 = .ok (.getfield 352, 3) := by decide +kernel
theorem d_cJT_load_15 : decode prog_1_method_25_code 15 = .ok (.ifCond .ne 11, 3) := by decide +kernel
theorem d_cJT_load_26 : decode prog_1_method_25_code 26 = .ok (.aload_n 0, 1) := by decide +kernel
theorem d_cJT_load_27 : decode prog_1_method_25_code 27 = .ok (.getfield 63, 3) := by decide +kernel
theorem d_cJT_load_30 : decode prog_1_method_25_code 30 = .ok (.invokevirtual 358, 3) := by decide +kernel
theorem d_cJT_load_33 : decode prog_1_method_25_code 33 = .ok (.ifCond .ne 11, 3) := by decide +kernel
theorem d_cJT_load_44 : decode prog_1_method_25_code 44 = .ok (.iconst 0, 1) := by decide +kernel
theorem d_cJT_load_45 : decode prog_1_method_25_code 45 = .ok (.istore_n 3, 1) := by decide +kernel
theorem d_cJT_load_46 : decode prog_1_method_25_code 46 = .ok (.iload_n 3, 1) := by decide +kernel
theorem d_cJT_load_47 : decode prog_1_method_25_code 47 = .ok (.aload_n 0, 1) := by decide +kernel
theorem d_cJT_load_48 : decode prog_1_method_25_code 48 = .ok (.getfield 12, 3) := by decide +kernel
theorem d_cJT_load_51 : decode prog_1_method_25_code 51 = .ok (.getfield 226, 3) := by decide +kernel
theorem d_cJT_load_54 : decode prog_1_method_25_code 54 = .ok (.if_icmp .ge 47, 3) := by decide +kernel
theorem d_cJT_load_57 : decode prog_1_method_25_code 57 = .ok (.aload_n 0, 1) := by decide +kernel
theorem d_cJT_load_58 : decode prog_1_method_25_code 58 = .ok (.getfield 12, 3) := by decide +kernel
theorem d_cJT_load_61 : decode prog_1_method_25_code 61 = .ok (.getfield 263, 3) := by decide +kernel
theorem d_cJT_load_64 : decode prog_1_method_25_code 64 = .ok (.iload_n 3, 1) := by decide +kernel
theorem d_cJT_load_65 : decode prog_1_method_25_code 65 = .ok (.aaload, 1) := by decide +kernel
theorem d_cJT_load_66 : decode prog_1_method_25_code 66 = .ok (.astore 4, 2) := by decide +kernel
theorem d_cJT_load_68 : decode prog_1_method_25_code 68 = .ok (.aload 4, 2) := by decide +kernel
theorem d_cJT_load_70 : decode prog_1_method_25_code 70 = .ok (.getfield 364, 3) := by decide +kernel
theorem d_cJT_load_73 : decode prog_1_method_25_code 73 = .ok (.aload_n 0, 1) := by decide +kernel
theorem d_cJT_load_74 : decode prog_1_method_25_code 74 = .ok (.getfield 63, 3) := by decide +kernel
theorem d_cJT_load_77 : decode prog_1_method_25_code 77 = .ok (.getfield 369, 3) := by decide +kernel
theorem d_cJT_load_80 : decode prog_1_method_25_code 80 = .ok (.aload 4, 2) := by decide +kernel
theorem d_cJT_load_82 : decode prog_1_method_25_code 82 = .ok (.getfield 373, 3) := by decide +kernel
theorem d_cJT_load_85 : decode prog_1_method_25_code 85 = .ok (.iaload, 1) := by decide +kernel
theorem d_cJT_load_86 : decode prog_1_method_25_code 86 = .ok (.if_icmp .gt 9, 3) := by decide +kernel
theorem d_cJT_load_95 : decode prog_1_method_25_code 95 = .ok (.iinc 3 1, 3) := by decide +kernel
theorem d_cJT_load_98 : decode prog_1_method_25_code 98 = .ok (.goto (-52), 3) := by decide +kernel
set_option maxHeartbeats 4000000 in
set_option maxRecDepth 100000 in
theorem w_cJT_load_J95 {p : Program} {l : Launch} {e : Env} {s : State} {m : MethodId} {args : Array Value} {below : List Frame} {meth : Method} {c : Code} {A : Nat → Prop} {D : va_G} {ad : Nat → Nat → Nat} {cc : Nat → ClassId} {sad sav : Nat → Nat} {Q : State → Prop} {cR sR : Nat} (hfl : l.flags = flags0) (hC : MCc sad sav "JoinedTrees" prog_1_method_25_code 5 (some .int) p s m args meth c A D cc) {N : Nat → Nat} {x0 : Nat} {S : CS} {x2 : Option Nat} {x3 : Int32} {o : ((CS × Option Nat × Int32) ⊕ (CS × Option Nat))} (Heq : m_cJT_load_J95 N x0 S x2 x3 = some o) (Ka : ∀ b : CS × Option Nat × Int32, o = .inl b → ∀ (H : Heap) (locs : List Loc) (ls : Array Slot), va_P D cls (cw ad cc N b.1) H → va_D A (cw ad cc N b.1) → va_S A s.heap H locs → lv_has ls 5 [(0, .ref (ad 11 x0)), (2, rv ad 4 b.2.1), (3, .int b.2.2)] → W p l e ({ frames := 7, cells := cR, slots := sR, locals := 137 }) s m args below meth c H locs 0 0 Q (F0 m 46 ls [])) (K0 : ∀ b : CS × Option Nat, o = .inr b → ∀ (H : Heap) (locs : List Loc) (ls : Array Slot), va_P D cls (cw ad cc N b.1) H → va_D A (cw ad cc N b.1) → va_S A s.heap H locs → lv_has ls 5 [(0, .ref (ad 11 x0)), (2, rv ad 4 b.2)] → W p l e ({ frames := 7, cells := cR, slots := sR, locals := 137 }) s m args below meth c H locs 0 0 Q (F0 m 101 ls [])) : ∀ (H : Heap) (locs : List Loc) (ls : Array Slot), va_P D cls (cw ad cc N S) H → va_D A (cw ad cc N S) → va_S A s.heap H locs → lv_has ls 5 [(0, .ref (ad 11 x0)), (2, rv ad 4 x2), (3, .int x3)] → W p l e ({ frames := 7, cells := cR, slots := sR, locals := 137 }) s m args below meth c H locs 0 0 Q (F0 m 95 ls []) := by
  intro H locs ls hP hD hS hl
  obtain ⟨hx, hb, hr, hml, hown, hts, hK, hA, hev, hE, hN, hNS⟩ := id hC
  unfold m_cJT_load_J95 at Heq
  refine lv_iinc (v := x3 + 1) (lv' := [(3, .int (x3 + 1)), (0, .ref (ad 11 x0)), (2, rv ad 4 x2)]) hx hb d_cJT_load_95 hl (k := 2) rfl rfl (by decide) (by simp [rv, rf_cat]) (fun ls hl => ?_)
  refine lv_goto (tgt := 46) hx hb d_cJT_load_98 (by decide) ?_
  exact Ka _ (Option.some.inj Heq).symm _ _ _ hP hD hS (lv_sub hl [1, 2, 0] rfl)
def m_cJT_load_B46 (N : Nat → Nat) (x0 : Nat) (S : CS) (x2 : Option Nat) (x3 : Int32) : Option ((CS × Option Nat × Int32) ⊕ (CS × Option Nat)) := gl x0 (N 11) (gn (S.r 11 0 x0) (N 8) (fun j_1 => (if S.i 8 4 j_1 ≤ x3 then some (.inr (S, x2)) else gn (S.r 8 3 j_1) (N 16) (fun j_5 => gd x3 (S.z 16 j_5) (gn (S.q 16 j_5 x3.toNatClampNeg) (N 0) (fun j_9 => gn (S.r 11 5 x0) (N 6) (fun j_12 => gn (S.r 6 2 j_12) (N 12) (fun j_15 => gd (S.i 0 0 j_9) (S.z 12 j_15) ((if S.a 12 j_15 ((S.i 0 0 j_9).toNatClampNeg) < S.i 0 1 j_9 then m_cJT_load_J95 N x0 S x2 x3 else gn x2 (N 4) (fun j_20 => ob (m_cRp_expect N j_20 S j_9) (fun o_23 => m_cJT_load_J95 N x0 o_23 x2 x3))))))))))))
theorem d_cJT_load_89 : decode prog_1_method_25_code 89 = .ok (.aload_n 2, 1) := by decide +kernel
theorem d_cJT_load_90 : decode prog_1_method_25_code 90 = .ok (.aload 4, 2) := by decide +kernel
theorem d_cJT_load_92 : decode prog_1_method_25_code 92 = .ok (.invokevirtual 256, 3) := by decide +kernel
set_option maxHeartbeats 4000000 in
set_option maxRecDepth 100000 in
theorem w_cJT_load_B46 {p : Program} {l : Launch} {e : Env} {s : State} {m : MethodId} {args : Array Value} {below : List Frame} {meth : Method} {c : Code} {A : Nat → Prop} {D : va_G} {ad : Nat → Nat → Nat} {cc : Nat → ClassId} {sad sav : Nat → Nat} {Q : State → Prop} {cR sR : Nat} (hfl : l.flags = flags0) (hC : MCc sad sav "JoinedTrees" prog_1_method_25_code 5 (some .int) p s m args meth c A D cc) {N : Nat → Nat} {x0 : Nat} {S : CS} {x2 : Option Nat} {x3 : Int32} {o : ((CS × Option Nat × Int32) ⊕ (CS × Option Nat))} (Heq : m_cJT_load_B46 N x0 S x2 x3 = some o) (Ka : ∀ b : CS × Option Nat × Int32, o = .inl b → ∀ (H : Heap) (locs : List Loc) (ls : Array Slot), va_P D cls (cw ad cc N b.1) H → va_D A (cw ad cc N b.1) → va_S A s.heap H locs → lv_has ls 5 [(0, .ref (ad 11 x0)), (2, rv ad 4 b.2.1), (3, .int b.2.2)] → W p l e ({ frames := 7, cells := cR, slots := sR, locals := 137 }) s m args below meth c H locs 0 0 Q (F0 m 46 ls [])) (K0 : ∀ b : CS × Option Nat, o = .inr b → ∀ (H : Heap) (locs : List Loc) (ls : Array Slot), va_P D cls (cw ad cc N b.1) H → va_D A (cw ad cc N b.1) → va_S A s.heap H locs → lv_has ls 5 [(0, .ref (ad 11 x0)), (2, rv ad 4 b.2)] → W p l e ({ frames := 7, cells := cR, slots := sR, locals := 137 }) s m args below meth c H locs 0 0 Q (F0 m 101 ls [])) : ∀ (H : Heap) (locs : List Loc) (ls : Array Slot), va_P D cls (cw ad cc N S) H → va_D A (cw ad cc N S) → va_S A s.heap H locs → lv_has ls 5 [(0, .ref (ad 11 x0)), (2, rv ad 4 x2), (3, .int x3)] → W p l e ({ frames := 7, cells := cR, slots := sR, locals := 137 }) s m args below meth c H locs 0 0 Q (F0 m 46 ls []) := by
  intro H locs ls hP hD hS hl
  obtain ⟨hx, hb, hr, hml, hown, hts, hK, hA, hev, hE, hN, hNS⟩ := id hC
  unfold m_cJT_load_B46 at Heq
  refine lv_iload_n hx hb d_cJT_load_46 rfl (lv_at hl 2 rfl) ?_
  refine lv_aload_n hx hb d_cJT_load_47 rfl (lv_at hl 0 rfl) ?_
  obtain ⟨hl_x0_11, Heq⟩ := gl_some Heq
  refine va_get (D := D) (ci := 11) (v := rv ad 8 (S.r 11 0 x0)) (C := R_JT) (T := F_JT) (N := 13) hx hb hts i_JT hown hK hP (cPos N 11 x0) (cw_obj (k := 11) (by decide) hl_x0_11) rfl 0 (by decide) (hts _ kw_421) (fun _ h9 => h9) rfl d_cJT_load_48 ?_
  obtain ⟨j_1, hj_2, hl_3, Heq⟩ := gn_some Heq
  refine w_s (st' := [.ref (ad 8 j_1), .int x3]) (congrArg (fun z9 : Option Nat => [rv ad 8 z9, .int x3]) hj_2) ?_
  refine va_get (D := D) (ci := 8) (v := .int (S.i 8 4 j_1)) (C := R_St) (T := F_St) (N := 6) hx hb hts i_St hown hK hP (cPos N 8 j_1) (cw_obj (k := 8) (by decide) hl_3) rfl 4 (by decide) (hts _ kw_176) (fun _ h9 => h9) rfl d_cJT_load_51 ?_
  refine lv_icmp_ge (tgt := 101) hx hb d_cJT_load_54 (by decide) (fun c_4 => ?_) (fun c_4 => ?_)
  · replace Heq := (if_pos c_4).symm.trans Heq
    exact K0 _ (Option.some.inj Heq).symm _ _ _ hP hD hS (lv_sub hl [0, 1] rfl)
  · replace Heq := (if_neg c_4).symm.trans Heq
    refine lv_aload_n hx hb d_cJT_load_57 rfl (lv_at hl 0 rfl) ?_
    refine va_get (D := D) (ci := 11) (v := rv ad 8 (S.r 11 0 x0)) (C := R_JT) (T := F_JT) (N := 13) hx hb hts i_JT hown hK hP (cPos N 11 x0) (cw_obj (k := 11) (by decide) hl_x0_11) rfl 0 (by decide) (hts _ kw_421) (fun _ h9 => h9) rfl d_cJT_load_58 ?_
    refine w_s (st' := [.ref (ad 8 j_1)]) (congrArg (fun z9 : Option Nat => [rv ad 8 z9]) hj_2) ?_
    refine va_get (D := D) (ci := 8) (v := rv ad 16 (S.r 8 3 j_1)) (C := R_St) (T := F_St) (N := 6) hx hb hts i_St hown hK hP (cPos N 8 j_1) (cw_obj (k := 8) (by decide) hl_3) rfl 3 (by decide) (hts _ kw_173) (fun _ h9 => h9) rfl d_cJT_load_61 ?_
    refine lv_iload_n hx hb d_cJT_load_64 rfl (lv_at hl 2 rfl) ?_
    obtain ⟨j_5, hj_6, hl_7, Heq⟩ := gn_some Heq
    refine w_s (st' := [.int x3, .ref (ad 16 j_5)]) (congrArg (fun z9 : Option Nat => [.int x3, rv ad 16 z9]) hj_6) ?_
    obtain ⟨hi_8, Heq⟩ := gd_some Heq
    refine va_aldq hx hb hK hP (cPos N 16 j_5) 4 (cw_refs (k := 16) (by decide) hl_7) rfl (i := x3) hi_8 d_cJT_load_65 ?_
    refine w_v (y := rv ad 0 (S.q 16 j_5 x3.toNatClampNeg)) (congrArg (rv ad 0) rfl) ?_
    refine tx_astore (x := (S.q 16 j_5 x3.toNatClampNeg).map (ad 0)) (lv' := [(4, rv ad 0 (S.q 16 j_5 x3.toNatClampNeg)), (0, .ref (ad 11 x0)), (2, rv ad 4 x2), (3, .int x3)]) hx hb d_cJT_load_66 hl (by decide) rfl (fun ls hl => ?_)
    refine tx_aload (x := (S.q 16 j_5 x3.toNatClampNeg).map (ad 0)) hx hb d_cJT_load_68 (lv_at hl 0 rfl) ?_
    refine w_v (y := rv ad 0 (S.q 16 j_5 x3.toNatClampNeg)) rfl ?_
    obtain ⟨j_9, hj_10, hl_11, Heq⟩ := gn_some Heq
    refine w_s (st' := [.ref (ad 0 j_9)]) (congrArg (fun z9 : Option Nat => [rv ad 0 z9]) hj_10) ?_
    refine va_get (D := D) (ci := 0) (v := .int (S.i 0 1 j_9)) (C := R_Ch) (T := F_Ch) (N := 7) hx hb hts i_Ch hown hK hP (cPos N 0 j_9) (cw_obj (k := 0) (by decide) hl_11) rfl 1 (by decide) (hts _ kw_1017) (fun _ h9 => h9) rfl d_cJT_load_70 ?_
    refine lv_aload_n hx hb d_cJT_load_73 rfl (lv_at hl 1 rfl) ?_
    refine va_get (D := D) (ci := 11) (v := rv ad 6 (S.r 11 5 x0)) (C := R_JT) (T := F_JT) (N := 13) hx hb hts i_JT hown hK hP (cPos N 11 x0) (cw_obj (k := 11) (by decide) hl_x0_11) rfl 5 (by decide) (hts _ kw_426) (fun _ h9 => h9) rfl d_cJT_load_74 ?_
    obtain ⟨j_12, hj_13, hl_14, Heq⟩ := gn_some Heq
    refine w_s (st' := [.ref (ad 6 j_12), .int (S.i 0 1 j_9)]) (congrArg (fun z9 : Option Nat => [rv ad 6 z9, .int (S.i 0 1 j_9)]) hj_13) ?_
    refine va_get (D := D) (ci := 6) (v := rv ad 12 (S.r 6 2 j_12)) (C := R_Sv) (T := F_Sv) (N := 6) hx hb hts i_Sv hown hK hP (cPos N 6 j_12) (cw_obj (k := 6) (by decide) hl_14) rfl 2 (by decide) (hts _ kw_404) (fun _ h9 => h9) rfl d_cJT_load_77 ?_
    refine tx_aload (x := (S.q 16 j_5 x3.toNatClampNeg).map (ad 0)) hx hb d_cJT_load_80 (lv_at hl 0 rfl) ?_
    refine w_v (y := rv ad 0 (S.q 16 j_5 x3.toNatClampNeg)) rfl ?_
    refine w_s (st' := [.ref (ad 0 j_9), rv ad 12 (S.r 6 2 j_12), .int (S.i 0 1 j_9)]) (congrArg (fun z9 : Option Nat => [rv ad 0 z9, rv ad 12 (S.r 6 2 j_12), .int (S.i 0 1 j_9)]) hj_10) ?_
    refine va_get (D := D) (ci := 0) (v := .int (S.i 0 0 j_9)) (C := R_Ch) (T := F_Ch) (N := 7) hx hb hts i_Ch hown hK hP (cPos N 0 j_9) (cw_obj (k := 0) (by decide) hl_11) rfl 0 (by decide) (hts _ kw_1012) (fun _ h9 => h9) rfl d_cJT_load_82 ?_
    obtain ⟨j_15, hj_16, hl_17, Heq⟩ := gn_some Heq
    refine w_s (st' := [.int (S.i 0 0 j_9), .ref (ad 12 j_15), .int (S.i 0 1 j_9)]) (congrArg (fun z9 : Option Nat => [.int (S.i 0 0 j_9), rv ad 12 z9, .int (S.i 0 1 j_9)]) hj_16) ?_
    obtain ⟨hi_18, Heq⟩ := gd_some Heq
    refine va_iald hx hb hK hP (cPos N 12 j_15) 0 (cw_arr (k := 12) (by decide) hl_17) rfl (i := S.i 0 0 j_9) hi_18 d_cJT_load_85 ?_
    refine w_i (y := S.a 12 j_15 ((S.i 0 0 j_9).toNatClampNeg)) rfl ?_
    refine lv_icmp_gt (tgt := 95) hx hb d_cJT_load_86 (by decide) (fun c_19 => ?_) (fun c_19 => ?_)
    · replace Heq := (if_pos c_19).symm.trans Heq
      exact w_cJT_load_J95 hfl hC Heq Ka K0 _ _ _ hP hD hS (lv_sub hl [1, 2, 3] rfl)
    · replace Heq := (if_neg c_19).symm.trans Heq
      refine tx_aload_n (x := x2.map (ad 4)) hx hb d_cJT_load_89 rfl (lv_at hl 2 rfl) ?_
      refine w_v (y := rv ad 4 x2) rfl ?_
      refine tx_aload (x := (S.q 16 j_5 x3.toNatClampNeg).map (ad 0)) hx hb d_cJT_load_90 (lv_at hl 0 rfl) ?_
      refine w_v (y := rv ad 0 (S.q 16 j_5 x3.toNatClampNeg)) rfl ?_
      refine w_s (st' := [.ref (ad 0 j_9), rv ad 4 x2]) (congrArg (fun z9 : Option Nat => [rv ad 0 z9, rv ad 4 x2]) hj_10) ?_
      obtain ⟨j_20, hj_21, hl_22, Heq⟩ := gn_some Heq
      refine w_s (st' := [.ref (ad 0 j_9), .ref (ad 4 j_20)]) (congrArg (fun z9 : Option Nat => [.ref (ad 0 j_9), rv ad 4 z9]) hj_21) ?_
      obtain ⟨o_23, h_24, Heq⟩ := ob_some Heq
      have hFc := fr_all hD hS hA
      refine va_callv (va_runV (As := [.ref (ad 0 j_9)]) (rest := []) ⟨hx, hb, hml, hown, hts⟩ (g_cRp_expect l D H.size (ad := ad) (cc := cc) (sad := sad) (sav := sav) h_24) (cw_v 1 hts kw_1091 kw_1088 kw_1089 kw_1090 kw_5 rfl rfl (by decide +kernel) ⟨Nat.le_of_ble_eq_true rfl, Nat.le_of_ble_eq_true rfl⟩) ⟨c_blind, va_recv hK hP (ci := 4) (q0 := cPos N 4 j_20) rfl (cw_obj (k := 4) (by decide) hl_22), fun U hU hW => c_pre hU hW hP hK hD hev hE hN hNS hS hFc⟩ rfl rfl hl.1 rfl (lv_room (Nat.le_of_ble_eq_true rfl)) d_cJT_load_92 ⟨Nat.zero_le _, Nat.zero_le _⟩) hS (fun q _ h => hFc q h) hFc (fun u t H1 locs ht hvm hw hB hz1 hk1 hS => ?_)
      obtain ⟨hP, -, hD1⟩ := hB
      rw [ht] at hP
      have hD := hD1.weaken (fun _ q _ h => hFc q.1 h)
      generalize H1 = H at hP hS ⊢
      refine W.cs (cells' := 0) (slots' := 0) rfl rfl ?_
      exact w_cJT_load_J95 hfl hC Heq Ka K0 _ _ _ hP hD hS (lv_sub hl [1, 2, 3] rfl)
def m_cJT_load_L46 (N : Nat → Nat) (x0 : Nat) (S : CS) (x2 : Option Nat) (x3 : Int32) : Option (CS × Option Nat) := lp (fun a : CS × Option Nat × Int32 => m_cJT_load_B46 N x0 a.1 a.2.1 a.2.2) FU (S, x2, x3)
theorem w_cJT_load_L46 {p : Program} {l : Launch} {e : Env} {s : State} {m : MethodId} {args : Array Value} {below : List Frame} {meth : Method} {c : Code} {A : Nat → Prop} {D : va_G} {ad : Nat → Nat → Nat} {cc : Nat → ClassId} {sad sav : Nat → Nat} {Q : State → Prop} {cR sR : Nat} (hfl : l.flags = flags0) (hC : MCc sad sav "JoinedTrees" prog_1_method_25_code 5 (some .int) p s m args meth c A D cc) {N : Nat → Nat} {x0 : Nat} {S : CS} {x2 : Option Nat} {x3 : Int32} {o : CS × Option Nat} (Heq : m_cJT_load_L46 N x0 S x2 x3 = some o) (K0 : ∀ b : CS × Option Nat, o = b → ∀ (H : Heap) (locs : List Loc) (ls : Array Slot), va_P D cls (cw ad cc N b.1) H → va_D A (cw ad cc N b.1) → va_S A s.heap H locs → lv_has ls 5 [(0, .ref (ad 11 x0)), (2, rv ad 4 b.2)] → W p l e ({ frames := 7, cells := cR, slots := sR, locals := 137 }) s m args below meth c H locs 0 0 Q (F0 m 101 ls [])) : ∀ (H : Heap) (locs : List Loc) (ls : Array Slot), va_P D cls (cw ad cc N S) H → va_D A (cw ad cc N S) → va_S A s.heap H locs → lv_has ls 5 [(0, .ref (ad 11 x0)), (2, rv ad 4 x2), (3, .int x3)] → W p l e ({ frames := 7, cells := cR, slots := sR, locals := 137 }) s m args below meth c H locs 0 0 Q (F0 m 46 ls []) := by
  refine lp_w (G := fun a : CS × Option Nat × Int32 => ∀ (H : Heap) (locs : List Loc) (ls : Array Slot), va_P D cls (cw ad cc N a.1) H → va_D A (cw ad cc N a.1) → va_S A s.heap H locs → lv_has ls 5 [(0, .ref (ad 11 x0)), (2, rv ad 4 a.2.1), (3, .int a.2.2)] → W p l e ({ frames := 7, cells := cR, slots := sR, locals := 137 }) s m args below meth c H locs 0 0 Q (F0 m 46 ls [])) ?_ FU (S, x2, x3) Heq
  intro a o1 ho Ka Ke
  exact w_cJT_load_B46 hfl hC ho (fun b h => Ka b h) (fun b h => K0 b (Ke _ h).symm)
def m_cJT_load_J0 (N : Nat → Nat) (x0 : Nat) (S : CS) (x1 : Int32) : Option ((CS × Int32) ⊕ (CS × Nat)) := gl x0 (N 11) (oe (m_cJT_shown N x0 S x1) (fun o_1 => gn o_1.2 (N 4) (fun j_4 => oe (m_cJT_needNoneOpen N x0 o_1.1 j_4) (fun o_7 => (if o_7.i 11 7 x0 = 0 then some (.inr (o_7, 2)) else gn (o_7.r 11 5 x0) (N 6) (fun j_11 => ob (m_cSv_isRight N j_11 o_7) (fun o_14 => (if o_14.2 = 0 then some (.inr (o_14.1, 5)) else ob (m_cJT_load_L46 N x0 o_14.1 o_1.2 0) (fun b_17 => gn b_17.2 (N 4) (fun j_19 => gn (b_17.1.r 11 0 x0) (N 8) (fun j_22 => ob (m_cSt_settle N j_22 b_17.1 j_19) (fun o_25 => some (.inl (o_25.1, o_25.2))))))))))) (fun t_9 => some (.inr t_9)))) (fun t_3 => some (.inr t_3)))
theorem d_cJT_load_101 : decode prog_1_method_25_code 101 = .ok (.aload_n 0, 1) := by decide +kernel
theorem d_cJT_load_102 : decode prog_1_method_25_code 102 = .ok (.getfield 12, 3) := by decide +kernel
theorem d_cJT_load_105 : decode prog_1_method_25_code 105 = .ok (.aload_n 2, 1) := by decide +kernel
theorem d_cJT_load_106 : decode prog_1_method_25_code 106 = .ok (.invokevirtual 260, 3) := by decide +kernel
theorem d_cJT_load_109 : decode prog_1_method_25_code 109 = .ok (.ireturn, 1) := by decide +kernel
theorem d_cJT_load_36 : decode prog_1_method_25_code 36 = .ok (.new 361, 3) := by decide +kernel
theorem d_cJT_load_39 : decode prog_1_method_25_code 39 = .ok (.dup, 1) := by decide +kernel
theorem d_cJT_load_40 : decode prog_1_method_25_code 40 = .ok (.invokespecial 363, 3) := by decide +kernel
theorem d_cJT_load_43 : decode prog_1_method_25_code 43 = .ok (.athrow, 1) := by decide +kernel
theorem d_cJT_load_18 : decode prog_1_method_25_code 18 = .ok (.new 223, 3) := by decide +kernel
theorem d_cJT_load_21 : decode prog_1_method_25_code 21 = .ok (.dup, 1) := by decide +kernel
theorem d_cJT_load_22 : decode prog_1_method_25_code 22 = .ok (.invokespecial 225, 3) := by decide +kernel
theorem d_cJT_load_25 : decode prog_1_method_25_code 25 = .ok (.athrow, 1) := by decide +kernel
set_option maxHeartbeats 4000000 in
set_option maxRecDepth 100000 in
theorem w_cJT_load_J0 {p : Program} {l : Launch} {e : Env} {s : State} {m : MethodId} {args : Array Value} {below : List Frame} {meth : Method} {c : Code} {A : Nat → Prop} {D : va_G} {ad : Nat → Nat → Nat} {cc : Nat → ClassId} {sad sav : Nat → Nat} {Q : State → Prop} {cR sR : Nat} (hfl : l.flags = flags0) (hC : MCc sad sav "JoinedTrees" prog_1_method_25_code 5 (some .int) p s m args meth c A D cc) {N : Nat → Nat} {x0 : Nat} {S : CS} {x1 : Int32} {o : ((CS × Int32) ⊕ (CS × Nat))} (Heq : m_cJT_load_J0 N x0 S x1 = some o) (Kr : ∀ r : ((CS × Int32) ⊕ (CS × Nat)), o = r → (∀ v9 : CS × Int32, r = .inl v9 → ∀ (pc : Nat) (H : Heap) (locs : List Loc) (ls : Array Slot), decode prog_1_method_25_code pc = .ok (.ireturn, 1) → va_P D cls (cw ad cc N v9.1) H → va_D A (cw ad cc N v9.1) → va_S A s.heap H locs → W p l e ({ frames := 7, cells := cR, slots := sR, locals := 137 }) s m args below meth c H locs 0 0 Q (F0 m pc ls [.int v9.2])) ∧ (∀ t9 : CS × Nat, r = .inr t9 → (1 ≤ cR ∧ 6 ≤ sR) ∧ (∀ (pc : Nat) (H : Heap) (locs : List Loc) (ls : Array Slot), thD prog_1_method_25_code t9.2 pc → ls.size = 5 → va_P D cls (cw ad cc N t9.1) H → va_D A (cw ad cc N t9.1) → va_S A s.heap H locs → W p l e ({ frames := 7, cells := cR, slots := sR, locals := 137 }) s m args below meth c H locs 0 0 Q (F0 m pc ls [])) ∧ (∀ (pc : Nat) (H : Heap) (locs : List Loc) (ls : Array Slot) (st0 rest9 : List Value) (A9 : Nat → Prop), tx_Thr p l e ({ frames := 7, cells := cR, slots := sR, locals := 137 }) s m args below meth c H locs 0 0 1 6 (F0 m pc ls st0) rest9 (exN t9.2) A9 (fun H1 => va_P D cls (cw ad cc N t9.1) H1) → (∀ q, A9 q → A q) → va_S A s.heap H locs → W p l e ({ frames := 7, cells := cR, slots := sR, locals := 137 }) s m args below meth c H locs 0 0 Q (F0 m pc ls st0)))) : ∀ (H : Heap) (locs : List Loc) (ls : Array Slot), va_P D cls (cw ad cc N S) H → va_D A (cw ad cc N S) → va_S A s.heap H locs → lv_has ls 5 [(0, .ref (ad 11 x0)), (1, .int x1)] → W p l e ({ frames := 7, cells := cR, slots := sR, locals := 137 }) s m args below meth c H locs 0 0 Q (F0 m 0 ls []) := by
  intro H locs ls hP hD hS hl
  obtain ⟨hx, hb, hr, hml, hown, hts, hK, hA, hev, hE, hN, hNS⟩ := id hC
  unfold m_cJT_load_J0 at Heq
  refine lv_aload_n hx hb d_cJT_load_0 rfl (lv_at hl 0 rfl) ?_
  refine lv_iload_n hx hb d_cJT_load_1 rfl (lv_at hl 1 rfl) ?_
  obtain ⟨hl_x0_11, Heq⟩ := gl_some Heq
  have hFc := fr_all hD hS hA
  rcases oe_some Heq with ⟨o_1, h_2, Heq⟩ | ⟨t_3, h_2, Heq⟩
  case inr => exact ((Kr _ (Option.some.inj Heq).symm).2 _ rfl).2.2 2 _ _ _ _ _ _ (tx_runV (As := [.int x1]) (rest := []) ⟨hx, hb, hml, hown, hts⟩ (g_cJT_shown_t l hfl D H.size (ad := ad) (cc := cc) (sad := sad) (sav := sav) h_2) (cw_v 1 hts kw_593 kw_590 kw_592 kp_3 kw_1 rfl rfl (by decide +kernel) ⟨Nat.le_of_ble_eq_true rfl, Nat.le_of_ble_eq_true rfl⟩) ⟨c_blind, va_recv hK hP (ci := 11) (q0 := cPos N 11 x0) rfl (cw_obj (k := 11) (by decide) hl_x0_11), fun U hU hW => c_pre hU hW hP hK hD hev hE hN hNS hS hFc⟩ rfl rfl hl.1 rfl (lv_room (Nat.le_of_ble_eq_true rfl)) d_cJT_load_2 ((Kr _ (Option.some.inj Heq).symm).2 _ rfl).1) hFc hS
  refine va_callq (va_runV (As := [.int x1]) (rest := []) ⟨hx, hb, hml, hown, hts⟩ (g_cJT_shown l hfl D H.size (ad := ad) (cc := cc) (sad := sad) (sav := sav) h_2) (cw_v 1 hts kw_593 kw_590 kw_592 kp_3 kw_1 rfl rfl (by decide +kernel) ⟨Nat.le_of_ble_eq_true rfl, Nat.le_of_ble_eq_true rfl⟩) ⟨c_blind, va_recv hK hP (ci := 11) (q0 := cPos N 11 x0) rfl (cw_obj (k := 11) (by decide) hl_x0_11), fun U hU hW => c_pre hU hW hP hK hD hev hE hN hNS hS hFc⟩ rfl rfl hl.1 rfl (lv_room (Nat.le_of_ble_eq_true rfl)) d_cJT_load_2 ⟨Nat.zero_le _, Nat.zero_le _⟩) hS (fun q _ h => hFc q h) hFc (fun rz u t H1 locs ht hvm hw hB hz1 hk1 hS => ?_)
  obtain ⟨hP, -, hD1⟩ := hB
  rw [ht] at hP
  have hD := hD1.weaken (fun _ q _ h => hFc q.1 h)
  generalize H1 = H at hP hS ⊢
  refine W.cs (cells' := 0) (slots' := 0) rfl rfl ?_
  subst hw
  refine w_v (y := rv ad 4 o_1.2) rfl ?_
  refine tx_astore_n (x := o_1.2.map (ad 4)) (lv' := [(2, rv ad 4 o_1.2), (0, .ref (ad 11 x0)), (1, .int x1)]) hx hb d_cJT_load_5 rfl hl (by decide) rfl (fun ls hl => ?_)
  refine lv_aload_n hx hb d_cJT_load_6 rfl (lv_at hl 1 rfl) ?_
  refine tx_aload_n (x := o_1.2.map (ad 4)) hx hb d_cJT_load_7 rfl (lv_at hl 0 rfl) ?_
  refine w_v (y := rv ad 4 o_1.2) rfl ?_
  obtain ⟨j_4, hj_5, hl_6, Heq⟩ := gn_some Heq
  refine w_s (st' := [.ref (ad 4 j_4), .ref (ad 11 x0)]) (congrArg (fun z9 : Option Nat => [rv ad 4 z9, .ref (ad 11 x0)]) hj_5) ?_
  have hFc := fr_all hD hS hA
  rcases oe_some Heq with ⟨o_7, h_8, Heq⟩ | ⟨t_9, h_8, Heq⟩
  case inr => exact ((Kr _ (Option.some.inj Heq).symm).2 _ rfl).2.2 8 _ _ _ _ _ _ (tx_runV (As := [.ref (ad 4 j_4)]) (rest := []) ⟨hx, hb, hml, hown, hts⟩ (g_cJT_needNoneOpen_t l hfl D H.size (ad := ad) (cc := cc) (sad := sad) (sav := sav) h_8) (cw_v 1 hts kw_1087 kw_1084 kw_1086 kp_22 kw_1 rfl rfl (by decide +kernel) ⟨Nat.le_of_ble_eq_true rfl, Nat.le_of_ble_eq_true rfl⟩) ⟨c_blind, va_recv hK hP (ci := 11) (q0 := cPos N 11 x0) rfl (cw_obj (k := 11) (by decide) hl_x0_11), fun U hU hW => c_pre hU hW hP hK hD hev hE hN hNS hS hFc⟩ rfl rfl hl.1 rfl (lv_room (Nat.le_of_ble_eq_true rfl)) d_cJT_load_8 ((Kr _ (Option.some.inj Heq).symm).2 _ rfl).1) hFc hS
  refine va_callv (va_runV (As := [.ref (ad 4 j_4)]) (rest := []) ⟨hx, hb, hml, hown, hts⟩ (g_cJT_needNoneOpen l hfl D H.size (ad := ad) (cc := cc) (sad := sad) (sav := sav) h_8) (cw_v 1 hts kw_1087 kw_1084 kw_1086 kp_22 kw_1 rfl rfl (by decide +kernel) ⟨Nat.le_of_ble_eq_true rfl, Nat.le_of_ble_eq_true rfl⟩) ⟨c_blind, va_recv hK hP (ci := 11) (q0 := cPos N 11 x0) rfl (cw_obj (k := 11) (by decide) hl_x0_11), fun U hU hW => c_pre hU hW hP hK hD hev hE hN hNS hS hFc⟩ rfl rfl hl.1 rfl (lv_room (Nat.le_of_ble_eq_true rfl)) d_cJT_load_8 ⟨Nat.zero_le _, Nat.zero_le _⟩) hS (fun q _ h => hFc q h) hFc (fun u t H1 locs ht hvm hw hB hz1 hk1 hS => ?_)
  obtain ⟨hP, -, hD1⟩ := hB
  rw [ht] at hP
  have hD := hD1.weaken (fun _ q _ h => hFc q.1 h)
  generalize H1 = H at hP hS ⊢
  refine W.cs (cells' := 0) (slots' := 0) rfl rfl ?_
  refine lv_aload_n hx hb d_cJT_load_11 rfl (lv_at hl 1 rfl) ?_
  refine va_get (D := D) (ci := 11) (v := .int (o_7.i 11 7 x0)) (C := R_JT) (T := F_JT) (N := 13) hx hb hts i_JT hown hK hP (cPos N 11 x0) (cw_obj (k := 11) (by decide) hl_x0_11) rfl 7 (by decide) (hts _ kw_428) (fun _ h9 => h9) rfl d_cJT_load_12 ?_
  refine lv_if_ne (tgt := 26) hx hb d_cJT_load_15 (by decide) (fun c_10 => ?_) (fun c_10 => ?_)
  · replace Heq := (if_neg c_10).symm.trans Heq
    refine lv_aload_n hx hb d_cJT_load_26 rfl (lv_at hl 1 rfl) ?_
    refine va_get (D := D) (ci := 11) (v := rv ad 6 (o_7.r 11 5 x0)) (C := R_JT) (T := F_JT) (N := 13) hx hb hts i_JT hown hK hP (cPos N 11 x0) (cw_obj (k := 11) (by decide) hl_x0_11) rfl 5 (by decide) (hts _ kw_426) (fun _ h9 => h9) rfl d_cJT_load_27 ?_
    obtain ⟨j_11, hj_12, hl_13, Heq⟩ := gn_some Heq
    refine w_s (st' := [.ref (ad 6 j_11)]) (congrArg (fun z9 : Option Nat => [rv ad 6 z9]) hj_12) ?_
    obtain ⟨o_14, h_15, Heq⟩ := ob_some Heq
    have hFc := fr_all hD hS hA
    refine va_calli (va_runV (As := []) (rest := []) ⟨hx, hb, hml, hown, hts⟩ (g_cSv_isRight l D H.size (ad := ad) (cc := cc) (sad := sad) (sav := sav) h_15) (cw_v 0 hts kw_1327 kw_1324 kw_1325 kw_1326 kw_10 rfl rfl (by decide +kernel) ⟨Nat.le_of_ble_eq_true rfl, Nat.le_of_ble_eq_true rfl⟩) ⟨c_blind, va_recv hK hP (ci := 6) (q0 := cPos N 6 j_11) rfl (cw_obj (k := 6) (by decide) hl_13), fun U hU hW => c_pre hU hW hP hK hD hev hE hN hNS hS hFc⟩ rfl rfl hl.1 rfl (lv_room (Nat.le_of_ble_eq_true rfl)) d_cJT_load_30 ⟨Nat.zero_le _, Nat.zero_le _⟩) hS (fun q _ h => hFc q h) hFc (fun rz u t H1 locs ht hvm hw hB hz1 hk1 hS => ?_)
    obtain ⟨hP, -, hD1⟩ := hB
    rw [ht] at hP
    have hD := hD1.weaken (fun _ q _ h => hFc q.1 h)
    generalize H1 = H at hP hS ⊢
    refine W.cs (cells' := 0) (slots' := 0) rfl rfl ?_
    subst hw
    refine lv_if_ne (tgt := 44) hx hb d_cJT_load_33 (by decide) (fun c_16 => ?_) (fun c_16 => ?_)
    · replace Heq := (if_neg c_16).symm.trans Heq
      refine lv_iconst (v := 0) hx hb d_cJT_load_44 (by decide) ?_
      refine lv_istore_n (i := 3) (lv' := [(3, .int 0), (2, rv ad 4 o_1.2), (0, .ref (ad 11 x0)), (1, .int x1)]) hx hb d_cJT_load_45 rfl hl (by decide) (by simp [rv, rf_cat]) (fun ls hl => ?_)
      obtain ⟨b_17, h_18, Heq⟩ := ob_some Heq
      refine w_cJT_load_L46 hfl hC h_18 (fun b h => ?_) _ _ _ hP hD hS (lv_sub hl [2, 1, 0] rfl)
      subst h
      intro H locs ls hP hD hS hl
      refine lv_aload_n hx hb d_cJT_load_101 rfl (lv_at hl 0 rfl) ?_
      refine va_get (D := D) (ci := 11) (v := rv ad 8 (b_17.1.r 11 0 x0)) (C := R_JT) (T := F_JT) (N := 13) hx hb hts i_JT hown hK hP (cPos N 11 x0) (cw_obj (k := 11) (by decide) hl_x0_11) rfl 0 (by decide) (hts _ kw_421) (fun _ h9 => h9) rfl d_cJT_load_102 ?_
      refine tx_aload_n (x := b_17.2.map (ad 4)) hx hb d_cJT_load_105 rfl (lv_at hl 1 rfl) ?_
      refine w_v (y := rv ad 4 b_17.2) rfl ?_
      obtain ⟨j_19, hj_20, hl_21, Heq⟩ := gn_some Heq
      refine w_s (st' := [.ref (ad 4 j_19), rv ad 8 (b_17.1.r 11 0 x0)]) (congrArg (fun z9 : Option Nat => [rv ad 4 z9, rv ad 8 (b_17.1.r 11 0 x0)]) hj_20) ?_
      obtain ⟨j_22, hj_23, hl_24, Heq⟩ := gn_some Heq
      refine w_s (st' := [.ref (ad 4 j_19), .ref (ad 8 j_22)]) (congrArg (fun z9 : Option Nat => [.ref (ad 4 j_19), rv ad 8 z9]) hj_23) ?_
      obtain ⟨o_25, h_26, Heq⟩ := ob_some Heq
      have hFc := fr_all hD hS hA
      refine va_calli (va_runV (As := [.ref (ad 4 j_19)]) (rest := []) ⟨hx, hb, hml, hown, hts⟩ (g_cSt_settle l D H.size (ad := ad) (cc := cc) (sad := sad) (sav := sav) h_26) (cw_v 1 hts kw_1096 kw_1093 kw_1094 kw_1095 kw_2 rfl rfl (by decide +kernel) ⟨Nat.le_of_ble_eq_true rfl, Nat.le_of_ble_eq_true rfl⟩) ⟨c_blind, va_recv hK hP (ci := 8) (q0 := cPos N 8 j_22) rfl (cw_obj (k := 8) (by decide) hl_24), fun U hU hW => c_pre hU hW hP hK hD hev hE hN hNS hS hFc⟩ rfl rfl hl.1 rfl (lv_room (Nat.le_of_ble_eq_true rfl)) d_cJT_load_106 ⟨Nat.zero_le _, Nat.zero_le _⟩) hS (fun q _ h => hFc q h) hFc (fun rz u t H1 locs ht hvm hw hB hz1 hk1 hS => ?_)
      obtain ⟨hP, -, hD1⟩ := hB
      rw [ht] at hP
      have hD := hD1.weaken (fun _ q _ h => hFc q.1 h)
      generalize H1 = H at hP hS ⊢
      refine W.cs (cells' := 0) (slots' := 0) rfl rfl ?_
      subst hw
      exact (Kr _ (Option.some.inj Heq).symm).1 _ rfl 109 _ _ _ d_cJT_load_109 hP hD hS
    · replace Heq := (if_pos c_16).symm.trans Heq
      exact ((Kr _ (Option.some.inj Heq).symm).2 _ rfl).2.1 36 _ _ _ ⟨⟨show 1 ≤ 5 by decide, show 5 ≤ 5 by decide⟩, d_cJT_load_36, d_cJT_load_39, d_cJT_load_40, d_cJT_load_43⟩ hl.1 hP hD hS
  · replace Heq := (if_pos c_10).symm.trans Heq
    exact ((Kr _ (Option.some.inj Heq).symm).2 _ rfl).2.1 18 _ _ _ ⟨⟨show 1 ≤ 2 by decide, show 2 ≤ 5 by decide⟩, d_cJT_load_18, d_cJT_load_21, d_cJT_load_22, d_cJT_load_25⟩ hl.1 hP hD hS
def m_cJT_load (N : Nat → Nat) (x0 : Nat) (S : CS) (x1 : Int32) : Option ((CS × Int32) ⊕ (CS × Nat)) := m_cJT_load_J0 N x0 S x1
set_option maxHeartbeats 4000000 in
theorem g_cJT_load (l : Launch) (hfl : l.flags = flags0) (D : va_G) (sz : Nat) {ad : Nat → Nat → Nat} {cc : Nat → ClassId} {sad sav : Nat → Nat} {N : Nat → Nat} {x0 : Nat} {S : CS} {x1 : Int32} {o : CS × Int32} (Heq : m_cJT_load N x0 S x1 = some (.inl o)) : Met l ⟨"JoinedTrees", "load", "(I)I"⟩ (Cond.code ⟨"JoinedTrees", "load", "(I)I"⟩ prog_1_method_25_code 5 (some .int) :: gb) ({ frames := 7, cells := 0, slots := 0, locals := 137 }) (cPc sad sav D (cw ad cc N S) (cty cc) sz [.ref (ad 11 x0), .int x1]) (va_Qi (fun (r : Int32) (_ : Unit) => r = o.2) (fun _ t => gO D (cw ad cc N o.1) (cty cc) (va_A (cw ad cc N S) sz) t) (va_A (cw ad cc N S) sz)) 0 0 (va_A (cw ad cc N S) sz) := by
  refine Met.ofW (cc := prog_1_method_25_code) (maxL := 5) (ret := (some .int)) (by decide) rfl ?_
  intro p e s m args below meth c s₁ B hml hv
  obtain ⟨rfl, hsz, hP, hK, hD0, hev, hE, hN⟩ := hv
  have hx := B.exec
  have hb := B.bytes
  have hr := B.returns
  have hts : ∀ w9 ∈ gb, w9.before [.ref (ad 11 x0), .int x1].toArray s = true := fun w9 h => atoms_spec (ws := Cond.code ⟨"JoinedTrees", "load", "(I)I"⟩ prog_1_method_25_code 5 (some .int) :: gb) B.pre w9 (List.mem_cons_of_mem _ h)
  have hown : s.vm.findClass "JoinedTrees" = some m.cls := findClass_of_methodNamed B.named
  have hlocks := B.notSynchronized
  have hNS := ns_of hP
  subst hsz
  have hD := hD0.self (sz := s.heap.size)
  generalize hAe : va_A (cw ad cc N S) s.heap.size = A at hD hev hE hNS ⊢
  have hA : ∀ q : Nat, s.heap.size ≤ q → A q := fun q h => by rw [← hAe]; exact Or.inr h
  have hS : va_S A s.heap s.heap [] := va_S.rf
  obtain ⟨ls, hl, hle⟩ : ∃ ls : Array Slot, lv_has ls 5 [(0, .ref (ad 11 x0)), (1, .int x1)] ∧ entryFrame m ([.ref (ad 11 x0), .int x1] : List Value).toArray 5 = F0 m 0 ls [] := by
    exact ⟨_, lv_entry (n := 5) _ (Nat.le_of_ble_eq_true rfl), lg_entry_eq ..⟩
  rw [hle]
  refine w_cJT_load_J0 (cR := 0) (sR := 0) hfl ⟨hx, hb, hr, hml, hown, hts, hK, hA, hev, hE, hN, hNS⟩ Heq (fun r h => ⟨fun v9 hv9 pc H locs ls hd hP hD hS => ?_, fun t9 ht9 => (by subst h; cases ht9)⟩) _ _ _ hP hD hS (lv_sub hl [0, 1] rfl)
  subst h
  cases hv9
  exact W.iret hx hb hr (fun t ht hW => ⟨⟨_, (), rfl, rfl, by rw [ht]; exact hP, va_K.moved hW.alike hK, hD⟩, hS.F ht⟩) hS.2.2 hd
set_option maxHeartbeats 4000000 in
theorem g_cJT_load_t (l : Launch) (hfl : l.flags = flags0) (D : va_G) (sz : Nat) {ad : Nat → Nat → Nat} {cc : Nat → ClassId} {sad sav : Nat → Nat} {N : Nat → Nat} {x0 : Nat} {S : CS} {x1 : Int32} {o : CS × Nat} (Heq : m_cJT_load N x0 S x1 = some (.inr o)) : MeT l ⟨"JoinedTrees", "load", "(I)I"⟩ (Cond.code ⟨"JoinedTrees", "load", "(I)I"⟩ prog_1_method_25_code 5 (some .int) :: gb) ({ frames := 7, cells := 1, slots := 6, locals := 137 }) (cPc sad sav D (cw ad cc N S) (cty cc) sz [.ref (ad 11 x0), .int x1]) (exN o.2) (va_A (cw ad cc N S) sz) (fun H1 => va_P D cls (cw ad cc N o.1) H1) 1 6 := by
  refine MeT.ofW (cc := prog_1_method_25_code) (maxL := 5) (ret := (some .int)) (by decide) rfl ?_
  intro p e s m args below meth c s₁ B hml hno hv
  obtain ⟨rfl, hsz, hP, hK, hD0, hev, hE, hN⟩ := hv
  have hx := B.exec
  have hb := B.bytes
  have hr := B.returns
  have hts : ∀ w9 ∈ gb, w9.before [.ref (ad 11 x0), .int x1].toArray s = true := fun w9 h => atoms_spec (ws := Cond.code ⟨"JoinedTrees", "load", "(I)I"⟩ prog_1_method_25_code 5 (some .int) :: gb) B.pre w9 (List.mem_cons_of_mem _ h)
  have hown : s.vm.findClass "JoinedTrees" = some m.cls := findClass_of_methodNamed B.named
  have hlocks := B.notSynchronized
  have hNS := ns_of hP
  subst hsz
  have hD := hD0.self (sz := s.heap.size)
  generalize hAe : va_A (cw ad cc N S) s.heap.size = A at hD hev hE hNS ⊢
  have hA : ∀ q : Nat, s.heap.size ≤ q → A q := fun q h => by rw [← hAe]; exact Or.inr h
  have hS : va_S A s.heap s.heap [] := va_S.rf
  obtain ⟨ls, hl, hle⟩ : ∃ ls : Array Slot, lv_has ls 5 [(0, .ref (ad 11 x0)), (1, .int x1)] ∧ entryFrame m ([.ref (ad 11 x0), .int x1] : List Value).toArray 5 = F0 m 0 ls [] := by
    exact ⟨_, lv_entry (n := 5) _ (Nat.le_of_ble_eq_true rfl), lg_entry_eq ..⟩
  rw [hle]
  refine w_cJT_load_J0 (cR := 1) (sR := 6) hfl ⟨hx, hb, hr, hml, hown, hts, hK, hA, hev, hE, hN, hNS⟩ Heq (fun r h => ⟨fun v9 hv9 => (by subst h; cases hv9), fun t9 ht9 => ⟨⟨Nat.le_refl _, Nat.le_refl _⟩, fun pc H locs ls hd hsz hP hD hS => ?_, fun pc H locs ls st0 rest9 A9 hr9 hF9 hS => ?_⟩⟩) _ _ _ hP hD hS (lv_sub hl [0, 1] rfl)
  · subst h; cases ht9; exact tx_thr hfl hx hb hno hlocks hown hts hev hN hNS hd (hsz.trans hml.symm) hP hS hA (Nat.le_refl _) (Nat.le_refl _) (Nat.le_of_ble_eq_true rfl) (Nat.le_of_ble_eq_true rfl)
  · subst h; cases ht9; exact tx_on hr9 hno hlocks hS hF9
