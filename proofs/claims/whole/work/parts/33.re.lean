def m_rread_J27 (S : MS) : Option (MS × Int32) := ob (m_rno S 1) (fun o_1 => some (o_1.1, o_1.2))
theorem d_rread_0 : decode prog_14_method_49_code 0 = .ok (.aload_n 0, 1) := by decide +kernel
theorem d_rread_1 : decode prog_14_method_49_code 1 = .ok (.invokevirtual 247, 3) := by decide +kernel
theorem d_rread_4 : decode prog_14_method_49_code 4 = .ok (.istore_n 3, 1) := by decide +kernel
theorem d_rread_5 : decode prog_14_method_49_code 5 = .ok (.iload_n 1, 1) := by decide +kernel
theorem d_rread_6 : decode prog_14_method_49_code 6 = .ok (.invokestatic 251, 3) := by decide +kernel
theorem d_rread_9 : decode prog_14_method_49_code 9 = .ok (.ifCond .eq 18, 3) := by decide +kernel
theorem d_rread_27 : decode prog_14_method_49_code 27 = .ok (.aload_n 0, 1) := by decide +kernel
theorem d_rread_28 : decode prog_14_method_49_code 28 = .ok (.iconst 1, 1) := by decide +kernel
theorem d_rread_29 : decode prog_14_method_49_code 29 = .ok (.invokevirtual 191, 3) := by decide +kernel
theorem d_rread_32 : decode prog_14_method_49_code 32 = .ok (.ireturn, 1) := by decide +kernel
set_option maxHeartbeats 4000000 in
set_option maxRecDepth 100000 in
theorem w_rread_J27 {p : Program} {l : Launch} {e : Env} {s : State} {m : MethodId} {args : Array Value} {below : List Frame} {meth : Method} {c : Code} {A : Nat → Prop} {D : va_G} {md : Nat → Nat} {mc : Nat → ClassId} {Q : State → Prop} {sad sav : Nat → Nat} (hC : MCs sad sav "JoinedTreesModel" prog_14_method_49_code 8 (some .int) p s m args meth c A D mc) {S : MS} {o : MS × Int32} (Heq : m_rread_J27 S = some o) (Kr : ∀ r : MS × Int32, o = r → ∀ (pc : Nat) (H : Heap) (locs : List Loc) (ls : Array Slot), decode prog_14_method_49_code pc = .ok (.ireturn, 1) → va_P D cls (mw md mc r.1) H → va_D A (mw md mc r.1) → va_S A s.heap H locs → W p l e ({ frames := 8, cells := 0, slots := 0, locals := 202 }) s m args below meth c H locs 0 0 Q (F0 m pc ls [.int r.2])) : ∀ (H : Heap) (locs : List Loc) (ls : Array Slot), va_P D cls (mw md mc S) H → va_D A (mw md mc S) → va_S A s.heap H locs → lv_has ls 8 [(0, .ref (md 100))] → W p l e ({ frames := 8, cells := 0, slots := 0, locals := 202 }) s m args below meth c H locs 0 0 Q (F0 m 27 ls []) := by
  intro H locs ls hP hD hS hl
  obtain ⟨⟨hx, hb, hr, hml, hown, hts, hK, hA⟩, hE⟩ := id hC
  unfold m_rread_J27 at Heq
  refine lv_aload_n hx hb d_rread_27 rfl (lv_at hl 0 rfl) ?_
  refine lv_iconst (v := 1) hx hb d_rread_28 (by decide) ?_
  obtain ⟨o_1, h_2, Heq⟩ := ob_some Heq
  have hFc := fr_all hD hS hA
  refine va_calli (va_runV (As := [.int 1]) (rest := []) ⟨hx, hb, hml, hown, hts⟩ (g_rno l D H.size h_2) (cw_v 1 hts kw_1626 kw_1623 kw_1625 kp_29 kw_11 rfl rfl (by decide +kernel) ⟨Nat.le_of_ble_eq_true rfl, Nat.le_of_ble_eq_true rfl⟩) ⟨g_blind, va_recv hK hP (ci := 12) (q0 := 0) rfl rfl, fun U hU hW => g_pre hU hW hP hK hD⟩ rfl rfl hl.1 rfl (lv_room (Nat.le_of_ble_eq_true rfl)) d_rread_29 ⟨Nat.le_of_ble_eq_true rfl, Nat.le_of_ble_eq_true rfl⟩) hS (fun q _ h => hFc q h) hFc (fun rz u t H1 locs ht hvm hw hB hz1 hk1 hS => ?_)
  obtain ⟨hP, -, hD1⟩ := hB
  rw [ht] at hP
  have hD := hD1.weaken (fun _ q _ h => hFc q.1 h)
  generalize H1 = H at hP hS ⊢
  refine W.cs (cells' := 0) (slots' := 0) rfl rfl ?_
  subst hw
  exact Kr _ (Option.some.inj Heq).symm 32 _ _ _ d_rread_32 hP hD hS
def m_rread_J76 (S : MS) : Option (MS × Int32) := ob (m_rno S 1) (fun o_1 => some (o_1.1, o_1.2))
theorem d_rread_12 : decode prog_14_method_49_code 12 = .ok (.iload_n 3, 1) := by decide +kernel
theorem d_rread_13 : decode prog_14_method_49_code 13 = .ok (.iconst 2, 1) := by decide +kernel
theorem d_rread_14 : decode prog_14_method_49_code 14 = .ok (.if_icmp .ne 13, 3) := by decide +kernel
theorem d_rread_17 : decode prog_14_method_49_code 17 = .ok (.aload_n 0, 1) := by decide +kernel
theorem d_rread_18 : decode prog_14_method_49_code 18 = .ok (.getfield 185, 3) := by decide +kernel
theorem d_rread_21 : decode prog_14_method_49_code 21 = .ok (.invokestatic 255, 3) := by decide +kernel
theorem d_rread_24 : decode prog_14_method_49_code 24 = .ok (.ifCond .ne 9, 3) := by decide +kernel
theorem d_rread_33 : decode prog_14_method_49_code 33 = .ok (.aload_n 0, 1) := by decide +kernel
theorem d_rread_34 : decode prog_14_method_49_code 34 = .ok (.invokevirtual 380, 3) := by decide +kernel
theorem d_rread_37 : decode prog_14_method_49_code 37 = .ok (.ifCond .ne 17, 3) := by decide +kernel
theorem d_rread_54 : decode prog_14_method_49_code 54 = .ok (.aload_n 0, 1) := by decide +kernel
theorem d_rread_55 : decode prog_14_method_49_code 55 = .ok (.iload_n 1, 1) := by decide +kernel
theorem d_rread_56 : decode prog_14_method_49_code 56 = .ok (.iload_n 2, 1) := by decide +kernel
theorem d_rread_57 : decode prog_14_method_49_code 57 = .ok (.invokevirtual 258, 3) := by decide +kernel
theorem d_rread_60 : decode prog_14_method_49_code 60 = .ok (.istore 4, 2) := by decide +kernel
theorem d_rread_62 : decode prog_14_method_49_code 62 = .ok (.iload 4, 2) := by decide +kernel
theorem d_rread_64 : decode prog_14_method_49_code 64 = .ok (.bipush 7, 2) := by decide +kernel
theorem d_rread_66 : decode prog_14_method_49_code 66 = .ok (.if_icmp .eq 10, 3) := by decide +kernel
theorem d_rread_76 : decode prog_14_method_49_code 76 = .ok (.aload_n 0, 1) := by decide +kernel
theorem d_rread_77 : decode prog_14_method_49_code 77 = .ok (.iconst 1, 1) := by decide +kernel
theorem d_rread_78 : decode prog_14_method_49_code 78 = .ok (.invokevirtual 191, 3) := by decide +kernel
theorem d_rread_81 : decode prog_14_method_49_code 81 = .ok (.ireturn, 1) := by decide +kernel
set_option maxHeartbeats 4000000 in
set_option maxRecDepth 100000 in
theorem w_rread_J76 {p : Program} {l : Launch} {e : Env} {s : State} {m : MethodId} {args : Array Value} {below : List Frame} {meth : Method} {c : Code} {A : Nat → Prop} {D : va_G} {md : Nat → Nat} {mc : Nat → ClassId} {Q : State → Prop} {sad sav : Nat → Nat} (hC : MCs sad sav "JoinedTreesModel" prog_14_method_49_code 8 (some .int) p s m args meth c A D mc) {S : MS} {o : MS × Int32} (Heq : m_rread_J76 S = some o) (Kr : ∀ r : MS × Int32, o = r → ∀ (pc : Nat) (H : Heap) (locs : List Loc) (ls : Array Slot), decode prog_14_method_49_code pc = .ok (.ireturn, 1) → va_P D cls (mw md mc r.1) H → va_D A (mw md mc r.1) → va_S A s.heap H locs → W p l e ({ frames := 8, cells := 0, slots := 0, locals := 202 }) s m args below meth c H locs 0 0 Q (F0 m pc ls [.int r.2])) : ∀ (H : Heap) (locs : List Loc) (ls : Array Slot), va_P D cls (mw md mc S) H → va_D A (mw md mc S) → va_S A s.heap H locs → lv_has ls 8 [(0, .ref (md 100))] → W p l e ({ frames := 8, cells := 0, slots := 0, locals := 202 }) s m args below meth c H locs 0 0 Q (F0 m 76 ls []) := by
  intro H locs ls hP hD hS hl
  obtain ⟨⟨hx, hb, hr, hml, hown, hts, hK, hA⟩, hE⟩ := id hC
  unfold m_rread_J76 at Heq
  refine lv_aload_n hx hb d_rread_76 rfl (lv_at hl 0 rfl) ?_
  refine lv_iconst (v := 1) hx hb d_rread_77 (by decide) ?_
  obtain ⟨o_1, h_2, Heq⟩ := ob_some Heq
  have hFc := fr_all hD hS hA
  refine va_calli (va_runV (As := [.int 1]) (rest := []) ⟨hx, hb, hml, hown, hts⟩ (g_rno l D H.size h_2) (cw_v 1 hts kw_1626 kw_1623 kw_1625 kp_29 kw_11 rfl rfl (by decide +kernel) ⟨Nat.le_of_ble_eq_true rfl, Nat.le_of_ble_eq_true rfl⟩) ⟨g_blind, va_recv hK hP (ci := 12) (q0 := 0) rfl rfl, fun U hU hW => g_pre hU hW hP hK hD⟩ rfl rfl hl.1 rfl (lv_room (Nat.le_of_ble_eq_true rfl)) d_rread_78 ⟨Nat.le_of_ble_eq_true rfl, Nat.le_of_ble_eq_true rfl⟩) hS (fun q _ h => hFc q h) hFc (fun rz u t H1 locs ht hvm hw hB hz1 hk1 hS => ?_)
  obtain ⟨hP, -, hD1⟩ := hB
  rw [ht] at hP
  have hD := hD1.weaken (fun _ q _ h => hFc q.1 h)
  generalize H1 = H at hP hS ⊢
  refine W.cs (cells' := 0) (slots' := 0) rfl rfl ?_
  subst hw
  exact Kr _ (Option.some.inj Heq).symm 81 _ _ _ d_rread_81 hP hD hS
def m_rread_J157 (S : MS) (x1 : Int32) (x2 : Int32) (x6 : Int32) (t0 : Int32) (t1 : Int32) (t2 : Int32) : Option ((MS × Int32 × Int32 × Int32 × Int32) ⊕ (MS × Int32 × Int32 × Int32)) := some (.inl (S, x1, x2, (t2 + (t1 + t0)), (x6 + 1)))
theorem d_rread_69 : decode prog_14_method_49_code 69 = .ok (.iload 4, 2) := by decide +kernel
theorem d_rread_71 : decode prog_14_method_49_code 71 = .ok (.bipush 8, 2) := by decide +kernel
theorem d_rread_73 : decode prog_14_method_49_code 73 = .ok (.if_icmp .ne 9, 3) := by decide +kernel
theorem d_rread_82 : decode prog_14_method_49_code 82 = .ok (.iload 4, 2) := by decide +kernel
theorem d_rread_84 : decode prog_14_method_49_code 84 = .ok (.ifCond .ge 9, 3) := by decide +kernel
theorem d_rread_93 : decode prog_14_method_49_code 93 = .ok (.aload_n 0, 1) := by decide +kernel
theorem d_rread_94 : decode prog_14_method_49_code 94 = .ok (.getfield 104, 3) := by decide +kernel
theorem d_rread_97 : decode prog_14_method_49_code 97 = .ok (.iload_n 1, 1) := by decide +kernel
theorem d_rread_98 : decode prog_14_method_49_code 98 = .ok (.iaload, 1) := by decide +kernel
theorem d_rread_99 : decode prog_14_method_49_code 99 = .ok (.ifCond .lt 9, 3) := by decide +kernel
theorem d_rread_108 : decode prog_14_method_49_code 108 = .ok (.aload_n 0, 1) := by decide +kernel
theorem d_rread_109 : decode prog_14_method_49_code 109 = .ok (.getfield 185, 3) := by decide +kernel
theorem d_rread_112 : decode prog_14_method_49_code 112 = .ok (.istore 5, 2) := by decide +kernel
theorem d_rread_114 : decode prog_14_method_49_code 114 = .ok (.iconst 0, 1) := by decide +kernel
theorem d_rread_115 : decode prog_14_method_49_code 115 = .ok (.istore 6, 2) := by decide +kernel
theorem d_rread_117 : decode prog_14_method_49_code 117 = .ok (.iload 6, 2) := by decide +kernel
theorem d_rread_119 : decode prog_14_method_49_code 119 = .ok (.aload_n 0, 1) := by decide +kernel
theorem d_rread_120 : decode prog_14_method_49_code 120 = .ok (.getfield 345, 3) := by decide +kernel
theorem d_rread_123 : decode prog_14_method_49_code 123 = .ok (.if_icmp .ge 44, 3) := by decide +kernel
theorem d_rread_126 : decode prog_14_method_49_code 126 = .ok (.iload 5, 2) := by decide +kernel
theorem d_rread_128 : decode prog_14_method_49_code 128 = .ok (.aload_n 0, 1) := by decide +kernel
theorem d_rread_129 : decode prog_14_method_49_code 129 = .ok (.getfield 142, 3) := by decide +kernel
theorem d_rread_132 : decode prog_14_method_49_code 132 = .ok (.iload 6, 2) := by decide +kernel
theorem d_rread_134 : decode prog_14_method_49_code 134 = .ok (.iaload, 1) := by decide +kernel
theorem d_rread_135 : decode prog_14_method_49_code 135 = .ok (.aload_n 0, 1) := by decide +kernel
theorem d_rread_136 : decode prog_14_method_49_code 136 = .ok (.getfield 133, 3) := by decide +kernel
theorem d_rread_139 : decode prog_14_method_49_code 139 = .ok (.iload 6, 2) := by decide +kernel
theorem d_rread_141 : decode prog_14_method_49_code 141 = .ok (.iaload, 1) := by decide +kernel
theorem d_rread_142 : decode prog_14_method_49_code 142 = .ok (.iconst 4, 1) := by decide +kernel
theorem d_rread_143 : decode prog_14_method_49_code 143 = .ok (.if_icmp .ne 13, 3) := by decide +kernel
theorem d_rread_156 : decode prog_14_method_49_code 156 = .ok (.iconst 0, 1) := by decide +kernel
theorem d_rread_157 : decode prog_14_method_49_code 157 = .ok (.iadd, 1) := by decide +kernel
theorem d_rread_158 : decode prog_14_method_49_code 158 = .ok (.iadd, 1) := by decide +kernel
theorem d_rread_159 : decode prog_14_method_49_code 159 = .ok (.istore 5, 2) := by decide +kernel
theorem d_rread_161 : decode prog_14_method_49_code 161 = .ok (.iinc 6 1, 3) := by decide +kernel
theorem d_rread_164 : decode prog_14_method_49_code 164 = .ok (.goto (-47), 3) := by decide +kernel
set_option maxHeartbeats 4000000 in
set_option maxRecDepth 100000 in
theorem w_rread_J157 {p : Program} {l : Launch} {e : Env} {s : State} {m : MethodId} {args : Array Value} {below : List Frame} {meth : Method} {c : Code} {A : Nat → Prop} {D : va_G} {md : Nat → Nat} {mc : Nat → ClassId} {Q : State → Prop} {sad sav : Nat → Nat} (hC : MCs sad sav "JoinedTreesModel" prog_14_method_49_code 8 (some .int) p s m args meth c A D mc) {S : MS} {x1 : Int32} {x2 : Int32} {x6 : Int32} {t0 : Int32} {t1 : Int32} {t2 : Int32} {o : ((MS × Int32 × Int32 × Int32 × Int32) ⊕ (MS × Int32 × Int32 × Int32))} (Heq : m_rread_J157 S x1 x2 x6 t0 t1 t2 = some o) (Ka : ∀ b : MS × Int32 × Int32 × Int32 × Int32, o = .inl b → ∀ (H : Heap) (locs : List Loc) (ls : Array Slot), va_P D cls (mw md mc b.1) H → va_D A (mw md mc b.1) → va_S A s.heap H locs → lv_has ls 8 [(0, .ref (md 100)), (1, .int b.2.1), (2, .int b.2.2.1), (5, .int b.2.2.2.1), (6, .int b.2.2.2.2)] → W p l e ({ frames := 8, cells := 0, slots := 0, locals := 202 }) s m args below meth c H locs 0 0 Q (F0 m 117 ls [])) (K0 : ∀ b : MS × Int32 × Int32 × Int32, o = .inr b → ∀ (H : Heap) (locs : List Loc) (ls : Array Slot), va_P D cls (mw md mc b.1) H → va_D A (mw md mc b.1) → va_S A s.heap H locs → lv_has ls 8 [(0, .ref (md 100)), (1, .int b.2.1), (2, .int b.2.2.1), (5, .int b.2.2.2)] → W p l e ({ frames := 8, cells := 0, slots := 0, locals := 202 }) s m args below meth c H locs 0 0 Q (F0 m 167 ls [])) : ∀ (H : Heap) (locs : List Loc) (ls : Array Slot), va_P D cls (mw md mc S) H → va_D A (mw md mc S) → va_S A s.heap H locs → lv_has ls 8 [(0, .ref (md 100)), (1, .int x1), (2, .int x2), (6, .int x6)] → W p l e ({ frames := 8, cells := 0, slots := 0, locals := 202 }) s m args below meth c H locs 0 0 Q (F0 m 157 ls [.int t0, .int t1, .int t2]) := by
  intro H locs ls hP hD hS hl
  obtain ⟨⟨hx, hb, hr, hml, hown, hts, hK, hA⟩, hE⟩ := id hC
  unfold m_rread_J157 at Heq
  refine lv_iadd hx hb d_rread_157 ?_
  refine w_i (y := t1 + t0) rfl ?_
  refine lv_iadd hx hb d_rread_158 ?_
  refine w_i (y := t2 + (t1 + t0)) rfl ?_
  refine lv_istore (lv' := [(5, .int (t2 + (t1 + t0))), (0, .ref (md 100)), (1, .int x1), (2, .int x2), (6, .int x6)]) hx hb d_rread_159 hl (by decide) rfl (fun ls hl => ?_)
  refine lv_iinc (v := x6 + 1) (lv' := [(6, .int (x6 + 1)), (5, .int (t2 + (t1 + t0))), (0, .ref (md 100)), (1, .int x1), (2, .int x2)]) hx hb d_rread_161 hl (k := 4) rfl rfl (by decide) rfl (fun ls hl => ?_)
  refine lv_goto (tgt := 117) hx hb d_rread_164 (by decide) ?_
  exact Ka _ (Option.some.inj Heq).symm _ _ _ hP hD hS (lv_sub hl [2, 3, 4, 1, 0] rfl)
def m_rread_B117 (S : MS) (x1 : Int32) (x2 : Int32) (x5 : Int32) (x6 : Int32) : Option ((MS × Int32 × Int32 × Int32 × Int32) ⊕ (MS × Int32 × Int32 × Int32)) := (if S.i 64 ≤ x6 then some (.inr (S, x1, x2, x5)) else gd x6 501 (gd x6 501 ((if S.a 53 x6.toNatClampNeg = 4 then gd x6 501 (m_rread_J157 S x1 x2 x6 (S.a 58 x6.toNatClampNeg) (S.a 56 x6.toNatClampNeg) x5) else m_rread_J157 S x1 x2 x6 0 (S.a 56 x6.toNatClampNeg) x5))))
theorem d_rread_146 : decode prog_14_method_49_code 146 = .ok (.aload_n 0, 1) := by decide +kernel
theorem d_rread_147 : decode prog_14_method_49_code 147 = .ok (.getfield 148, 3) := by decide +kernel
theorem d_rread_150 : decode prog_14_method_49_code 150 = .ok (.iload 6, 2) := by decide +kernel
theorem d_rread_152 : decode prog_14_method_49_code 152 = .ok (.iaload, 1) := by decide +kernel
theorem d_rread_153 : decode prog_14_method_49_code 153 = .ok (.goto 4, 3) := by decide +kernel
set_option maxHeartbeats 4000000 in
set_option maxRecDepth 100000 in
theorem w_rread_B117 {p : Program} {l : Launch} {e : Env} {s : State} {m : MethodId} {args : Array Value} {below : List Frame} {meth : Method} {c : Code} {A : Nat → Prop} {D : va_G} {md : Nat → Nat} {mc : Nat → ClassId} {Q : State → Prop} {sad sav : Nat → Nat} (hC : MCs sad sav "JoinedTreesModel" prog_14_method_49_code 8 (some .int) p s m args meth c A D mc) {S : MS} {x1 : Int32} {x2 : Int32} {x5 : Int32} {x6 : Int32} {o : ((MS × Int32 × Int32 × Int32 × Int32) ⊕ (MS × Int32 × Int32 × Int32))} (Heq : m_rread_B117 S x1 x2 x5 x6 = some o) (Ka : ∀ b : MS × Int32 × Int32 × Int32 × Int32, o = .inl b → ∀ (H : Heap) (locs : List Loc) (ls : Array Slot), va_P D cls (mw md mc b.1) H → va_D A (mw md mc b.1) → va_S A s.heap H locs → lv_has ls 8 [(0, .ref (md 100)), (1, .int b.2.1), (2, .int b.2.2.1), (5, .int b.2.2.2.1), (6, .int b.2.2.2.2)] → W p l e ({ frames := 8, cells := 0, slots := 0, locals := 202 }) s m args below meth c H locs 0 0 Q (F0 m 117 ls [])) (K0 : ∀ b : MS × Int32 × Int32 × Int32, o = .inr b → ∀ (H : Heap) (locs : List Loc) (ls : Array Slot), va_P D cls (mw md mc b.1) H → va_D A (mw md mc b.1) → va_S A s.heap H locs → lv_has ls 8 [(0, .ref (md 100)), (1, .int b.2.1), (2, .int b.2.2.1), (5, .int b.2.2.2)] → W p l e ({ frames := 8, cells := 0, slots := 0, locals := 202 }) s m args below meth c H locs 0 0 Q (F0 m 167 ls [])) : ∀ (H : Heap) (locs : List Loc) (ls : Array Slot), va_P D cls (mw md mc S) H → va_D A (mw md mc S) → va_S A s.heap H locs → lv_has ls 8 [(0, .ref (md 100)), (1, .int x1), (2, .int x2), (5, .int x5), (6, .int x6)] → W p l e ({ frames := 8, cells := 0, slots := 0, locals := 202 }) s m args below meth c H locs 0 0 Q (F0 m 117 ls []) := by
  intro H locs ls hP hD hS hl
  obtain ⟨⟨hx, hb, hr, hml, hown, hts, hK, hA⟩, hE⟩ := id hC
  unfold m_rread_B117 at Heq
  refine lv_iload hx hb d_rread_117 (lv_at hl 4 rfl) ?_
  refine lv_aload_n hx hb d_rread_119 rfl (lv_at hl 0 rfl) ?_
  refine va_get (D := D) (ci := 12) (v := .int (S.i 64)) (C := R_MM) (T := F_MM) (N := 77) hx hb hts i_MM hown hK hP 0 rfl rfl 64 (by decide) (hts _ kw_1446) (fun _ h9 => h9) rfl d_rread_120 ?_
  refine lv_icmp_ge (tgt := 167) hx hb d_rread_123 (by decide) (fun c_1 => ?_) (fun c_1 => ?_)
  · replace Heq := (if_pos c_1).symm.trans Heq
    exact K0 _ (Option.some.inj Heq).symm _ _ _ hP hD hS (lv_sub hl [0, 1, 2, 3] rfl)
  · replace Heq := (if_neg c_1).symm.trans Heq
    refine lv_iload hx hb d_rread_126 (lv_at hl 3 rfl) ?_
    refine lv_aload_n hx hb d_rread_128 rfl (lv_at hl 0 rfl) ?_
    refine va_get (D := D) (ci := 12) (v := .ref (md 56)) (C := R_MM) (T := F_MM) (N := 77) hx hb hts i_MM hown hK hP 0 rfl rfl 56 (by decide) (hts _ kw_1438) (fun _ h9 => h9) rfl d_rread_129 ?_
    refine lv_iload hx hb d_rread_132 (lv_at hl 4 rfl) ?_
    obtain ⟨hi_2, Heq⟩ := gd_some Heq
    refine va_iald hx hb hK hP 38 0 rfl rfl (i := x6) hi_2 d_rread_134 ?_
    refine w_i (y := S.a 56 x6.toNatClampNeg) rfl ?_
    refine lv_aload_n hx hb d_rread_135 rfl (lv_at hl 0 rfl) ?_
    refine va_get (D := D) (ci := 12) (v := .ref (md 53)) (C := R_MM) (T := F_MM) (N := 77) hx hb hts i_MM hown hK hP 0 rfl rfl 53 (by decide) (hts _ kw_1435) (fun _ h9 => h9) rfl d_rread_136 ?_
    refine lv_iload hx hb d_rread_139 (lv_at hl 4 rfl) ?_
    obtain ⟨hi_3, Heq⟩ := gd_some Heq
    refine va_iald hx hb hK hP 35 0 rfl rfl (i := x6) hi_3 d_rread_141 ?_
    refine w_i (y := S.a 53 x6.toNatClampNeg) rfl ?_
    refine lv_iconst (v := 4) hx hb d_rread_142 (by decide) ?_
    refine lv_icmp_ne (tgt := 156) hx hb d_rread_143 (by decide) (fun c_4 => ?_) (fun c_4 => ?_)
    · replace Heq := (if_neg c_4).symm.trans Heq
      refine lv_iconst (v := 0) hx hb d_rread_156 (by decide) ?_
      exact w_rread_J157 hC Heq Ka K0 _ _ _ hP hD hS (lv_sub hl [0, 1, 2, 4] rfl)
    · replace Heq := (if_pos c_4).symm.trans Heq
      refine lv_aload_n hx hb d_rread_146 rfl (lv_at hl 0 rfl) ?_
      refine va_get (D := D) (ci := 12) (v := .ref (md 58)) (C := R_MM) (T := F_MM) (N := 77) hx hb hts i_MM hown hK hP 0 rfl rfl 58 (by decide) (hts _ kw_1440) (fun _ h9 => h9) rfl d_rread_147 ?_
      refine lv_iload hx hb d_rread_150 (lv_at hl 4 rfl) ?_
      obtain ⟨hi_5, Heq⟩ := gd_some Heq
      refine va_iald hx hb hK hP 40 0 rfl rfl (i := x6) hi_5 d_rread_152 ?_
      refine w_i (y := S.a 58 x6.toNatClampNeg) rfl ?_
      refine lv_goto (tgt := 157) hx hb d_rread_153 (by decide) ?_
      exact w_rread_J157 hC Heq Ka K0 _ _ _ hP hD hS (lv_sub hl [0, 1, 2, 4] rfl)
def m_rread_L117 (S : MS) (x1 : Int32) (x2 : Int32) (x5 : Int32) (x6 : Int32) : Option (MS × Int32 × Int32 × Int32) := lp (fun a : MS × Int32 × Int32 × Int32 × Int32 => m_rread_B117 a.1 a.2.1 a.2.2.1 a.2.2.2.1 a.2.2.2.2) FU (S, x1, x2, x5, x6)
theorem w_rread_L117 {p : Program} {l : Launch} {e : Env} {s : State} {m : MethodId} {args : Array Value} {below : List Frame} {meth : Method} {c : Code} {A : Nat → Prop} {D : va_G} {md : Nat → Nat} {mc : Nat → ClassId} {Q : State → Prop} {sad sav : Nat → Nat} (hC : MCs sad sav "JoinedTreesModel" prog_14_method_49_code 8 (some .int) p s m args meth c A D mc) {S : MS} {x1 : Int32} {x2 : Int32} {x5 : Int32} {x6 : Int32} {o : MS × Int32 × Int32 × Int32} (Heq : m_rread_L117 S x1 x2 x5 x6 = some o) (K0 : ∀ b : MS × Int32 × Int32 × Int32, o = b → ∀ (H : Heap) (locs : List Loc) (ls : Array Slot), va_P D cls (mw md mc b.1) H → va_D A (mw md mc b.1) → va_S A s.heap H locs → lv_has ls 8 [(0, .ref (md 100)), (1, .int b.2.1), (2, .int b.2.2.1), (5, .int b.2.2.2)] → W p l e ({ frames := 8, cells := 0, slots := 0, locals := 202 }) s m args below meth c H locs 0 0 Q (F0 m 167 ls [])) : ∀ (H : Heap) (locs : List Loc) (ls : Array Slot), va_P D cls (mw md mc S) H → va_D A (mw md mc S) → va_S A s.heap H locs → lv_has ls 8 [(0, .ref (md 100)), (1, .int x1), (2, .int x2), (5, .int x5), (6, .int x6)] → W p l e ({ frames := 8, cells := 0, slots := 0, locals := 202 }) s m args below meth c H locs 0 0 Q (F0 m 117 ls []) := by
  refine lp_w (G := fun a : MS × Int32 × Int32 × Int32 × Int32 => ∀ (H : Heap) (locs : List Loc) (ls : Array Slot), va_P D cls (mw md mc a.1) H → va_D A (mw md mc a.1) → va_S A s.heap H locs → lv_has ls 8 [(0, .ref (md 100)), (1, .int a.2.1), (2, .int a.2.2.1), (5, .int a.2.2.2.1), (6, .int a.2.2.2.2)] → W p l e ({ frames := 8, cells := 0, slots := 0, locals := 202 }) s m args below meth c H locs 0 0 Q (F0 m 117 ls [])) ?_ FU (S, x1, x2, x5, x6) Heq
  intro a o1 ho Ka Ke
  exact w_rread_B117 hC ho (fun b h => Ka b h) (fun b h => K0 b (Ke _ h).symm)
def m_rread_J463 (S : MS) (x1 : Int32) (x2 : Int32) (x6 : Int32) : Option ((MS × Int32 × Int32 × Int32) ⊕ MS) := some (.inl (S, x1, x2, (x6 + 1)))
theorem d_rread_167 : decode prog_14_method_49_code 167 = .ok (.aload_n 0, 1) := by decide +kernel
theorem d_rread_168 : decode prog_14_method_49_code 168 = .ok (.aload_n 0, 1) := by decide +kernel
theorem d_rread_169 : decode prog_14_method_49_code 169 = .ok (.getfield 345, 3) := by decide +kernel
theorem d_rread_172 : decode prog_14_method_49_code 172 = .ok (.iload 5, 2) := by decide +kernel
theorem d_rread_174 : decode prog_14_method_49_code 174 = .ok (.invokevirtual 261, 3) := by decide +kernel
theorem d_rread_177 : decode prog_14_method_49_code 177 = .ok (.ifCond .eq 9, 3) := by decide +kernel
theorem d_rread_186 : decode prog_14_method_49_code 186 = .ok (.aload_n 0, 1) := by decide +kernel
theorem d_rread_187 : decode prog_14_method_49_code 187 = .ok (.iconst 0, 1) := by decide +kernel
theorem d_rread_188 : decode prog_14_method_49_code 188 = .ok (.putfield 176, 3) := by decide +kernel
theorem d_rread_191 : decode prog_14_method_49_code 191 = .ok (.iconst 0, 1) := by decide +kernel
theorem d_rread_192 : decode prog_14_method_49_code 192 = .ok (.istore 6, 2) := by decide +kernel
theorem d_rread_194 : decode prog_14_method_49_code 194 = .ok (.iload 6, 2) := by decide +kernel
theorem d_rread_196 : decode prog_14_method_49_code 196 = .ok (.aload_n 0, 1) := by decide +kernel
theorem d_rread_197 : decode prog_14_method_49_code 197 = .ok (.getfield 345, 3) := by decide +kernel
theorem d_rread_200 : decode prog_14_method_49_code 200 = .ok (.if_icmp .ge 269, 3) := by decide +kernel
theorem d_rread_203 : decode prog_14_method_49_code 203 = .ok (.aload_n 0, 1) := by decide +kernel
theorem d_rread_204 : decode prog_14_method_49_code 204 = .ok (.getfield 133, 3) := by decide +kernel
theorem d_rread_207 : decode prog_14_method_49_code 207 = .ok (.iload 6, 2) := by decide +kernel
theorem d_rread_209 : decode prog_14_method_49_code 209 = .ok (.iaload, 1) := by decide +kernel
theorem d_rread_210 : decode prog_14_method_49_code 210 = .ok (.istore 7, 2) := by decide +kernel
theorem d_rread_212 : decode prog_14_method_49_code 212 = .ok (.aload_n 0, 1) := by decide +kernel
theorem d_rread_213 : decode prog_14_method_49_code 213 = .ok (.getfield 154, 3) := by decide +kernel
theorem d_rread_216 : decode prog_14_method_49_code 216 = .ok (.iload 6, 2) := by decide +kernel
theorem d_rread_218 : decode prog_14_method_49_code 218 = .ok (.iconst 0, 1) := by decide +kernel
theorem d_rread_219 : decode prog_14_method_49_code 219 = .ok (.iastore, 1) := by decide +kernel
theorem d_rread_220 : decode prog_14_method_49_code 220 = .ok (.iload 6, 2) := by decide +kernel
theorem d_rread_222 : decode prog_14_method_49_code 222 = .ok (.ifCond .ne 55, 3) := by decide +kernel
theorem d_rread_277 : decode prog_14_method_49_code 277 = .ok (.aload_n 0, 1) := by decide +kernel
theorem d_rread_278 : decode prog_14_method_49_code 278 = .ok (.getfield 133, 3) := by decide +kernel
theorem d_rread_281 : decode prog_14_method_49_code 281 = .ok (.aload_n 0, 1) := by decide +kernel
theorem d_rread_282 : decode prog_14_method_49_code 282 = .ok (.getfield 136, 3) := by decide +kernel
theorem d_rread_285 : decode prog_14_method_49_code 285 = .ok (.iload 6, 2) := by decide +kernel
theorem d_rread_287 : decode prog_14_method_49_code 287 = .ok (.iaload, 1) := by decide +kernel
theorem d_rread_288 : decode prog_14_method_49_code 288 = .ok (.iaload, 1) := by decide +kernel
theorem d_rread_289 : decode prog_14_method_49_code 289 = .ok (.bipush 6, 2) := by decide +kernel
theorem d_rread_291 : decode prog_14_method_49_code 291 = .ok (.if_icmp .ne 80, 3) := by decide +kernel
theorem d_rread_371 : decode prog_14_method_49_code 371 = .ok (.aload_n 0, 1) := by decide +kernel
theorem d_rread_372 : decode prog_14_method_49_code 372 = .ok (.getfield 151, 3) := by decide +kernel
theorem d_rread_375 : decode prog_14_method_49_code 375 = .ok (.iload 6, 2) := by decide +kernel
theorem d_rread_377 : decode prog_14_method_49_code 377 = .ok (.aload_n 0, 1) := by decide +kernel
theorem d_rread_378 : decode prog_14_method_49_code 378 = .ok (.iload_n 1, 1) := by decide +kernel
theorem d_rread_379 : decode prog_14_method_49_code 379 = .ok (.aload_n 0, 1) := by decide +kernel
theorem d_rread_380 : decode prog_14_method_49_code 380 = .ok (.getfield 19, 3) := by decide +kernel
theorem d_rread_383 : decode prog_14_method_49_code 383 = .ok (.aload_n 0, 1) := by decide +kernel
theorem d_rread_384 : decode prog_14_method_49_code 384 = .ok (.getfield 151, 3) := by decide +kernel
theorem d_rread_387 : decode prog_14_method_49_code 387 = .ok (.aload_n 0, 1) := by decide +kernel
theorem d_rread_388 : decode prog_14_method_49_code 388 = .ok (.getfield 136, 3) := by decide +kernel
theorem d_rread_391 : decode prog_14_method_49_code 391 = .ok (.iload 6, 2) := by decide +kernel
theorem d_rread_393 : decode prog_14_method_49_code 393 = .ok (.iaload, 1) := by decide +kernel
theorem d_rread_394 : decode prog_14_method_49_code 394 = .ok (.iaload, 1) := by decide +kernel
theorem d_rread_395 : decode prog_14_method_49_code 395 = .ok (.iaload, 1) := by decide +kernel
theorem d_rread_396 : decode prog_14_method_49_code 396 = .ok (.aload_n 0, 1) := by decide +kernel
theorem d_rread_397 : decode prog_14_method_49_code 397 = .ok (.getfield 154, 3) := by decide +kernel
theorem d_rread_400 : decode prog_14_method_49_code 400 = .ok (.aload_n 0, 1) := by decide +kernel
theorem d_rread_401 : decode prog_14_method_49_code 401 = .ok (.getfield 136, 3) := by decide +kernel
theorem d_rread_404 : decode prog_14_method_49_code 404 = .ok (.iload 6, 2) := by decide +kernel
theorem d_rread_406 : decode prog_14_method_49_code 406 = .ok (.iaload, 1) := by decide +kernel
theorem d_rread_407 : decode prog_14_method_49_code 407 = .ok (.iaload, 1) := by decide +kernel
theorem d_rread_408 : decode prog_14_method_49_code 408 = .ok (.iload 7, 2) := by decide +kernel
theorem d_rread_410 : decode prog_14_method_49_code 410 = .ok (.aload_n 0, 1) := by decide +kernel
theorem d_rread_411 : decode prog_14_method_49_code 411 = .ok (.getfield 157, 3) := by decide +kernel
theorem d_rread_414 : decode prog_14_method_49_code 414 = .ok (.iload 6, 2) := by decide +kernel
theorem d_rread_416 : decode prog_14_method_49_code 416 = .ok (.laload, 1) := by decide +kernel
theorem d_rread_417 : decode prog_14_method_49_code 417 = .ok (.aload_n 0, 1) := by decide +kernel
theorem d_rread_418 : decode prog_14_method_49_code 418 = .ok (.getfield 160, 3) := by decide +kernel
theorem d_rread_421 : decode prog_14_method_49_code 421 = .ok (.aload_n 0, 1) := by decide +kernel
theorem d_rread_422 : decode prog_14_method_49_code 422 = .ok (.getfield 145, 3) := by decide +kernel
theorem d_rread_425 : decode prog_14_method_49_code 425 = .ok (.iload 6, 2) := by decide +kernel
theorem d_rread_427 : decode prog_14_method_49_code 427 = .ok (.iaload, 1) := by decide +kernel
theorem d_rread_428 : decode prog_14_method_49_code 428 = .ok (.aload_n 0, 1) := by decide +kernel
theorem d_rread_429 : decode prog_14_method_49_code 429 = .ok (.getfield 148, 3) := by decide +kernel
theorem d_rread_432 : decode prog_14_method_49_code 432 = .ok (.iload 6, 2) := by decide +kernel
theorem d_rread_434 : decode prog_14_method_49_code 434 = .ok (.iaload, 1) := by decide +kernel
theorem d_rread_435 : decode prog_14_method_49_code 435 = .ok (.invokevirtual 298, 3) := by decide +kernel
theorem d_rread_438 : decode prog_14_method_49_code 438 = .ok (.iastore, 1) := by decide +kernel
theorem d_rread_439 : decode prog_14_method_49_code 439 = .ok (.aload_n 0, 1) := by decide +kernel
theorem d_rread_440 : decode prog_14_method_49_code 440 = .ok (.getfield 154, 3) := by decide +kernel
theorem d_rread_443 : decode prog_14_method_49_code 443 = .ok (.aload_n 0, 1) := by decide +kernel
theorem d_rread_444 : decode prog_14_method_49_code 444 = .ok (.getfield 136, 3) := by decide +kernel
theorem d_rread_447 : decode prog_14_method_49_code 447 = .ok (.iload 6, 2) := by decide +kernel
theorem d_rread_449 : decode prog_14_method_49_code 449 = .ok (.iaload, 1) := by decide +kernel
theorem d_rread_450 : decode prog_14_method_49_code 450 = .ok (.aload_n 0, 1) := by decide +kernel
theorem d_rread_451 : decode prog_14_method_49_code 451 = .ok (.getfield 19, 3) := by decide +kernel
theorem d_rread_454 : decode prog_14_method_49_code 454 = .ok (.aload_n 0, 1) := by decide +kernel
theorem d_rread_455 : decode prog_14_method_49_code 455 = .ok (.getfield 151, 3) := by decide +kernel
theorem d_rread_458 : decode prog_14_method_49_code 458 = .ok (.iload 6, 2) := by decide +kernel
theorem d_rread_460 : decode prog_14_method_49_code 460 = .ok (.iaload, 1) := by decide +kernel
theorem d_rread_461 : decode prog_14_method_49_code 461 = .ok (.iaload, 1) := by decide +kernel
theorem d_rread_462 : decode prog_14_method_49_code 462 = .ok (.iastore, 1) := by decide +kernel
theorem d_rread_463 : decode prog_14_method_49_code 463 = .ok (.iinc 6 1, 3) := by decide +kernel
theorem d_rread_466 : decode prog_14_method_49_code 466 = .ok (.goto (-272), 3) := by decide +kernel
set_option maxHeartbeats 4000000 in
set_option maxRecDepth 100000 in
theorem w_rread_J463 {p : Program} {l : Launch} {e : Env} {s : State} {m : MethodId} {args : Array Value} {below : List Frame} {meth : Method} {c : Code} {A : Nat → Prop} {D : va_G} {md : Nat → Nat} {mc : Nat → ClassId} {Q : State → Prop} {sad sav : Nat → Nat} (hC : MCs sad sav "JoinedTreesModel" prog_14_method_49_code 8 (some .int) p s m args meth c A D mc) {S : MS} {x1 : Int32} {x2 : Int32} {x6 : Int32} {o : ((MS × Int32 × Int32 × Int32) ⊕ MS)} (Heq : m_rread_J463 S x1 x2 x6 = some o) (Ka : ∀ b : MS × Int32 × Int32 × Int32, o = .inl b → ∀ (H : Heap) (locs : List Loc) (ls : Array Slot), va_P D cls (mw md mc b.1) H → va_D A (mw md mc b.1) → va_S A s.heap H locs → lv_has ls 8 [(0, .ref (md 100)), (1, .int b.2.1), (2, .int b.2.2.1), (6, .int b.2.2.2)] → W p l e ({ frames := 8, cells := 0, slots := 0, locals := 202 }) s m args below meth c H locs 0 0 Q (F0 m 194 ls [])) (K0 : ∀ b : MS, o = .inr b → ∀ (H : Heap) (locs : List Loc) (ls : Array Slot), va_P D cls (mw md mc b) H → va_D A (mw md mc b) → va_S A s.heap H locs → lv_has ls 8 [(0, .ref (md 100))] → W p l e ({ frames := 8, cells := 0, slots := 0, locals := 202 }) s m args below meth c H locs 0 0 Q (F0 m 469 ls [])) : ∀ (H : Heap) (locs : List Loc) (ls : Array Slot), va_P D cls (mw md mc S) H → va_D A (mw md mc S) → va_S A s.heap H locs → lv_has ls 8 [(0, .ref (md 100)), (1, .int x1), (2, .int x2), (6, .int x6)] → W p l e ({ frames := 8, cells := 0, slots := 0, locals := 202 }) s m args below meth c H locs 0 0 Q (F0 m 463 ls []) := by
  intro H locs ls hP hD hS hl
  obtain ⟨⟨hx, hb, hr, hml, hown, hts, hK, hA⟩, hE⟩ := id hC
  unfold m_rread_J463 at Heq
  refine lv_iinc (v := x6 + 1) (lv' := [(6, .int (x6 + 1)), (0, .ref (md 100)), (1, .int x1), (2, .int x2)]) hx hb d_rread_463 hl (k := 3) rfl rfl (by decide) rfl (fun ls hl => ?_)
  refine lv_goto (tgt := 194) hx hb d_rread_466 (by decide) ?_
  exact Ka _ (Option.some.inj Heq).symm _ _ _ hP hD hS (lv_sub hl [1, 2, 3, 0] rfl)
def m_rread_B194 (S : MS) (x1 : Int32) (x2 : Int32) (x6 : Int32) : Option ((MS × Int32 × Int32 × Int32) ⊕ MS) := (if S.i 64 ≤ x6 then some (.inr (S)) else gd x6 501 (gd x6 501 ((if x6 = 0 then gd x6 501 (gd x6 501 (gd x6 501 (ob (m_rsetKey (S.setA 60 (upd (S.a 60) x6.toNatClampNeg 0)) x1 x2 2 0 (S.i 5) (S.a 53 x6.toNatClampNeg) (S.n 61 x6.toNatClampNeg) 62 (S.a 57 x6.toNatClampNeg) (S.a 58 x6.toNatClampNeg)) (fun o_37 => gd x6 501 (m_rread_J463 (o_37.1.setA 59 (upd (o_37.1.a 59) x6.toNatClampNeg o_37.2)) x1 x2 x6))))) else gd x6 501 (gd (S.a 54 x6.toNatClampNeg) 501 ((if S.a 53 ((S.a 54 x6.toNatClampNeg).toNatClampNeg) = 6 then gd x6 501 (gd (S.a 54 x6.toNatClampNeg) 501 (gd (S.a 59 ((S.a 54 x6.toNatClampNeg).toNatClampNeg)) 4000 (gd x6 501 (gd x6 501 (gd x6 501 (gd x6 501 (gd x6 501 (ob (m_rsetKey (S.setA 60 (upd (S.a 60) x6.toNatClampNeg 0)) x1 (S.a 8 ((S.a 59 ((S.a 54 x6.toNatClampNeg).toNatClampNeg)).toNatClampNeg)) 62 (S.a 55 x6.toNatClampNeg) (S.a 56 x6.toNatClampNeg) (S.a 53 x6.toNatClampNeg) (S.n 61 x6.toNatClampNeg) 62 (S.a 57 x6.toNatClampNeg) (S.a 58 x6.toNatClampNeg)) (fun o_31 => gd x6 501 (m_rread_J463 (o_31.1.setA 59 (upd (o_31.1.a 59) x6.toNatClampNeg o_31.2)) x1 x2 x6)))))))))) else gd x6 501 (gd (S.a 54 x6.toNatClampNeg) 501 (gd (S.a 59 ((S.a 54 x6.toNatClampNeg).toNatClampNeg)) 4000 (gd x6 501 (gd (S.a 54 x6.toNatClampNeg) 501 (gd x6 501 (gd x6 501 (gd x6 501 (ob (m_rinsertBehind (S.setA 60 (upd (S.a 60) x6.toNatClampNeg 0)) x1 (S.a 8 ((S.a 59 ((S.a 54 x6.toNatClampNeg).toNatClampNeg)).toNatClampNeg)) ((upd (S.a 60) x6.toNatClampNeg 0) ((S.a 54 x6.toNatClampNeg).toNatClampNeg)) (S.a 53 x6.toNatClampNeg) (S.n 61 x6.toNatClampNeg) 62 (S.a 57 x6.toNatClampNeg) (S.a 58 x6.toNatClampNeg)) (fun o_16 => gd x6 501 (gd x6 501 (gd x6 501 (gd ((upd (o_16.1.a 59) x6.toNatClampNeg o_16.2) x6.toNatClampNeg) 4000 (gd (o_16.1.a 54 x6.toNatClampNeg) 501 (m_rread_J463 ((o_16.1.setA 59 (upd (o_16.1.a 59) x6.toNatClampNeg o_16.2)).setA 60 (upd (o_16.1.a 60) ((o_16.1.a 54 x6.toNatClampNeg).toNatClampNeg) (o_16.1.a 8 (((upd (o_16.1.a 59) x6.toNatClampNeg o_16.2) x6.toNatClampNeg).toNatClampNeg)))) x1 x2 x6)))))))))))))))))))))
theorem d_rread_294 : decode prog_14_method_49_code 294 = .ok (.aload_n 0, 1) := by decide +kernel
theorem d_rread_295 : decode prog_14_method_49_code 295 = .ok (.getfield 151, 3) := by decide +kernel
theorem d_rread_298 : decode prog_14_method_49_code 298 = .ok (.iload 6, 2) := by decide +kernel
theorem d_rread_300 : decode prog_14_method_49_code 300 = .ok (.aload_n 0, 1) := by decide +kernel
theorem d_rread_301 : decode prog_14_method_49_code 301 = .ok (.iload_n 1, 1) := by decide +kernel
theorem d_rread_302 : decode prog_14_method_49_code 302 = .ok (.aload_n 0, 1) := by decide +kernel
theorem d_rread_303 : decode prog_14_method_49_code 303 = .ok (.getfield 19, 3) := by decide +kernel
theorem d_rread_306 : decode prog_14_method_49_code 306 = .ok (.aload_n 0, 1) := by decide +kernel
theorem d_rread_307 : decode prog_14_method_49_code 307 = .ok (.getfield 151, 3) := by decide +kernel
theorem d_rread_310 : decode prog_14_method_49_code 310 = .ok (.aload_n 0, 1) := by decide +kernel
theorem d_rread_311 : decode prog_14_method_49_code 311 = .ok (.getfield 136, 3) := by decide +kernel
theorem d_rread_314 : decode prog_14_method_49_code 314 = .ok (.iload 6, 2) := by decide +kernel
theorem d_rread_316 : decode prog_14_method_49_code 316 = .ok (.iaload, 1) := by decide +kernel
theorem d_rread_317 : decode prog_14_method_49_code 317 = .ok (.iaload, 1) := by decide +kernel
theorem d_rread_318 : decode prog_14_method_49_code 318 = .ok (.iaload, 1) := by decide +kernel
theorem d_rread_319 : decode prog_14_method_49_code 319 = .ok (.aload_n 0, 1) := by decide +kernel
theorem d_rread_320 : decode prog_14_method_49_code 320 = .ok (.getfield 160, 3) := by decide +kernel
theorem d_rread_323 : decode prog_14_method_49_code 323 = .ok (.aload_n 0, 1) := by decide +kernel
theorem d_rread_324 : decode prog_14_method_49_code 324 = .ok (.getfield 139, 3) := by decide +kernel
theorem d_rread_327 : decode prog_14_method_49_code 327 = .ok (.iload 6, 2) := by decide +kernel
theorem d_rread_329 : decode prog_14_method_49_code 329 = .ok (.iaload, 1) := by decide +kernel
theorem d_rread_330 : decode prog_14_method_49_code 330 = .ok (.aload_n 0, 1) := by decide +kernel
theorem d_rread_331 : decode prog_14_method_49_code 331 = .ok (.getfield 142, 3) := by decide +kernel
theorem d_rread_334 : decode prog_14_method_49_code 334 = .ok (.iload 6, 2) := by decide +kernel
theorem d_rread_336 : decode prog_14_method_49_code 336 = .ok (.iaload, 1) := by decide +kernel
theorem d_rread_337 : decode prog_14_method_49_code 337 = .ok (.iload 7, 2) := by decide +kernel
theorem d_rread_339 : decode prog_14_method_49_code 339 = .ok (.aload_n 0, 1) := by decide +kernel
theorem d_rread_340 : decode prog_14_method_49_code 340 = .ok (.getfield 157, 3) := by decide +kernel
theorem d_rread_343 : decode prog_14_method_49_code 343 = .ok (.iload 6, 2) := by decide +kernel
theorem d_rread_345 : decode prog_14_method_49_code 345 = .ok (.laload, 1) := by decide +kernel
theorem d_rread_346 : decode prog_14_method_49_code 346 = .ok (.aload_n 0, 1) := by decide +kernel
theorem d_rread_347 : decode prog_14_method_49_code 347 = .ok (.getfield 160, 3) := by decide +kernel
theorem d_rread_350 : decode prog_14_method_49_code 350 = .ok (.aload_n 0, 1) := by decide +kernel
theorem d_rread_351 : decode prog_14_method_49_code 351 = .ok (.getfield 145, 3) := by decide +kernel
theorem d_rread_354 : decode prog_14_method_49_code 354 = .ok (.iload 6, 2) := by decide +kernel
theorem d_rread_356 : decode prog_14_method_49_code 356 = .ok (.iaload, 1) := by decide +kernel
theorem d_rread_357 : decode prog_14_method_49_code 357 = .ok (.aload_n 0, 1) := by decide +kernel
theorem d_rread_358 : decode prog_14_method_49_code 358 = .ok (.getfield 148, 3) := by decide +kernel
theorem d_rread_361 : decode prog_14_method_49_code 361 = .ok (.iload 6, 2) := by decide +kernel
theorem d_rread_363 : decode prog_14_method_49_code 363 = .ok (.iaload, 1) := by decide +kernel
theorem d_rread_364 : decode prog_14_method_49_code 364 = .ok (.invokevirtual 264, 3) := by decide +kernel
theorem d_rread_367 : decode prog_14_method_49_code 367 = .ok (.iastore, 1) := by decide +kernel
theorem d_rread_368 : decode prog_14_method_49_code 368 = .ok (.goto 95, 3) := by decide +kernel
theorem d_rread_225 : decode prog_14_method_49_code 225 = .ok (.aload_n 0, 1) := by decide +kernel
theorem d_rread_226 : decode prog_14_method_49_code 226 = .ok (.getfield 151, 3) := by decide +kernel
theorem d_rread_229 : decode prog_14_method_49_code 229 = .ok (.iload 6, 2) := by decide +kernel
theorem d_rread_231 : decode prog_14_method_49_code 231 = .ok (.aload_n 0, 1) := by decide +kernel
theorem d_rread_232 : decode prog_14_method_49_code 232 = .ok (.iload_n 1, 1) := by decide +kernel
theorem d_rread_233 : decode prog_14_method_49_code 233 = .ok (.iload_n 2, 1) := by decide +kernel
theorem d_rread_234 : decode prog_14_method_49_code 234 = .ok (.aload_n 0, 1) := by decide +kernel
theorem d_rread_235 : decode prog_14_method_49_code 235 = .ok (.getfield 13, 3) := by decide +kernel
theorem d_rread_238 : decode prog_14_method_49_code 238 = .ok (.iconst 0, 1) := by decide +kernel
theorem d_rread_239 : decode prog_14_method_49_code 239 = .ok (.aload_n 0, 1) := by decide +kernel
theorem d_rread_240 : decode prog_14_method_49_code 240 = .ok (.getfield 185, 3) := by decide +kernel
theorem d_rread_243 : decode prog_14_method_49_code 243 = .ok (.iload 7, 2) := by decide +kernel
theorem d_rread_245 : decode prog_14_method_49_code 245 = .ok (.aload_n 0, 1) := by decide +kernel
theorem d_rread_246 : decode prog_14_method_49_code 246 = .ok (.getfield 157, 3) := by decide +kernel
theorem d_rread_249 : decode prog_14_method_49_code 249 = .ok (.iload 6, 2) := by decide +kernel
theorem d_rread_251 : decode prog_14_method_49_code 251 = .ok (.laload, 1) := by decide +kernel
theorem d_rread_252 : decode prog_14_method_49_code 252 = .ok (.aload_n 0, 1) := by decide +kernel
theorem d_rread_253 : decode prog_14_method_49_code 253 = .ok (.getfield 160, 3) := by decide +kernel
theorem d_rread_256 : decode prog_14_method_49_code 256 = .ok (.aload_n 0, 1) := by decide +kernel
theorem d_rread_257 : decode prog_14_method_49_code 257 = .ok (.getfield 145, 3) := by decide +kernel
theorem d_rread_260 : decode prog_14_method_49_code 260 = .ok (.iload 6, 2) := by decide +kernel
theorem d_rread_262 : decode prog_14_method_49_code 262 = .ok (.iaload, 1) := by decide +kernel
theorem d_rread_263 : decode prog_14_method_49_code 263 = .ok (.aload_n 0, 1) := by decide +kernel
theorem d_rread_264 : decode prog_14_method_49_code 264 = .ok (.getfield 148, 3) := by decide +kernel
theorem d_rread_267 : decode prog_14_method_49_code 267 = .ok (.iload 6, 2) := by decide +kernel
theorem d_rread_269 : decode prog_14_method_49_code 269 = .ok (.iaload, 1) := by decide +kernel
theorem d_rread_270 : decode prog_14_method_49_code 270 = .ok (.invokevirtual 264, 3) := by decide +kernel
theorem d_rread_273 : decode prog_14_method_49_code 273 = .ok (.iastore, 1) := by decide +kernel
theorem d_rread_274 : decode prog_14_method_49_code 274 = .ok (.goto 189, 3) := by decide +kernel
set_option maxHeartbeats 4000000 in
set_option maxRecDepth 100000 in
theorem w_rread_B194 {p : Program} {l : Launch} {e : Env} {s : State} {m : MethodId} {args : Array Value} {below : List Frame} {meth : Method} {c : Code} {A : Nat → Prop} {D : va_G} {md : Nat → Nat} {mc : Nat → ClassId} {Q : State → Prop} {sad sav : Nat → Nat} (hC : MCs sad sav "JoinedTreesModel" prog_14_method_49_code 8 (some .int) p s m args meth c A D mc) {S : MS} {x1 : Int32} {x2 : Int32} {x6 : Int32} {o : ((MS × Int32 × Int32 × Int32) ⊕ MS)} (Heq : m_rread_B194 S x1 x2 x6 = some o) (Ka : ∀ b : MS × Int32 × Int32 × Int32, o = .inl b → ∀ (H : Heap) (locs : List Loc) (ls : Array Slot), va_P D cls (mw md mc b.1) H → va_D A (mw md mc b.1) → va_S A s.heap H locs → lv_has ls 8 [(0, .ref (md 100)), (1, .int b.2.1), (2, .int b.2.2.1), (6, .int b.2.2.2)] → W p l e ({ frames := 8, cells := 0, slots := 0, locals := 202 }) s m args below meth c H locs 0 0 Q (F0 m 194 ls [])) (K0 : ∀ b : MS, o = .inr b → ∀ (H : Heap) (locs : List Loc) (ls : Array Slot), va_P D cls (mw md mc b) H → va_D A (mw md mc b) → va_S A s.heap H locs → lv_has ls 8 [(0, .ref (md 100))] → W p l e ({ frames := 8, cells := 0, slots := 0, locals := 202 }) s m args below meth c H locs 0 0 Q (F0 m 469 ls [])) : ∀ (H : Heap) (locs : List Loc) (ls : Array Slot), va_P D cls (mw md mc S) H → va_D A (mw md mc S) → va_S A s.heap H locs → lv_has ls 8 [(0, .ref (md 100)), (1, .int x1), (2, .int x2), (6, .int x6)] → W p l e ({ frames := 8, cells := 0, slots := 0, locals := 202 }) s m args below meth c H locs 0 0 Q (F0 m 194 ls []) := by
  intro H locs ls hP hD hS hl
  obtain ⟨⟨hx, hb, hr, hml, hown, hts, hK, hA⟩, hE⟩ := id hC
  unfold m_rread_B194 at Heq
  refine lv_iload hx hb d_rread_194 (lv_at hl 3 rfl) ?_
  refine lv_aload_n hx hb d_rread_196 rfl (lv_at hl 0 rfl) ?_
  refine va_get (D := D) (ci := 12) (v := .int (S.i 64)) (C := R_MM) (T := F_MM) (N := 77) hx hb hts i_MM hown hK hP 0 rfl rfl 64 (by decide) (hts _ kw_1446) (fun _ h9 => h9) rfl d_rread_197 ?_
  refine lv_icmp_ge (tgt := 469) hx hb d_rread_200 (by decide) (fun c_1 => ?_) (fun c_1 => ?_)
  · replace Heq := (if_pos c_1).symm.trans Heq
    exact K0 _ (Option.some.inj Heq).symm _ _ _ hP hD hS (lv_sub hl [0] rfl)
  · replace Heq := (if_neg c_1).symm.trans Heq
    refine lv_aload_n hx hb d_rread_203 rfl (lv_at hl 0 rfl) ?_
    refine va_get (D := D) (ci := 12) (v := .ref (md 53)) (C := R_MM) (T := F_MM) (N := 77) hx hb hts i_MM hown hK hP 0 rfl rfl 53 (by decide) (hts _ kw_1435) (fun _ h9 => h9) rfl d_rread_204 ?_
    refine lv_iload hx hb d_rread_207 (lv_at hl 3 rfl) ?_
    obtain ⟨hi_2, Heq⟩ := gd_some Heq
    refine va_iald hx hb hK hP 35 0 rfl rfl (i := x6) hi_2 d_rread_209 ?_
    refine w_i (y := S.a 53 x6.toNatClampNeg) rfl ?_
    refine lv_istore (lv' := [(7, .int (S.a 53 x6.toNatClampNeg)), (0, .ref (md 100)), (1, .int x1), (2, .int x2), (6, .int x6)]) hx hb d_rread_210 hl (by decide) rfl (fun ls hl => ?_)
    refine lv_aload_n hx hb d_rread_212 rfl (lv_at hl 1 rfl) ?_
    refine va_get (D := D) (ci := 12) (v := .ref (md 60)) (C := R_MM) (T := F_MM) (N := 77) hx hb hts i_MM hown hK hP 0 rfl rfl 60 (by decide) (hts _ kw_1442) (fun _ h9 => h9) rfl d_rread_213 ?_
    refine lv_iload hx hb d_rread_216 (lv_at hl 4 rfl) ?_
    refine lv_iconst (v := 0) hx hb d_rread_218 (by decide) ?_
    obtain ⟨hi_3, Heq⟩ := gd_some Heq
    refine va_iast hx hb hK hP hD hS 42 0 rfl rfl (i := x6) (x := 0) hi_3 d_rread_219 (fun H locs hP hD hS => ?_)
    rw [mw_A60] at hP hD
    refine lv_iload hx hb d_rread_220 (lv_at hl 4 rfl) ?_
    refine lv_if_ne (tgt := 277) hx hb d_rread_222 (by decide) (fun c_4 => ?_) (fun c_4 => ?_)
    · replace Heq := (if_neg c_4).symm.trans Heq
      refine lv_aload_n hx hb d_rread_277 rfl (lv_at hl 1 rfl) ?_
      refine va_get (D := D) (ci := 12) (v := .ref (md 53)) (C := R_MM) (T := F_MM) (N := 77) hx hb hts i_MM hown hK hP 0 rfl rfl 53 (by decide) (hts _ kw_1435) (fun _ h9 => h9) rfl d_rread_278 ?_
      refine lv_aload_n hx hb d_rread_281 rfl (lv_at hl 1 rfl) ?_
      refine va_get (D := D) (ci := 12) (v := .ref (md 54)) (C := R_MM) (T := F_MM) (N := 77) hx hb hts i_MM hown hK hP 0 rfl rfl 54 (by decide) (hts _ kw_1436) (fun _ h9 => h9) rfl d_rread_282 ?_
      refine lv_iload hx hb d_rread_285 (lv_at hl 4 rfl) ?_
      obtain ⟨hi_5, Heq⟩ := gd_some Heq
      refine va_iald hx hb hK hP 36 0 rfl rfl (i := x6) hi_5 d_rread_287 ?_
      refine w_i (y := S.a 54 x6.toNatClampNeg) rfl ?_
      obtain ⟨hi_6, Heq⟩ := gd_some Heq
      refine va_iald hx hb hK hP 35 0 rfl rfl (i := S.a 54 x6.toNatClampNeg) hi_6 d_rread_288 ?_
      refine w_i (y := S.a 53 ((S.a 54 x6.toNatClampNeg).toNatClampNeg)) rfl ?_
      refine lv_bipush (v := 6) hx hb d_rread_289 (by decide) ?_
      refine lv_icmp_ne (tgt := 371) hx hb d_rread_291 (by decide) (fun c_7 => ?_) (fun c_7 => ?_)
      · replace Heq := (if_neg c_7).symm.trans Heq
        refine lv_aload_n hx hb d_rread_371 rfl (lv_at hl 1 rfl) ?_
        refine va_get (D := D) (ci := 12) (v := .ref (md 59)) (C := R_MM) (T := F_MM) (N := 77) hx hb hts i_MM hown hK hP 0 rfl rfl 59 (by decide) (hts _ kw_1441) (fun _ h9 => h9) rfl d_rread_372 ?_
        refine lv_iload hx hb d_rread_375 (lv_at hl 4 rfl) ?_
        refine lv_aload_n hx hb d_rread_377 rfl (lv_at hl 1 rfl) ?_
        refine lv_iload_n hx hb d_rread_378 rfl (lv_at hl 2 rfl) ?_
        refine lv_aload_n hx hb d_rread_379 rfl (lv_at hl 1 rfl) ?_
        refine va_get (D := D) (ci := 12) (v := .ref (md 8)) (C := R_MM) (T := F_MM) (N := 77) hx hb hts i_MM hown hK hP 0 rfl rfl 8 (by decide) (hts _ kw_1390) (fun _ h9 => h9) rfl d_rread_380 ?_
        refine lv_aload_n hx hb d_rread_383 rfl (lv_at hl 1 rfl) ?_
        refine va_get (D := D) (ci := 12) (v := .ref (md 59)) (C := R_MM) (T := F_MM) (N := 77) hx hb hts i_MM hown hK hP 0 rfl rfl 59 (by decide) (hts _ kw_1441) (fun _ h9 => h9) rfl d_rread_384 ?_
        refine lv_aload_n hx hb d_rread_387 rfl (lv_at hl 1 rfl) ?_
        refine va_get (D := D) (ci := 12) (v := .ref (md 54)) (C := R_MM) (T := F_MM) (N := 77) hx hb hts i_MM hown hK hP 0 rfl rfl 54 (by decide) (hts _ kw_1436) (fun _ h9 => h9) rfl d_rread_388 ?_
        refine lv_iload hx hb d_rread_391 (lv_at hl 4 rfl) ?_
        obtain ⟨hi_8, Heq⟩ := gd_some Heq
        refine va_iald hx hb hK hP 36 0 rfl rfl (i := x6) hi_8 d_rread_393 ?_
        refine w_i (y := S.a 54 x6.toNatClampNeg) rfl ?_
        obtain ⟨hi_9, Heq⟩ := gd_some Heq
        refine va_iald hx hb hK hP 41 0 rfl rfl (i := S.a 54 x6.toNatClampNeg) hi_9 d_rread_394 ?_
        refine w_i (y := S.a 59 ((S.a 54 x6.toNatClampNeg).toNatClampNeg)) rfl ?_
        obtain ⟨hi_10, Heq⟩ := gd_some Heq
        refine va_iald hx hb hK hP 4 0 rfl rfl (i := S.a 59 ((S.a 54 x6.toNatClampNeg).toNatClampNeg)) hi_10 d_rread_395 ?_
        refine w_i (y := S.a 8 ((S.a 59 ((S.a 54 x6.toNatClampNeg).toNatClampNeg)).toNatClampNeg)) rfl ?_
        refine lv_aload_n hx hb d_rread_396 rfl (lv_at hl 1 rfl) ?_
        refine va_get (D := D) (ci := 12) (v := .ref (md 60)) (C := R_MM) (T := F_MM) (N := 77) hx hb hts i_MM hown hK hP 0 rfl rfl 60 (by decide) (hts _ kw_1442) (fun _ h9 => h9) rfl d_rread_397 ?_
        refine lv_aload_n hx hb d_rread_400 rfl (lv_at hl 1 rfl) ?_
        refine va_get (D := D) (ci := 12) (v := .ref (md 54)) (C := R_MM) (T := F_MM) (N := 77) hx hb hts i_MM hown hK hP 0 rfl rfl 54 (by decide) (hts _ kw_1436) (fun _ h9 => h9) rfl d_rread_401 ?_
        refine lv_iload hx hb d_rread_404 (lv_at hl 4 rfl) ?_
        obtain ⟨hi_11, Heq⟩ := gd_some Heq
        refine va_iald hx hb hK hP 36 0 rfl rfl (i := x6) hi_11 d_rread_406 ?_
        refine w_i (y := S.a 54 x6.toNatClampNeg) rfl ?_
        obtain ⟨hi_12, Heq⟩ := gd_some Heq
        refine va_iald hx hb hK hP 42 0 rfl rfl (i := S.a 54 x6.toNatClampNeg) hi_12 d_rread_407 ?_
        refine w_i (y := (upd (S.a 60) x6.toNatClampNeg 0) ((S.a 54 x6.toNatClampNeg).toNatClampNeg)) rfl ?_
        refine lv_iload hx hb d_rread_408 (lv_at hl 0 rfl) ?_
        refine lv_aload_n hx hb d_rread_410 rfl (lv_at hl 1 rfl) ?_
        refine va_get (D := D) (ci := 12) (v := .ref (md 61)) (C := R_MM) (T := F_MM) (N := 77) hx hb hts i_MM hown hK hP 0 rfl rfl 61 (by decide) (hts _ kw_1443) (fun _ h9 => h9) rfl d_rread_411 ?_
        refine lv_iload hx hb d_rread_414 (lv_at hl 4 rfl) ?_
        obtain ⟨hi_13, Heq⟩ := gd_some Heq
        refine va_lald hx hb hK hP 43 3 rfl rfl (i := x6) hi_13 d_rread_416 ?_
        refine w_l (y := S.n 61 x6.toNatClampNeg) rfl ?_
        refine lv_aload_n hx hb d_rread_417 rfl (lv_at hl 1 rfl) ?_
        refine va_get (D := D) (ci := 12) (v := .ref (md 62)) (C := R_MM) (T := F_MM) (N := 77) hx hb hts i_MM hown hK hP 0 rfl rfl 62 (by decide) (hts _ kw_1444) (fun _ h9 => h9) rfl d_rread_418 ?_
        refine lv_aload_n hx hb d_rread_421 rfl (lv_at hl 1 rfl) ?_
        refine va_get (D := D) (ci := 12) (v := .ref (md 57)) (C := R_MM) (T := F_MM) (N := 77) hx hb hts i_MM hown hK hP 0 rfl rfl 57 (by decide) (hts _ kw_1439) (fun _ h9 => h9) rfl d_rread_422 ?_
        refine lv_iload hx hb d_rread_425 (lv_at hl 4 rfl) ?_
        obtain ⟨hi_14, Heq⟩ := gd_some Heq
        refine va_iald hx hb hK hP 39 0 rfl rfl (i := x6) hi_14 d_rread_427 ?_
        refine w_i (y := S.a 57 x6.toNatClampNeg) rfl ?_
        refine lv_aload_n hx hb d_rread_428 rfl (lv_at hl 1 rfl) ?_
        refine va_get (D := D) (ci := 12) (v := .ref (md 58)) (C := R_MM) (T := F_MM) (N := 77) hx hb hts i_MM hown hK hP 0 rfl rfl 58 (by decide) (hts _ kw_1440) (fun _ h9 => h9) rfl d_rread_429 ?_
        refine lv_iload hx hb d_rread_432 (lv_at hl 4 rfl) ?_
        obtain ⟨hi_15, Heq⟩ := gd_some Heq
        refine va_iald hx hb hK hP 40 0 rfl rfl (i := x6) hi_15 d_rread_434 ?_
        refine w_i (y := S.a 58 x6.toNatClampNeg) rfl ?_
        obtain ⟨o_16, h_17, Heq⟩ := ob_some Heq
        have hFc := fr_all hD hS hA
        refine va_calli (va_runV (As := [.int x1, .int (S.a 8 ((S.a 59 ((S.a 54 x6.toNatClampNeg).toNatClampNeg)).toNatClampNeg)), .int ((upd (S.a 60) x6.toNatClampNeg 0) ((S.a 54 x6.toNatClampNeg).toNatClampNeg)), .int (S.a 53 x6.toNatClampNeg), .long (S.n 61 x6.toNatClampNeg), .ref (md 62), .int (S.a 57 x6.toNatClampNeg), .int (S.a 58 x6.toNatClampNeg)]) (rest := [.int x6, .ref (md 59)]) ⟨hx, hb, hml, hown, hts⟩ (g_rinsertBehind l D H.size h_17) (cw_v 8 hts kw_1737 kw_1734 kw_1736 kp_51 kw_11 rfl rfl (by decide +kernel) ⟨Nat.le_of_ble_eq_true rfl, Nat.le_of_ble_eq_true rfl⟩) ⟨g_blind, va_recv hK hP (ci := 12) (q0 := 0) rfl rfl, fun U hU hW => g_pre hU hW hP hK hD⟩ rfl rfl hl.1 rfl (lv_room (Nat.le_of_ble_eq_true rfl)) d_rread_435 ⟨Nat.le_of_ble_eq_true rfl, Nat.le_of_ble_eq_true rfl⟩) hS (fun q _ h => hFc q h) hFc (fun rz u t H1 locs ht hvm hw hB hz1 hk1 hS => ?_)
        obtain ⟨hP, -, hD1⟩ := hB
        rw [ht] at hP
        have hD := hD1.weaken (fun _ q _ h => hFc q.1 h)
        generalize H1 = H at hP hS ⊢
        refine W.cs (cells' := 0) (slots' := 0) rfl rfl ?_
        subst hw
        obtain ⟨hi_18, Heq⟩ := gd_some Heq
        refine va_iast hx hb hK hP hD hS 41 0 rfl rfl (i := x6) (x := o_16.2) hi_18 d_rread_438 (fun H locs hP hD hS => ?_)
        rw [mw_A59] at hP hD
        refine lv_aload_n hx hb d_rread_439 rfl (lv_at hl 1 rfl) ?_
        refine va_get (D := D) (ci := 12) (v := .ref (md 60)) (C := R_MM) (T := F_MM) (N := 77) hx hb hts i_MM hown hK hP 0 rfl rfl 60 (by decide) (hts _ kw_1442) (fun _ h9 => h9) rfl d_rread_440 ?_
        refine lv_aload_n hx hb d_rread_443 rfl (lv_at hl 1 rfl) ?_
        refine va_get (D := D) (ci := 12) (v := .ref (md 54)) (C := R_MM) (T := F_MM) (N := 77) hx hb hts i_MM hown hK hP 0 rfl rfl 54 (by decide) (hts _ kw_1436) (fun _ h9 => h9) rfl d_rread_444 ?_
        refine lv_iload hx hb d_rread_447 (lv_at hl 4 rfl) ?_
        obtain ⟨hi_19, Heq⟩ := gd_some Heq
        refine va_iald hx hb hK hP 36 0 rfl rfl (i := x6) hi_19 d_rread_449 ?_
        refine w_i (y := o_16.1.a 54 x6.toNatClampNeg) rfl ?_
        refine lv_aload_n hx hb d_rread_450 rfl (lv_at hl 1 rfl) ?_
        refine va_get (D := D) (ci := 12) (v := .ref (md 8)) (C := R_MM) (T := F_MM) (N := 77) hx hb hts i_MM hown hK hP 0 rfl rfl 8 (by decide) (hts _ kw_1390) (fun _ h9 => h9) rfl d_rread_451 ?_
        refine lv_aload_n hx hb d_rread_454 rfl (lv_at hl 1 rfl) ?_
        refine va_get (D := D) (ci := 12) (v := .ref (md 59)) (C := R_MM) (T := F_MM) (N := 77) hx hb hts i_MM hown hK hP 0 rfl rfl 59 (by decide) (hts _ kw_1441) (fun _ h9 => h9) rfl d_rread_455 ?_
        refine lv_iload hx hb d_rread_458 (lv_at hl 4 rfl) ?_
        obtain ⟨hi_20, Heq⟩ := gd_some Heq
        refine va_iald hx hb hK hP 41 0 rfl rfl (i := x6) hi_20 d_rread_460 ?_
        refine w_i (y := (upd (o_16.1.a 59) x6.toNatClampNeg o_16.2) x6.toNatClampNeg) rfl ?_
        obtain ⟨hi_21, Heq⟩ := gd_some Heq
        refine va_iald hx hb hK hP 4 0 rfl rfl (i := (upd (o_16.1.a 59) x6.toNatClampNeg o_16.2) x6.toNatClampNeg) hi_21 d_rread_461 ?_
        refine w_i (y := o_16.1.a 8 (((upd (o_16.1.a 59) x6.toNatClampNeg o_16.2) x6.toNatClampNeg).toNatClampNeg)) rfl ?_
        obtain ⟨hi_22, Heq⟩ := gd_some Heq
        refine va_iast hx hb hK hP hD hS 42 0 rfl rfl (i := o_16.1.a 54 x6.toNatClampNeg) (x := o_16.1.a 8 (((upd (o_16.1.a 59) x6.toNatClampNeg o_16.2) x6.toNatClampNeg).toNatClampNeg)) hi_22 d_rread_462 (fun H locs hP hD hS => ?_)
        rw [mw_A60] at hP hD
        exact w_rread_J463 hC Heq Ka K0 _ _ _ hP hD hS (lv_sub hl [1, 2, 3, 4] rfl)
      · replace Heq := (if_pos c_7).symm.trans Heq
        refine lv_aload_n hx hb d_rread_294 rfl (lv_at hl 1 rfl) ?_
        refine va_get (D := D) (ci := 12) (v := .ref (md 59)) (C := R_MM) (T := F_MM) (N := 77) hx hb hts i_MM hown hK hP 0 rfl rfl 59 (by decide) (hts _ kw_1441) (fun _ h9 => h9) rfl d_rread_295 ?_
        refine lv_iload hx hb d_rread_298 (lv_at hl 4 rfl) ?_
        refine lv_aload_n hx hb d_rread_300 rfl (lv_at hl 1 rfl) ?_
        refine lv_iload_n hx hb d_rread_301 rfl (lv_at hl 2 rfl) ?_
        refine lv_aload_n hx hb d_rread_302 rfl (lv_at hl 1 rfl) ?_
        refine va_get (D := D) (ci := 12) (v := .ref (md 8)) (C := R_MM) (T := F_MM) (N := 77) hx hb hts i_MM hown hK hP 0 rfl rfl 8 (by decide) (hts _ kw_1390) (fun _ h9 => h9) rfl d_rread_303 ?_
        refine lv_aload_n hx hb d_rread_306 rfl (lv_at hl 1 rfl) ?_
        refine va_get (D := D) (ci := 12) (v := .ref (md 59)) (C := R_MM) (T := F_MM) (N := 77) hx hb hts i_MM hown hK hP 0 rfl rfl 59 (by decide) (hts _ kw_1441) (fun _ h9 => h9) rfl d_rread_307 ?_
        refine lv_aload_n hx hb d_rread_310 rfl (lv_at hl 1 rfl) ?_
        refine va_get (D := D) (ci := 12) (v := .ref (md 54)) (C := R_MM) (T := F_MM) (N := 77) hx hb hts i_MM hown hK hP 0 rfl rfl 54 (by decide) (hts _ kw_1436) (fun _ h9 => h9) rfl d_rread_311 ?_
        refine lv_iload hx hb d_rread_314 (lv_at hl 4 rfl) ?_
        obtain ⟨hi_23, Heq⟩ := gd_some Heq
        refine va_iald hx hb hK hP 36 0 rfl rfl (i := x6) hi_23 d_rread_316 ?_
        refine w_i (y := S.a 54 x6.toNatClampNeg) rfl ?_
        obtain ⟨hi_24, Heq⟩ := gd_some Heq
        refine va_iald hx hb hK hP 41 0 rfl rfl (i := S.a 54 x6.toNatClampNeg) hi_24 d_rread_317 ?_
        refine w_i (y := S.a 59 ((S.a 54 x6.toNatClampNeg).toNatClampNeg)) rfl ?_
        obtain ⟨hi_25, Heq⟩ := gd_some Heq
        refine va_iald hx hb hK hP 4 0 rfl rfl (i := S.a 59 ((S.a 54 x6.toNatClampNeg).toNatClampNeg)) hi_25 d_rread_318 ?_
        refine w_i (y := S.a 8 ((S.a 59 ((S.a 54 x6.toNatClampNeg).toNatClampNeg)).toNatClampNeg)) rfl ?_
        refine lv_aload_n hx hb d_rread_319 rfl (lv_at hl 1 rfl) ?_
        refine va_get (D := D) (ci := 12) (v := .ref (md 62)) (C := R_MM) (T := F_MM) (N := 77) hx hb hts i_MM hown hK hP 0 rfl rfl 62 (by decide) (hts _ kw_1444) (fun _ h9 => h9) rfl d_rread_320 ?_
        refine lv_aload_n hx hb d_rread_323 rfl (lv_at hl 1 rfl) ?_
        refine va_get (D := D) (ci := 12) (v := .ref (md 55)) (C := R_MM) (T := F_MM) (N := 77) hx hb hts i_MM hown hK hP 0 rfl rfl 55 (by decide) (hts _ kw_1437) (fun _ h9 => h9) rfl d_rread_324 ?_
        refine lv_iload hx hb d_rread_327 (lv_at hl 4 rfl) ?_
        obtain ⟨hi_26, Heq⟩ := gd_some Heq
        refine va_iald hx hb hK hP 37 0 rfl rfl (i := x6) hi_26 d_rread_329 ?_
        refine w_i (y := S.a 55 x6.toNatClampNeg) rfl ?_
        refine lv_aload_n hx hb d_rread_330 rfl (lv_at hl 1 rfl) ?_
        refine va_get (D := D) (ci := 12) (v := .ref (md 56)) (C := R_MM) (T := F_MM) (N := 77) hx hb hts i_MM hown hK hP 0 rfl rfl 56 (by decide) (hts _ kw_1438) (fun _ h9 => h9) rfl d_rread_331 ?_
        refine lv_iload hx hb d_rread_334 (lv_at hl 4 rfl) ?_
        obtain ⟨hi_27, Heq⟩ := gd_some Heq
        refine va_iald hx hb hK hP 38 0 rfl rfl (i := x6) hi_27 d_rread_336 ?_
        refine w_i (y := S.a 56 x6.toNatClampNeg) rfl ?_
        refine lv_iload hx hb d_rread_337 (lv_at hl 0 rfl) ?_
        refine lv_aload_n hx hb d_rread_339 rfl (lv_at hl 1 rfl) ?_
        refine va_get (D := D) (ci := 12) (v := .ref (md 61)) (C := R_MM) (T := F_MM) (N := 77) hx hb hts i_MM hown hK hP 0 rfl rfl 61 (by decide) (hts _ kw_1443) (fun _ h9 => h9) rfl d_rread_340 ?_
        refine lv_iload hx hb d_rread_343 (lv_at hl 4 rfl) ?_
        obtain ⟨hi_28, Heq⟩ := gd_some Heq
        refine va_lald hx hb hK hP 43 3 rfl rfl (i := x6) hi_28 d_rread_345 ?_
        refine w_l (y := S.n 61 x6.toNatClampNeg) rfl ?_
        refine lv_aload_n hx hb d_rread_346 rfl (lv_at hl 1 rfl) ?_
        refine va_get (D := D) (ci := 12) (v := .ref (md 62)) (C := R_MM) (T := F_MM) (N := 77) hx hb hts i_MM hown hK hP 0 rfl rfl 62 (by decide) (hts _ kw_1444) (fun _ h9 => h9) rfl d_rread_347 ?_
        refine lv_aload_n hx hb d_rread_350 rfl (lv_at hl 1 rfl) ?_
        refine va_get (D := D) (ci := 12) (v := .ref (md 57)) (C := R_MM) (T := F_MM) (N := 77) hx hb hts i_MM hown hK hP 0 rfl rfl 57 (by decide) (hts _ kw_1439) (fun _ h9 => h9) rfl d_rread_351 ?_
        refine lv_iload hx hb d_rread_354 (lv_at hl 4 rfl) ?_
        obtain ⟨hi_29, Heq⟩ := gd_some Heq
        refine va_iald hx hb hK hP 39 0 rfl rfl (i := x6) hi_29 d_rread_356 ?_
        refine w_i (y := S.a 57 x6.toNatClampNeg) rfl ?_
        refine lv_aload_n hx hb d_rread_357 rfl (lv_at hl 1 rfl) ?_
        refine va_get (D := D) (ci := 12) (v := .ref (md 58)) (C := R_MM) (T := F_MM) (N := 77) hx hb hts i_MM hown hK hP 0 rfl rfl 58 (by decide) (hts _ kw_1440) (fun _ h9 => h9) rfl d_rread_358 ?_
        refine lv_iload hx hb d_rread_361 (lv_at hl 4 rfl) ?_
        obtain ⟨hi_30, Heq⟩ := gd_some Heq
        refine va_iald hx hb hK hP 40 0 rfl rfl (i := x6) hi_30 d_rread_363 ?_
        refine w_i (y := S.a 58 x6.toNatClampNeg) rfl ?_
        obtain ⟨o_31, h_32, Heq⟩ := ob_some Heq
        have hFc := fr_all hD hS hA
        refine va_calli (va_runV (As := [.int x1, .int (S.a 8 ((S.a 59 ((S.a 54 x6.toNatClampNeg).toNatClampNeg)).toNatClampNeg)), .ref (md 62), .int (S.a 55 x6.toNatClampNeg), .int (S.a 56 x6.toNatClampNeg), .int (S.a 53 x6.toNatClampNeg), .long (S.n 61 x6.toNatClampNeg), .ref (md 62), .int (S.a 57 x6.toNatClampNeg), .int (S.a 58 x6.toNatClampNeg)]) (rest := [.int x6, .ref (md 59)]) ⟨hx, hb, hml, hown, hts⟩ (g_rsetKey l D H.size h_32) (cw_v 10 hts kw_1664 kw_1661 kw_1663 kp_35 kw_11 rfl rfl (by decide +kernel) ⟨Nat.le_of_ble_eq_true rfl, Nat.le_of_ble_eq_true rfl⟩) ⟨g_blind, va_recv hK hP (ci := 12) (q0 := 0) rfl rfl, fun U hU hW => g_pre hU hW hP hK hD⟩ rfl rfl hl.1 rfl (lv_room (Nat.le_of_ble_eq_true rfl)) d_rread_364 ⟨Nat.le_of_ble_eq_true rfl, Nat.le_of_ble_eq_true rfl⟩) hS (fun q _ h => hFc q h) hFc (fun rz u t H1 locs ht hvm hw hB hz1 hk1 hS => ?_)
        obtain ⟨hP, -, hD1⟩ := hB
        rw [ht] at hP
        have hD := hD1.weaken (fun _ q _ h => hFc q.1 h)
        generalize H1 = H at hP hS ⊢
        refine W.cs (cells' := 0) (slots' := 0) rfl rfl ?_
        subst hw
        obtain ⟨hi_33, Heq⟩ := gd_some Heq
        refine va_iast hx hb hK hP hD hS 41 0 rfl rfl (i := x6) (x := o_31.2) hi_33 d_rread_367 (fun H locs hP hD hS => ?_)
        rw [mw_A59] at hP hD
        refine lv_goto (tgt := 463) hx hb d_rread_368 (by decide) ?_
        exact w_rread_J463 hC Heq Ka K0 _ _ _ hP hD hS (lv_sub hl [1, 2, 3, 4] rfl)
    · replace Heq := (if_pos c_4).symm.trans Heq
      refine lv_aload_n hx hb d_rread_225 rfl (lv_at hl 1 rfl) ?_
      refine va_get (D := D) (ci := 12) (v := .ref (md 59)) (C := R_MM) (T := F_MM) (N := 77) hx hb hts i_MM hown hK hP 0 rfl rfl 59 (by decide) (hts _ kw_1441) (fun _ h9 => h9) rfl d_rread_226 ?_
      refine lv_iload hx hb d_rread_229 (lv_at hl 4 rfl) ?_
      refine lv_aload_n hx hb d_rread_231 rfl (lv_at hl 1 rfl) ?_
      refine lv_iload_n hx hb d_rread_232 rfl (lv_at hl 2 rfl) ?_
      refine lv_iload_n hx hb d_rread_233 rfl (lv_at hl 3 rfl) ?_
      refine lv_aload_n hx hb d_rread_234 rfl (lv_at hl 1 rfl) ?_
      refine va_get (D := D) (ci := 12) (v := .ref (md 2)) (C := R_MM) (T := F_MM) (N := 77) hx hb hts i_MM hown hK hP 0 rfl rfl 2 (by decide) (hts _ kw_1384) (fun _ h9 => h9) rfl d_rread_235 ?_
      refine lv_iconst (v := 0) hx hb d_rread_238 (by decide) ?_
      refine lv_aload_n hx hb d_rread_239 rfl (lv_at hl 1 rfl) ?_
      refine va_get (D := D) (ci := 12) (v := .int (S.i 5)) (C := R_MM) (T := F_MM) (N := 77) hx hb hts i_MM hown hK hP 0 rfl rfl 5 (by decide) (hts _ kw_1387) (fun _ h9 => h9) rfl d_rread_240 ?_
      refine lv_iload hx hb d_rread_243 (lv_at hl 0 rfl) ?_
      refine lv_aload_n hx hb d_rread_245 rfl (lv_at hl 1 rfl) ?_
      refine va_get (D := D) (ci := 12) (v := .ref (md 61)) (C := R_MM) (T := F_MM) (N := 77) hx hb hts i_MM hown hK hP 0 rfl rfl 61 (by decide) (hts _ kw_1443) (fun _ h9 => h9) rfl d_rread_246 ?_
      refine lv_iload hx hb d_rread_249 (lv_at hl 4 rfl) ?_
      obtain ⟨hi_34, Heq⟩ := gd_some Heq
      refine va_lald hx hb hK hP 43 3 rfl rfl (i := x6) hi_34 d_rread_251 ?_
      refine w_l (y := S.n 61 x6.toNatClampNeg) rfl ?_
      refine lv_aload_n hx hb d_rread_252 rfl (lv_at hl 1 rfl) ?_
      refine va_get (D := D) (ci := 12) (v := .ref (md 62)) (C := R_MM) (T := F_MM) (N := 77) hx hb hts i_MM hown hK hP 0 rfl rfl 62 (by decide) (hts _ kw_1444) (fun _ h9 => h9) rfl d_rread_253 ?_
      refine lv_aload_n hx hb d_rread_256 rfl (lv_at hl 1 rfl) ?_
      refine va_get (D := D) (ci := 12) (v := .ref (md 57)) (C := R_MM) (T := F_MM) (N := 77) hx hb hts i_MM hown hK hP 0 rfl rfl 57 (by decide) (hts _ kw_1439) (fun _ h9 => h9) rfl d_rread_257 ?_
      refine lv_iload hx hb d_rread_260 (lv_at hl 4 rfl) ?_
      obtain ⟨hi_35, Heq⟩ := gd_some Heq
      refine va_iald hx hb hK hP 39 0 rfl rfl (i := x6) hi_35 d_rread_262 ?_
      refine w_i (y := S.a 57 x6.toNatClampNeg) rfl ?_
      refine lv_aload_n hx hb d_rread_263 rfl (lv_at hl 1 rfl) ?_
      refine va_get (D := D) (ci := 12) (v := .ref (md 58)) (C := R_MM) (T := F_MM) (N := 77) hx hb hts i_MM hown hK hP 0 rfl rfl 58 (by decide) (hts _ kw_1440) (fun _ h9 => h9) rfl d_rread_264 ?_
      refine lv_iload hx hb d_rread_267 (lv_at hl 4 rfl) ?_
      obtain ⟨hi_36, Heq⟩ := gd_some Heq
      refine va_iald hx hb hK hP 40 0 rfl rfl (i := x6) hi_36 d_rread_269 ?_
      refine w_i (y := S.a 58 x6.toNatClampNeg) rfl ?_
      obtain ⟨o_37, h_38, Heq⟩ := ob_some Heq
      have hFc := fr_all hD hS hA
      refine va_calli (va_runV (As := [.int x1, .int x2, .ref (md 2), .int 0, .int (S.i 5), .int (S.a 53 x6.toNatClampNeg), .long (S.n 61 x6.toNatClampNeg), .ref (md 62), .int (S.a 57 x6.toNatClampNeg), .int (S.a 58 x6.toNatClampNeg)]) (rest := [.int x6, .ref (md 59)]) ⟨hx, hb, hml, hown, hts⟩ (g_rsetKey l D H.size h_38) (cw_v 10 hts kw_1664 kw_1661 kw_1663 kp_35 kw_11 rfl rfl (by decide +kernel) ⟨Nat.le_of_ble_eq_true rfl, Nat.le_of_ble_eq_true rfl⟩) ⟨g_blind, va_recv hK hP (ci := 12) (q0 := 0) rfl rfl, fun U hU hW => g_pre hU hW hP hK hD⟩ rfl rfl hl.1 rfl (lv_room (Nat.le_of_ble_eq_true rfl)) d_rread_270 ⟨Nat.le_of_ble_eq_true rfl, Nat.le_of_ble_eq_true rfl⟩) hS (fun q _ h => hFc q h) hFc (fun rz u t H1 locs ht hvm hw hB hz1 hk1 hS => ?_)
      obtain ⟨hP, -, hD1⟩ := hB
      rw [ht] at hP
      have hD := hD1.weaken (fun _ q _ h => hFc q.1 h)
      generalize H1 = H at hP hS ⊢
      refine W.cs (cells' := 0) (slots' := 0) rfl rfl ?_
      subst hw
      obtain ⟨hi_39, Heq⟩ := gd_some Heq
      refine va_iast hx hb hK hP hD hS 41 0 rfl rfl (i := x6) (x := o_37.2) hi_39 d_rread_273 (fun H locs hP hD hS => ?_)
      rw [mw_A59] at hP hD
      refine lv_goto (tgt := 463) hx hb d_rread_274 (by decide) ?_
      exact w_rread_J463 hC Heq Ka K0 _ _ _ hP hD hS (lv_sub hl [1, 2, 3, 4] rfl)
def m_rread_L194 (S : MS) (x1 : Int32) (x2 : Int32) (x6 : Int32) : Option MS := lp (fun a : MS × Int32 × Int32 × Int32 => m_rread_B194 a.1 a.2.1 a.2.2.1 a.2.2.2) FU (S, x1, x2, x6)
theorem w_rread_L194 {p : Program} {l : Launch} {e : Env} {s : State} {m : MethodId} {args : Array Value} {below : List Frame} {meth : Method} {c : Code} {A : Nat → Prop} {D : va_G} {md : Nat → Nat} {mc : Nat → ClassId} {Q : State → Prop} {sad sav : Nat → Nat} (hC : MCs sad sav "JoinedTreesModel" prog_14_method_49_code 8 (some .int) p s m args meth c A D mc) {S : MS} {x1 : Int32} {x2 : Int32} {x6 : Int32} {o : MS} (Heq : m_rread_L194 S x1 x2 x6 = some o) (K0 : ∀ b : MS, o = b → ∀ (H : Heap) (locs : List Loc) (ls : Array Slot), va_P D cls (mw md mc b) H → va_D A (mw md mc b) → va_S A s.heap H locs → lv_has ls 8 [(0, .ref (md 100))] → W p l e ({ frames := 8, cells := 0, slots := 0, locals := 202 }) s m args below meth c H locs 0 0 Q (F0 m 469 ls [])) : ∀ (H : Heap) (locs : List Loc) (ls : Array Slot), va_P D cls (mw md mc S) H → va_D A (mw md mc S) → va_S A s.heap H locs → lv_has ls 8 [(0, .ref (md 100)), (1, .int x1), (2, .int x2), (6, .int x6)] → W p l e ({ frames := 8, cells := 0, slots := 0, locals := 202 }) s m args below meth c H locs 0 0 Q (F0 m 194 ls []) := by
  refine lp_w (G := fun a : MS × Int32 × Int32 × Int32 => ∀ (H : Heap) (locs : List Loc) (ls : Array Slot), va_P D cls (mw md mc a.1) H → va_D A (mw md mc a.1) → va_S A s.heap H locs → lv_has ls 8 [(0, .ref (md 100)), (1, .int a.2.1), (2, .int a.2.2.1), (6, .int a.2.2.2)] → W p l e ({ frames := 8, cells := 0, slots := 0, locals := 202 }) s m args below meth c H locs 0 0 Q (F0 m 194 ls [])) ?_ FU (S, x1, x2, x6) Heq
  intro a o1 ho Ka Ke
  exact w_rread_B194 hC ho (fun b h => Ka b h) (fun b h => K0 b (Ke _ h).symm)
def m_rread_J0 (S : MS) (x1 : Int32) (x2 : Int32) : Option (MS × Int32) := ob (m_rtaken S) (fun o_1 => ob (m_risReplica o_1.1 x1) (fun o_3 => (if o_3.2 = 0 then m_rread_J27 o_3.1 else (if o_1.2 = 2 then ob (m_risKey o_3.1 (o_3.1.i 5)) (fun o_7 => (if o_7.2 = 0 then m_rread_J27 o_7.1 else ob (m_rjson o_7.1) (fun o_10 => (if o_10.2 = 0 then ob (m_rno (o_10.1.setI 42 (o_10.1.i 66)) 1) (fun o_34 => some (o_34.1, o_34.2)) else ob (m_rkindOf o_10.1 x1 x2) (fun o_13 => (if o_13.2 = 7 then m_rread_J76 o_13.1 else (if o_13.2 = 8 then m_rread_J76 o_13.1 else (if 0 ≤ o_13.2 then gd x1 8 ((if o_13.1.a 39 x1.toNatClampNeg < 0 then ob (m_rread_L117 o_13.1 x1 x2 (o_13.1.i 5) 0) (fun b_20 => ob (m_rfull b_20.1 (b_20.1.i 64) b_20.2.2.2) (fun o_22 => (if o_22.2 = 0 then ob (m_rread_L194 (o_22.1.setI 0 0) b_20.2.1 b_20.2.2.1 0) (fun b_25 => gd (b_25.a 59 ((0 : Int32).toNatClampNeg)) 4000 (some (b_25, b_25.a 8 ((b_25.a 59 ((0 : Int32).toNatClampNeg)).toNatClampNeg)))) else ob (m_rno o_22.1 4) (fun o_28 => some (o_28.1, o_28.2))))) else ob (m_rno o_13.1 2) (fun o_30 => some (o_30.1, o_30.2)))) else ob (m_rno o_13.1 3) (fun o_32 => some (o_32.1, o_32.2)))))))))) else m_rread_J27 o_3.1))))
theorem d_rread_469 : decode prog_14_method_49_code 469 = .ok (.aload_n 0, 1) := by decide +kernel
theorem d_rread_470 : decode prog_14_method_49_code 470 = .ok (.getfield 19, 3) := by decide +kernel
theorem d_rread_473 : decode prog_14_method_49_code 473 = .ok (.aload_n 0, 1) := by decide +kernel
theorem d_rread_474 : decode prog_14_method_49_code 474 = .ok (.getfield 151, 3) := by decide +kernel
theorem d_rread_477 : decode prog_14_method_49_code 477 = .ok (.iconst 0, 1) := by decide +kernel
theorem d_rread_478 : decode prog_14_method_49_code 478 = .ok (.iaload, 1) := by decide +kernel
theorem d_rread_479 : decode prog_14_method_49_code 479 = .ok (.iaload, 1) := by decide +kernel
theorem d_rread_480 : decode prog_14_method_49_code 480 = .ok (.ireturn, 1) := by decide +kernel
theorem d_rread_180 : decode prog_14_method_49_code 180 = .ok (.aload_n 0, 1) := by decide +kernel
theorem d_rread_181 : decode prog_14_method_49_code 181 = .ok (.iconst 4, 1) := by decide +kernel
theorem d_rread_182 : decode prog_14_method_49_code 182 = .ok (.invokevirtual 191, 3) := by decide +kernel
theorem d_rread_185 : decode prog_14_method_49_code 185 = .ok (.ireturn, 1) := by decide +kernel
theorem d_rread_102 : decode prog_14_method_49_code 102 = .ok (.aload_n 0, 1) := by decide +kernel
theorem d_rread_103 : decode prog_14_method_49_code 103 = .ok (.iconst 2, 1) := by decide +kernel
theorem d_rread_104 : decode prog_14_method_49_code 104 = .ok (.invokevirtual 191, 3) := by decide +kernel
theorem d_rread_107 : decode prog_14_method_49_code 107 = .ok (.ireturn, 1) := by decide +kernel
theorem d_rread_87 : decode prog_14_method_49_code 87 = .ok (.aload_n 0, 1) := by decide +kernel
theorem d_rread_88 : decode prog_14_method_49_code 88 = .ok (.iconst 3, 1) := by decide +kernel
theorem d_rread_89 : decode prog_14_method_49_code 89 = .ok (.invokevirtual 191, 3) := by decide +kernel
theorem d_rread_92 : decode prog_14_method_49_code 92 = .ok (.ireturn, 1) := by decide +kernel
theorem d_rread_40 : decode prog_14_method_49_code 40 = .ok (.aload_n 0, 1) := by decide +kernel
theorem d_rread_41 : decode prog_14_method_49_code 41 = .ok (.aload_n 0, 1) := by decide +kernel
theorem d_rread_42 : decode prog_14_method_49_code 42 = .ok (.getfield 313, 3) := by decide +kernel
theorem d_rread_45 : decode prog_14_method_49_code 45 = .ok (.putfield 111, 3) := by decide +kernel
theorem d_rread_48 : decode prog_14_method_49_code 48 = .ok (.aload_n 0, 1) := by decide +kernel
theorem d_rread_49 : decode prog_14_method_49_code 49 = .ok (.iconst 1, 1) := by decide +kernel
theorem d_rread_50 : decode prog_14_method_49_code 50 = .ok (.invokevirtual 191, 3) := by decide +kernel
theorem d_rread_53 : decode prog_14_method_49_code 53 = .ok (.ireturn, 1) := by decide +kernel
set_option maxHeartbeats 4000000 in
set_option maxRecDepth 100000 in
theorem w_rread_J0 {p : Program} {l : Launch} {e : Env} {s : State} {m : MethodId} {args : Array Value} {below : List Frame} {meth : Method} {c : Code} {A : Nat → Prop} {D : va_G} {md : Nat → Nat} {mc : Nat → ClassId} {Q : State → Prop} {sad sav : Nat → Nat} (hC : MCs sad sav "JoinedTreesModel" prog_14_method_49_code 8 (some .int) p s m args meth c A D mc) {S : MS} {x1 : Int32} {x2 : Int32} {o : MS × Int32} (Heq : m_rread_J0 S x1 x2 = some o) (Kr : ∀ r : MS × Int32, o = r → ∀ (pc : Nat) (H : Heap) (locs : List Loc) (ls : Array Slot), decode prog_14_method_49_code pc = .ok (.ireturn, 1) → va_P D cls (mw md mc r.1) H → va_D A (mw md mc r.1) → va_S A s.heap H locs → W p l e ({ frames := 8, cells := 0, slots := 0, locals := 202 }) s m args below meth c H locs 0 0 Q (F0 m pc ls [.int r.2])) : ∀ (H : Heap) (locs : List Loc) (ls : Array Slot), va_P D cls (mw md mc S) H → va_D A (mw md mc S) → va_S A s.heap H locs → lv_has ls 8 [(0, .ref (md 100)), (1, .int x1), (2, .int x2)] → W p l e ({ frames := 8, cells := 0, slots := 0, locals := 202 }) s m args below meth c H locs 0 0 Q (F0 m 0 ls []) := by
  intro H locs ls hP hD hS hl
  obtain ⟨⟨hx, hb, hr, hml, hown, hts, hK, hA⟩, hE⟩ := id hC
  unfold m_rread_J0 at Heq
  refine lv_aload_n hx hb d_rread_0 rfl (lv_at hl 0 rfl) ?_
  obtain ⟨o_1, h_2, Heq⟩ := ob_some Heq
  have hFc := fr_all hD hS hA
  refine va_calli (va_runV (As := []) (rest := []) ⟨hx, hb, hml, hown, hts⟩ (g_rtaken l D H.size h_2) (cw_v 0 hts kw_1638 kw_1635 kw_1637 kp_30 kw_11 rfl rfl (by decide +kernel) ⟨Nat.le_of_ble_eq_true rfl, Nat.le_of_ble_eq_true rfl⟩) ⟨g_blind, va_recv hK hP (ci := 12) (q0 := 0) rfl rfl, fun U hU hW => g_pre hU hW hP hK hD⟩ rfl rfl hl.1 rfl (lv_room (Nat.le_of_ble_eq_true rfl)) d_rread_1 ⟨Nat.le_of_ble_eq_true rfl, Nat.le_of_ble_eq_true rfl⟩) hS (fun q _ h => hFc q h) hFc (fun rz u t H1 locs ht hvm hw hB hz1 hk1 hS => ?_)
  obtain ⟨hP, -, hD1⟩ := hB
  rw [ht] at hP
  have hD := hD1.weaken (fun _ q _ h => hFc q.1 h)
  generalize H1 = H at hP hS ⊢
  refine W.cs (cells' := 0) (slots' := 0) rfl rfl ?_
  subst hw
  refine lv_istore_n (lv' := [(3, .int o_1.2), (0, .ref (md 100)), (1, .int x1), (2, .int x2)]) hx hb d_rread_4 rfl hl (by decide) rfl (fun ls hl => ?_)
  refine lv_iload_n hx hb d_rread_5 rfl (lv_at hl 2 rfl) ?_
  obtain ⟨o_3, h_4, Heq⟩ := ob_some Heq
  have hFc := fr_all hD hS hA
  refine va_calli (va_runS (As := [.int x1]) (rest := []) ⟨hx, hb, hml, hown, hts⟩ (g_risReplica l D H.size h_4) (cw_s 1 hts kw_1641 kw_1639 kw_1640 kw_11 rfl rfl (by decide +kernel) ⟨Nat.le_of_ble_eq_true rfl, Nat.le_of_ble_eq_true rfl⟩) ⟨g_blind, fun U hU hW => g_pre hU hW hP hK hD⟩ rfl rfl hl.1 rfl (lv_room (Nat.le_of_ble_eq_true rfl)) d_rread_6 ⟨Nat.le_of_ble_eq_true rfl, Nat.le_of_ble_eq_true rfl⟩) hS (fun q _ h => hFc q h) hFc (fun rz u t H1 locs ht hvm hw hB hz1 hk1 hS => ?_)
  obtain ⟨hP, -, hD1⟩ := hB
  rw [ht] at hP
  have hD := hD1.weaken (fun _ q _ h => hFc q.1 h)
  generalize H1 = H at hP hS ⊢
  refine W.cs (cells' := 0) (slots' := 0) rfl rfl ?_
  subst hw
  refine lv_if_eq (tgt := 27) hx hb d_rread_9 (by decide) (fun c_5 => ?_) (fun c_5 => ?_)
  · replace Heq := (if_pos c_5).symm.trans Heq
    exact w_rread_J27 hC Heq Kr _ _ _ hP hD hS (lv_sub hl [1] rfl)
  · replace Heq := (if_neg c_5).symm.trans Heq
    refine lv_iload_n hx hb d_rread_12 rfl (lv_at hl 0 rfl) ?_
    refine lv_iconst (v := 2) hx hb d_rread_13 (by decide) ?_
    refine lv_icmp_ne (tgt := 27) hx hb d_rread_14 (by decide) (fun c_6 => ?_) (fun c_6 => ?_)
    · replace Heq := (if_neg c_6).symm.trans Heq
      exact w_rread_J27 hC Heq Kr _ _ _ hP hD hS (lv_sub hl [1] rfl)
    · replace Heq := (if_pos c_6).symm.trans Heq
      refine lv_aload_n hx hb d_rread_17 rfl (lv_at hl 1 rfl) ?_
      refine va_get (D := D) (ci := 12) (v := .int (o_3.1.i 5)) (C := R_MM) (T := F_MM) (N := 77) hx hb hts i_MM hown hK hP 0 rfl rfl 5 (by decide) (hts _ kw_1387) (fun _ h9 => h9) rfl d_rread_18 ?_
      obtain ⟨o_7, h_8, Heq⟩ := ob_some Heq
      have hFc := fr_all hD hS hA
      refine va_calli (va_runS (As := [.int (o_3.1.i 5)]) (rest := []) ⟨hx, hb, hml, hown, hts⟩ (g_risKey l D H.size h_8) (cw_s 1 hts kw_1644 kw_1642 kw_1643 kw_11 rfl rfl (by decide +kernel) ⟨Nat.le_of_ble_eq_true rfl, Nat.le_of_ble_eq_true rfl⟩) ⟨g_blind, fun U hU hW => g_pre hU hW hP hK hD⟩ rfl rfl hl.1 rfl (lv_room (Nat.le_of_ble_eq_true rfl)) d_rread_21 ⟨Nat.le_of_ble_eq_true rfl, Nat.le_of_ble_eq_true rfl⟩) hS (fun q _ h => hFc q h) hFc (fun rz u t H1 locs ht hvm hw hB hz1 hk1 hS => ?_)
      obtain ⟨hP, -, hD1⟩ := hB
      rw [ht] at hP
      have hD := hD1.weaken (fun _ q _ h => hFc q.1 h)
      generalize H1 = H at hP hS ⊢
      refine W.cs (cells' := 0) (slots' := 0) rfl rfl ?_
      subst hw
      refine lv_if_ne (tgt := 33) hx hb d_rread_24 (by decide) (fun c_9 => ?_) (fun c_9 => ?_)
      · replace Heq := (if_neg c_9).symm.trans Heq
        refine lv_aload_n hx hb d_rread_33 rfl (lv_at hl 1 rfl) ?_
        obtain ⟨o_10, h_11, Heq⟩ := ob_some Heq
        have hFc := fr_all hD hS hA
        refine va_calli (va_runV (As := []) (rest := []) ⟨hx, hb, hml, hown, hts⟩ (g_rjson l D H.size (sad := sad) (sav := sav) h_11) (cw_v 0 hts kw_1765 kw_1762 kw_1764 kp_54 kw_11 rfl rfl (by decide +kernel) ⟨Nat.le_of_ble_eq_true rfl, Nat.le_of_ble_eq_true rfl⟩) ⟨gs_blind, va_recv hK hP (ci := 12) (q0 := 0) rfl rfl, fun U hU hW => gs_pre hU hW hP hK hD hE hS hFc⟩ rfl rfl hl.1 rfl (lv_room (Nat.le_of_ble_eq_true rfl)) d_rread_34 ⟨Nat.le_of_ble_eq_true rfl, Nat.le_of_ble_eq_true rfl⟩) hS (fun q _ h => hFc q h) hFc (fun rz u t H1 locs ht hvm hw hB hz1 hk1 hS => ?_)
        obtain ⟨hP, -, hD1⟩ := hB
        rw [ht] at hP
        have hD := hD1.weaken (fun _ q _ h => hFc q.1 h)
        generalize H1 = H at hP hS ⊢
        refine W.cs (cells' := 0) (slots' := 0) rfl rfl ?_
        subst hw
        refine lv_if_ne (tgt := 54) hx hb d_rread_37 (by decide) (fun c_12 => ?_) (fun c_12 => ?_)
        · replace Heq := (if_neg c_12).symm.trans Heq
          refine lv_aload_n hx hb d_rread_54 rfl (lv_at hl 1 rfl) ?_
          refine lv_iload_n hx hb d_rread_55 rfl (lv_at hl 2 rfl) ?_
          refine lv_iload_n hx hb d_rread_56 rfl (lv_at hl 3 rfl) ?_
          obtain ⟨o_13, h_14, Heq⟩ := ob_some Heq
          have hFc := fr_all hD hS hA
          refine va_calli (va_runV (As := [.int x1, .int x2]) (rest := []) ⟨hx, hb, hml, hown, hts⟩ (g_rkindOf l D H.size h_14) (cw_v 2 hts kw_1648 kw_1645 kw_1647 kp_31 kw_11 rfl rfl (by decide +kernel) ⟨Nat.le_of_ble_eq_true rfl, Nat.le_of_ble_eq_true rfl⟩) ⟨g_blind, va_recv hK hP (ci := 12) (q0 := 0) rfl rfl, fun U hU hW => g_pre hU hW hP hK hD⟩ rfl rfl hl.1 rfl (lv_room (Nat.le_of_ble_eq_true rfl)) d_rread_57 ⟨Nat.le_of_ble_eq_true rfl, Nat.le_of_ble_eq_true rfl⟩) hS (fun q _ h => hFc q h) hFc (fun rz u t H1 locs ht hvm hw hB hz1 hk1 hS => ?_)
          obtain ⟨hP, -, hD1⟩ := hB
          rw [ht] at hP
          have hD := hD1.weaken (fun _ q _ h => hFc q.1 h)
          generalize H1 = H at hP hS ⊢
          refine W.cs (cells' := 0) (slots' := 0) rfl rfl ?_
          subst hw
          refine lv_istore (lv' := [(4, .int o_13.2), (3, .int o_1.2), (0, .ref (md 100)), (1, .int x1), (2, .int x2)]) hx hb d_rread_60 hl (by decide) rfl (fun ls hl => ?_)
          refine lv_iload hx hb d_rread_62 (lv_at hl 0 rfl) ?_
          refine lv_bipush (v := 7) hx hb d_rread_64 (by decide) ?_
          refine lv_icmp_eq (tgt := 76) hx hb d_rread_66 (by decide) (fun c_15 => ?_) (fun c_15 => ?_)
          · replace Heq := (if_pos c_15).symm.trans Heq
            exact w_rread_J76 hC Heq Kr _ _ _ hP hD hS (lv_sub hl [2] rfl)
          · replace Heq := (if_neg c_15).symm.trans Heq
            refine lv_iload hx hb d_rread_69 (lv_at hl 0 rfl) ?_
            refine lv_bipush (v := 8) hx hb d_rread_71 (by decide) ?_
            refine lv_icmp_ne (tgt := 82) hx hb d_rread_73 (by decide) (fun c_16 => ?_) (fun c_16 => ?_)
            · replace Heq := (if_neg c_16).symm.trans Heq
              refine lv_iload hx hb d_rread_82 (lv_at hl 0 rfl) ?_
              refine lv_if_ge (tgt := 93) hx hb d_rread_84 (by decide) (fun c_17 => ?_) (fun c_17 => ?_)
              · replace Heq := (if_pos c_17).symm.trans Heq
                refine lv_aload_n hx hb d_rread_93 rfl (lv_at hl 2 rfl) ?_
                refine va_get (D := D) (ci := 12) (v := .ref (md 39)) (C := R_MM) (T := F_MM) (N := 77) hx hb hts i_MM hown hK hP 0 rfl rfl 39 (by decide) (hts _ kw_1421) (fun _ h9 => h9) rfl d_rread_94 ?_
                refine lv_iload_n hx hb d_rread_97 rfl (lv_at hl 3 rfl) ?_
                obtain ⟨hi_18, Heq⟩ := gd_some Heq
                refine va_iald hx hb hK hP 27 0 rfl rfl (i := x1) hi_18 d_rread_98 ?_
                refine w_i (y := o_13.1.a 39 x1.toNatClampNeg) rfl ?_
                refine lv_if_lt (tgt := 108) hx hb d_rread_99 (by decide) (fun c_19 => ?_) (fun c_19 => ?_)
                · replace Heq := (if_pos c_19).symm.trans Heq
                  refine lv_aload_n hx hb d_rread_108 rfl (lv_at hl 2 rfl) ?_
                  refine va_get (D := D) (ci := 12) (v := .int (o_13.1.i 5)) (C := R_MM) (T := F_MM) (N := 77) hx hb hts i_MM hown hK hP 0 rfl rfl 5 (by decide) (hts _ kw_1387) (fun _ h9 => h9) rfl d_rread_109 ?_
                  refine lv_istore (lv' := [(5, .int (o_13.1.i 5)), (4, .int o_13.2), (3, .int o_1.2), (0, .ref (md 100)), (1, .int x1), (2, .int x2)]) hx hb d_rread_112 hl (by decide) rfl (fun ls hl => ?_)
                  refine lv_iconst (v := 0) hx hb d_rread_114 (by decide) ?_
                  refine lv_istore (lv' := [(6, .int 0), (5, .int (o_13.1.i 5)), (4, .int o_13.2), (3, .int o_1.2), (0, .ref (md 100)), (1, .int x1), (2, .int x2)]) hx hb d_rread_115 hl (by decide) rfl (fun ls hl => ?_)
                  obtain ⟨b_20, h_21, Heq⟩ := ob_some Heq
                  refine w_rread_L117 hC h_21 (fun b h => ?_) _ _ _ hP hD hS (lv_sub hl [4, 5, 6, 1, 0] rfl)
                  subst h
                  intro H locs ls hP hD hS hl
                  refine lv_aload_n hx hb d_rread_167 rfl (lv_at hl 0 rfl) ?_
                  refine lv_aload_n hx hb d_rread_168 rfl (lv_at hl 0 rfl) ?_
                  refine va_get (D := D) (ci := 12) (v := .int (b_20.1.i 64)) (C := R_MM) (T := F_MM) (N := 77) hx hb hts i_MM hown hK hP 0 rfl rfl 64 (by decide) (hts _ kw_1446) (fun _ h9 => h9) rfl d_rread_169 ?_
                  refine lv_iload hx hb d_rread_172 (lv_at hl 3 rfl) ?_
                  obtain ⟨o_22, h_23, Heq⟩ := ob_some Heq
                  have hFc := fr_all hD hS hA
                  refine va_calli (va_runV (As := [.int (b_20.1.i 64), .int b_20.2.2.2]) (rest := []) ⟨hx, hb, hml, hown, hts⟩ (g_rfull l D H.size h_23) (cw_v 2 hts kw_1660 kw_1657 kw_1659 kp_34 kw_11 rfl rfl (by decide +kernel) ⟨Nat.le_of_ble_eq_true rfl, Nat.le_of_ble_eq_true rfl⟩) ⟨g_blind, va_recv hK hP (ci := 12) (q0 := 0) rfl rfl, fun U hU hW => g_pre hU hW hP hK hD⟩ rfl rfl hl.1 rfl (lv_room (Nat.le_of_ble_eq_true rfl)) d_rread_174 ⟨Nat.le_of_ble_eq_true rfl, Nat.le_of_ble_eq_true rfl⟩) hS (fun q _ h => hFc q h) hFc (fun rz u t H1 locs ht hvm hw hB hz1 hk1 hS => ?_)
                  obtain ⟨hP, -, hD1⟩ := hB
                  rw [ht] at hP
                  have hD := hD1.weaken (fun _ q _ h => hFc q.1 h)
                  generalize H1 = H at hP hS ⊢
                  refine W.cs (cells' := 0) (slots' := 0) rfl rfl ?_
                  subst hw
                  refine lv_if_eq (tgt := 186) hx hb d_rread_177 (by decide) (fun c_24 => ?_) (fun c_24 => ?_)
                  · replace Heq := (if_pos c_24).symm.trans Heq
                    refine lv_aload_n hx hb d_rread_186 rfl (lv_at hl 0 rfl) ?_
                    refine lv_iconst (v := 0) hx hb d_rread_187 (by decide) ?_
                    refine va_put (D := D) (ci := 12) (v := .int 0) (ty := .int) (C := R_MM) (T := F_MM) (N := 77) hx hb hts i_MM t_MM t_MM_ok n_MM hown hK hP hD hS 0 rfl rfl 0 (by decide) (hts _ kw_1382) (fun _ h9 => h9) rfl (by decide +kernel) rfl rfl (Nat.le_of_ble_eq_true rfl) d_rread_188 (fun H locs hP hD hS => ?_)
                    rw [mw_I0] at hP hD
                    refine lv_iconst (v := 0) hx hb d_rread_191 (by decide) ?_
                    refine lv_istore (lv' := [(6, .int 0), (0, .ref (md 100)), (1, .int b_20.2.1), (2, .int b_20.2.2.1), (5, .int b_20.2.2.2)]) hx hb d_rread_192 hl (by decide) rfl (fun ls hl => ?_)
                    obtain ⟨b_25, h_26, Heq⟩ := ob_some Heq
                    refine w_rread_L194 hC h_26 (fun b h => ?_) _ _ _ hP hD hS (lv_sub hl [1, 2, 3, 0] rfl)
                    subst h
                    intro H locs ls hP hD hS hl
                    refine lv_aload_n hx hb d_rread_469 rfl (lv_at hl 0 rfl) ?_
                    refine va_get (D := D) (ci := 12) (v := .ref (md 8)) (C := R_MM) (T := F_MM) (N := 77) hx hb hts i_MM hown hK hP 0 rfl rfl 8 (by decide) (hts _ kw_1390) (fun _ h9 => h9) rfl d_rread_470 ?_
                    refine lv_aload_n hx hb d_rread_473 rfl (lv_at hl 0 rfl) ?_
                    refine va_get (D := D) (ci := 12) (v := .ref (md 59)) (C := R_MM) (T := F_MM) (N := 77) hx hb hts i_MM hown hK hP 0 rfl rfl 59 (by decide) (hts _ kw_1441) (fun _ h9 => h9) rfl d_rread_474 ?_
                    refine lv_iconst (v := 0) hx hb d_rread_477 (by decide) ?_
                    refine va_iald hx hb hK hP 41 0 rfl rfl (i := 0) (vp_in_nI (n := 0) (N := 501) (by decide) (by decide)) d_rread_478 ?_
                    refine w_i (y := b_25.a 59 ((0 : Int32).toNatClampNeg)) rfl ?_
                    obtain ⟨hi_27, Heq⟩ := gd_some Heq
                    refine va_iald hx hb hK hP 4 0 rfl rfl (i := b_25.a 59 ((0 : Int32).toNatClampNeg)) hi_27 d_rread_479 ?_
                    refine w_i (y := b_25.a 8 ((b_25.a 59 ((0 : Int32).toNatClampNeg)).toNatClampNeg)) rfl ?_
                    exact Kr _ (Option.some.inj Heq).symm 480 _ _ _ d_rread_480 hP hD hS
                  · replace Heq := (if_neg c_24).symm.trans Heq
                    refine lv_aload_n hx hb d_rread_180 rfl (lv_at hl 0 rfl) ?_
                    refine lv_iconst (v := 4) hx hb d_rread_181 (by decide) ?_
                    obtain ⟨o_28, h_29, Heq⟩ := ob_some Heq
                    have hFc := fr_all hD hS hA
                    refine va_calli (va_runV (As := [.int 4]) (rest := []) ⟨hx, hb, hml, hown, hts⟩ (g_rno l D H.size h_29) (cw_v 1 hts kw_1626 kw_1623 kw_1625 kp_29 kw_11 rfl rfl (by decide +kernel) ⟨Nat.le_of_ble_eq_true rfl, Nat.le_of_ble_eq_true rfl⟩) ⟨g_blind, va_recv hK hP (ci := 12) (q0 := 0) rfl rfl, fun U hU hW => g_pre hU hW hP hK hD⟩ rfl rfl hl.1 rfl (lv_room (Nat.le_of_ble_eq_true rfl)) d_rread_182 ⟨Nat.le_of_ble_eq_true rfl, Nat.le_of_ble_eq_true rfl⟩) hS (fun q _ h => hFc q h) hFc (fun rz u t H1 locs ht hvm hw hB hz1 hk1 hS => ?_)
                    obtain ⟨hP, -, hD1⟩ := hB
                    rw [ht] at hP
                    have hD := hD1.weaken (fun _ q _ h => hFc q.1 h)
                    generalize H1 = H at hP hS ⊢
                    refine W.cs (cells' := 0) (slots' := 0) rfl rfl ?_
                    subst hw
                    exact Kr _ (Option.some.inj Heq).symm 185 _ _ _ d_rread_185 hP hD hS
                · replace Heq := (if_neg c_19).symm.trans Heq
                  refine lv_aload_n hx hb d_rread_102 rfl (lv_at hl 2 rfl) ?_
                  refine lv_iconst (v := 2) hx hb d_rread_103 (by decide) ?_
                  obtain ⟨o_30, h_31, Heq⟩ := ob_some Heq
                  have hFc := fr_all hD hS hA
                  refine va_calli (va_runV (As := [.int 2]) (rest := []) ⟨hx, hb, hml, hown, hts⟩ (g_rno l D H.size h_31) (cw_v 1 hts kw_1626 kw_1623 kw_1625 kp_29 kw_11 rfl rfl (by decide +kernel) ⟨Nat.le_of_ble_eq_true rfl, Nat.le_of_ble_eq_true rfl⟩) ⟨g_blind, va_recv hK hP (ci := 12) (q0 := 0) rfl rfl, fun U hU hW => g_pre hU hW hP hK hD⟩ rfl rfl hl.1 rfl (lv_room (Nat.le_of_ble_eq_true rfl)) d_rread_104 ⟨Nat.le_of_ble_eq_true rfl, Nat.le_of_ble_eq_true rfl⟩) hS (fun q _ h => hFc q h) hFc (fun rz u t H1 locs ht hvm hw hB hz1 hk1 hS => ?_)
                  obtain ⟨hP, -, hD1⟩ := hB
                  rw [ht] at hP
                  have hD := hD1.weaken (fun _ q _ h => hFc q.1 h)
                  generalize H1 = H at hP hS ⊢
                  refine W.cs (cells' := 0) (slots' := 0) rfl rfl ?_
                  subst hw
                  exact Kr _ (Option.some.inj Heq).symm 107 _ _ _ d_rread_107 hP hD hS
              · replace Heq := (if_neg c_17).symm.trans Heq
                refine lv_aload_n hx hb d_rread_87 rfl (lv_at hl 2 rfl) ?_
                refine lv_iconst (v := 3) hx hb d_rread_88 (by decide) ?_
                obtain ⟨o_32, h_33, Heq⟩ := ob_some Heq
                have hFc := fr_all hD hS hA
                refine va_calli (va_runV (As := [.int 3]) (rest := []) ⟨hx, hb, hml, hown, hts⟩ (g_rno l D H.size h_33) (cw_v 1 hts kw_1626 kw_1623 kw_1625 kp_29 kw_11 rfl rfl (by decide +kernel) ⟨Nat.le_of_ble_eq_true rfl, Nat.le_of_ble_eq_true rfl⟩) ⟨g_blind, va_recv hK hP (ci := 12) (q0 := 0) rfl rfl, fun U hU hW => g_pre hU hW hP hK hD⟩ rfl rfl hl.1 rfl (lv_room (Nat.le_of_ble_eq_true rfl)) d_rread_89 ⟨Nat.le_of_ble_eq_true rfl, Nat.le_of_ble_eq_true rfl⟩) hS (fun q _ h => hFc q h) hFc (fun rz u t H1 locs ht hvm hw hB hz1 hk1 hS => ?_)
                obtain ⟨hP, -, hD1⟩ := hB
                rw [ht] at hP
                have hD := hD1.weaken (fun _ q _ h => hFc q.1 h)
                generalize H1 = H at hP hS ⊢
                refine W.cs (cells' := 0) (slots' := 0) rfl rfl ?_
                subst hw
                exact Kr _ (Option.some.inj Heq).symm 92 _ _ _ d_rread_92 hP hD hS
            · replace Heq := (if_pos c_16).symm.trans Heq
              exact w_rread_J76 hC Heq Kr _ _ _ hP hD hS (lv_sub hl [2] rfl)
        · replace Heq := (if_pos c_12).symm.trans Heq
          refine lv_aload_n hx hb d_rread_40 rfl (lv_at hl 1 rfl) ?_
          refine lv_aload_n hx hb d_rread_41 rfl (lv_at hl 1 rfl) ?_
          refine va_get (D := D) (ci := 12) (v := .int (o_10.1.i 66)) (C := R_MM) (T := F_MM) (N := 77) hx hb hts i_MM hown hK hP 0 rfl rfl 66 (by decide) (hts _ kw_1448) (fun _ h9 => h9) rfl d_rread_42 ?_
          refine va_put (D := D) (ci := 12) (v := .int (o_10.1.i 66)) (ty := .int) (C := R_MM) (T := F_MM) (N := 77) hx hb hts i_MM t_MM t_MM_ok n_MM hown hK hP hD hS 0 rfl rfl 42 (by decide) (hts _ kw_1424) (fun _ h9 => h9) rfl (by decide +kernel) rfl rfl (Nat.le_of_ble_eq_true rfl) d_rread_45 (fun H locs hP hD hS => ?_)
          rw [mw_I42] at hP hD
          refine lv_aload_n hx hb d_rread_48 rfl (lv_at hl 1 rfl) ?_
          refine lv_iconst (v := 1) hx hb d_rread_49 (by decide) ?_
          obtain ⟨o_34, h_35, Heq⟩ := ob_some Heq
          have hFc := fr_all hD hS hA
          refine va_calli (va_runV (As := [.int 1]) (rest := []) ⟨hx, hb, hml, hown, hts⟩ (g_rno l D H.size h_35) (cw_v 1 hts kw_1626 kw_1623 kw_1625 kp_29 kw_11 rfl rfl (by decide +kernel) ⟨Nat.le_of_ble_eq_true rfl, Nat.le_of_ble_eq_true rfl⟩) ⟨g_blind, va_recv hK hP (ci := 12) (q0 := 0) rfl rfl, fun U hU hW => g_pre hU hW hP hK hD⟩ rfl rfl hl.1 rfl (lv_room (Nat.le_of_ble_eq_true rfl)) d_rread_50 ⟨Nat.le_of_ble_eq_true rfl, Nat.le_of_ble_eq_true rfl⟩) hS (fun q _ h => hFc q h) hFc (fun rz u t H1 locs ht hvm hw hB hz1 hk1 hS => ?_)
          obtain ⟨hP, -, hD1⟩ := hB
          rw [ht] at hP
          have hD := hD1.weaken (fun _ q _ h => hFc q.1 h)
          generalize H1 = H at hP hS ⊢
          refine W.cs (cells' := 0) (slots' := 0) rfl rfl ?_
          subst hw
          exact Kr _ (Option.some.inj Heq).symm 53 _ _ _ d_rread_53 hP hD hS
      · replace Heq := (if_pos c_9).symm.trans Heq
        exact w_rread_J27 hC Heq Kr _ _ _ hP hD hS (lv_sub hl [1] rfl)
def m_rread (S : MS) (x1 : Int32) (x2 : Int32) : Option (MS × Int32) := m_rread_J0 S x1 x2
theorem g_rread (l : Launch) (D : va_G) (sz : Nat) {sad sav : Nat → Nat} {md : Nat → Nat} {mc : Nat → ClassId} {S : MS} {x1 : Int32} {x2 : Int32} {o : MS × Int32} (Heq : m_rread S x1 x2 = some o) : Met l ⟨"JoinedTreesModel", "read", "(II)I"⟩ (Cond.code ⟨"JoinedTreesModel", "read", "(II)I"⟩ prog_14_method_49_code 8 (some .int) :: gb) ({ frames := 8, cells := 0, slots := 0, locals := 202 }) (gPs sad sav D (mw md mc S) (mty mc) sz [.ref (md 100), .int x1, .int x2]) (va_Qi (fun (r : Int32) (_ : Unit) => r = o.2) (fun _ t => gO D (mw md mc o.1) (mty mc) (va_A (mw md mc S) sz) t) (va_A (mw md mc S) sz)) 0 0 (va_A (mw md mc S) sz) := by
  refine Met.ofW (cc := prog_14_method_49_code) (maxL := 8) (ret := (some .int)) (by decide) rfl ?_
  intro p e s m args below meth c s₁ B hml hv
  obtain ⟨rfl, hsz, hP, hK, hD0, hE⟩ := hv
  have hx := B.exec
  have hb := B.bytes
  have hr := B.returns
  have hts : ∀ w9 ∈ gb, w9.before [.ref (md 100), .int x1, .int x2].toArray s = true := fun w9 h => atoms_spec (ws := Cond.code ⟨"JoinedTreesModel", "read", "(II)I"⟩ prog_14_method_49_code 8 (some .int) :: gb) B.pre w9 (List.mem_cons_of_mem _ h)
  have hown : s.vm.findClass "JoinedTreesModel" = some m.cls := findClass_of_methodNamed B.named
  have hlocks := B.notSynchronized
  subst hsz
  have hD := hD0.self (sz := s.heap.size)
  generalize hAe : va_A (mw md mc S) s.heap.size = A at hD hE ⊢
  have hA : ∀ q : Nat, s.heap.size ≤ q → A q := fun q h => by rw [← hAe]; exact Or.inr h
  have hS : va_S A s.heap s.heap [] := va_S.rf
  have hl := lv_entry ([.ref (md 100), .int x1, .int x2]) (n := 8) (Nat.le_of_ble_eq_true rfl)
  rw [lg_entry_eq]
  generalize (lg_sl ([.ref (md 100), .int x1, .int x2]) ++ List.replicate (8 - (lg_sl ([.ref (md 100), .int x1, .int x2])).length) Slot.unset).toArray = ls at hl ⊢
  have hl : lv_has ls 8 [(0, .ref (md 100)), (1, .int x1), (2, .int x2)] := hl
  refine w_rread_J0 ⟨⟨hx, hb, hr, hml, hown, hts, hK, hA⟩, hE⟩ Heq (fun r h pc H locs ls hd hP hD hS => ?_) _ _ _ hP hD hS (lv_sub hl [0, 1, 2] rfl)
  subst h
  exact W.iret hx hb hr (fun t ht hW => ⟨⟨_, (), rfl, rfl, by rw [ht]; exact hP, va_K.moved hW.alike hK, hD⟩, hS.F ht⟩) hS.2.2 hd
