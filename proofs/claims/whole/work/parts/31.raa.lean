/-- what stays the same in a method of the reference -/
def MCx (own : String) (code : ByteArray) (maxL : Nat) (ret : Option FieldType) (p : Program) (s : State) (m : MethodId) (args : Array Value) (meth : Method) (c : Code) (A : Nat → Prop) (D : va_G) (mc : Nat → ClassId) : Prop :=
  p.tables.exec = Jvm.exec ∧ c.code = code ∧ meth.sig.returnType = ret ∧ c.maxLocals = maxL ∧ s.vm.findClass own = some m.cls ∧ (∀ w ∈ gb, w.before args s = true) ∧ va_K D cls (mty mc) s ∧ (∀ q : Nat, s.heap.size ≤ q → A q)
def m_rthrown_J0 (S : MS) : Option (MS × Int32) := some (S, S.i 0)
theorem d_rthrown_0 : decode prog_14_method_2_code 0 = .ok (.aload_n 0, 1) := by decide +kernel
theorem d_rthrown_1 : decode prog_14_method_2_code 1 = .ok (.getfield 176, 3) := by decide +kernel
theorem d_rthrown_4 : decode prog_14_method_2_code 4 = .ok (.ireturn, 1) := by decide +kernel
set_option maxHeartbeats 4000000 in
set_option maxRecDepth 100000 in
theorem w_rthrown_J0 {p : Program} {l : Launch} {e : Env} {s : State} {m : MethodId} {args : Array Value} {below : List Frame} {meth : Method} {c : Code} {A : Nat → Prop} {D : va_G} {md : Nat → Nat} {mc : Nat → ClassId} {Q : State → Prop} (hC : MCx "JoinedTreesModel" prog_14_method_2_code 1 (some .int) p s m args meth c A D mc) {S : MS} {o : MS × Int32} (Heq : m_rthrown_J0 S = some o) (Kr : ∀ r : MS × Int32, o = r → ∀ (pc : Nat) (H : Heap) (locs : List Loc) (ls : Array Slot), decode prog_14_method_2_code pc = .ok (.ireturn, 1) → va_P D cls (mw md mc r.1) H → va_D A (mw md mc r.1) → va_S A s.heap H locs → W p l e ({ frames := 0, cells := 0, slots := 0, locals := 0 }) s m args below meth c H locs 0 0 Q (F0 m pc ls [.int r.2])) : ∀ (H : Heap) (locs : List Loc) (ls : Array Slot), va_P D cls (mw md mc S) H → va_D A (mw md mc S) → va_S A s.heap H locs → lv_has ls 1 [(0, .ref (md 100))] → W p l e ({ frames := 0, cells := 0, slots := 0, locals := 0 }) s m args below meth c H locs 0 0 Q (F0 m 0 ls []) := by
  intro H locs ls hP hD hS hl
  obtain ⟨hx, hb, hr, hml, hown, hts, hK, hA⟩ := id hC
  unfold m_rthrown_J0 at Heq
  refine lv_aload_n hx hb d_rthrown_0 rfl (lv_at hl 0 rfl) ?_
  refine va_get (D := D) (ci := 12) (v := .int (S.i 0)) (C := R_MM) (T := F_MM) (N := 77) hx hb hts i_MM hown hK hP 0 rfl rfl 0 (by decide) (hts _ kw_1382) (fun _ h9 => h9) rfl d_rthrown_1 ?_
  exact Kr _ (Option.some.inj Heq).symm 4 _ _ _ d_rthrown_4 hP hD hS
def m_rthrown (S : MS) : Option (MS × Int32) := m_rthrown_J0 S
theorem g_rthrown (l : Launch) (D : va_G) (sz : Nat) {md : Nat → Nat} {mc : Nat → ClassId} {S : MS} {o : MS × Int32} (Heq : m_rthrown S = some o) : Met l ⟨"JoinedTreesModel", "thrown", "()I"⟩ (Cond.code ⟨"JoinedTreesModel", "thrown", "()I"⟩ prog_14_method_2_code 1 (some .int) :: gb) ({ frames := 0, cells := 0, slots := 0, locals := 0 }) (gPc D (mw md mc S) (mty mc) sz [.ref (md 100)]) (va_Qi (fun (r : Int32) (_ : Unit) => r = o.2) (fun _ t => gO D (mw md mc o.1) (mty mc) (va_A (mw md mc S) sz) t) (va_A (mw md mc S) sz)) 0 0 (va_A (mw md mc S) sz) := by
  refine Met.ofW (cc := prog_14_method_2_code) (maxL := 1) (ret := (some .int)) (by decide) rfl ?_
  intro p e s m args below meth c s₁ B hml hv
  obtain ⟨rfl, hsz, hP, hK, hD0⟩ := hv
  have hx := B.exec
  have hb := B.bytes
  have hr := B.returns
  have hts : ∀ w9 ∈ gb, w9.before [.ref (md 100)].toArray s = true := fun w9 h => atoms_spec (ws := Cond.code ⟨"JoinedTreesModel", "thrown", "()I"⟩ prog_14_method_2_code 1 (some .int) :: gb) B.pre w9 (List.mem_cons_of_mem _ h)
  have hown : s.vm.findClass "JoinedTreesModel" = some m.cls := findClass_of_methodNamed B.named
  have hlocks := B.notSynchronized
  subst hsz
  have hD := hD0.self (sz := s.heap.size)
  generalize hAe : va_A (mw md mc S) s.heap.size = A at hD ⊢
  have hA : ∀ q : Nat, s.heap.size ≤ q → A q := fun q h => by rw [← hAe]; exact Or.inr h
  have hS : va_S A s.heap s.heap [] := va_S.rf
  have hl := lv_entry ([.ref (md 100)]) (n := 1) (Nat.le_of_ble_eq_true rfl)
  rw [lg_entry_eq]
  generalize (lg_sl ([.ref (md 100)]) ++ List.replicate (1 - (lg_sl ([.ref (md 100)])).length) Slot.unset).toArray = ls at hl ⊢
  have hl : lv_has ls 1 [(0, .ref (md 100))] := hl
  refine w_rthrown_J0 ⟨hx, hb, hr, hml, hown, hts, hK, hA⟩ Heq (fun r h pc H locs ls hd hP hD hS => ?_) _ _ _ hP hD hS (lv_sub hl [0] rfl)
  subst h
  exact W.iret hx hb hr (fun t ht hW => ⟨⟨_, (), rfl, rfl, by rw [ht]; exact hP, va_K.moved hW.alike hK, hD⟩, hS.F ht⟩) hS.2.2 hd
def m_rno_J0 (S : MS) (x1 : Int32) : Option (MS × Int32) := some ((S.setI 0 x1), 0)
theorem d_rno_0 : decode prog_14_method_3_code 0 = .ok (.aload_n 0, 1) := by decide +kernel
theorem d_rno_1 : decode prog_14_method_3_code 1 = .ok (.iload_n 1, 1) := by decide +kernel
theorem d_rno_2 : decode prog_14_method_3_code 2 = .ok (.putfield 176, 3) := by decide +kernel
theorem d_rno_5 : decode prog_14_method_3_code 5 = .ok (.iconst 0, 1) := by decide +kernel
theorem d_rno_6 : decode prog_14_method_3_code 6 = .ok (.ireturn, 1) := by decide +kernel
set_option maxHeartbeats 4000000 in
set_option maxRecDepth 100000 in
theorem w_rno_J0 {p : Program} {l : Launch} {e : Env} {s : State} {m : MethodId} {args : Array Value} {below : List Frame} {meth : Method} {c : Code} {A : Nat → Prop} {D : va_G} {md : Nat → Nat} {mc : Nat → ClassId} {Q : State → Prop} (hC : MCx "JoinedTreesModel" prog_14_method_3_code 2 (some .int) p s m args meth c A D mc) {S : MS} {x1 : Int32} {o : MS × Int32} (Heq : m_rno_J0 S x1 = some o) (Kr : ∀ r : MS × Int32, o = r → ∀ (pc : Nat) (H : Heap) (locs : List Loc) (ls : Array Slot), decode prog_14_method_3_code pc = .ok (.ireturn, 1) → va_P D cls (mw md mc r.1) H → va_D A (mw md mc r.1) → va_S A s.heap H locs → W p l e ({ frames := 0, cells := 0, slots := 0, locals := 0 }) s m args below meth c H locs 0 0 Q (F0 m pc ls [.int r.2])) : ∀ (H : Heap) (locs : List Loc) (ls : Array Slot), va_P D cls (mw md mc S) H → va_D A (mw md mc S) → va_S A s.heap H locs → lv_has ls 2 [(0, .ref (md 100)), (1, .int x1)] → W p l e ({ frames := 0, cells := 0, slots := 0, locals := 0 }) s m args below meth c H locs 0 0 Q (F0 m 0 ls []) := by
  intro H locs ls hP hD hS hl
  obtain ⟨hx, hb, hr, hml, hown, hts, hK, hA⟩ := id hC
  unfold m_rno_J0 at Heq
  refine lv_aload_n hx hb d_rno_0 rfl (lv_at hl 0 rfl) ?_
  refine lv_iload_n hx hb d_rno_1 rfl (lv_at hl 1 rfl) ?_
  refine va_put (D := D) (ci := 12) (v := .int x1) (ty := .int) (C := R_MM) (T := F_MM) (N := 77) hx hb hts i_MM t_MM t_MM_ok n_MM hown hK hP hD hS 0 rfl rfl 0 (by decide) (hts _ kw_1382) (fun _ h9 => h9) rfl (by decide +kernel) rfl rfl (Nat.le_of_ble_eq_true rfl) d_rno_2 (fun H locs hP hD hS => ?_)
  rw [mw_I0] at hP hD
  refine lv_iconst (v := 0) hx hb d_rno_5 (by decide) ?_
  exact Kr _ (Option.some.inj Heq).symm 6 _ _ _ d_rno_6 hP hD hS
def m_rno (S : MS) (x1 : Int32) : Option (MS × Int32) := m_rno_J0 S x1
theorem g_rno (l : Launch) (D : va_G) (sz : Nat) {md : Nat → Nat} {mc : Nat → ClassId} {S : MS} {x1 : Int32} {o : MS × Int32} (Heq : m_rno S x1 = some o) : Met l ⟨"JoinedTreesModel", "no", "(I)I"⟩ (Cond.code ⟨"JoinedTreesModel", "no", "(I)I"⟩ prog_14_method_3_code 2 (some .int) :: gb) ({ frames := 0, cells := 0, slots := 0, locals := 0 }) (gPc D (mw md mc S) (mty mc) sz [.ref (md 100), .int x1]) (va_Qi (fun (r : Int32) (_ : Unit) => r = o.2) (fun _ t => gO D (mw md mc o.1) (mty mc) (va_A (mw md mc S) sz) t) (va_A (mw md mc S) sz)) 0 0 (va_A (mw md mc S) sz) := by
  refine Met.ofW (cc := prog_14_method_3_code) (maxL := 2) (ret := (some .int)) (by decide) rfl ?_
  intro p e s m args below meth c s₁ B hml hv
  obtain ⟨rfl, hsz, hP, hK, hD0⟩ := hv
  have hx := B.exec
  have hb := B.bytes
  have hr := B.returns
  have hts : ∀ w9 ∈ gb, w9.before [.ref (md 100), .int x1].toArray s = true := fun w9 h => atoms_spec (ws := Cond.code ⟨"JoinedTreesModel", "no", "(I)I"⟩ prog_14_method_3_code 2 (some .int) :: gb) B.pre w9 (List.mem_cons_of_mem _ h)
  have hown : s.vm.findClass "JoinedTreesModel" = some m.cls := findClass_of_methodNamed B.named
  have hlocks := B.notSynchronized
  subst hsz
  have hD := hD0.self (sz := s.heap.size)
  generalize hAe : va_A (mw md mc S) s.heap.size = A at hD ⊢
  have hA : ∀ q : Nat, s.heap.size ≤ q → A q := fun q h => by rw [← hAe]; exact Or.inr h
  have hS : va_S A s.heap s.heap [] := va_S.rf
  have hl := lv_entry ([.ref (md 100), .int x1]) (n := 2) (Nat.le_of_ble_eq_true rfl)
  rw [lg_entry_eq]
  generalize (lg_sl ([.ref (md 100), .int x1]) ++ List.replicate (2 - (lg_sl ([.ref (md 100), .int x1])).length) Slot.unset).toArray = ls at hl ⊢
  have hl : lv_has ls 2 [(0, .ref (md 100)), (1, .int x1)] := hl
  refine w_rno_J0 ⟨hx, hb, hr, hml, hown, hts, hK, hA⟩ Heq (fun r h pc H locs ls hd hP hD hS => ?_) _ _ _ hP hD hS (lv_sub hl [0, 1] rfl)
  subst h
  exact W.iret hx hb hr (fun t ht hW => ⟨⟨_, (), rfl, rfl, by rw [ht]; exact hP, va_K.moved hW.alike hK, hD⟩, hS.F ht⟩) hS.2.2 hd
def m_rfeed_J124 (S : MS) (x1 : Int32) (x2 : Int32) (x3 : Int32) (x4 : Int32) (x5 : Int32) (x6 : Int32) (t0 : Int32) (t1 : Int32) (t2 : Nat) : Option ((MS × Int32 × Int32 × Int32 × Int32 × Int32 × Int32) ⊕ MS) := gB t2 (gd t1 8300 (some (.inl ((S.setA t2 (upd (S.a t2) t1.toNatClampNeg (vp_nar .byte ((ushr32 t0 (24 - ((x6 - x6 / 4 * 4) * 8))).toInt8.toInt32)))), x1, x2, x3, x4, x5, (x6 + 1)))))
theorem d_rfeed_0 : decode prog_14_method_4_code 0 = .ok (.aload_n 0, 1) := by decide +kernel
theorem d_rfeed_1 : decode prog_14_method_4_code 1 = .ok (.getfield 179, 3) := by decide +kernel
theorem d_rfeed_4 : decode prog_14_method_4_code 4 = .ok (.bipush 20, 2) := by decide +kernel
theorem d_rfeed_6 : decode prog_14_method_4_code 6 = .ok (.iadd, 1) := by decide +kernel
theorem d_rfeed_7 : decode prog_14_method_4_code 7 = .ok (.aload_n 0, 1) := by decide +kernel
theorem d_rfeed_8 : decode prog_14_method_4_code 8 = .ok (.getfield 182, 3) := by decide +kernel
theorem d_rfeed_11 : decode prog_14_method_4_code 11 = .ok (.ifCond .le 10, 3) := by decide +kernel
theorem d_rfeed_21 : decode prog_14_method_4_code 21 = .ok (.iconst 0, 1) := by decide +kernel
theorem d_rfeed_22 : decode prog_14_method_4_code 22 = .ok (.iadd, 1) := by decide +kernel
theorem d_rfeed_23 : decode prog_14_method_4_code 23 = .ok (.aload_n 0, 1) := by decide +kernel
theorem d_rfeed_24 : decode prog_14_method_4_code 24 = .ok (.getfield 182, 3) := by decide +kernel
theorem d_rfeed_27 : decode prog_14_method_4_code 27 = .ok (.iconst 1, 1) := by decide +kernel
theorem d_rfeed_28 : decode prog_14_method_4_code 28 = .ok (.if_icmp .le 10, 3) := by decide +kernel
theorem d_rfeed_38 : decode prog_14_method_4_code 38 = .ok (.iconst 0, 1) := by decide +kernel
theorem d_rfeed_39 : decode prog_14_method_4_code 39 = .ok (.iadd, 1) := by decide +kernel
theorem d_rfeed_40 : decode prog_14_method_4_code 40 = .ok (.sipush 8192, 3) := by decide +kernel
theorem d_rfeed_43 : decode prog_14_method_4_code 43 = .ok (.if_icmp .le 9, 3) := by decide +kernel
theorem d_rfeed_52 : decode prog_14_method_4_code 52 = .ok (.aload_n 0, 1) := by decide +kernel
theorem d_rfeed_53 : decode prog_14_method_4_code 53 = .ok (.iconst 0, 1) := by decide +kernel
theorem d_rfeed_54 : decode prog_14_method_4_code 54 = .ok (.putfield 176, 3) := by decide +kernel
theorem d_rfeed_57 : decode prog_14_method_4_code 57 = .ok (.iconst 0, 1) := by decide +kernel
theorem d_rfeed_58 : decode prog_14_method_4_code 58 = .ok (.istore 6, 2) := by decide +kernel
theorem d_rfeed_60 : decode prog_14_method_4_code 60 = .ok (.iload 6, 2) := by decide +kernel
theorem d_rfeed_62 : decode prog_14_method_4_code 62 = .ok (.bipush 20, 2) := by decide +kernel
theorem d_rfeed_64 : decode prog_14_method_4_code 64 = .ok (.if_icmp .ge 79, 3) := by decide +kernel
theorem d_rfeed_67 : decode prog_14_method_4_code 67 = .ok (.aload_n 0, 1) := by decide +kernel
theorem d_rfeed_68 : decode prog_14_method_4_code 68 = .ok (.getfield 7, 3) := by decide +kernel
theorem d_rfeed_71 : decode prog_14_method_4_code 71 = .ok (.aload_n 0, 1) := by decide +kernel
theorem d_rfeed_72 : decode prog_14_method_4_code 72 = .ok (.getfield 179, 3) := by decide +kernel
theorem d_rfeed_75 : decode prog_14_method_4_code 75 = .ok (.iload 6, 2) := by decide +kernel
theorem d_rfeed_77 : decode prog_14_method_4_code 77 = .ok (.iadd, 1) := by decide +kernel
theorem d_rfeed_78 : decode prog_14_method_4_code 78 = .ok (.iload 6, 2) := by decide +kernel
theorem d_rfeed_80 : decode prog_14_method_4_code 80 = .ok (.iconst 4, 1) := by decide +kernel
theorem d_rfeed_81 : decode prog_14_method_4_code 81 = .ok (.if_icmp .ge 7, 3) := by decide +kernel
theorem d_rfeed_88 : decode prog_14_method_4_code 88 = .ok (.iload 6, 2) := by decide +kernel
theorem d_rfeed_90 : decode prog_14_method_4_code 90 = .ok (.bipush 8, 2) := by decide +kernel
theorem d_rfeed_92 : decode prog_14_method_4_code 92 = .ok (.if_icmp .ge 7, 3) := by decide +kernel
theorem d_rfeed_99 : decode prog_14_method_4_code 99 = .ok (.iload 6, 2) := by decide +kernel
theorem d_rfeed_101 : decode prog_14_method_4_code 101 = .ok (.bipush 12, 2) := by decide +kernel
theorem d_rfeed_103 : decode prog_14_method_4_code 103 = .ok (.if_icmp .ge 7, 3) := by decide +kernel
theorem d_rfeed_110 : decode prog_14_method_4_code 110 = .ok (.iload 6, 2) := by decide +kernel
theorem d_rfeed_112 : decode prog_14_method_4_code 112 = .ok (.bipush 16, 2) := by decide +kernel
theorem d_rfeed_114 : decode prog_14_method_4_code 114 = .ok (.if_icmp .ge 8, 3) := by decide +kernel
theorem d_rfeed_122 : decode prog_14_method_4_code 122 = .ok (.iload 5, 2) := by decide +kernel
theorem d_rfeed_124 : decode prog_14_method_4_code 124 = .ok (.bipush 24, 2) := by decide +kernel
theorem d_rfeed_126 : decode prog_14_method_4_code 126 = .ok (.iload 6, 2) := by decide +kernel
theorem d_rfeed_128 : decode prog_14_method_4_code 128 = .ok (.iconst 4, 1) := by decide +kernel
theorem d_rfeed_129 : decode prog_14_method_4_code 129 = .ok (.irem, 1) := by decide +kernel
theorem d_rfeed_130 : decode prog_14_method_4_code 130 = .ok (.bipush 8, 2) := by decide +kernel
theorem d_rfeed_132 : decode prog_14_method_4_code 132 = .ok (.imul, 1) := by decide +kernel
theorem d_rfeed_133 : decode prog_14_method_4_code 133 = .ok (.isub, 1) := by decide +kernel
theorem d_rfeed_134 : decode prog_14_method_4_code 134 = .ok (.iushr, 1) := by decide +kernel
theorem d_rfeed_135 : decode prog_14_method_4_code 135 = .ok (.i2b, 1) := by decide +kernel
theorem d_rfeed_136 : decode prog_14_method_4_code 136 = .ok (.bastore, 1) := by decide +kernel
theorem d_rfeed_137 : decode prog_14_method_4_code 137 = .ok (.iinc 6 1, 3) := by decide +kernel
theorem d_rfeed_140 : decode prog_14_method_4_code 140 = .ok (.goto (-80), 3) := by decide +kernel
set_option maxHeartbeats 4000000 in
set_option maxRecDepth 100000 in
theorem w_rfeed_J124 {p : Program} {l : Launch} {e : Env} {s : State} {m : MethodId} {args : Array Value} {below : List Frame} {meth : Method} {c : Code} {A : Nat → Prop} {D : va_G} {md : Nat → Nat} {mc : Nat → ClassId} {Q : State → Prop} (hC : MCx "JoinedTreesModel" prog_14_method_4_code 7 (some .int) p s m args meth c A D mc) {S : MS} {x1 : Int32} {x2 : Int32} {x3 : Int32} {x4 : Int32} {x5 : Int32} {x6 : Int32} {t0 : Int32} {t1 : Int32} {t2 : Nat} {o : ((MS × Int32 × Int32 × Int32 × Int32 × Int32 × Int32) ⊕ MS)} (Heq : m_rfeed_J124 S x1 x2 x3 x4 x5 x6 t0 t1 t2 = some o) (Ka : ∀ b : MS × Int32 × Int32 × Int32 × Int32 × Int32 × Int32, o = .inl b → ∀ (H : Heap) (locs : List Loc) (ls : Array Slot), va_P D cls (mw md mc b.1) H → va_D A (mw md mc b.1) → va_S A s.heap H locs → lv_has ls 7 [(0, .ref (md 100)), (1, .int b.2.1), (2, .int b.2.2.1), (3, .int b.2.2.2.1), (4, .int b.2.2.2.2.1), (5, .int b.2.2.2.2.2.1), (6, .int b.2.2.2.2.2.2)] → W p l e ({ frames := 1, cells := 0, slots := 0, locals := 21 }) s m args below meth c H locs 0 0 Q (F0 m 60 ls [])) (K0 : ∀ b : MS, o = .inr b → ∀ (H : Heap) (locs : List Loc) (ls : Array Slot), va_P D cls (mw md mc b) H → va_D A (mw md mc b) → va_S A s.heap H locs → lv_has ls 7 [(0, .ref (md 100))] → W p l e ({ frames := 1, cells := 0, slots := 0, locals := 21 }) s m args below meth c H locs 0 0 Q (F0 m 143 ls [])) : ∀ (H : Heap) (locs : List Loc) (ls : Array Slot), va_P D cls (mw md mc S) H → va_D A (mw md mc S) → va_S A s.heap H locs → lv_has ls 7 [(0, .ref (md 100)), (1, .int x1), (2, .int x2), (3, .int x3), (4, .int x4), (5, .int x5), (6, .int x6)] → W p l e ({ frames := 1, cells := 0, slots := 0, locals := 21 }) s m args below meth c H locs 0 0 Q (F0 m 124 ls [.int t0, .int t1, .ref (md t2)]) := by
  intro H locs ls hP hD hS hl
  obtain ⟨hx, hb, hr, hml, hown, hts, hK, hA⟩ := id hC
  unfold m_rfeed_J124 at Heq
  refine lv_bipush (v := 24) hx hb d_rfeed_124 (by decide) ?_
  refine lv_iload hx hb d_rfeed_126 (lv_at hl 6 rfl) ?_
  refine lv_iconst (v := 4) hx hb d_rfeed_128 (by decide) ?_
  refine lv_irem hx hb d_rfeed_129 (by decide) ?_
  refine w_i (y := x6 - x6 / 4 * 4) rfl ?_
  refine lv_bipush (v := 8) hx hb d_rfeed_130 (by decide) ?_
  refine lv_imul hx hb d_rfeed_132 ?_
  refine w_i (y := (x6 - x6 / 4 * 4) * 8) rfl ?_
  refine lv_isub hx hb d_rfeed_133 ?_
  refine w_i (y := 24 - ((x6 - x6 / 4 * 4) * 8)) rfl ?_
  refine lv_iushr hx hb d_rfeed_134 rfl ?_
  refine w_i (y := ushr32 t0 (24 - ((x6 - x6 / 4 * 4) * 8))) rfl ?_
  refine lv_i2b hx hb d_rfeed_135 rfl ?_
  refine w_i (y := (ushr32 t0 (24 - ((x6 - x6 / 4 * 4) * 8))).toInt8.toInt32) rfl ?_
  obtain ⟨hB_t2, Heq⟩ := gB_some Heq
  obtain ⟨hi_1, Heq⟩ := gd_some Heq
  refine va_bast hx hb hK hP hD hS (bpos t2) 1 (mp_B hB_t2) rfl (i := t1) (x := (ushr32 t0 (24 - ((x6 - x6 / 4 * 4) * 8))).toInt8.toInt32) hi_1 d_rfeed_136 (fun H locs hP hD hS => ?_)
  rw [(mw_B hB_t2)] at hP hD
  refine lv_iinc (v := x6 + 1) (lv' := [(6, .int (x6 + 1)), (0, .ref (md 100)), (1, .int x1), (2, .int x2), (3, .int x3), (4, .int x4), (5, .int x5)]) hx hb d_rfeed_137 hl (k := 6) rfl rfl (by decide) rfl (fun ls hl => ?_)
  refine lv_goto (tgt := 60) hx hb d_rfeed_140 (by decide) ?_
  exact Ka _ (Option.some.inj Heq).symm _ _ _ hP hD hS (lv_sub hl [1, 2, 3, 4, 5, 6, 0] rfl)
def m_rfeed_B60 (S : MS) (x1 : Int32) (x2 : Int32) (x3 : Int32) (x4 : Int32) (x5 : Int32) (x6 : Int32) : Option ((MS × Int32 × Int32 × Int32 × Int32 × Int32 × Int32) ⊕ MS) := (if 20 ≤ x6 then some (.inr (S)) else (if 4 ≤ x6 then (if 8 ≤ x6 then (if 12 ≤ x6 then (if 16 ≤ x6 then m_rfeed_J124 S x1 x2 x3 x4 x5 x6 x5 ((S.i 4) + x6) 1 else m_rfeed_J124 S x1 x2 x3 x4 x5 x6 x4 ((S.i 4) + x6) 1) else m_rfeed_J124 S x1 x2 x3 x4 x5 x6 x3 ((S.i 4) + x6) 1) else m_rfeed_J124 S x1 x2 x3 x4 x5 x6 x2 ((S.i 4) + x6) 1) else m_rfeed_J124 S x1 x2 x3 x4 x5 x6 x1 ((S.i 4) + x6) 1))
theorem d_rfeed_117 : decode prog_14_method_4_code 117 = .ok (.iload 4, 2) := by decide +kernel
theorem d_rfeed_119 : decode prog_14_method_4_code 119 = .ok (.goto 5, 3) := by decide +kernel
theorem d_rfeed_106 : decode prog_14_method_4_code 106 = .ok (.iload_n 3, 1) := by decide +kernel
theorem d_rfeed_107 : decode prog_14_method_4_code 107 = .ok (.goto 17, 3) := by decide +kernel
theorem d_rfeed_95 : decode prog_14_method_4_code 95 = .ok (.iload_n 2, 1) := by decide +kernel
theorem d_rfeed_96 : decode prog_14_method_4_code 96 = .ok (.goto 28, 3) := by decide +kernel
theorem d_rfeed_84 : decode prog_14_method_4_code 84 = .ok (.iload_n 1, 1) := by decide +kernel
theorem d_rfeed_85 : decode prog_14_method_4_code 85 = .ok (.goto 39, 3) := by decide +kernel
set_option maxHeartbeats 4000000 in
set_option maxRecDepth 100000 in
theorem w_rfeed_B60 {p : Program} {l : Launch} {e : Env} {s : State} {m : MethodId} {args : Array Value} {below : List Frame} {meth : Method} {c : Code} {A : Nat → Prop} {D : va_G} {md : Nat → Nat} {mc : Nat → ClassId} {Q : State → Prop} (hC : MCx "JoinedTreesModel" prog_14_method_4_code 7 (some .int) p s m args meth c A D mc) {S : MS} {x1 : Int32} {x2 : Int32} {x3 : Int32} {x4 : Int32} {x5 : Int32} {x6 : Int32} {o : ((MS × Int32 × Int32 × Int32 × Int32 × Int32 × Int32) ⊕ MS)} (Heq : m_rfeed_B60 S x1 x2 x3 x4 x5 x6 = some o) (Ka : ∀ b : MS × Int32 × Int32 × Int32 × Int32 × Int32 × Int32, o = .inl b → ∀ (H : Heap) (locs : List Loc) (ls : Array Slot), va_P D cls (mw md mc b.1) H → va_D A (mw md mc b.1) → va_S A s.heap H locs → lv_has ls 7 [(0, .ref (md 100)), (1, .int b.2.1), (2, .int b.2.2.1), (3, .int b.2.2.2.1), (4, .int b.2.2.2.2.1), (5, .int b.2.2.2.2.2.1), (6, .int b.2.2.2.2.2.2)] → W p l e ({ frames := 1, cells := 0, slots := 0, locals := 21 }) s m args below meth c H locs 0 0 Q (F0 m 60 ls [])) (K0 : ∀ b : MS, o = .inr b → ∀ (H : Heap) (locs : List Loc) (ls : Array Slot), va_P D cls (mw md mc b) H → va_D A (mw md mc b) → va_S A s.heap H locs → lv_has ls 7 [(0, .ref (md 100))] → W p l e ({ frames := 1, cells := 0, slots := 0, locals := 21 }) s m args below meth c H locs 0 0 Q (F0 m 143 ls [])) : ∀ (H : Heap) (locs : List Loc) (ls : Array Slot), va_P D cls (mw md mc S) H → va_D A (mw md mc S) → va_S A s.heap H locs → lv_has ls 7 [(0, .ref (md 100)), (1, .int x1), (2, .int x2), (3, .int x3), (4, .int x4), (5, .int x5), (6, .int x6)] → W p l e ({ frames := 1, cells := 0, slots := 0, locals := 21 }) s m args below meth c H locs 0 0 Q (F0 m 60 ls []) := by
  intro H locs ls hP hD hS hl
  obtain ⟨hx, hb, hr, hml, hown, hts, hK, hA⟩ := id hC
  unfold m_rfeed_B60 at Heq
  refine lv_iload hx hb d_rfeed_60 (lv_at hl 6 rfl) ?_
  refine lv_bipush (v := 20) hx hb d_rfeed_62 (by decide) ?_
  refine lv_icmp_ge (tgt := 143) hx hb d_rfeed_64 (by decide) (fun c_1 => ?_) (fun c_1 => ?_)
  · replace Heq := (if_pos c_1).symm.trans Heq
    exact K0 _ (Option.some.inj Heq).symm _ _ _ hP hD hS (lv_sub hl [0] rfl)
  · replace Heq := (if_neg c_1).symm.trans Heq
    refine lv_aload_n hx hb d_rfeed_67 rfl (lv_at hl 0 rfl) ?_
    refine va_get (D := D) (ci := 12) (v := .ref (md 1)) (C := R_MM) (T := F_MM) (N := 77) hx hb hts i_MM hown hK hP 0 rfl rfl 1 (by decide) (hts _ kw_1383) (fun _ h9 => h9) rfl d_rfeed_68 ?_
    refine lv_aload_n hx hb d_rfeed_71 rfl (lv_at hl 0 rfl) ?_
    refine va_get (D := D) (ci := 12) (v := .int (S.i 4)) (C := R_MM) (T := F_MM) (N := 77) hx hb hts i_MM hown hK hP 0 rfl rfl 4 (by decide) (hts _ kw_1386) (fun _ h9 => h9) rfl d_rfeed_72 ?_
    refine lv_iload hx hb d_rfeed_75 (lv_at hl 6 rfl) ?_
    refine lv_iadd hx hb d_rfeed_77 ?_
    refine w_i (y := (S.i 4) + x6) rfl ?_
    refine lv_iload hx hb d_rfeed_78 (lv_at hl 6 rfl) ?_
    refine lv_iconst (v := 4) hx hb d_rfeed_80 (by decide) ?_
    refine lv_icmp_ge (tgt := 88) hx hb d_rfeed_81 (by decide) (fun c_2 => ?_) (fun c_2 => ?_)
    · replace Heq := (if_pos c_2).symm.trans Heq
      refine lv_iload hx hb d_rfeed_88 (lv_at hl 6 rfl) ?_
      refine lv_bipush (v := 8) hx hb d_rfeed_90 (by decide) ?_
      refine lv_icmp_ge (tgt := 99) hx hb d_rfeed_92 (by decide) (fun c_3 => ?_) (fun c_3 => ?_)
      · replace Heq := (if_pos c_3).symm.trans Heq
        refine lv_iload hx hb d_rfeed_99 (lv_at hl 6 rfl) ?_
        refine lv_bipush (v := 12) hx hb d_rfeed_101 (by decide) ?_
        refine lv_icmp_ge (tgt := 110) hx hb d_rfeed_103 (by decide) (fun c_4 => ?_) (fun c_4 => ?_)
        · replace Heq := (if_pos c_4).symm.trans Heq
          refine lv_iload hx hb d_rfeed_110 (lv_at hl 6 rfl) ?_
          refine lv_bipush (v := 16) hx hb d_rfeed_112 (by decide) ?_
          refine lv_icmp_ge (tgt := 122) hx hb d_rfeed_114 (by decide) (fun c_5 => ?_) (fun c_5 => ?_)
          · replace Heq := (if_pos c_5).symm.trans Heq
            refine lv_iload hx hb d_rfeed_122 (lv_at hl 5 rfl) ?_
            exact w_rfeed_J124 hC Heq Ka K0 _ _ _ hP hD hS (lv_sub hl [0, 1, 2, 3, 4, 5, 6] rfl)
          · replace Heq := (if_neg c_5).symm.trans Heq
            refine lv_iload hx hb d_rfeed_117 (lv_at hl 4 rfl) ?_
            refine lv_goto (tgt := 124) hx hb d_rfeed_119 (by decide) ?_
            exact w_rfeed_J124 hC Heq Ka K0 _ _ _ hP hD hS (lv_sub hl [0, 1, 2, 3, 4, 5, 6] rfl)
        · replace Heq := (if_neg c_4).symm.trans Heq
          refine lv_iload_n hx hb d_rfeed_106 rfl (lv_at hl 3 rfl) ?_
          refine lv_goto (tgt := 124) hx hb d_rfeed_107 (by decide) ?_
          exact w_rfeed_J124 hC Heq Ka K0 _ _ _ hP hD hS (lv_sub hl [0, 1, 2, 3, 4, 5, 6] rfl)
      · replace Heq := (if_neg c_3).symm.trans Heq
        refine lv_iload_n hx hb d_rfeed_95 rfl (lv_at hl 2 rfl) ?_
        refine lv_goto (tgt := 124) hx hb d_rfeed_96 (by decide) ?_
        exact w_rfeed_J124 hC Heq Ka K0 _ _ _ hP hD hS (lv_sub hl [0, 1, 2, 3, 4, 5, 6] rfl)
    · replace Heq := (if_neg c_2).symm.trans Heq
      refine lv_iload_n hx hb d_rfeed_84 rfl (lv_at hl 1 rfl) ?_
      refine lv_goto (tgt := 124) hx hb d_rfeed_85 (by decide) ?_
      exact w_rfeed_J124 hC Heq Ka K0 _ _ _ hP hD hS (lv_sub hl [0, 1, 2, 3, 4, 5, 6] rfl)
def m_rfeed_L60 (S : MS) (x1 : Int32) (x2 : Int32) (x3 : Int32) (x4 : Int32) (x5 : Int32) (x6 : Int32) : Option MS := lp (fun a : MS × Int32 × Int32 × Int32 × Int32 × Int32 × Int32 => m_rfeed_B60 a.1 a.2.1 a.2.2.1 a.2.2.2.1 a.2.2.2.2.1 a.2.2.2.2.2.1 a.2.2.2.2.2.2) FU (S, x1, x2, x3, x4, x5, x6)
theorem w_rfeed_L60 {p : Program} {l : Launch} {e : Env} {s : State} {m : MethodId} {args : Array Value} {below : List Frame} {meth : Method} {c : Code} {A : Nat → Prop} {D : va_G} {md : Nat → Nat} {mc : Nat → ClassId} {Q : State → Prop} (hC : MCx "JoinedTreesModel" prog_14_method_4_code 7 (some .int) p s m args meth c A D mc) {S : MS} {x1 : Int32} {x2 : Int32} {x3 : Int32} {x4 : Int32} {x5 : Int32} {x6 : Int32} {o : MS} (Heq : m_rfeed_L60 S x1 x2 x3 x4 x5 x6 = some o) (K0 : ∀ b : MS, o = b → ∀ (H : Heap) (locs : List Loc) (ls : Array Slot), va_P D cls (mw md mc b) H → va_D A (mw md mc b) → va_S A s.heap H locs → lv_has ls 7 [(0, .ref (md 100))] → W p l e ({ frames := 1, cells := 0, slots := 0, locals := 21 }) s m args below meth c H locs 0 0 Q (F0 m 143 ls [])) : ∀ (H : Heap) (locs : List Loc) (ls : Array Slot), va_P D cls (mw md mc S) H → va_D A (mw md mc S) → va_S A s.heap H locs → lv_has ls 7 [(0, .ref (md 100)), (1, .int x1), (2, .int x2), (3, .int x3), (4, .int x4), (5, .int x5), (6, .int x6)] → W p l e ({ frames := 1, cells := 0, slots := 0, locals := 21 }) s m args below meth c H locs 0 0 Q (F0 m 60 ls []) := by
  refine lp_w (G := fun a : MS × Int32 × Int32 × Int32 × Int32 × Int32 × Int32 => ∀ (H : Heap) (locs : List Loc) (ls : Array Slot), va_P D cls (mw md mc a.1) H → va_D A (mw md mc a.1) → va_S A s.heap H locs → lv_has ls 7 [(0, .ref (md 100)), (1, .int a.2.1), (2, .int a.2.2.1), (3, .int a.2.2.2.1), (4, .int a.2.2.2.2.1), (5, .int a.2.2.2.2.2.1), (6, .int a.2.2.2.2.2.2)] → W p l e ({ frames := 1, cells := 0, slots := 0, locals := 21 }) s m args below meth c H locs 0 0 Q (F0 m 60 ls [])) ?_ FU (S, x1, x2, x3, x4, x5, x6) Heq
  intro a o1 ho Ka Ke
  exact w_rfeed_B60 hC ho (fun b h => Ka b h) (fun b h => K0 b (Ke _ h).symm)
def m_rfeed_J39 (S : MS) (x1 : Int32) (x2 : Int32) (x3 : Int32) (x4 : Int32) (x5 : Int32) (t0 : Int32) (t1 : Int32) : Option (MS × Int32) := (if t1 + t0 ≤ 8192 then ob (m_rfeed_L60 (S.setI 0 0) x1 x2 x3 x4 x5 0) (fun b_2 => some ((b_2.setI 4 ((b_2.i 4) + 20)), (b_2.i 4) + 20)) else ob (m_rno S 1) (fun o_4 => some (o_4.1, o_4.2)))
theorem d_rfeed_143 : decode prog_14_method_4_code 143 = .ok (.aload_n 0, 1) := by decide +kernel
theorem d_rfeed_144 : decode prog_14_method_4_code 144 = .ok (.dup, 1) := by decide +kernel
theorem d_rfeed_145 : decode prog_14_method_4_code 145 = .ok (.getfield 179, 3) := by decide +kernel
theorem d_rfeed_148 : decode prog_14_method_4_code 148 = .ok (.bipush 20, 2) := by decide +kernel
theorem d_rfeed_150 : decode prog_14_method_4_code 150 = .ok (.iadd, 1) := by decide +kernel
theorem d_rfeed_151 : decode prog_14_method_4_code 151 = .ok (.putfield 179, 3) := by decide +kernel
theorem d_rfeed_154 : decode prog_14_method_4_code 154 = .ok (.aload_n 0, 1) := by decide +kernel
theorem d_rfeed_155 : decode prog_14_method_4_code 155 = .ok (.getfield 179, 3) := by decide +kernel
theorem d_rfeed_158 : decode prog_14_method_4_code 158 = .ok (.ireturn, 1) := by decide +kernel
theorem d_rfeed_46 : decode prog_14_method_4_code 46 = .ok (.aload_n 0, 1) := by decide +kernel
theorem d_rfeed_47 : decode prog_14_method_4_code 47 = .ok (.iconst 1, 1) := by decide +kernel
theorem d_rfeed_48 : decode prog_14_method_4_code 48 = .ok (.invokevirtual 191, 3) := by decide +kernel
theorem d_rfeed_51 : decode prog_14_method_4_code 51 = .ok (.ireturn, 1) := by decide +kernel
set_option maxHeartbeats 4000000 in
set_option maxRecDepth 100000 in
theorem w_rfeed_J39 {p : Program} {l : Launch} {e : Env} {s : State} {m : MethodId} {args : Array Value} {below : List Frame} {meth : Method} {c : Code} {A : Nat → Prop} {D : va_G} {md : Nat → Nat} {mc : Nat → ClassId} {Q : State → Prop} (hC : MCx "JoinedTreesModel" prog_14_method_4_code 7 (some .int) p s m args meth c A D mc) {S : MS} {x1 : Int32} {x2 : Int32} {x3 : Int32} {x4 : Int32} {x5 : Int32} {t0 : Int32} {t1 : Int32} {o : MS × Int32} (Heq : m_rfeed_J39 S x1 x2 x3 x4 x5 t0 t1 = some o) (Kr : ∀ r : MS × Int32, o = r → ∀ (pc : Nat) (H : Heap) (locs : List Loc) (ls : Array Slot), decode prog_14_method_4_code pc = .ok (.ireturn, 1) → va_P D cls (mw md mc r.1) H → va_D A (mw md mc r.1) → va_S A s.heap H locs → W p l e ({ frames := 1, cells := 0, slots := 0, locals := 21 }) s m args below meth c H locs 0 0 Q (F0 m pc ls [.int r.2])) : ∀ (H : Heap) (locs : List Loc) (ls : Array Slot), va_P D cls (mw md mc S) H → va_D A (mw md mc S) → va_S A s.heap H locs → lv_has ls 7 [(0, .ref (md 100)), (1, .int x1), (2, .int x2), (3, .int x3), (4, .int x4), (5, .int x5)] → W p l e ({ frames := 1, cells := 0, slots := 0, locals := 21 }) s m args below meth c H locs 0 0 Q (F0 m 39 ls [.int t0, .int t1]) := by
  intro H locs ls hP hD hS hl
  obtain ⟨hx, hb, hr, hml, hown, hts, hK, hA⟩ := id hC
  unfold m_rfeed_J39 at Heq
  refine lv_iadd hx hb d_rfeed_39 ?_
  refine w_i (y := t1 + t0) rfl ?_
  refine lv_sipush (v := 8192) hx hb d_rfeed_40 (by decide) ?_
  refine lv_icmp_le (tgt := 52) hx hb d_rfeed_43 (by decide) (fun c_1 => ?_) (fun c_1 => ?_)
  · replace Heq := (if_pos c_1).symm.trans Heq
    refine lv_aload_n hx hb d_rfeed_52 rfl (lv_at hl 0 rfl) ?_
    refine lv_iconst (v := 0) hx hb d_rfeed_53 (by decide) ?_
    refine va_put (D := D) (ci := 12) (v := .int 0) (ty := .int) (C := R_MM) (T := F_MM) (N := 77) hx hb hts i_MM t_MM t_MM_ok n_MM hown hK hP hD hS 0 rfl rfl 0 (by decide) (hts _ kw_1382) (fun _ h9 => h9) rfl (by decide +kernel) rfl rfl (Nat.le_of_ble_eq_true rfl) d_rfeed_54 (fun H locs hP hD hS => ?_)
    rw [mw_I0] at hP hD
    refine lv_iconst (v := 0) hx hb d_rfeed_57 (by decide) ?_
    refine lv_istore (lv' := [(6, .int 0), (0, .ref (md 100)), (1, .int x1), (2, .int x2), (3, .int x3), (4, .int x4), (5, .int x5)]) hx hb d_rfeed_58 hl (by decide) rfl (fun ls hl => ?_)
    obtain ⟨b_2, h_3, Heq⟩ := ob_some Heq
    refine w_rfeed_L60 hC h_3 (fun b h => ?_) _ _ _ hP hD hS (lv_sub hl [1, 2, 3, 4, 5, 6, 0] rfl)
    subst h
    intro H locs ls hP hD hS hl
    refine lv_aload_n hx hb d_rfeed_143 rfl (lv_at hl 0 rfl) ?_
    refine lv_dup hx hb d_rfeed_144 rfl ?_
    refine va_get (D := D) (ci := 12) (v := .int (b_2.i 4)) (C := R_MM) (T := F_MM) (N := 77) hx hb hts i_MM hown hK hP 0 rfl rfl 4 (by decide) (hts _ kw_1386) (fun _ h9 => h9) rfl d_rfeed_145 ?_
    refine lv_bipush (v := 20) hx hb d_rfeed_148 (by decide) ?_
    refine lv_iadd hx hb d_rfeed_150 ?_
    refine w_i (y := (b_2.i 4) + 20) rfl ?_
    refine va_put (D := D) (ci := 12) (v := .int ((b_2.i 4) + 20)) (ty := .int) (C := R_MM) (T := F_MM) (N := 77) hx hb hts i_MM t_MM t_MM_ok n_MM hown hK hP hD hS 0 rfl rfl 4 (by decide) (hts _ kw_1386) (fun _ h9 => h9) rfl (by decide +kernel) rfl rfl (Nat.le_of_ble_eq_true rfl) d_rfeed_151 (fun H locs hP hD hS => ?_)
    rw [mw_I4] at hP hD
    refine lv_aload_n hx hb d_rfeed_154 rfl (lv_at hl 0 rfl) ?_
    refine va_get (D := D) (ci := 12) (v := .int ((b_2.i 4) + 20)) (C := R_MM) (T := F_MM) (N := 77) hx hb hts i_MM hown hK hP 0 rfl rfl 4 (by decide) (hts _ kw_1386) (fun _ h9 => h9) rfl d_rfeed_155 ?_
    exact Kr _ (Option.some.inj Heq).symm 158 _ _ _ d_rfeed_158 hP hD hS
  · replace Heq := (if_neg c_1).symm.trans Heq
    refine lv_aload_n hx hb d_rfeed_46 rfl (lv_at hl 0 rfl) ?_
    refine lv_iconst (v := 1) hx hb d_rfeed_47 (by decide) ?_
    obtain ⟨o_4, h_5, Heq⟩ := ob_some Heq
    have hFc := fr_all hD hS hA
    refine va_calli (va_runV (As := [.int 1]) (rest := []) ⟨hx, hb, hml, hown, hts⟩ (g_rno l D H.size h_5) (cw_v 1 hts kw_1626 kw_1623 kw_1625 kp_29 kw_11 rfl rfl (by decide +kernel) ⟨Nat.le_of_ble_eq_true rfl, Nat.le_of_ble_eq_true rfl⟩) ⟨g_blind, va_recv hK hP (ci := 12) (q0 := 0) rfl rfl, fun U hU hW => g_pre hU hW hP hK hD⟩ rfl rfl hl.1 rfl (lv_room (Nat.le_of_ble_eq_true rfl)) d_rfeed_48 ⟨Nat.le_of_ble_eq_true rfl, Nat.le_of_ble_eq_true rfl⟩) hS (fun q _ h => hFc q h) hFc (fun rz u t H1 locs ht hvm hw hB hz1 hk1 hS => ?_)
    obtain ⟨hP, -, hD1⟩ := hB
    rw [ht] at hP
    have hD := hD1.weaken (fun _ q _ h => hFc q.1 h)
    generalize H1 = H at hP hS ⊢
    refine W.cs (cells' := 0) (slots' := 0) rfl rfl ?_
    subst hw
    exact Kr _ (Option.some.inj Heq).symm 51 _ _ _ d_rfeed_51 hP hD hS
def m_rfeed_J22 (S : MS) (x1 : Int32) (x2 : Int32) (x3 : Int32) (x4 : Int32) (x5 : Int32) (t0 : Int32) (t1 : Int32) : Option (MS × Int32) := (if S.i 7 ≤ 1 then m_rfeed_J39 S x1 x2 x3 x4 x5 0 (t1 + t0) else m_rfeed_J39 S x1 x2 x3 x4 x5 (S.i 6) (t1 + t0))
theorem d_rfeed_31 : decode prog_14_method_4_code 31 = .ok (.aload_n 0, 1) := by decide +kernel
theorem d_rfeed_32 : decode prog_14_method_4_code 32 = .ok (.getfield 188, 3) := by decide +kernel
theorem d_rfeed_35 : decode prog_14_method_4_code 35 = .ok (.goto 4, 3) := by decide +kernel
set_option maxHeartbeats 4000000 in
set_option maxRecDepth 100000 in
theorem w_rfeed_J22 {p : Program} {l : Launch} {e : Env} {s : State} {m : MethodId} {args : Array Value} {below : List Frame} {meth : Method} {c : Code} {A : Nat → Prop} {D : va_G} {md : Nat → Nat} {mc : Nat → ClassId} {Q : State → Prop} (hC : MCx "JoinedTreesModel" prog_14_method_4_code 7 (some .int) p s m args meth c A D mc) {S : MS} {x1 : Int32} {x2 : Int32} {x3 : Int32} {x4 : Int32} {x5 : Int32} {t0 : Int32} {t1 : Int32} {o : MS × Int32} (Heq : m_rfeed_J22 S x1 x2 x3 x4 x5 t0 t1 = some o) (Kr : ∀ r : MS × Int32, o = r → ∀ (pc : Nat) (H : Heap) (locs : List Loc) (ls : Array Slot), decode prog_14_method_4_code pc = .ok (.ireturn, 1) → va_P D cls (mw md mc r.1) H → va_D A (mw md mc r.1) → va_S A s.heap H locs → W p l e ({ frames := 1, cells := 0, slots := 0, locals := 21 }) s m args below meth c H locs 0 0 Q (F0 m pc ls [.int r.2])) : ∀ (H : Heap) (locs : List Loc) (ls : Array Slot), va_P D cls (mw md mc S) H → va_D A (mw md mc S) → va_S A s.heap H locs → lv_has ls 7 [(0, .ref (md 100)), (1, .int x1), (2, .int x2), (3, .int x3), (4, .int x4), (5, .int x5)] → W p l e ({ frames := 1, cells := 0, slots := 0, locals := 21 }) s m args below meth c H locs 0 0 Q (F0 m 22 ls [.int t0, .int t1]) := by
  intro H locs ls hP hD hS hl
  obtain ⟨hx, hb, hr, hml, hown, hts, hK, hA⟩ := id hC
  unfold m_rfeed_J22 at Heq
  refine lv_iadd hx hb d_rfeed_22 ?_
  refine w_i (y := t1 + t0) rfl ?_
  refine lv_aload_n hx hb d_rfeed_23 rfl (lv_at hl 0 rfl) ?_
  refine va_get (D := D) (ci := 12) (v := .int (S.i 7)) (C := R_MM) (T := F_MM) (N := 77) hx hb hts i_MM hown hK hP 0 rfl rfl 7 (by decide) (hts _ kw_1389) (fun _ h9 => h9) rfl d_rfeed_24 ?_
  refine lv_iconst (v := 1) hx hb d_rfeed_27 (by decide) ?_
  refine lv_icmp_le (tgt := 38) hx hb d_rfeed_28 (by decide) (fun c_1 => ?_) (fun c_1 => ?_)
  · replace Heq := (if_pos c_1).symm.trans Heq
    refine lv_iconst (v := 0) hx hb d_rfeed_38 (by decide) ?_
    exact w_rfeed_J39 hC Heq Kr _ _ _ hP hD hS (lv_sub hl [0, 1, 2, 3, 4, 5] rfl)
  · replace Heq := (if_neg c_1).symm.trans Heq
    refine lv_aload_n hx hb d_rfeed_31 rfl (lv_at hl 0 rfl) ?_
    refine va_get (D := D) (ci := 12) (v := .int (S.i 6)) (C := R_MM) (T := F_MM) (N := 77) hx hb hts i_MM hown hK hP 0 rfl rfl 6 (by decide) (hts _ kw_1388) (fun _ h9 => h9) rfl d_rfeed_32 ?_
    refine lv_goto (tgt := 39) hx hb d_rfeed_35 (by decide) ?_
    exact w_rfeed_J39 hC Heq Kr _ _ _ hP hD hS (lv_sub hl [0, 1, 2, 3, 4, 5] rfl)
def m_rfeed_J0 (S : MS) (x1 : Int32) (x2 : Int32) (x3 : Int32) (x4 : Int32) (x5 : Int32) : Option (MS × Int32) := (if S.i 7 ≤ 0 then m_rfeed_J22 S x1 x2 x3 x4 x5 0 ((S.i 4) + 20) else m_rfeed_J22 S x1 x2 x3 x4 x5 (S.i 5) ((S.i 4) + 20))
theorem d_rfeed_14 : decode prog_14_method_4_code 14 = .ok (.aload_n 0, 1) := by decide +kernel
theorem d_rfeed_15 : decode prog_14_method_4_code 15 = .ok (.getfield 185, 3) := by decide +kernel
theorem d_rfeed_18 : decode prog_14_method_4_code 18 = .ok (.goto 4, 3) := by decide +kernel
set_option maxHeartbeats 4000000 in
set_option maxRecDepth 100000 in
theorem w_rfeed_J0 {p : Program} {l : Launch} {e : Env} {s : State} {m : MethodId} {args : Array Value} {below : List Frame} {meth : Method} {c : Code} {A : Nat → Prop} {D : va_G} {md : Nat → Nat} {mc : Nat → ClassId} {Q : State → Prop} (hC : MCx "JoinedTreesModel" prog_14_method_4_code 7 (some .int) p s m args meth c A D mc) {S : MS} {x1 : Int32} {x2 : Int32} {x3 : Int32} {x4 : Int32} {x5 : Int32} {o : MS × Int32} (Heq : m_rfeed_J0 S x1 x2 x3 x4 x5 = some o) (Kr : ∀ r : MS × Int32, o = r → ∀ (pc : Nat) (H : Heap) (locs : List Loc) (ls : Array Slot), decode prog_14_method_4_code pc = .ok (.ireturn, 1) → va_P D cls (mw md mc r.1) H → va_D A (mw md mc r.1) → va_S A s.heap H locs → W p l e ({ frames := 1, cells := 0, slots := 0, locals := 21 }) s m args below meth c H locs 0 0 Q (F0 m pc ls [.int r.2])) : ∀ (H : Heap) (locs : List Loc) (ls : Array Slot), va_P D cls (mw md mc S) H → va_D A (mw md mc S) → va_S A s.heap H locs → lv_has ls 7 [(0, .ref (md 100)), (1, .int x1), (2, .int x2), (3, .int x3), (4, .int x4), (5, .int x5)] → W p l e ({ frames := 1, cells := 0, slots := 0, locals := 21 }) s m args below meth c H locs 0 0 Q (F0 m 0 ls []) := by
  intro H locs ls hP hD hS hl
  obtain ⟨hx, hb, hr, hml, hown, hts, hK, hA⟩ := id hC
  unfold m_rfeed_J0 at Heq
  refine lv_aload_n hx hb d_rfeed_0 rfl (lv_at hl 0 rfl) ?_
  refine va_get (D := D) (ci := 12) (v := .int (S.i 4)) (C := R_MM) (T := F_MM) (N := 77) hx hb hts i_MM hown hK hP 0 rfl rfl 4 (by decide) (hts _ kw_1386) (fun _ h9 => h9) rfl d_rfeed_1 ?_
  refine lv_bipush (v := 20) hx hb d_rfeed_4 (by decide) ?_
  refine lv_iadd hx hb d_rfeed_6 ?_
  refine w_i (y := (S.i 4) + 20) rfl ?_
  refine lv_aload_n hx hb d_rfeed_7 rfl (lv_at hl 0 rfl) ?_
  refine va_get (D := D) (ci := 12) (v := .int (S.i 7)) (C := R_MM) (T := F_MM) (N := 77) hx hb hts i_MM hown hK hP 0 rfl rfl 7 (by decide) (hts _ kw_1389) (fun _ h9 => h9) rfl d_rfeed_8 ?_
  refine lv_if_le (tgt := 21) hx hb d_rfeed_11 (by decide) (fun c_1 => ?_) (fun c_1 => ?_)
  · replace Heq := (if_pos c_1).symm.trans Heq
    refine lv_iconst (v := 0) hx hb d_rfeed_21 (by decide) ?_
    exact w_rfeed_J22 hC Heq Kr _ _ _ hP hD hS (lv_sub hl [0, 1, 2, 3, 4, 5] rfl)
  · replace Heq := (if_neg c_1).symm.trans Heq
    refine lv_aload_n hx hb d_rfeed_14 rfl (lv_at hl 0 rfl) ?_
    refine va_get (D := D) (ci := 12) (v := .int (S.i 5)) (C := R_MM) (T := F_MM) (N := 77) hx hb hts i_MM hown hK hP 0 rfl rfl 5 (by decide) (hts _ kw_1387) (fun _ h9 => h9) rfl d_rfeed_15 ?_
    refine lv_goto (tgt := 22) hx hb d_rfeed_18 (by decide) ?_
    exact w_rfeed_J22 hC Heq Kr _ _ _ hP hD hS (lv_sub hl [0, 1, 2, 3, 4, 5] rfl)
def m_rfeed (S : MS) (x1 : Int32) (x2 : Int32) (x3 : Int32) (x4 : Int32) (x5 : Int32) : Option (MS × Int32) := m_rfeed_J0 S x1 x2 x3 x4 x5
theorem g_rfeed (l : Launch) (D : va_G) (sz : Nat) {md : Nat → Nat} {mc : Nat → ClassId} {S : MS} {x1 : Int32} {x2 : Int32} {x3 : Int32} {x4 : Int32} {x5 : Int32} {o : MS × Int32} (Heq : m_rfeed S x1 x2 x3 x4 x5 = some o) : Met l ⟨"JoinedTreesModel", "feed", "(IIIII)I"⟩ (Cond.code ⟨"JoinedTreesModel", "feed", "(IIIII)I"⟩ prog_14_method_4_code 7 (some .int) :: gb) ({ frames := 1, cells := 0, slots := 0, locals := 21 }) (gPc D (mw md mc S) (mty mc) sz [.ref (md 100), .int x1, .int x2, .int x3, .int x4, .int x5]) (va_Qi (fun (r : Int32) (_ : Unit) => r = o.2) (fun _ t => gO D (mw md mc o.1) (mty mc) (va_A (mw md mc S) sz) t) (va_A (mw md mc S) sz)) 0 0 (va_A (mw md mc S) sz) := by
  refine Met.ofW (cc := prog_14_method_4_code) (maxL := 7) (ret := (some .int)) (by decide) rfl ?_
  intro p e s m args below meth c s₁ B hml hv
  obtain ⟨rfl, hsz, hP, hK, hD0⟩ := hv
  have hx := B.exec
  have hb := B.bytes
  have hr := B.returns
  have hts : ∀ w9 ∈ gb, w9.before [.ref (md 100), .int x1, .int x2, .int x3, .int x4, .int x5].toArray s = true := fun w9 h => atoms_spec (ws := Cond.code ⟨"JoinedTreesModel", "feed", "(IIIII)I"⟩ prog_14_method_4_code 7 (some .int) :: gb) B.pre w9 (List.mem_cons_of_mem _ h)
  have hown : s.vm.findClass "JoinedTreesModel" = some m.cls := findClass_of_methodNamed B.named
  have hlocks := B.notSynchronized
  subst hsz
  have hD := hD0.self (sz := s.heap.size)
  generalize hAe : va_A (mw md mc S) s.heap.size = A at hD ⊢
  have hA : ∀ q : Nat, s.heap.size ≤ q → A q := fun q h => by rw [← hAe]; exact Or.inr h
  have hS : va_S A s.heap s.heap [] := va_S.rf
  have hl := lv_entry ([.ref (md 100), .int x1, .int x2, .int x3, .int x4, .int x5]) (n := 7) (Nat.le_of_ble_eq_true rfl)
  rw [lg_entry_eq]
  generalize (lg_sl ([.ref (md 100), .int x1, .int x2, .int x3, .int x4, .int x5]) ++ List.replicate (7 - (lg_sl ([.ref (md 100), .int x1, .int x2, .int x3, .int x4, .int x5])).length) Slot.unset).toArray = ls at hl ⊢
  have hl : lv_has ls 7 [(0, .ref (md 100)), (1, .int x1), (2, .int x2), (3, .int x3), (4, .int x4), (5, .int x5)] := hl
  refine w_rfeed_J0 ⟨hx, hb, hr, hml, hown, hts, hK, hA⟩ Heq (fun r h pc H locs ls hd hP hD hS => ?_) _ _ _ hP hD hS (lv_sub hl [0, 1, 2, 3, 4, 5] rfl)
  subst h
  exact W.iret hx hb hr (fun t ht hW => ⟨⟨_, (), rfl, rfl, by rw [ht]; exact hP, va_K.moved hW.alike hK, hD⟩, hS.F ht⟩) hS.2.2 hd
def m_rend_J18 (S : MS) : Option (MS × Int32) := ob (m_rno S 1) (fun o_1 => some (o_1.1, o_1.2))
theorem d_rend_0 : decode prog_14_method_5_code 0 = .ok (.iload_n 1, 1) := by decide +kernel
theorem d_rend_1 : decode prog_14_method_5_code 1 = .ok (.ifCond .lt 17, 3) := by decide +kernel
theorem d_rend_18 : decode prog_14_method_5_code 18 = .ok (.aload_n 0, 1) := by decide +kernel
theorem d_rend_19 : decode prog_14_method_5_code 19 = .ok (.iconst 1, 1) := by decide +kernel
theorem d_rend_20 : decode prog_14_method_5_code 20 = .ok (.invokevirtual 191, 3) := by decide +kernel
theorem d_rend_23 : decode prog_14_method_5_code 23 = .ok (.ireturn, 1) := by decide +kernel
set_option maxHeartbeats 4000000 in
set_option maxRecDepth 100000 in
theorem w_rend_J18 {p : Program} {l : Launch} {e : Env} {s : State} {m : MethodId} {args : Array Value} {below : List Frame} {meth : Method} {c : Code} {A : Nat → Prop} {D : va_G} {md : Nat → Nat} {mc : Nat → ClassId} {Q : State → Prop} (hC : MCx "JoinedTreesModel" prog_14_method_5_code 4 (some .int) p s m args meth c A D mc) {S : MS} {o : MS × Int32} (Heq : m_rend_J18 S = some o) (Kr : ∀ r : MS × Int32, o = r → ∀ (pc : Nat) (H : Heap) (locs : List Loc) (ls : Array Slot), decode prog_14_method_5_code pc = .ok (.ireturn, 1) → va_P D cls (mw md mc r.1) H → va_D A (mw md mc r.1) → va_S A s.heap H locs → W p l e ({ frames := 1, cells := 0, slots := 0, locals := 21 }) s m args below meth c H locs 0 0 Q (F0 m pc ls [.int r.2])) : ∀ (H : Heap) (locs : List Loc) (ls : Array Slot), va_P D cls (mw md mc S) H → va_D A (mw md mc S) → va_S A s.heap H locs → lv_has ls 4 [(0, .ref (md 100))] → W p l e ({ frames := 1, cells := 0, slots := 0, locals := 21 }) s m args below meth c H locs 0 0 Q (F0 m 18 ls []) := by
  intro H locs ls hP hD hS hl
  obtain ⟨hx, hb, hr, hml, hown, hts, hK, hA⟩ := id hC
  unfold m_rend_J18 at Heq
  refine lv_aload_n hx hb d_rend_18 rfl (lv_at hl 0 rfl) ?_
  refine lv_iconst (v := 1) hx hb d_rend_19 (by decide) ?_
  obtain ⟨o_1, h_2, Heq⟩ := ob_some Heq
  have hFc := fr_all hD hS hA
  refine va_calli (va_runV (As := [.int 1]) (rest := []) ⟨hx, hb, hml, hown, hts⟩ (g_rno l D H.size h_2) (cw_v 1 hts kw_1626 kw_1623 kw_1625 kp_29 kw_11 rfl rfl (by decide +kernel) ⟨Nat.le_of_ble_eq_true rfl, Nat.le_of_ble_eq_true rfl⟩) ⟨g_blind, va_recv hK hP (ci := 12) (q0 := 0) rfl rfl, fun U hU hW => g_pre hU hW hP hK hD⟩ rfl rfl hl.1 rfl (lv_room (Nat.le_of_ble_eq_true rfl)) d_rend_20 ⟨Nat.le_of_ble_eq_true rfl, Nat.le_of_ble_eq_true rfl⟩) hS (fun q _ h => hFc q h) hFc (fun rz u t H1 locs ht hvm hw hB hz1 hk1 hS => ?_)
  obtain ⟨hP, -, hD1⟩ := hB
  rw [ht] at hP
  have hD := hD1.weaken (fun _ q _ h => hFc q.1 h)
  generalize H1 = H at hP hS ⊢
  refine W.cs (cells' := 0) (slots' := 0) rfl rfl ?_
  subst hw
  exact Kr _ (Option.some.inj Heq).symm 23 _ _ _ d_rend_23 hP hD hS
def m_rend_B109 (S : MS) (x2 : Nat) (x3 : Int32) : Option ((MS × Nat × Int32) ⊕ MS) := (if S.i 4 ≤ x3 then some (.inr (S)) else gd x3 8300 (gB x2 (gd x3 8300 (some (.inl ((S.setA x2 (upd (S.a x2) x3.toNatClampNeg (vp_nar .byte (S.a 1 x3.toNatClampNeg)))), x2, (x3 + 1)))))))
theorem d_rend_4 : decode prog_14_method_5_code 4 = .ok (.iload_n 1, 1) := by decide +kernel
theorem d_rend_5 : decode prog_14_method_5_code 5 = .ok (.bipush 19, 2) := by decide +kernel
theorem d_rend_7 : decode prog_14_method_5_code 7 = .ok (.if_icmp .gt 11, 3) := by decide +kernel
theorem d_rend_10 : decode prog_14_method_5_code 10 = .ok (.iload_n 1, 1) := by decide +kernel
theorem d_rend_11 : decode prog_14_method_5_code 11 = .ok (.aload_n 0, 1) := by decide +kernel
theorem d_rend_12 : decode prog_14_method_5_code 12 = .ok (.getfield 179, 3) := by decide +kernel
theorem d_rend_15 : decode prog_14_method_5_code 15 = .ok (.if_icmp .le 9, 3) := by decide +kernel
theorem d_rend_24 : decode prog_14_method_5_code 24 = .ok (.aload_n 0, 1) := by decide +kernel
theorem d_rend_25 : decode prog_14_method_5_code 25 = .ok (.iconst 0, 1) := by decide +kernel
theorem d_rend_26 : decode prog_14_method_5_code 26 = .ok (.putfield 176, 3) := by decide +kernel
theorem d_rend_29 : decode prog_14_method_5_code 29 = .ok (.aload_n 0, 1) := by decide +kernel
theorem d_rend_30 : decode prog_14_method_5_code 30 = .ok (.dup, 1) := by decide +kernel
theorem d_rend_31 : decode prog_14_method_5_code 31 = .ok (.getfield 179, 3) := by decide +kernel
theorem d_rend_34 : decode prog_14_method_5_code 34 = .ok (.iload_n 1, 1) := by decide +kernel
theorem d_rend_35 : decode prog_14_method_5_code 35 = .ok (.isub, 1) := by decide +kernel
theorem d_rend_36 : decode prog_14_method_5_code 36 = .ok (.putfield 179, 3) := by decide +kernel
theorem d_rend_39 : decode prog_14_method_5_code 39 = .ok (.aload_n 0, 1) := by decide +kernel
theorem d_rend_40 : decode prog_14_method_5_code 40 = .ok (.getfield 182, 3) := by decide +kernel
theorem d_rend_43 : decode prog_14_method_5_code 43 = .ok (.iconst 2, 1) := by decide +kernel
theorem d_rend_44 : decode prog_14_method_5_code 44 = .ok (.if_icmp .ne 44, 3) := by decide +kernel
theorem d_rend_88 : decode prog_14_method_5_code 88 = .ok (.aload_n 0, 1) := by decide +kernel
theorem d_rend_89 : decode prog_14_method_5_code 89 = .ok (.getfield 182, 3) := by decide +kernel
theorem d_rend_92 : decode prog_14_method_5_code 92 = .ok (.ifCond .ne 10, 3) := by decide +kernel
theorem d_rend_102 : decode prog_14_method_5_code 102 = .ok (.aload_n 0, 1) := by decide +kernel
theorem d_rend_103 : decode prog_14_method_5_code 103 = .ok (.getfield 16, 3) := by decide +kernel
theorem d_rend_106 : decode prog_14_method_5_code 106 = .ok (.astore_n 2, 1) := by decide +kernel
theorem d_rend_107 : decode prog_14_method_5_code 107 = .ok (.iconst 0, 1) := by decide +kernel
theorem d_rend_108 : decode prog_14_method_5_code 108 = .ok (.istore_n 3, 1) := by decide +kernel
theorem d_rend_109 : decode prog_14_method_5_code 109 = .ok (.iload_n 3, 1) := by decide +kernel
theorem d_rend_110 : decode prog_14_method_5_code 110 = .ok (.aload_n 0, 1) := by decide +kernel
theorem d_rend_111 : decode prog_14_method_5_code 111 = .ok (.getfield 179, 3) := by decide +kernel
theorem d_rend_114 : decode prog_14_method_5_code 114 = .ok (.if_icmp .ge 18, 3) := by decide +kernel
theorem d_rend_117 : decode prog_14_method_5_code 117 = .ok (.aload_n 2, 1) := by decide +kernel
theorem d_rend_118 : decode prog_14_method_5_code 118 = .ok (.iload_n 3, 1) := by decide +kernel
theorem d_rend_119 : decode prog_14_method_5_code 119 = .ok (.aload_n 0, 1) := by decide +kernel
theorem d_rend_120 : decode prog_14_method_5_code 120 = .ok (.getfield 7, 3) := by decide +kernel
theorem d_rend_123 : decode prog_14_method_5_code 123 = .ok (.iload_n 3, 1) := by decide +kernel
theorem d_rend_124 : decode prog_14_method_5_code 124 = .ok (.baload, 1) := by decide +kernel
theorem d_rend_125 : decode prog_14_method_5_code 125 = .ok (.bastore, 1) := by decide +kernel
theorem d_rend_126 : decode prog_14_method_5_code 126 = .ok (.iinc 3 1, 3) := by decide +kernel
theorem d_rend_129 : decode prog_14_method_5_code 129 = .ok (.goto (-20), 3) := by decide +kernel
set_option maxHeartbeats 4000000 in
set_option maxRecDepth 100000 in
theorem w_rend_B109 {p : Program} {l : Launch} {e : Env} {s : State} {m : MethodId} {args : Array Value} {below : List Frame} {meth : Method} {c : Code} {A : Nat → Prop} {D : va_G} {md : Nat → Nat} {mc : Nat → ClassId} {Q : State → Prop} (hC : MCx "JoinedTreesModel" prog_14_method_5_code 4 (some .int) p s m args meth c A D mc) {S : MS} {x2 : Nat} {x3 : Int32} {o : ((MS × Nat × Int32) ⊕ MS)} (Heq : m_rend_B109 S x2 x3 = some o) (Ka : ∀ b : MS × Nat × Int32, o = .inl b → ∀ (H : Heap) (locs : List Loc) (ls : Array Slot), va_P D cls (mw md mc b.1) H → va_D A (mw md mc b.1) → va_S A s.heap H locs → lv_has ls 4 [(0, .ref (md 100)), (2, .ref (md b.2.1)), (3, .int b.2.2)] → W p l e ({ frames := 1, cells := 0, slots := 0, locals := 21 }) s m args below meth c H locs 0 0 Q (F0 m 109 ls [])) (K0 : ∀ b : MS, o = .inr b → ∀ (H : Heap) (locs : List Loc) (ls : Array Slot), va_P D cls (mw md mc b) H → va_D A (mw md mc b) → va_S A s.heap H locs → lv_has ls 4 [(0, .ref (md 100))] → W p l e ({ frames := 1, cells := 0, slots := 0, locals := 21 }) s m args below meth c H locs 0 0 Q (F0 m 132 ls [])) : ∀ (H : Heap) (locs : List Loc) (ls : Array Slot), va_P D cls (mw md mc S) H → va_D A (mw md mc S) → va_S A s.heap H locs → lv_has ls 4 [(0, .ref (md 100)), (2, .ref (md x2)), (3, .int x3)] → W p l e ({ frames := 1, cells := 0, slots := 0, locals := 21 }) s m args below meth c H locs 0 0 Q (F0 m 109 ls []) := by
  intro H locs ls hP hD hS hl
  obtain ⟨hx, hb, hr, hml, hown, hts, hK, hA⟩ := id hC
  unfold m_rend_B109 at Heq
  refine lv_iload_n hx hb d_rend_109 rfl (lv_at hl 2 rfl) ?_
  refine lv_aload_n hx hb d_rend_110 rfl (lv_at hl 0 rfl) ?_
  refine va_get (D := D) (ci := 12) (v := .int (S.i 4)) (C := R_MM) (T := F_MM) (N := 77) hx hb hts i_MM hown hK hP 0 rfl rfl 4 (by decide) (hts _ kw_1386) (fun _ h9 => h9) rfl d_rend_111 ?_
  refine lv_icmp_ge (tgt := 132) hx hb d_rend_114 (by decide) (fun c_1 => ?_) (fun c_1 => ?_)
  · replace Heq := (if_pos c_1).symm.trans Heq
    exact K0 _ (Option.some.inj Heq).symm _ _ _ hP hD hS (lv_sub hl [0] rfl)
  · replace Heq := (if_neg c_1).symm.trans Heq
    refine lv_aload_n hx hb d_rend_117 rfl (lv_at hl 1 rfl) ?_
    refine lv_iload_n hx hb d_rend_118 rfl (lv_at hl 2 rfl) ?_
    refine lv_aload_n hx hb d_rend_119 rfl (lv_at hl 0 rfl) ?_
    refine va_get (D := D) (ci := 12) (v := .ref (md 1)) (C := R_MM) (T := F_MM) (N := 77) hx hb hts i_MM hown hK hP 0 rfl rfl 1 (by decide) (hts _ kw_1383) (fun _ h9 => h9) rfl d_rend_120 ?_
    refine lv_iload_n hx hb d_rend_123 rfl (lv_at hl 2 rfl) ?_
    obtain ⟨hi_2, Heq⟩ := gd_some Heq
    refine va_bald hx hb hK hP 1 1 rfl rfl (i := x3) hi_2 d_rend_124 ?_
    refine w_i (y := S.a 1 x3.toNatClampNeg) rfl ?_
    obtain ⟨hB_x2, Heq⟩ := gB_some Heq
    obtain ⟨hi_3, Heq⟩ := gd_some Heq
    refine va_bast hx hb hK hP hD hS (bpos x2) 1 (mp_B hB_x2) rfl (i := x3) (x := S.a 1 x3.toNatClampNeg) hi_3 d_rend_125 (fun H locs hP hD hS => ?_)
    rw [(mw_B hB_x2)] at hP hD
    refine lv_iinc (v := x3 + 1) (lv' := [(3, .int (x3 + 1)), (0, .ref (md 100)), (2, .ref (md x2))]) hx hb d_rend_126 hl (k := 2) rfl rfl (by decide) rfl (fun ls hl => ?_)
    refine lv_goto (tgt := 109) hx hb d_rend_129 (by decide) ?_
    exact Ka _ (Option.some.inj Heq).symm _ _ _ hP hD hS (lv_sub hl [1, 2, 0] rfl)
def m_rend_L109 (S : MS) (x2 : Nat) (x3 : Int32) : Option MS := lp (fun a : MS × Nat × Int32 => m_rend_B109 a.1 a.2.1 a.2.2) FU (S, x2, x3)
theorem w_rend_L109 {p : Program} {l : Launch} {e : Env} {s : State} {m : MethodId} {args : Array Value} {below : List Frame} {meth : Method} {c : Code} {A : Nat → Prop} {D : va_G} {md : Nat → Nat} {mc : Nat → ClassId} {Q : State → Prop} (hC : MCx "JoinedTreesModel" prog_14_method_5_code 4 (some .int) p s m args meth c A D mc) {S : MS} {x2 : Nat} {x3 : Int32} {o : MS} (Heq : m_rend_L109 S x2 x3 = some o) (K0 : ∀ b : MS, o = b → ∀ (H : Heap) (locs : List Loc) (ls : Array Slot), va_P D cls (mw md mc b) H → va_D A (mw md mc b) → va_S A s.heap H locs → lv_has ls 4 [(0, .ref (md 100))] → W p l e ({ frames := 1, cells := 0, slots := 0, locals := 21 }) s m args below meth c H locs 0 0 Q (F0 m 132 ls [])) : ∀ (H : Heap) (locs : List Loc) (ls : Array Slot), va_P D cls (mw md mc S) H → va_D A (mw md mc S) → va_S A s.heap H locs → lv_has ls 4 [(0, .ref (md 100)), (2, .ref (md x2)), (3, .int x3)] → W p l e ({ frames := 1, cells := 0, slots := 0, locals := 21 }) s m args below meth c H locs 0 0 Q (F0 m 109 ls []) := by
  refine lp_w (G := fun a : MS × Nat × Int32 => ∀ (H : Heap) (locs : List Loc) (ls : Array Slot), va_P D cls (mw md mc a.1) H → va_D A (mw md mc a.1) → va_S A s.heap H locs → lv_has ls 4 [(0, .ref (md 100)), (2, .ref (md a.2.1)), (3, .int a.2.2)] → W p l e ({ frames := 1, cells := 0, slots := 0, locals := 21 }) s m args below meth c H locs 0 0 Q (F0 m 109 ls [])) ?_ FU (S, x2, x3) Heq
  intro a o1 ho Ka Ke
  exact w_rend_B109 hC ho (fun b h => Ka b h) (fun b h => K0 b (Ke _ h).symm)
def m_rend_J158 (S : MS) : Option (MS × Int32) := some (((S.setI 7 ((S.i 7) + 1)).setI 4 0), (S.i 7) + 1)
theorem d_rend_132 : decode prog_14_method_5_code 132 = .ok (.aload_n 0, 1) := by decide +kernel
theorem d_rend_133 : decode prog_14_method_5_code 133 = .ok (.getfield 182, 3) := by decide +kernel
theorem d_rend_136 : decode prog_14_method_5_code 136 = .ok (.ifCond .ne 14, 3) := by decide +kernel
theorem d_rend_150 : decode prog_14_method_5_code 150 = .ok (.aload_n 0, 1) := by decide +kernel
theorem d_rend_151 : decode prog_14_method_5_code 151 = .ok (.aload_n 0, 1) := by decide +kernel
theorem d_rend_152 : decode prog_14_method_5_code 152 = .ok (.getfield 179, 3) := by decide +kernel
theorem d_rend_155 : decode prog_14_method_5_code 155 = .ok (.putfield 188, 3) := by decide +kernel
theorem d_rend_158 : decode prog_14_method_5_code 158 = .ok (.aload_n 0, 1) := by decide +kernel
theorem d_rend_159 : decode prog_14_method_5_code 159 = .ok (.dup, 1) := by decide +kernel
theorem d_rend_160 : decode prog_14_method_5_code 160 = .ok (.getfield 182, 3) := by decide +kernel
theorem d_rend_163 : decode prog_14_method_5_code 163 = .ok (.iconst 1, 1) := by decide +kernel
theorem d_rend_164 : decode prog_14_method_5_code 164 = .ok (.iadd, 1) := by decide +kernel
theorem d_rend_165 : decode prog_14_method_5_code 165 = .ok (.putfield 182, 3) := by decide +kernel
theorem d_rend_168 : decode prog_14_method_5_code 168 = .ok (.aload_n 0, 1) := by decide +kernel
theorem d_rend_169 : decode prog_14_method_5_code 169 = .ok (.iconst 0, 1) := by decide +kernel
theorem d_rend_170 : decode prog_14_method_5_code 170 = .ok (.putfield 179, 3) := by decide +kernel
theorem d_rend_173 : decode prog_14_method_5_code 173 = .ok (.aload_n 0, 1) := by decide +kernel
theorem d_rend_174 : decode prog_14_method_5_code 174 = .ok (.getfield 182, 3) := by decide +kernel
theorem d_rend_177 : decode prog_14_method_5_code 177 = .ok (.ireturn, 1) := by decide +kernel
set_option maxHeartbeats 4000000 in
set_option maxRecDepth 100000 in
theorem w_rend_J158 {p : Program} {l : Launch} {e : Env} {s : State} {m : MethodId} {args : Array Value} {below : List Frame} {meth : Method} {c : Code} {A : Nat → Prop} {D : va_G} {md : Nat → Nat} {mc : Nat → ClassId} {Q : State → Prop} (hC : MCx "JoinedTreesModel" prog_14_method_5_code 4 (some .int) p s m args meth c A D mc) {S : MS} {o : MS × Int32} (Heq : m_rend_J158 S = some o) (Kr : ∀ r : MS × Int32, o = r → ∀ (pc : Nat) (H : Heap) (locs : List Loc) (ls : Array Slot), decode prog_14_method_5_code pc = .ok (.ireturn, 1) → va_P D cls (mw md mc r.1) H → va_D A (mw md mc r.1) → va_S A s.heap H locs → W p l e ({ frames := 1, cells := 0, slots := 0, locals := 21 }) s m args below meth c H locs 0 0 Q (F0 m pc ls [.int r.2])) : ∀ (H : Heap) (locs : List Loc) (ls : Array Slot), va_P D cls (mw md mc S) H → va_D A (mw md mc S) → va_S A s.heap H locs → lv_has ls 4 [(0, .ref (md 100))] → W p l e ({ frames := 1, cells := 0, slots := 0, locals := 21 }) s m args below meth c H locs 0 0 Q (F0 m 158 ls []) := by
  intro H locs ls hP hD hS hl
  obtain ⟨hx, hb, hr, hml, hown, hts, hK, hA⟩ := id hC
  unfold m_rend_J158 at Heq
  refine lv_aload_n hx hb d_rend_158 rfl (lv_at hl 0 rfl) ?_
  refine lv_dup hx hb d_rend_159 rfl ?_
  refine va_get (D := D) (ci := 12) (v := .int (S.i 7)) (C := R_MM) (T := F_MM) (N := 77) hx hb hts i_MM hown hK hP 0 rfl rfl 7 (by decide) (hts _ kw_1389) (fun _ h9 => h9) rfl d_rend_160 ?_
  refine lv_iconst (v := 1) hx hb d_rend_163 (by decide) ?_
  refine lv_iadd hx hb d_rend_164 ?_
  refine w_i (y := (S.i 7) + 1) rfl ?_
  refine va_put (D := D) (ci := 12) (v := .int ((S.i 7) + 1)) (ty := .int) (C := R_MM) (T := F_MM) (N := 77) hx hb hts i_MM t_MM t_MM_ok n_MM hown hK hP hD hS 0 rfl rfl 7 (by decide) (hts _ kw_1389) (fun _ h9 => h9) rfl (by decide +kernel) rfl rfl (Nat.le_of_ble_eq_true rfl) d_rend_165 (fun H locs hP hD hS => ?_)
  rw [mw_I7] at hP hD
  refine lv_aload_n hx hb d_rend_168 rfl (lv_at hl 0 rfl) ?_
  refine lv_iconst (v := 0) hx hb d_rend_169 (by decide) ?_
  refine va_put (D := D) (ci := 12) (v := .int 0) (ty := .int) (C := R_MM) (T := F_MM) (N := 77) hx hb hts i_MM t_MM t_MM_ok n_MM hown hK hP hD hS 0 rfl rfl 4 (by decide) (hts _ kw_1386) (fun _ h9 => h9) rfl (by decide +kernel) rfl rfl (Nat.le_of_ble_eq_true rfl) d_rend_170 (fun H locs hP hD hS => ?_)
  rw [mw_I4] at hP hD
  refine lv_aload_n hx hb d_rend_173 rfl (lv_at hl 0 rfl) ?_
  refine va_get (D := D) (ci := 12) (v := .int ((S.i 7) + 1)) (C := R_MM) (T := F_MM) (N := 77) hx hb hts i_MM hown hK hP 0 rfl rfl 7 (by decide) (hts _ kw_1389) (fun _ h9 => h9) rfl d_rend_174 ?_
  exact Kr _ (Option.some.inj Heq).symm 177 _ _ _ d_rend_177 hP hD hS
def m_rend_J106 (S : MS) (t0 : Nat) : Option (MS × Int32) := ob (m_rend_L109 S t0 0) (fun b_1 => (if b_1.i 7 = 0 then m_rend_J158 (b_1.setI 5 (b_1.i 4)) else m_rend_J158 (b_1.setI 6 (b_1.i 4))))
theorem d_rend_139 : decode prog_14_method_5_code 139 = .ok (.aload_n 0, 1) := by decide +kernel
theorem d_rend_140 : decode prog_14_method_5_code 140 = .ok (.aload_n 0, 1) := by decide +kernel
theorem d_rend_141 : decode prog_14_method_5_code 141 = .ok (.getfield 179, 3) := by decide +kernel
theorem d_rend_144 : decode prog_14_method_5_code 144 = .ok (.putfield 185, 3) := by decide +kernel
theorem d_rend_147 : decode prog_14_method_5_code 147 = .ok (.goto 11, 3) := by decide +kernel
set_option maxHeartbeats 4000000 in
set_option maxRecDepth 100000 in
theorem w_rend_J106 {p : Program} {l : Launch} {e : Env} {s : State} {m : MethodId} {args : Array Value} {below : List Frame} {meth : Method} {c : Code} {A : Nat → Prop} {D : va_G} {md : Nat → Nat} {mc : Nat → ClassId} {Q : State → Prop} (hC : MCx "JoinedTreesModel" prog_14_method_5_code 4 (some .int) p s m args meth c A D mc) {S : MS} {t0 : Nat} {o : MS × Int32} (Heq : m_rend_J106 S t0 = some o) (Kr : ∀ r : MS × Int32, o = r → ∀ (pc : Nat) (H : Heap) (locs : List Loc) (ls : Array Slot), decode prog_14_method_5_code pc = .ok (.ireturn, 1) → va_P D cls (mw md mc r.1) H → va_D A (mw md mc r.1) → va_S A s.heap H locs → W p l e ({ frames := 1, cells := 0, slots := 0, locals := 21 }) s m args below meth c H locs 0 0 Q (F0 m pc ls [.int r.2])) : ∀ (H : Heap) (locs : List Loc) (ls : Array Slot), va_P D cls (mw md mc S) H → va_D A (mw md mc S) → va_S A s.heap H locs → lv_has ls 4 [(0, .ref (md 100))] → W p l e ({ frames := 1, cells := 0, slots := 0, locals := 21 }) s m args below meth c H locs 0 0 Q (F0 m 106 ls [.ref (md t0)]) := by
  intro H locs ls hP hD hS hl
  obtain ⟨hx, hb, hr, hml, hown, hts, hK, hA⟩ := id hC
  unfold m_rend_J106 at Heq
  refine lv_astore_n (lv' := [(2, .ref (md t0)), (0, .ref (md 100))]) hx hb d_rend_106 rfl hl (by decide) rfl (fun ls hl => ?_)
  refine lv_iconst (v := 0) hx hb d_rend_107 (by decide) ?_
  refine lv_istore_n (lv' := [(3, .int 0), (2, .ref (md t0)), (0, .ref (md 100))]) hx hb d_rend_108 rfl hl (by decide) rfl (fun ls hl => ?_)
  obtain ⟨b_1, h_2, Heq⟩ := ob_some Heq
  refine w_rend_L109 hC h_2 (fun b h => ?_) _ _ _ hP hD hS (lv_sub hl [2, 1, 0] rfl)
  subst h
  intro H locs ls hP hD hS hl
  refine lv_aload_n hx hb d_rend_132 rfl (lv_at hl 0 rfl) ?_
  refine va_get (D := D) (ci := 12) (v := .int (b_1.i 7)) (C := R_MM) (T := F_MM) (N := 77) hx hb hts i_MM hown hK hP 0 rfl rfl 7 (by decide) (hts _ kw_1389) (fun _ h9 => h9) rfl d_rend_133 ?_
  refine lv_if_ne (tgt := 150) hx hb d_rend_136 (by decide) (fun c_3 => ?_) (fun c_3 => ?_)
  · replace Heq := (if_neg c_3).symm.trans Heq
    refine lv_aload_n hx hb d_rend_150 rfl (lv_at hl 0 rfl) ?_
    refine lv_aload_n hx hb d_rend_151 rfl (lv_at hl 0 rfl) ?_
    refine va_get (D := D) (ci := 12) (v := .int (b_1.i 4)) (C := R_MM) (T := F_MM) (N := 77) hx hb hts i_MM hown hK hP 0 rfl rfl 4 (by decide) (hts _ kw_1386) (fun _ h9 => h9) rfl d_rend_152 ?_
    refine va_put (D := D) (ci := 12) (v := .int (b_1.i 4)) (ty := .int) (C := R_MM) (T := F_MM) (N := 77) hx hb hts i_MM t_MM t_MM_ok n_MM hown hK hP hD hS 0 rfl rfl 6 (by decide) (hts _ kw_1388) (fun _ h9 => h9) rfl (by decide +kernel) rfl rfl (Nat.le_of_ble_eq_true rfl) d_rend_155 (fun H locs hP hD hS => ?_)
    rw [mw_I6] at hP hD
    exact w_rend_J158 hC Heq Kr _ _ _ hP hD hS (lv_sub hl [0] rfl)
  · replace Heq := (if_pos c_3).symm.trans Heq
    refine lv_aload_n hx hb d_rend_139 rfl (lv_at hl 0 rfl) ?_
    refine lv_aload_n hx hb d_rend_140 rfl (lv_at hl 0 rfl) ?_
    refine va_get (D := D) (ci := 12) (v := .int (b_1.i 4)) (C := R_MM) (T := F_MM) (N := 77) hx hb hts i_MM hown hK hP 0 rfl rfl 4 (by decide) (hts _ kw_1386) (fun _ h9 => h9) rfl d_rend_141 ?_
    refine va_put (D := D) (ci := 12) (v := .int (b_1.i 4)) (ty := .int) (C := R_MM) (T := F_MM) (N := 77) hx hb hts i_MM t_MM t_MM_ok n_MM hown hK hP hD hS 0 rfl rfl 5 (by decide) (hts _ kw_1387) (fun _ h9 => h9) rfl (by decide +kernel) rfl rfl (Nat.le_of_ble_eq_true rfl) d_rend_144 (fun H locs hP hD hS => ?_)
    rw [mw_I5] at hP hD
    refine lv_goto (tgt := 158) hx hb d_rend_147 (by decide) ?_
    exact w_rend_J158 hC Heq Kr _ _ _ hP hD hS (lv_sub hl [0] rfl)
def m_rend_J88 (S : MS) : Option (MS × Int32) := (if S.i 7 = 0 then m_rend_J106 S 2 else m_rend_J106 S 3)
theorem d_rend_95 : decode prog_14_method_5_code 95 = .ok (.aload_n 0, 1) := by decide +kernel
theorem d_rend_96 : decode prog_14_method_5_code 96 = .ok (.getfield 13, 3) := by decide +kernel
theorem d_rend_99 : decode prog_14_method_5_code 99 = .ok (.goto 7, 3) := by decide +kernel
set_option maxHeartbeats 4000000 in
set_option maxRecDepth 100000 in
theorem w_rend_J88 {p : Program} {l : Launch} {e : Env} {s : State} {m : MethodId} {args : Array Value} {below : List Frame} {meth : Method} {c : Code} {A : Nat → Prop} {D : va_G} {md : Nat → Nat} {mc : Nat → ClassId} {Q : State → Prop} (hC : MCx "JoinedTreesModel" prog_14_method_5_code 4 (some .int) p s m args meth c A D mc) {S : MS} {o : MS × Int32} (Heq : m_rend_J88 S = some o) (Kr : ∀ r : MS × Int32, o = r → ∀ (pc : Nat) (H : Heap) (locs : List Loc) (ls : Array Slot), decode prog_14_method_5_code pc = .ok (.ireturn, 1) → va_P D cls (mw md mc r.1) H → va_D A (mw md mc r.1) → va_S A s.heap H locs → W p l e ({ frames := 1, cells := 0, slots := 0, locals := 21 }) s m args below meth c H locs 0 0 Q (F0 m pc ls [.int r.2])) : ∀ (H : Heap) (locs : List Loc) (ls : Array Slot), va_P D cls (mw md mc S) H → va_D A (mw md mc S) → va_S A s.heap H locs → lv_has ls 4 [(0, .ref (md 100))] → W p l e ({ frames := 1, cells := 0, slots := 0, locals := 21 }) s m args below meth c H locs 0 0 Q (F0 m 88 ls []) := by
  intro H locs ls hP hD hS hl
  obtain ⟨hx, hb, hr, hml, hown, hts, hK, hA⟩ := id hC
  unfold m_rend_J88 at Heq
  refine lv_aload_n hx hb d_rend_88 rfl (lv_at hl 0 rfl) ?_
  refine va_get (D := D) (ci := 12) (v := .int (S.i 7)) (C := R_MM) (T := F_MM) (N := 77) hx hb hts i_MM hown hK hP 0 rfl rfl 7 (by decide) (hts _ kw_1389) (fun _ h9 => h9) rfl d_rend_89 ?_
  refine lv_if_ne (tgt := 102) hx hb d_rend_92 (by decide) (fun c_1 => ?_) (fun c_1 => ?_)
  · replace Heq := (if_neg c_1).symm.trans Heq
    refine lv_aload_n hx hb d_rend_102 rfl (lv_at hl 0 rfl) ?_
    refine va_get (D := D) (ci := 12) (v := .ref (md 3)) (C := R_MM) (T := F_MM) (N := 77) hx hb hts i_MM hown hK hP 0 rfl rfl 3 (by decide) (hts _ kw_1385) (fun _ h9 => h9) rfl d_rend_103 ?_
    exact w_rend_J106 hC Heq Kr _ _ _ hP hD hS (lv_sub hl [0] rfl)
  · replace Heq := (if_pos c_1).symm.trans Heq
    refine lv_aload_n hx hb d_rend_95 rfl (lv_at hl 0 rfl) ?_
    refine va_get (D := D) (ci := 12) (v := .ref (md 2)) (C := R_MM) (T := F_MM) (N := 77) hx hb hts i_MM hown hK hP 0 rfl rfl 2 (by decide) (hts _ kw_1384) (fun _ h9 => h9) rfl d_rend_96 ?_
    refine lv_goto (tgt := 106) hx hb d_rend_99 (by decide) ?_
    exact w_rend_J106 hC Heq Kr _ _ _ hP hD hS (lv_sub hl [0] rfl)
def m_rend_B49 (S : MS) (x2 : Int32) : Option ((MS × Int32) ⊕ MS) := (if S.i 6 ≤ x2 then some (.inr (S)) else gd x2 8300 (gd x2 8300 (some (.inl ((S.setA 2 (upd (S.a 2) x2.toNatClampNeg (vp_nar .byte (S.a 3 x2.toNatClampNeg)))), (x2 + 1))))))
theorem d_rend_47 : decode prog_14_method_5_code 47 = .ok (.iconst 0, 1) := by decide +kernel
theorem d_rend_48 : decode prog_14_method_5_code 48 = .ok (.istore_n 2, 1) := by decide +kernel
theorem d_rend_49 : decode prog_14_method_5_code 49 = .ok (.iload_n 2, 1) := by decide +kernel
theorem d_rend_50 : decode prog_14_method_5_code 50 = .ok (.aload_n 0, 1) := by decide +kernel
theorem d_rend_51 : decode prog_14_method_5_code 51 = .ok (.getfield 188, 3) := by decide +kernel
theorem d_rend_54 : decode prog_14_method_5_code 54 = .ok (.if_icmp .ge 21, 3) := by decide +kernel
theorem d_rend_57 : decode prog_14_method_5_code 57 = .ok (.aload_n 0, 1) := by decide +kernel
theorem d_rend_58 : decode prog_14_method_5_code 58 = .ok (.getfield 13, 3) := by decide +kernel
theorem d_rend_61 : decode prog_14_method_5_code 61 = .ok (.iload_n 2, 1) := by decide +kernel
theorem d_rend_62 : decode prog_14_method_5_code 62 = .ok (.aload_n 0, 1) := by decide +kernel
theorem d_rend_63 : decode prog_14_method_5_code 63 = .ok (.getfield 16, 3) := by decide +kernel
theorem d_rend_66 : decode prog_14_method_5_code 66 = .ok (.iload_n 2, 1) := by decide +kernel
theorem d_rend_67 : decode prog_14_method_5_code 67 = .ok (.baload, 1) := by decide +kernel
theorem d_rend_68 : decode prog_14_method_5_code 68 = .ok (.bastore, 1) := by decide +kernel
theorem d_rend_69 : decode prog_14_method_5_code 69 = .ok (.iinc 2 1, 3) := by decide +kernel
theorem d_rend_72 : decode prog_14_method_5_code 72 = .ok (.goto (-23), 3) := by decide +kernel
set_option maxHeartbeats 4000000 in
set_option maxRecDepth 100000 in
theorem w_rend_B49 {p : Program} {l : Launch} {e : Env} {s : State} {m : MethodId} {args : Array Value} {below : List Frame} {meth : Method} {c : Code} {A : Nat → Prop} {D : va_G} {md : Nat → Nat} {mc : Nat → ClassId} {Q : State → Prop} (hC : MCx "JoinedTreesModel" prog_14_method_5_code 4 (some .int) p s m args meth c A D mc) {S : MS} {x2 : Int32} {o : ((MS × Int32) ⊕ MS)} (Heq : m_rend_B49 S x2 = some o) (Ka : ∀ b : MS × Int32, o = .inl b → ∀ (H : Heap) (locs : List Loc) (ls : Array Slot), va_P D cls (mw md mc b.1) H → va_D A (mw md mc b.1) → va_S A s.heap H locs → lv_has ls 4 [(0, .ref (md 100)), (2, .int b.2)] → W p l e ({ frames := 1, cells := 0, slots := 0, locals := 21 }) s m args below meth c H locs 0 0 Q (F0 m 49 ls [])) (K0 : ∀ b : MS, o = .inr b → ∀ (H : Heap) (locs : List Loc) (ls : Array Slot), va_P D cls (mw md mc b) H → va_D A (mw md mc b) → va_S A s.heap H locs → lv_has ls 4 [(0, .ref (md 100))] → W p l e ({ frames := 1, cells := 0, slots := 0, locals := 21 }) s m args below meth c H locs 0 0 Q (F0 m 75 ls [])) : ∀ (H : Heap) (locs : List Loc) (ls : Array Slot), va_P D cls (mw md mc S) H → va_D A (mw md mc S) → va_S A s.heap H locs → lv_has ls 4 [(0, .ref (md 100)), (2, .int x2)] → W p l e ({ frames := 1, cells := 0, slots := 0, locals := 21 }) s m args below meth c H locs 0 0 Q (F0 m 49 ls []) := by
  intro H locs ls hP hD hS hl
  obtain ⟨hx, hb, hr, hml, hown, hts, hK, hA⟩ := id hC
  unfold m_rend_B49 at Heq
  refine lv_iload_n hx hb d_rend_49 rfl (lv_at hl 1 rfl) ?_
  refine lv_aload_n hx hb d_rend_50 rfl (lv_at hl 0 rfl) ?_
  refine va_get (D := D) (ci := 12) (v := .int (S.i 6)) (C := R_MM) (T := F_MM) (N := 77) hx hb hts i_MM hown hK hP 0 rfl rfl 6 (by decide) (hts _ kw_1388) (fun _ h9 => h9) rfl d_rend_51 ?_
  refine lv_icmp_ge (tgt := 75) hx hb d_rend_54 (by decide) (fun c_1 => ?_) (fun c_1 => ?_)
  · replace Heq := (if_pos c_1).symm.trans Heq
    exact K0 _ (Option.some.inj Heq).symm _ _ _ hP hD hS (lv_sub hl [0] rfl)
  · replace Heq := (if_neg c_1).symm.trans Heq
    refine lv_aload_n hx hb d_rend_57 rfl (lv_at hl 0 rfl) ?_
    refine va_get (D := D) (ci := 12) (v := .ref (md 2)) (C := R_MM) (T := F_MM) (N := 77) hx hb hts i_MM hown hK hP 0 rfl rfl 2 (by decide) (hts _ kw_1384) (fun _ h9 => h9) rfl d_rend_58 ?_
    refine lv_iload_n hx hb d_rend_61 rfl (lv_at hl 1 rfl) ?_
    refine lv_aload_n hx hb d_rend_62 rfl (lv_at hl 0 rfl) ?_
    refine va_get (D := D) (ci := 12) (v := .ref (md 3)) (C := R_MM) (T := F_MM) (N := 77) hx hb hts i_MM hown hK hP 0 rfl rfl 3 (by decide) (hts _ kw_1385) (fun _ h9 => h9) rfl d_rend_63 ?_
    refine lv_iload_n hx hb d_rend_66 rfl (lv_at hl 1 rfl) ?_
    obtain ⟨hi_2, Heq⟩ := gd_some Heq
    refine va_bald hx hb hK hP 3 1 rfl rfl (i := x2) hi_2 d_rend_67 ?_
    refine w_i (y := S.a 3 x2.toNatClampNeg) rfl ?_
    obtain ⟨hi_3, Heq⟩ := gd_some Heq
    refine va_bast hx hb hK hP hD hS 2 1 rfl rfl (i := x2) (x := S.a 3 x2.toNatClampNeg) hi_3 d_rend_68 (fun H locs hP hD hS => ?_)
    rw [mw_A2] at hP hD
    refine lv_iinc (v := x2 + 1) (lv' := [(2, .int (x2 + 1)), (0, .ref (md 100))]) hx hb d_rend_69 hl (k := 1) rfl rfl (by decide) rfl (fun ls hl => ?_)
    refine lv_goto (tgt := 49) hx hb d_rend_72 (by decide) ?_
    exact Ka _ (Option.some.inj Heq).symm _ _ _ hP hD hS (lv_sub hl [1, 0] rfl)
def m_rend_L49 (S : MS) (x2 : Int32) : Option MS := lp (fun a : MS × Int32 => m_rend_B49 a.1 a.2) FU (S, x2)
theorem w_rend_L49 {p : Program} {l : Launch} {e : Env} {s : State} {m : MethodId} {args : Array Value} {below : List Frame} {meth : Method} {c : Code} {A : Nat → Prop} {D : va_G} {md : Nat → Nat} {mc : Nat → ClassId} {Q : State → Prop} (hC : MCx "JoinedTreesModel" prog_14_method_5_code 4 (some .int) p s m args meth c A D mc) {S : MS} {x2 : Int32} {o : MS} (Heq : m_rend_L49 S x2 = some o) (K0 : ∀ b : MS, o = b → ∀ (H : Heap) (locs : List Loc) (ls : Array Slot), va_P D cls (mw md mc b) H → va_D A (mw md mc b) → va_S A s.heap H locs → lv_has ls 4 [(0, .ref (md 100))] → W p l e ({ frames := 1, cells := 0, slots := 0, locals := 21 }) s m args below meth c H locs 0 0 Q (F0 m 75 ls [])) : ∀ (H : Heap) (locs : List Loc) (ls : Array Slot), va_P D cls (mw md mc S) H → va_D A (mw md mc S) → va_S A s.heap H locs → lv_has ls 4 [(0, .ref (md 100)), (2, .int x2)] → W p l e ({ frames := 1, cells := 0, slots := 0, locals := 21 }) s m args below meth c H locs 0 0 Q (F0 m 49 ls []) := by
  refine lp_w (G := fun a : MS × Int32 => ∀ (H : Heap) (locs : List Loc) (ls : Array Slot), va_P D cls (mw md mc a.1) H → va_D A (mw md mc a.1) → va_S A s.heap H locs → lv_has ls 4 [(0, .ref (md 100)), (2, .int a.2)] → W p l e ({ frames := 1, cells := 0, slots := 0, locals := 21 }) s m args below meth c H locs 0 0 Q (F0 m 49 ls [])) ?_ FU (S, x2) Heq
  intro a o1 ho Ka Ke
  exact w_rend_B49 hC ho (fun b h => Ka b h) (fun b h => K0 b (Ke _ h).symm)
def m_rend_J0 (S : MS) (x1 : Int32) : Option (MS × Int32) := (if x1 < 0 then m_rend_J18 S else (if 19 < x1 then m_rend_J18 S else (if x1 ≤ S.i 4 then (if S.i 7 = 2 then ob (m_rend_L49 ((S.setI 0 0).setI 4 ((S.i 4) - x1)) 0) (fun b_5 => m_rend_J88 ((b_5.setI 5 (b_5.i 6)).setI 7 1)) else m_rend_J88 ((S.setI 0 0).setI 4 ((S.i 4) - x1))) else m_rend_J18 S)))
theorem d_rend_75 : decode prog_14_method_5_code 75 = .ok (.aload_n 0, 1) := by decide +kernel
theorem d_rend_76 : decode prog_14_method_5_code 76 = .ok (.aload_n 0, 1) := by decide +kernel
theorem d_rend_77 : decode prog_14_method_5_code 77 = .ok (.getfield 188, 3) := by decide +kernel
theorem d_rend_80 : decode prog_14_method_5_code 80 = .ok (.putfield 185, 3) := by decide +kernel
theorem d_rend_83 : decode prog_14_method_5_code 83 = .ok (.aload_n 0, 1) := by decide +kernel
theorem d_rend_84 : decode prog_14_method_5_code 84 = .ok (.iconst 1, 1) := by decide +kernel
theorem d_rend_85 : decode prog_14_method_5_code 85 = .ok (.putfield 182, 3) := by decide +kernel
set_option maxHeartbeats 4000000 in
set_option maxRecDepth 100000 in
theorem w_rend_J0 {p : Program} {l : Launch} {e : Env} {s : State} {m : MethodId} {args : Array Value} {below : List Frame} {meth : Method} {c : Code} {A : Nat → Prop} {D : va_G} {md : Nat → Nat} {mc : Nat → ClassId} {Q : State → Prop} (hC : MCx "JoinedTreesModel" prog_14_method_5_code 4 (some .int) p s m args meth c A D mc) {S : MS} {x1 : Int32} {o : MS × Int32} (Heq : m_rend_J0 S x1 = some o) (Kr : ∀ r : MS × Int32, o = r → ∀ (pc : Nat) (H : Heap) (locs : List Loc) (ls : Array Slot), decode prog_14_method_5_code pc = .ok (.ireturn, 1) → va_P D cls (mw md mc r.1) H → va_D A (mw md mc r.1) → va_S A s.heap H locs → W p l e ({ frames := 1, cells := 0, slots := 0, locals := 21 }) s m args below meth c H locs 0 0 Q (F0 m pc ls [.int r.2])) : ∀ (H : Heap) (locs : List Loc) (ls : Array Slot), va_P D cls (mw md mc S) H → va_D A (mw md mc S) → va_S A s.heap H locs → lv_has ls 4 [(0, .ref (md 100)), (1, .int x1)] → W p l e ({ frames := 1, cells := 0, slots := 0, locals := 21 }) s m args below meth c H locs 0 0 Q (F0 m 0 ls []) := by
  intro H locs ls hP hD hS hl
  obtain ⟨hx, hb, hr, hml, hown, hts, hK, hA⟩ := id hC
  unfold m_rend_J0 at Heq
  refine lv_iload_n hx hb d_rend_0 rfl (lv_at hl 1 rfl) ?_
  refine lv_if_lt (tgt := 18) hx hb d_rend_1 (by decide) (fun c_1 => ?_) (fun c_1 => ?_)
  · replace Heq := (if_pos c_1).symm.trans Heq
    exact w_rend_J18 hC Heq Kr _ _ _ hP hD hS (lv_sub hl [0] rfl)
  · replace Heq := (if_neg c_1).symm.trans Heq
    refine lv_iload_n hx hb d_rend_4 rfl (lv_at hl 1 rfl) ?_
    refine lv_bipush (v := 19) hx hb d_rend_5 (by decide) ?_
    refine lv_icmp_gt (tgt := 18) hx hb d_rend_7 (by decide) (fun c_2 => ?_) (fun c_2 => ?_)
    · replace Heq := (if_pos c_2).symm.trans Heq
      exact w_rend_J18 hC Heq Kr _ _ _ hP hD hS (lv_sub hl [0] rfl)
    · replace Heq := (if_neg c_2).symm.trans Heq
      refine lv_iload_n hx hb d_rend_10 rfl (lv_at hl 1 rfl) ?_
      refine lv_aload_n hx hb d_rend_11 rfl (lv_at hl 0 rfl) ?_
      refine va_get (D := D) (ci := 12) (v := .int (S.i 4)) (C := R_MM) (T := F_MM) (N := 77) hx hb hts i_MM hown hK hP 0 rfl rfl 4 (by decide) (hts _ kw_1386) (fun _ h9 => h9) rfl d_rend_12 ?_
      refine lv_icmp_le (tgt := 24) hx hb d_rend_15 (by decide) (fun c_3 => ?_) (fun c_3 => ?_)
      · replace Heq := (if_pos c_3).symm.trans Heq
        refine lv_aload_n hx hb d_rend_24 rfl (lv_at hl 0 rfl) ?_
        refine lv_iconst (v := 0) hx hb d_rend_25 (by decide) ?_
        refine va_put (D := D) (ci := 12) (v := .int 0) (ty := .int) (C := R_MM) (T := F_MM) (N := 77) hx hb hts i_MM t_MM t_MM_ok n_MM hown hK hP hD hS 0 rfl rfl 0 (by decide) (hts _ kw_1382) (fun _ h9 => h9) rfl (by decide +kernel) rfl rfl (Nat.le_of_ble_eq_true rfl) d_rend_26 (fun H locs hP hD hS => ?_)
        rw [mw_I0] at hP hD
        refine lv_aload_n hx hb d_rend_29 rfl (lv_at hl 0 rfl) ?_
        refine lv_dup hx hb d_rend_30 rfl ?_
        refine va_get (D := D) (ci := 12) (v := .int (S.i 4)) (C := R_MM) (T := F_MM) (N := 77) hx hb hts i_MM hown hK hP 0 rfl rfl 4 (by decide) (hts _ kw_1386) (fun _ h9 => h9) rfl d_rend_31 ?_
        refine lv_iload_n hx hb d_rend_34 rfl (lv_at hl 1 rfl) ?_
        refine lv_isub hx hb d_rend_35 ?_
        refine w_i (y := (S.i 4) - x1) rfl ?_
        refine va_put (D := D) (ci := 12) (v := .int ((S.i 4) - x1)) (ty := .int) (C := R_MM) (T := F_MM) (N := 77) hx hb hts i_MM t_MM t_MM_ok n_MM hown hK hP hD hS 0 rfl rfl 4 (by decide) (hts _ kw_1386) (fun _ h9 => h9) rfl (by decide +kernel) rfl rfl (Nat.le_of_ble_eq_true rfl) d_rend_36 (fun H locs hP hD hS => ?_)
        rw [mw_I4] at hP hD
        refine lv_aload_n hx hb d_rend_39 rfl (lv_at hl 0 rfl) ?_
        refine va_get (D := D) (ci := 12) (v := .int (S.i 7)) (C := R_MM) (T := F_MM) (N := 77) hx hb hts i_MM hown hK hP 0 rfl rfl 7 (by decide) (hts _ kw_1389) (fun _ h9 => h9) rfl d_rend_40 ?_
        refine lv_iconst (v := 2) hx hb d_rend_43 (by decide) ?_
        refine lv_icmp_ne (tgt := 88) hx hb d_rend_44 (by decide) (fun c_4 => ?_) (fun c_4 => ?_)
        · replace Heq := (if_neg c_4).symm.trans Heq
          exact w_rend_J88 hC Heq Kr _ _ _ hP hD hS (lv_sub hl [0] rfl)
        · replace Heq := (if_pos c_4).symm.trans Heq
          refine lv_iconst (v := 0) hx hb d_rend_47 (by decide) ?_
          refine lv_istore_n (lv' := [(2, .int 0), (0, .ref (md 100)), (1, .int x1)]) hx hb d_rend_48 rfl hl (by decide) rfl (fun ls hl => ?_)
          obtain ⟨b_5, h_6, Heq⟩ := ob_some Heq
          refine w_rend_L49 hC h_6 (fun b h => ?_) _ _ _ hP hD hS (lv_sub hl [1, 0] rfl)
          subst h
          intro H locs ls hP hD hS hl
          refine lv_aload_n hx hb d_rend_75 rfl (lv_at hl 0 rfl) ?_
          refine lv_aload_n hx hb d_rend_76 rfl (lv_at hl 0 rfl) ?_
          refine va_get (D := D) (ci := 12) (v := .int (b_5.i 6)) (C := R_MM) (T := F_MM) (N := 77) hx hb hts i_MM hown hK hP 0 rfl rfl 6 (by decide) (hts _ kw_1388) (fun _ h9 => h9) rfl d_rend_77 ?_
          refine va_put (D := D) (ci := 12) (v := .int (b_5.i 6)) (ty := .int) (C := R_MM) (T := F_MM) (N := 77) hx hb hts i_MM t_MM t_MM_ok n_MM hown hK hP hD hS 0 rfl rfl 5 (by decide) (hts _ kw_1387) (fun _ h9 => h9) rfl (by decide +kernel) rfl rfl (Nat.le_of_ble_eq_true rfl) d_rend_80 (fun H locs hP hD hS => ?_)
          rw [mw_I5] at hP hD
          refine lv_aload_n hx hb d_rend_83 rfl (lv_at hl 0 rfl) ?_
          refine lv_iconst (v := 1) hx hb d_rend_84 (by decide) ?_
          refine va_put (D := D) (ci := 12) (v := .int 1) (ty := .int) (C := R_MM) (T := F_MM) (N := 77) hx hb hts i_MM t_MM t_MM_ok n_MM hown hK hP hD hS 0 rfl rfl 7 (by decide) (hts _ kw_1389) (fun _ h9 => h9) rfl (by decide +kernel) rfl rfl (Nat.le_of_ble_eq_true rfl) d_rend_85 (fun H locs hP hD hS => ?_)
          rw [mw_I7] at hP hD
          exact w_rend_J88 hC Heq Kr _ _ _ hP hD hS (lv_sub hl [0] rfl)
      · replace Heq := (if_neg c_3).symm.trans Heq
        exact w_rend_J18 hC Heq Kr _ _ _ hP hD hS (lv_sub hl [0] rfl)
def m_rend (S : MS) (x1 : Int32) : Option (MS × Int32) := m_rend_J0 S x1
theorem g_rend (l : Launch) (D : va_G) (sz : Nat) {md : Nat → Nat} {mc : Nat → ClassId} {S : MS} {x1 : Int32} {o : MS × Int32} (Heq : m_rend S x1 = some o) : Met l ⟨"JoinedTreesModel", "end", "(I)I"⟩ (Cond.code ⟨"JoinedTreesModel", "end", "(I)I"⟩ prog_14_method_5_code 4 (some .int) :: gb) ({ frames := 1, cells := 0, slots := 0, locals := 21 }) (gPc D (mw md mc S) (mty mc) sz [.ref (md 100), .int x1]) (va_Qi (fun (r : Int32) (_ : Unit) => r = o.2) (fun _ t => gO D (mw md mc o.1) (mty mc) (va_A (mw md mc S) sz) t) (va_A (mw md mc S) sz)) 0 0 (va_A (mw md mc S) sz) := by
  refine Met.ofW (cc := prog_14_method_5_code) (maxL := 4) (ret := (some .int)) (by decide) rfl ?_
  intro p e s m args below meth c s₁ B hml hv
  obtain ⟨rfl, hsz, hP, hK, hD0⟩ := hv
  have hx := B.exec
  have hb := B.bytes
  have hr := B.returns
  have hts : ∀ w9 ∈ gb, w9.before [.ref (md 100), .int x1].toArray s = true := fun w9 h => atoms_spec (ws := Cond.code ⟨"JoinedTreesModel", "end", "(I)I"⟩ prog_14_method_5_code 4 (some .int) :: gb) B.pre w9 (List.mem_cons_of_mem _ h)
  have hown : s.vm.findClass "JoinedTreesModel" = some m.cls := findClass_of_methodNamed B.named
  have hlocks := B.notSynchronized
  subst hsz
  have hD := hD0.self (sz := s.heap.size)
  generalize hAe : va_A (mw md mc S) s.heap.size = A at hD ⊢
  have hA : ∀ q : Nat, s.heap.size ≤ q → A q := fun q h => by rw [← hAe]; exact Or.inr h
  have hS : va_S A s.heap s.heap [] := va_S.rf
  have hl := lv_entry ([.ref (md 100), .int x1]) (n := 4) (Nat.le_of_ble_eq_true rfl)
  rw [lg_entry_eq]
  generalize (lg_sl ([.ref (md 100), .int x1]) ++ List.replicate (4 - (lg_sl ([.ref (md 100), .int x1])).length) Slot.unset).toArray = ls at hl ⊢
  have hl : lv_has ls 4 [(0, .ref (md 100)), (1, .int x1)] := hl
  refine w_rend_J0 ⟨hx, hb, hr, hml, hown, hts, hK, hA⟩ Heq (fun r h pc H locs ls hd hP hD hS => ?_) _ _ _ hP hD hS (lv_sub hl [0, 1] rfl)
  subst h
  exact W.iret hx hb hr (fun t ht hW => ⟨⟨_, (), rfl, rfl, by rw [ht]; exact hP, va_K.moved hW.alike hK, hD⟩, hS.F ht⟩) hS.2.2 hd
def m_risReplica_J15 (S : MS) (t0 : Int32) : Option (MS × Int32) := (if t0 = 0 ∨ t0 = 1 then some (S, t0) else none)
theorem d_risReplica_0 : decode prog_14_method_6_code 0 = .ok (.iload_n 0, 1) := by decide +kernel
theorem d_risReplica_1 : decode prog_14_method_6_code 1 = .ok (.ifCond .lt 13, 3) := by decide +kernel
theorem d_risReplica_14 : decode prog_14_method_6_code 14 = .ok (.iconst 0, 1) := by decide +kernel
theorem d_risReplica_15 : decode prog_14_method_6_code 15 = .ok (.ireturn, 1) := by decide +kernel
set_option maxHeartbeats 4000000 in
set_option maxRecDepth 100000 in
theorem w_risReplica_J15 {p : Program} {l : Launch} {e : Env} {s : State} {m : MethodId} {args : Array Value} {below : List Frame} {meth : Method} {c : Code} {A : Nat → Prop} {D : va_G} {md : Nat → Nat} {mc : Nat → ClassId} {Q : State → Prop} (hC : MCx "JoinedTreesModel" prog_14_method_6_code 1 (some .boolean) p s m args meth c A D mc) {S : MS} {t0 : Int32} {o : MS × Int32} (Heq : m_risReplica_J15 S t0 = some o) (Kr : ∀ r : MS × Int32, o = r → ∀ (pc : Nat) (H : Heap) (locs : List Loc) (ls : Array Slot), decode prog_14_method_6_code pc = .ok (.ireturn, 1) → (r.2 = 0 ∨ r.2 = 1) → va_P D cls (mw md mc r.1) H → va_D A (mw md mc r.1) → va_S A s.heap H locs → W p l e ({ frames := 0, cells := 0, slots := 0, locals := 0 }) s m args below meth c H locs 0 0 Q (F0 m pc ls [.int r.2])) : ∀ (H : Heap) (locs : List Loc) (ls : Array Slot), va_P D cls (mw md mc S) H → va_D A (mw md mc S) → va_S A s.heap H locs → lv_has ls 1 [] → W p l e ({ frames := 0, cells := 0, slots := 0, locals := 0 }) s m args below meth c H locs 0 0 Q (F0 m 15 ls [.int t0]) := by
  intro H locs ls hP hD hS hl
  obtain ⟨hx, hb, hr, hml, hown, hts, hK, hA⟩ := id hC
  unfold m_risReplica_J15 at Heq
  by_cases hz_1 : t0 = 0 ∨ t0 = 1
  case neg => rw [if_neg hz_1] at Heq; cases Heq
  replace Heq := (if_pos hz_1).symm.trans Heq
  exact Kr _ (Option.some.inj Heq).symm 15 _ _ _ d_risReplica_15 hz_1 hP hD hS
def m_risReplica_J14 (S : MS) : Option (MS × Int32) := m_risReplica_J15 S 0
set_option maxHeartbeats 4000000 in
set_option maxRecDepth 100000 in
theorem w_risReplica_J14 {p : Program} {l : Launch} {e : Env} {s : State} {m : MethodId} {args : Array Value} {below : List Frame} {meth : Method} {c : Code} {A : Nat → Prop} {D : va_G} {md : Nat → Nat} {mc : Nat → ClassId} {Q : State → Prop} (hC : MCx "JoinedTreesModel" prog_14_method_6_code 1 (some .boolean) p s m args meth c A D mc) {S : MS} {o : MS × Int32} (Heq : m_risReplica_J14 S = some o) (Kr : ∀ r : MS × Int32, o = r → ∀ (pc : Nat) (H : Heap) (locs : List Loc) (ls : Array Slot), decode prog_14_method_6_code pc = .ok (.ireturn, 1) → (r.2 = 0 ∨ r.2 = 1) → va_P D cls (mw md mc r.1) H → va_D A (mw md mc r.1) → va_S A s.heap H locs → W p l e ({ frames := 0, cells := 0, slots := 0, locals := 0 }) s m args below meth c H locs 0 0 Q (F0 m pc ls [.int r.2])) : ∀ (H : Heap) (locs : List Loc) (ls : Array Slot), va_P D cls (mw md mc S) H → va_D A (mw md mc S) → va_S A s.heap H locs → lv_has ls 1 [] → W p l e ({ frames := 0, cells := 0, slots := 0, locals := 0 }) s m args below meth c H locs 0 0 Q (F0 m 14 ls []) := by
  intro H locs ls hP hD hS hl
  obtain ⟨hx, hb, hr, hml, hown, hts, hK, hA⟩ := id hC
  unfold m_risReplica_J14 at Heq
  refine lv_iconst (v := 0) hx hb d_risReplica_14 (by decide) ?_
  exact w_risReplica_J15 hC Heq Kr _ _ _ hP hD hS (lv_sub hl [] rfl)
def m_risReplica_J0 (S : MS) (x0 : Int32) : Option (MS × Int32) := (if x0 < 0 then m_risReplica_J14 S else (if 8 ≤ x0 then m_risReplica_J14 S else m_risReplica_J15 S 1))
theorem d_risReplica_4 : decode prog_14_method_6_code 4 = .ok (.iload_n 0, 1) := by decide +kernel
theorem d_risReplica_5 : decode prog_14_method_6_code 5 = .ok (.bipush 8, 2) := by decide +kernel
theorem d_risReplica_7 : decode prog_14_method_6_code 7 = .ok (.if_icmp .ge 7, 3) := by decide +kernel
theorem d_risReplica_10 : decode prog_14_method_6_code 10 = .ok (.iconst 1, 1) := by decide +kernel
theorem d_risReplica_11 : decode prog_14_method_6_code 11 = .ok (.goto 4, 3) := by decide +kernel
set_option maxHeartbeats 4000000 in
set_option maxRecDepth 100000 in
theorem w_risReplica_J0 {p : Program} {l : Launch} {e : Env} {s : State} {m : MethodId} {args : Array Value} {below : List Frame} {meth : Method} {c : Code} {A : Nat → Prop} {D : va_G} {md : Nat → Nat} {mc : Nat → ClassId} {Q : State → Prop} (hC : MCx "JoinedTreesModel" prog_14_method_6_code 1 (some .boolean) p s m args meth c A D mc) {S : MS} {x0 : Int32} {o : MS × Int32} (Heq : m_risReplica_J0 S x0 = some o) (Kr : ∀ r : MS × Int32, o = r → ∀ (pc : Nat) (H : Heap) (locs : List Loc) (ls : Array Slot), decode prog_14_method_6_code pc = .ok (.ireturn, 1) → (r.2 = 0 ∨ r.2 = 1) → va_P D cls (mw md mc r.1) H → va_D A (mw md mc r.1) → va_S A s.heap H locs → W p l e ({ frames := 0, cells := 0, slots := 0, locals := 0 }) s m args below meth c H locs 0 0 Q (F0 m pc ls [.int r.2])) : ∀ (H : Heap) (locs : List Loc) (ls : Array Slot), va_P D cls (mw md mc S) H → va_D A (mw md mc S) → va_S A s.heap H locs → lv_has ls 1 [(0, .int x0)] → W p l e ({ frames := 0, cells := 0, slots := 0, locals := 0 }) s m args below meth c H locs 0 0 Q (F0 m 0 ls []) := by
  intro H locs ls hP hD hS hl
  obtain ⟨hx, hb, hr, hml, hown, hts, hK, hA⟩ := id hC
  unfold m_risReplica_J0 at Heq
  refine lv_iload_n hx hb d_risReplica_0 rfl (lv_at hl 0 rfl) ?_
  refine lv_if_lt (tgt := 14) hx hb d_risReplica_1 (by decide) (fun c_1 => ?_) (fun c_1 => ?_)
  · replace Heq := (if_pos c_1).symm.trans Heq
    exact w_risReplica_J14 hC Heq Kr _ _ _ hP hD hS (lv_sub hl [] rfl)
  · replace Heq := (if_neg c_1).symm.trans Heq
    refine lv_iload_n hx hb d_risReplica_4 rfl (lv_at hl 0 rfl) ?_
    refine lv_bipush (v := 8) hx hb d_risReplica_5 (by decide) ?_
    refine lv_icmp_ge (tgt := 14) hx hb d_risReplica_7 (by decide) (fun c_2 => ?_) (fun c_2 => ?_)
    · replace Heq := (if_pos c_2).symm.trans Heq
      exact w_risReplica_J14 hC Heq Kr _ _ _ hP hD hS (lv_sub hl [] rfl)
    · replace Heq := (if_neg c_2).symm.trans Heq
      refine lv_iconst (v := 1) hx hb d_risReplica_10 (by decide) ?_
      refine lv_goto (tgt := 15) hx hb d_risReplica_11 (by decide) ?_
      exact w_risReplica_J15 hC Heq Kr _ _ _ hP hD hS (lv_sub hl [] rfl)
def m_risReplica (S : MS) (x0 : Int32) : Option (MS × Int32) := m_risReplica_J0 S x0
theorem g_risReplica (l : Launch) (D : va_G) (sz : Nat) {md : Nat → Nat} {mc : Nat → ClassId} {S : MS} {x0 : Int32} {o : MS × Int32} (Heq : m_risReplica S x0 = some o) : Met l ⟨"JoinedTreesModel", "isReplica", "(I)Z"⟩ (Cond.code ⟨"JoinedTreesModel", "isReplica", "(I)Z"⟩ prog_14_method_6_code 1 (some .boolean) :: gb) ({ frames := 0, cells := 0, slots := 0, locals := 0 }) (gPc D (mw md mc S) (mty mc) sz [.int x0]) (va_Qi (fun (r : Int32) (_ : Unit) => r = o.2) (fun _ t => gO D (mw md mc o.1) (mty mc) (va_A (mw md mc S) sz) t) (va_A (mw md mc S) sz)) 0 0 (va_A (mw md mc S) sz) := by
  refine Met.ofW (cc := prog_14_method_6_code) (maxL := 1) (ret := (some .boolean)) (by decide) rfl ?_
  intro p e s m args below meth c s₁ B hml hv
  obtain ⟨rfl, hsz, hP, hK, hD0⟩ := hv
  have hx := B.exec
  have hb := B.bytes
  have hr := B.returns
  have hts : ∀ w9 ∈ gb, w9.before [.int x0].toArray s = true := fun w9 h => atoms_spec (ws := Cond.code ⟨"JoinedTreesModel", "isReplica", "(I)Z"⟩ prog_14_method_6_code 1 (some .boolean) :: gb) B.pre w9 (List.mem_cons_of_mem _ h)
  have hown : s.vm.findClass "JoinedTreesModel" = some m.cls := findClass_of_methodNamed B.named
  have hlocks := B.notSynchronized
  subst hsz
  have hD := hD0.self (sz := s.heap.size)
  generalize hAe : va_A (mw md mc S) s.heap.size = A at hD ⊢
  have hA : ∀ q : Nat, s.heap.size ≤ q → A q := fun q h => by rw [← hAe]; exact Or.inr h
  have hS : va_S A s.heap s.heap [] := va_S.rf
  have hl := lv_entry ([.int x0]) (n := 1) (Nat.le_of_ble_eq_true rfl)
  rw [lg_entry_eq]
  generalize (lg_sl ([.int x0]) ++ List.replicate (1 - (lg_sl ([.int x0])).length) Slot.unset).toArray = ls at hl ⊢
  have hl : lv_has ls 1 [(0, .int x0)] := hl
  refine w_risReplica_J0 ⟨hx, hb, hr, hml, hown, hts, hK, hA⟩ Heq (fun r h pc H locs ls hd hz hP hD hS => ?_) _ _ _ hP hD hS (lv_sub hl [0] rfl)
  subst h
  exact W.zret (ty := .boolean) hx hb hr (by rcases hz with hz | hz <;> rw [hz] <;> rfl) (fun t ht hW => ⟨⟨_, (), rfl, rfl, by rw [ht]; exact hP, va_K.moved hW.alike hK, hD⟩, hS.F ht⟩) hS.2.2 hd
def m_risKey_J16 (S : MS) (t0 : Int32) : Option (MS × Int32) := (if t0 = 0 ∨ t0 = 1 then some (S, t0) else none)
theorem d_risKey_0 : decode prog_14_method_7_code 0 = .ok (.iload_n 0, 1) := by decide +kernel
theorem d_risKey_1 : decode prog_14_method_7_code 1 = .ok (.iconst 1, 1) := by decide +kernel
theorem d_risKey_2 : decode prog_14_method_7_code 2 = .ok (.if_icmp .lt 13, 3) := by decide +kernel
theorem d_risKey_15 : decode prog_14_method_7_code 15 = .ok (.iconst 0, 1) := by decide +kernel
theorem d_risKey_16 : decode prog_14_method_7_code 16 = .ok (.ireturn, 1) := by decide +kernel
set_option maxHeartbeats 4000000 in
set_option maxRecDepth 100000 in
theorem w_risKey_J16 {p : Program} {l : Launch} {e : Env} {s : State} {m : MethodId} {args : Array Value} {below : List Frame} {meth : Method} {c : Code} {A : Nat → Prop} {D : va_G} {md : Nat → Nat} {mc : Nat → ClassId} {Q : State → Prop} (hC : MCx "JoinedTreesModel" prog_14_method_7_code 1 (some .boolean) p s m args meth c A D mc) {S : MS} {t0 : Int32} {o : MS × Int32} (Heq : m_risKey_J16 S t0 = some o) (Kr : ∀ r : MS × Int32, o = r → ∀ (pc : Nat) (H : Heap) (locs : List Loc) (ls : Array Slot), decode prog_14_method_7_code pc = .ok (.ireturn, 1) → (r.2 = 0 ∨ r.2 = 1) → va_P D cls (mw md mc r.1) H → va_D A (mw md mc r.1) → va_S A s.heap H locs → W p l e ({ frames := 0, cells := 0, slots := 0, locals := 0 }) s m args below meth c H locs 0 0 Q (F0 m pc ls [.int r.2])) : ∀ (H : Heap) (locs : List Loc) (ls : Array Slot), va_P D cls (mw md mc S) H → va_D A (mw md mc S) → va_S A s.heap H locs → lv_has ls 1 [] → W p l e ({ frames := 0, cells := 0, slots := 0, locals := 0 }) s m args below meth c H locs 0 0 Q (F0 m 16 ls [.int t0]) := by
  intro H locs ls hP hD hS hl
  obtain ⟨hx, hb, hr, hml, hown, hts, hK, hA⟩ := id hC
  unfold m_risKey_J16 at Heq
  by_cases hz_1 : t0 = 0 ∨ t0 = 1
  case neg => rw [if_neg hz_1] at Heq; cases Heq
  replace Heq := (if_pos hz_1).symm.trans Heq
  exact Kr _ (Option.some.inj Heq).symm 16 _ _ _ d_risKey_16 hz_1 hP hD hS
def m_risKey_J15 (S : MS) : Option (MS × Int32) := m_risKey_J16 S 0
set_option maxHeartbeats 4000000 in
set_option maxRecDepth 100000 in
theorem w_risKey_J15 {p : Program} {l : Launch} {e : Env} {s : State} {m : MethodId} {args : Array Value} {below : List Frame} {meth : Method} {c : Code} {A : Nat → Prop} {D : va_G} {md : Nat → Nat} {mc : Nat → ClassId} {Q : State → Prop} (hC : MCx "JoinedTreesModel" prog_14_method_7_code 1 (some .boolean) p s m args meth c A D mc) {S : MS} {o : MS × Int32} (Heq : m_risKey_J15 S = some o) (Kr : ∀ r : MS × Int32, o = r → ∀ (pc : Nat) (H : Heap) (locs : List Loc) (ls : Array Slot), decode prog_14_method_7_code pc = .ok (.ireturn, 1) → (r.2 = 0 ∨ r.2 = 1) → va_P D cls (mw md mc r.1) H → va_D A (mw md mc r.1) → va_S A s.heap H locs → W p l e ({ frames := 0, cells := 0, slots := 0, locals := 0 }) s m args below meth c H locs 0 0 Q (F0 m pc ls [.int r.2])) : ∀ (H : Heap) (locs : List Loc) (ls : Array Slot), va_P D cls (mw md mc S) H → va_D A (mw md mc S) → va_S A s.heap H locs → lv_has ls 1 [] → W p l e ({ frames := 0, cells := 0, slots := 0, locals := 0 }) s m args below meth c H locs 0 0 Q (F0 m 15 ls []) := by
  intro H locs ls hP hD hS hl
  obtain ⟨hx, hb, hr, hml, hown, hts, hK, hA⟩ := id hC
  unfold m_risKey_J15 at Heq
  refine lv_iconst (v := 0) hx hb d_risKey_15 (by decide) ?_
  exact w_risKey_J16 hC Heq Kr _ _ _ hP hD hS (lv_sub hl [] rfl)
def m_risKey_J0 (S : MS) (x0 : Int32) : Option (MS × Int32) := (if x0 < 1 then m_risKey_J15 S else (if 64 < x0 then m_risKey_J15 S else m_risKey_J16 S 1))
theorem d_risKey_5 : decode prog_14_method_7_code 5 = .ok (.iload_n 0, 1) := by decide +kernel
theorem d_risKey_6 : decode prog_14_method_7_code 6 = .ok (.bipush 64, 2) := by decide +kernel
theorem d_risKey_8 : decode prog_14_method_7_code 8 = .ok (.if_icmp .gt 7, 3) := by decide +kernel
theorem d_risKey_11 : decode prog_14_method_7_code 11 = .ok (.iconst 1, 1) := by decide +kernel
theorem d_risKey_12 : decode prog_14_method_7_code 12 = .ok (.goto 4, 3) := by decide +kernel
set_option maxHeartbeats 4000000 in
set_option maxRecDepth 100000 in
theorem w_risKey_J0 {p : Program} {l : Launch} {e : Env} {s : State} {m : MethodId} {args : Array Value} {below : List Frame} {meth : Method} {c : Code} {A : Nat → Prop} {D : va_G} {md : Nat → Nat} {mc : Nat → ClassId} {Q : State → Prop} (hC : MCx "JoinedTreesModel" prog_14_method_7_code 1 (some .boolean) p s m args meth c A D mc) {S : MS} {x0 : Int32} {o : MS × Int32} (Heq : m_risKey_J0 S x0 = some o) (Kr : ∀ r : MS × Int32, o = r → ∀ (pc : Nat) (H : Heap) (locs : List Loc) (ls : Array Slot), decode prog_14_method_7_code pc = .ok (.ireturn, 1) → (r.2 = 0 ∨ r.2 = 1) → va_P D cls (mw md mc r.1) H → va_D A (mw md mc r.1) → va_S A s.heap H locs → W p l e ({ frames := 0, cells := 0, slots := 0, locals := 0 }) s m args below meth c H locs 0 0 Q (F0 m pc ls [.int r.2])) : ∀ (H : Heap) (locs : List Loc) (ls : Array Slot), va_P D cls (mw md mc S) H → va_D A (mw md mc S) → va_S A s.heap H locs → lv_has ls 1 [(0, .int x0)] → W p l e ({ frames := 0, cells := 0, slots := 0, locals := 0 }) s m args below meth c H locs 0 0 Q (F0 m 0 ls []) := by
  intro H locs ls hP hD hS hl
  obtain ⟨hx, hb, hr, hml, hown, hts, hK, hA⟩ := id hC
  unfold m_risKey_J0 at Heq
  refine lv_iload_n hx hb d_risKey_0 rfl (lv_at hl 0 rfl) ?_
  refine lv_iconst (v := 1) hx hb d_risKey_1 (by decide) ?_
  refine lv_icmp_lt (tgt := 15) hx hb d_risKey_2 (by decide) (fun c_1 => ?_) (fun c_1 => ?_)
  · replace Heq := (if_pos c_1).symm.trans Heq
    exact w_risKey_J15 hC Heq Kr _ _ _ hP hD hS (lv_sub hl [] rfl)
  · replace Heq := (if_neg c_1).symm.trans Heq
    refine lv_iload_n hx hb d_risKey_5 rfl (lv_at hl 0 rfl) ?_
    refine lv_bipush (v := 64) hx hb d_risKey_6 (by decide) ?_
    refine lv_icmp_gt (tgt := 15) hx hb d_risKey_8 (by decide) (fun c_2 => ?_) (fun c_2 => ?_)
    · replace Heq := (if_pos c_2).symm.trans Heq
      exact w_risKey_J15 hC Heq Kr _ _ _ hP hD hS (lv_sub hl [] rfl)
    · replace Heq := (if_neg c_2).symm.trans Heq
      refine lv_iconst (v := 1) hx hb d_risKey_11 (by decide) ?_
      refine lv_goto (tgt := 16) hx hb d_risKey_12 (by decide) ?_
      exact w_risKey_J16 hC Heq Kr _ _ _ hP hD hS (lv_sub hl [] rfl)
def m_risKey (S : MS) (x0 : Int32) : Option (MS × Int32) := m_risKey_J0 S x0
theorem g_risKey (l : Launch) (D : va_G) (sz : Nat) {md : Nat → Nat} {mc : Nat → ClassId} {S : MS} {x0 : Int32} {o : MS × Int32} (Heq : m_risKey S x0 = some o) : Met l ⟨"JoinedTreesModel", "isKey", "(I)Z"⟩ (Cond.code ⟨"JoinedTreesModel", "isKey", "(I)Z"⟩ prog_14_method_7_code 1 (some .boolean) :: gb) ({ frames := 0, cells := 0, slots := 0, locals := 0 }) (gPc D (mw md mc S) (mty mc) sz [.int x0]) (va_Qi (fun (r : Int32) (_ : Unit) => r = o.2) (fun _ t => gO D (mw md mc o.1) (mty mc) (va_A (mw md mc S) sz) t) (va_A (mw md mc S) sz)) 0 0 (va_A (mw md mc S) sz) := by
  refine Met.ofW (cc := prog_14_method_7_code) (maxL := 1) (ret := (some .boolean)) (by decide) rfl ?_
  intro p e s m args below meth c s₁ B hml hv
  obtain ⟨rfl, hsz, hP, hK, hD0⟩ := hv
  have hx := B.exec
  have hb := B.bytes
  have hr := B.returns
  have hts : ∀ w9 ∈ gb, w9.before [.int x0].toArray s = true := fun w9 h => atoms_spec (ws := Cond.code ⟨"JoinedTreesModel", "isKey", "(I)Z"⟩ prog_14_method_7_code 1 (some .boolean) :: gb) B.pre w9 (List.mem_cons_of_mem _ h)
  have hown : s.vm.findClass "JoinedTreesModel" = some m.cls := findClass_of_methodNamed B.named
  have hlocks := B.notSynchronized
  subst hsz
  have hD := hD0.self (sz := s.heap.size)
  generalize hAe : va_A (mw md mc S) s.heap.size = A at hD ⊢
  have hA : ∀ q : Nat, s.heap.size ≤ q → A q := fun q h => by rw [← hAe]; exact Or.inr h
  have hS : va_S A s.heap s.heap [] := va_S.rf
  have hl := lv_entry ([.int x0]) (n := 1) (Nat.le_of_ble_eq_true rfl)
  rw [lg_entry_eq]
  generalize (lg_sl ([.int x0]) ++ List.replicate (1 - (lg_sl ([.int x0])).length) Slot.unset).toArray = ls at hl ⊢
  have hl : lv_has ls 1 [(0, .int x0)] := hl
  refine w_risKey_J0 ⟨hx, hb, hr, hml, hown, hts, hK, hA⟩ Heq (fun r h pc H locs ls hd hz hP hD hS => ?_) _ _ _ hP hD hS (lv_sub hl [0] rfl)
  subst h
  exact W.zret (ty := .boolean) hx hb hr (by rcases hz with hz | hz <;> rw [hz] <;> rfl) (fun t ht hW => ⟨⟨_, (), rfl, rfl, by rw [ht]; exact hP, va_K.moved hW.alike hK, hD⟩, hS.F ht⟩) hS.2.2 hd
def m_rin_J83 (S : MS) (t0 : Int32) : Option (MS × Int32) := (if t0 = 0 ∨ t0 = 1 then some (S, t0) else none)
theorem d_rin_0 : decode prog_14_method_8_code 0 = .ok (.aload_n 0, 1) := by decide +kernel
theorem d_rin_1 : decode prog_14_method_8_code 1 = .ok (.getfield 60, 3) := by decide +kernel
theorem d_rin_4 : decode prog_14_method_8_code 4 = .ok (.iload_n 2, 1) := by decide +kernel
theorem d_rin_5 : decode prog_14_method_8_code 5 = .ok (.baload, 1) := by decide +kernel
theorem d_rin_6 : decode prog_14_method_8_code 6 = .ok (.ifCond .eq 5, 3) := by decide +kernel
theorem d_rin_11 : decode prog_14_method_8_code 11 = .ok (.aload_n 0, 1) := by decide +kernel
theorem d_rin_12 : decode prog_14_method_8_code 12 = .ok (.getfield 35, 3) := by decide +kernel
theorem d_rin_15 : decode prog_14_method_8_code 15 = .ok (.iload_n 2, 1) := by decide +kernel
theorem d_rin_16 : decode prog_14_method_8_code 16 = .ok (.iaload, 1) := by decide +kernel
theorem d_rin_17 : decode prog_14_method_8_code 17 = .ok (.ifCond .ge 28, 3) := by decide +kernel
theorem d_rin_45 : decode prog_14_method_8_code 45 = .ok (.aload_n 0, 1) := by decide +kernel
theorem d_rin_46 : decode prog_14_method_8_code 46 = .ok (.getfield 104, 3) := by decide +kernel
theorem d_rin_49 : decode prog_14_method_8_code 49 = .ok (.iload_n 1, 1) := by decide +kernel
theorem d_rin_50 : decode prog_14_method_8_code 50 = .ok (.iaload, 1) := by decide +kernel
theorem d_rin_51 : decode prog_14_method_8_code 51 = .ok (.ifCond .ge 19, 3) := by decide +kernel
theorem d_rin_70 : decode prog_14_method_8_code 70 = .ok (.aload_n 0, 1) := by decide +kernel
theorem d_rin_71 : decode prog_14_method_8_code 71 = .ok (.getfield 101, 3) := by decide +kernel
theorem d_rin_74 : decode prog_14_method_8_code 74 = .ok (.iload_n 1, 1) := by decide +kernel
theorem d_rin_75 : decode prog_14_method_8_code 75 = .ok (.aaload, 1) := by decide +kernel
theorem d_rin_76 : decode prog_14_method_8_code 76 = .ok (.aload_n 0, 1) := by decide +kernel
theorem d_rin_77 : decode prog_14_method_8_code 77 = .ok (.getfield 35, 3) := by decide +kernel
theorem d_rin_80 : decode prog_14_method_8_code 80 = .ok (.iload_n 2, 1) := by decide +kernel
theorem d_rin_81 : decode prog_14_method_8_code 81 = .ok (.iaload, 1) := by decide +kernel
theorem d_rin_82 : decode prog_14_method_8_code 82 = .ok (.baload, 1) := by decide +kernel
theorem d_rin_83 : decode prog_14_method_8_code 83 = .ok (.ireturn, 1) := by decide +kernel
set_option maxHeartbeats 4000000 in
set_option maxRecDepth 100000 in
theorem w_rin_J83 {p : Program} {l : Launch} {e : Env} {s : State} {m : MethodId} {args : Array Value} {below : List Frame} {meth : Method} {c : Code} {A : Nat → Prop} {D : va_G} {md : Nat → Nat} {mc : Nat → ClassId} {Q : State → Prop} (hC : MCx "JoinedTreesModel" prog_14_method_8_code 3 (some .boolean) p s m args meth c A D mc) {S : MS} {t0 : Int32} {o : MS × Int32} (Heq : m_rin_J83 S t0 = some o) (Kr : ∀ r : MS × Int32, o = r → ∀ (pc : Nat) (H : Heap) (locs : List Loc) (ls : Array Slot), decode prog_14_method_8_code pc = .ok (.ireturn, 1) → (r.2 = 0 ∨ r.2 = 1) → va_P D cls (mw md mc r.1) H → va_D A (mw md mc r.1) → va_S A s.heap H locs → W p l e ({ frames := 0, cells := 0, slots := 0, locals := 0 }) s m args below meth c H locs 0 0 Q (F0 m pc ls [.int r.2])) : ∀ (H : Heap) (locs : List Loc) (ls : Array Slot), va_P D cls (mw md mc S) H → va_D A (mw md mc S) → va_S A s.heap H locs → lv_has ls 3 [(0, .ref (md 100))] → W p l e ({ frames := 0, cells := 0, slots := 0, locals := 0 }) s m args below meth c H locs 0 0 Q (F0 m 83 ls [.int t0]) := by
  intro H locs ls hP hD hS hl
  obtain ⟨hx, hb, hr, hml, hown, hts, hK, hA⟩ := id hC
  unfold m_rin_J83 at Heq
  by_cases hz_1 : t0 = 0 ∨ t0 = 1
  case neg => rw [if_neg hz_1] at Heq; cases Heq
  replace Heq := (if_pos hz_1).symm.trans Heq
  exact Kr _ (Option.some.inj Heq).symm 83 _ _ _ d_rin_83 hz_1 hP hD hS
def m_rin_J44 (S : MS) (t0 : Int32) : Option (MS × Int32) := (if t0 = 0 ∨ t0 = 1 then some (S, t0) else none)
theorem d_rin_54 : decode prog_14_method_8_code 54 = .ok (.aload_n 0, 1) := by decide +kernel
theorem d_rin_55 : decode prog_14_method_8_code 55 = .ok (.getfield 95, 3) := by decide +kernel
theorem d_rin_58 : decode prog_14_method_8_code 58 = .ok (.iload_n 1, 1) := by decide +kernel
theorem d_rin_59 : decode prog_14_method_8_code 59 = .ok (.aaload, 1) := by decide +kernel
theorem d_rin_60 : decode prog_14_method_8_code 60 = .ok (.aload_n 0, 1) := by decide +kernel
theorem d_rin_61 : decode prog_14_method_8_code 61 = .ok (.getfield 35, 3) := by decide +kernel
theorem d_rin_64 : decode prog_14_method_8_code 64 = .ok (.iload_n 2, 1) := by decide +kernel
theorem d_rin_65 : decode prog_14_method_8_code 65 = .ok (.iaload, 1) := by decide +kernel
theorem d_rin_66 : decode prog_14_method_8_code 66 = .ok (.baload, 1) := by decide +kernel
theorem d_rin_67 : decode prog_14_method_8_code 67 = .ok (.goto 16, 3) := by decide +kernel
theorem d_rin_20 : decode prog_14_method_8_code 20 = .ok (.aload_n 0, 1) := by decide +kernel
theorem d_rin_21 : decode prog_14_method_8_code 21 = .ok (.getfield 32, 3) := by decide +kernel
theorem d_rin_24 : decode prog_14_method_8_code 24 = .ok (.iload_n 2, 1) := by decide +kernel
theorem d_rin_25 : decode prog_14_method_8_code 25 = .ok (.iaload, 1) := by decide +kernel
theorem d_rin_26 : decode prog_14_method_8_code 26 = .ok (.iload_n 1, 1) := by decide +kernel
theorem d_rin_27 : decode prog_14_method_8_code 27 = .ok (.if_icmp .ne 16, 3) := by decide +kernel
theorem d_rin_43 : decode prog_14_method_8_code 43 = .ok (.iconst 0, 1) := by decide +kernel
theorem d_rin_44 : decode prog_14_method_8_code 44 = .ok (.ireturn, 1) := by decide +kernel
set_option maxHeartbeats 4000000 in
set_option maxRecDepth 100000 in
theorem w_rin_J44 {p : Program} {l : Launch} {e : Env} {s : State} {m : MethodId} {args : Array Value} {below : List Frame} {meth : Method} {c : Code} {A : Nat → Prop} {D : va_G} {md : Nat → Nat} {mc : Nat → ClassId} {Q : State → Prop} (hC : MCx "JoinedTreesModel" prog_14_method_8_code 3 (some .boolean) p s m args meth c A D mc) {S : MS} {t0 : Int32} {o : MS × Int32} (Heq : m_rin_J44 S t0 = some o) (Kr : ∀ r : MS × Int32, o = r → ∀ (pc : Nat) (H : Heap) (locs : List Loc) (ls : Array Slot), decode prog_14_method_8_code pc = .ok (.ireturn, 1) → (r.2 = 0 ∨ r.2 = 1) → va_P D cls (mw md mc r.1) H → va_D A (mw md mc r.1) → va_S A s.heap H locs → W p l e ({ frames := 0, cells := 0, slots := 0, locals := 0 }) s m args below meth c H locs 0 0 Q (F0 m pc ls [.int r.2])) : ∀ (H : Heap) (locs : List Loc) (ls : Array Slot), va_P D cls (mw md mc S) H → va_D A (mw md mc S) → va_S A s.heap H locs → lv_has ls 3 [(0, .ref (md 100))] → W p l e ({ frames := 0, cells := 0, slots := 0, locals := 0 }) s m args below meth c H locs 0 0 Q (F0 m 44 ls [.int t0]) := by
  intro H locs ls hP hD hS hl
  obtain ⟨hx, hb, hr, hml, hown, hts, hK, hA⟩ := id hC
  unfold m_rin_J44 at Heq
  by_cases hz_1 : t0 = 0 ∨ t0 = 1
  case neg => rw [if_neg hz_1] at Heq; cases Heq
  replace Heq := (if_pos hz_1).symm.trans Heq
  exact Kr _ (Option.some.inj Heq).symm 44 _ _ _ d_rin_44 hz_1 hP hD hS
def m_rin_J43 (S : MS) : Option (MS × Int32) := m_rin_J44 S 0
set_option maxHeartbeats 4000000 in
set_option maxRecDepth 100000 in
theorem w_rin_J43 {p : Program} {l : Launch} {e : Env} {s : State} {m : MethodId} {args : Array Value} {below : List Frame} {meth : Method} {c : Code} {A : Nat → Prop} {D : va_G} {md : Nat → Nat} {mc : Nat → ClassId} {Q : State → Prop} (hC : MCx "JoinedTreesModel" prog_14_method_8_code 3 (some .boolean) p s m args meth c A D mc) {S : MS} {o : MS × Int32} (Heq : m_rin_J43 S = some o) (Kr : ∀ r : MS × Int32, o = r → ∀ (pc : Nat) (H : Heap) (locs : List Loc) (ls : Array Slot), decode prog_14_method_8_code pc = .ok (.ireturn, 1) → (r.2 = 0 ∨ r.2 = 1) → va_P D cls (mw md mc r.1) H → va_D A (mw md mc r.1) → va_S A s.heap H locs → W p l e ({ frames := 0, cells := 0, slots := 0, locals := 0 }) s m args below meth c H locs 0 0 Q (F0 m pc ls [.int r.2])) : ∀ (H : Heap) (locs : List Loc) (ls : Array Slot), va_P D cls (mw md mc S) H → va_D A (mw md mc S) → va_S A s.heap H locs → lv_has ls 3 [(0, .ref (md 100))] → W p l e ({ frames := 0, cells := 0, slots := 0, locals := 0 }) s m args below meth c H locs 0 0 Q (F0 m 43 ls []) := by
  intro H locs ls hP hD hS hl
  obtain ⟨hx, hb, hr, hml, hown, hts, hK, hA⟩ := id hC
  unfold m_rin_J43 at Heq
  refine lv_iconst (v := 0) hx hb d_rin_43 (by decide) ?_
  exact w_rin_J44 hC Heq Kr _ _ _ hP hD hS (lv_sub hl [0] rfl)
def m_rin_J0 (S : MS) (x1 : Int32) (x2 : Int32) : Option (MS × Int32) := gd x2 4000 ((if S.a 21 x2.toNatClampNeg = 0 then gd x2 4000 ((if 0 ≤ S.a 13 x2.toNatClampNeg then gd x1 8 ((if 0 ≤ S.a 39 x1.toNatClampNeg then gd x1 8 (gd x2 4000 (gd (S.a 13 x2.toNatClampNeg) 1000 (m_rin_J83 S (S.a (117 + x1.toNatClampNeg) ((S.a 13 x2.toNatClampNeg).toNatClampNeg))))) else gd x1 8 (gd x2 4000 (gd (S.a 13 x2.toNatClampNeg) 1000 (m_rin_J83 S (S.a (101 + x1.toNatClampNeg) ((S.a 13 x2.toNatClampNeg).toNatClampNeg))))))) else gd x2 4000 ((if S.a 12 x2.toNatClampNeg = x1 then gd x1 8 ((if 0 ≤ S.a 39 x1.toNatClampNeg then m_rin_J43 S else m_rin_J44 S 1)) else m_rin_J43 S)))) else some (S, 0)))
theorem d_rin_30 : decode prog_14_method_8_code 30 = .ok (.aload_n 0, 1) := by decide +kernel
theorem d_rin_31 : decode prog_14_method_8_code 31 = .ok (.getfield 104, 3) := by decide +kernel
theorem d_rin_34 : decode prog_14_method_8_code 34 = .ok (.iload_n 1, 1) := by decide +kernel
theorem d_rin_35 : decode prog_14_method_8_code 35 = .ok (.iaload, 1) := by decide +kernel
theorem d_rin_36 : decode prog_14_method_8_code 36 = .ok (.ifCond .ge 7, 3) := by decide +kernel
theorem d_rin_39 : decode prog_14_method_8_code 39 = .ok (.iconst 1, 1) := by decide +kernel
theorem d_rin_40 : decode prog_14_method_8_code 40 = .ok (.goto 4, 3) := by decide +kernel
theorem d_rin_9 : decode prog_14_method_8_code 9 = .ok (.iconst 0, 1) := by decide +kernel
theorem d_rin_10 : decode prog_14_method_8_code 10 = .ok (.ireturn, 1) := by decide +kernel
set_option maxHeartbeats 4000000 in
set_option maxRecDepth 100000 in
theorem w_rin_J0 {p : Program} {l : Launch} {e : Env} {s : State} {m : MethodId} {args : Array Value} {below : List Frame} {meth : Method} {c : Code} {A : Nat → Prop} {D : va_G} {md : Nat → Nat} {mc : Nat → ClassId} {Q : State → Prop} (hC : MCx "JoinedTreesModel" prog_14_method_8_code 3 (some .boolean) p s m args meth c A D mc) {S : MS} {x1 : Int32} {x2 : Int32} {o : MS × Int32} (Heq : m_rin_J0 S x1 x2 = some o) (Kr : ∀ r : MS × Int32, o = r → ∀ (pc : Nat) (H : Heap) (locs : List Loc) (ls : Array Slot), decode prog_14_method_8_code pc = .ok (.ireturn, 1) → (r.2 = 0 ∨ r.2 = 1) → va_P D cls (mw md mc r.1) H → va_D A (mw md mc r.1) → va_S A s.heap H locs → W p l e ({ frames := 0, cells := 0, slots := 0, locals := 0 }) s m args below meth c H locs 0 0 Q (F0 m pc ls [.int r.2])) : ∀ (H : Heap) (locs : List Loc) (ls : Array Slot), va_P D cls (mw md mc S) H → va_D A (mw md mc S) → va_S A s.heap H locs → lv_has ls 3 [(0, .ref (md 100)), (1, .int x1), (2, .int x2)] → W p l e ({ frames := 0, cells := 0, slots := 0, locals := 0 }) s m args below meth c H locs 0 0 Q (F0 m 0 ls []) := by
  intro H locs ls hP hD hS hl
  obtain ⟨hx, hb, hr, hml, hown, hts, hK, hA⟩ := id hC
  unfold m_rin_J0 at Heq
  refine lv_aload_n hx hb d_rin_0 rfl (lv_at hl 0 rfl) ?_
  refine va_get (D := D) (ci := 12) (v := .ref (md 21)) (C := R_MM) (T := F_MM) (N := 77) hx hb hts i_MM hown hK hP 0 rfl rfl 21 (by decide) (hts _ kw_1403) (fun _ h9 => h9) rfl d_rin_1 ?_
  refine lv_iload_n hx hb d_rin_4 rfl (lv_at hl 2 rfl) ?_
  obtain ⟨hi_1, Heq⟩ := gd_some Heq
  refine va_zald hx hb hK hP 17 2 rfl rfl (i := x2) hi_1 d_rin_5 ?_
  refine w_i (y := S.a 21 x2.toNatClampNeg) rfl ?_
  refine lv_if_eq (tgt := 11) hx hb d_rin_6 (by decide) (fun c_2 => ?_) (fun c_2 => ?_)
  · replace Heq := (if_pos c_2).symm.trans Heq
    refine lv_aload_n hx hb d_rin_11 rfl (lv_at hl 0 rfl) ?_
    refine va_get (D := D) (ci := 12) (v := .ref (md 13)) (C := R_MM) (T := F_MM) (N := 77) hx hb hts i_MM hown hK hP 0 rfl rfl 13 (by decide) (hts _ kw_1395) (fun _ h9 => h9) rfl d_rin_12 ?_
    refine lv_iload_n hx hb d_rin_15 rfl (lv_at hl 2 rfl) ?_
    obtain ⟨hi_3, Heq⟩ := gd_some Heq
    refine va_iald hx hb hK hP 9 0 rfl rfl (i := x2) hi_3 d_rin_16 ?_
    refine w_i (y := S.a 13 x2.toNatClampNeg) rfl ?_
    refine lv_if_ge (tgt := 45) hx hb d_rin_17 (by decide) (fun c_4 => ?_) (fun c_4 => ?_)
    · replace Heq := (if_pos c_4).symm.trans Heq
      refine lv_aload_n hx hb d_rin_45 rfl (lv_at hl 0 rfl) ?_
      refine va_get (D := D) (ci := 12) (v := .ref (md 39)) (C := R_MM) (T := F_MM) (N := 77) hx hb hts i_MM hown hK hP 0 rfl rfl 39 (by decide) (hts _ kw_1421) (fun _ h9 => h9) rfl d_rin_46 ?_
      refine lv_iload_n hx hb d_rin_49 rfl (lv_at hl 1 rfl) ?_
      obtain ⟨hi_5, Heq⟩ := gd_some Heq
      refine va_iald hx hb hK hP 27 0 rfl rfl (i := x1) hi_5 d_rin_50 ?_
      refine w_i (y := S.a 39 x1.toNatClampNeg) rfl ?_
      refine lv_if_ge (tgt := 70) hx hb d_rin_51 (by decide) (fun c_6 => ?_) (fun c_6 => ?_)
      · replace Heq := (if_pos c_6).symm.trans Heq
        refine lv_aload_n hx hb d_rin_70 rfl (lv_at hl 0 rfl) ?_
        refine va_get (D := D) (ci := 12) (v := .ref (md 38)) (C := R_MM) (T := F_MM) (N := 77) hx hb hts i_MM hown hK hP 0 rfl rfl 38 (by decide) (hts _ kw_1420) (fun _ h9 => h9) rfl d_rin_71 ?_
        refine lv_iload_n hx hb d_rin_74 rfl (lv_at hl 1 rfl) ?_
        obtain ⟨hi_7, Heq⟩ := gd_some Heq
        refine tx_ald2 hx hb hK hP 50 4 rfl rfl (i := x1) hi_7 d_rin_75 ?_
        refine w_v (y := .ref (md (117 + x1.toNatClampNeg))) rfl ?_
        refine lv_aload_n hx hb d_rin_76 rfl (lv_at hl 0 rfl) ?_
        refine va_get (D := D) (ci := 12) (v := .ref (md 13)) (C := R_MM) (T := F_MM) (N := 77) hx hb hts i_MM hown hK hP 0 rfl rfl 13 (by decide) (hts _ kw_1395) (fun _ h9 => h9) rfl d_rin_77 ?_
        refine lv_iload_n hx hb d_rin_80 rfl (lv_at hl 2 rfl) ?_
        obtain ⟨hi_8, Heq⟩ := gd_some Heq
        refine va_iald hx hb hK hP 9 0 rfl rfl (i := x2) hi_8 d_rin_81 ?_
        refine w_i (y := S.a 13 x2.toNatClampNeg) rfl ?_
        obtain ⟨hi_9, Heq⟩ := gd_some Heq
        refine va_zald hx hb hK hP (67 + x1.toNatClampNeg) 2 (mp_R117 (vp_in.lt hi_7)) rfl (i := S.a 13 x2.toNatClampNeg) hi_9 d_rin_82 ?_
        refine w_i (y := S.a (117 + x1.toNatClampNeg) ((S.a 13 x2.toNatClampNeg).toNatClampNeg)) rfl ?_
        exact w_rin_J83 hC Heq Kr _ _ _ hP hD hS (lv_sub hl [0] rfl)
      · replace Heq := (if_neg c_6).symm.trans Heq
        refine lv_aload_n hx hb d_rin_54 rfl (lv_at hl 0 rfl) ?_
        refine va_get (D := D) (ci := 12) (v := .ref (md 36)) (C := R_MM) (T := F_MM) (N := 77) hx hb hts i_MM hown hK hP 0 rfl rfl 36 (by decide) (hts _ kw_1418) (fun _ h9 => h9) rfl d_rin_55 ?_
        refine lv_iload_n hx hb d_rin_58 rfl (lv_at hl 1 rfl) ?_
        obtain ⟨hi_10, Heq⟩ := gd_some Heq
        refine tx_ald2 hx hb hK hP 48 4 rfl rfl (i := x1) hi_10 d_rin_59 ?_
        refine w_v (y := .ref (md (101 + x1.toNatClampNeg))) rfl ?_
        refine lv_aload_n hx hb d_rin_60 rfl (lv_at hl 0 rfl) ?_
        refine va_get (D := D) (ci := 12) (v := .ref (md 13)) (C := R_MM) (T := F_MM) (N := 77) hx hb hts i_MM hown hK hP 0 rfl rfl 13 (by decide) (hts _ kw_1395) (fun _ h9 => h9) rfl d_rin_61 ?_
        refine lv_iload_n hx hb d_rin_64 rfl (lv_at hl 2 rfl) ?_
        obtain ⟨hi_11, Heq⟩ := gd_some Heq
        refine va_iald hx hb hK hP 9 0 rfl rfl (i := x2) hi_11 d_rin_65 ?_
        refine w_i (y := S.a 13 x2.toNatClampNeg) rfl ?_
        obtain ⟨hi_12, Heq⟩ := gd_some Heq
        refine va_zald hx hb hK hP (51 + x1.toNatClampNeg) 2 (mp_R101 (vp_in.lt hi_10)) rfl (i := S.a 13 x2.toNatClampNeg) hi_12 d_rin_66 ?_
        refine w_i (y := S.a (101 + x1.toNatClampNeg) ((S.a 13 x2.toNatClampNeg).toNatClampNeg)) rfl ?_
        refine lv_goto (tgt := 83) hx hb d_rin_67 (by decide) ?_
        exact w_rin_J83 hC Heq Kr _ _ _ hP hD hS (lv_sub hl [0] rfl)
    · replace Heq := (if_neg c_4).symm.trans Heq
      refine lv_aload_n hx hb d_rin_20 rfl (lv_at hl 0 rfl) ?_
      refine va_get (D := D) (ci := 12) (v := .ref (md 12)) (C := R_MM) (T := F_MM) (N := 77) hx hb hts i_MM hown hK hP 0 rfl rfl 12 (by decide) (hts _ kw_1394) (fun _ h9 => h9) rfl d_rin_21 ?_
      refine lv_iload_n hx hb d_rin_24 rfl (lv_at hl 2 rfl) ?_
      obtain ⟨hi_13, Heq⟩ := gd_some Heq
      refine va_iald hx hb hK hP 8 0 rfl rfl (i := x2) hi_13 d_rin_25 ?_
      refine w_i (y := S.a 12 x2.toNatClampNeg) rfl ?_
      refine lv_iload_n hx hb d_rin_26 rfl (lv_at hl 1 rfl) ?_
      refine lv_icmp_ne (tgt := 43) hx hb d_rin_27 (by decide) (fun c_14 => ?_) (fun c_14 => ?_)
      · replace Heq := (if_neg c_14).symm.trans Heq
        exact w_rin_J43 hC Heq Kr _ _ _ hP hD hS (lv_sub hl [0] rfl)
      · replace Heq := (if_pos c_14).symm.trans Heq
        refine lv_aload_n hx hb d_rin_30 rfl (lv_at hl 0 rfl) ?_
        refine va_get (D := D) (ci := 12) (v := .ref (md 39)) (C := R_MM) (T := F_MM) (N := 77) hx hb hts i_MM hown hK hP 0 rfl rfl 39 (by decide) (hts _ kw_1421) (fun _ h9 => h9) rfl d_rin_31 ?_
        refine lv_iload_n hx hb d_rin_34 rfl (lv_at hl 1 rfl) ?_
        obtain ⟨hi_15, Heq⟩ := gd_some Heq
        refine va_iald hx hb hK hP 27 0 rfl rfl (i := x1) hi_15 d_rin_35 ?_
        refine w_i (y := S.a 39 x1.toNatClampNeg) rfl ?_
        refine lv_if_ge (tgt := 43) hx hb d_rin_36 (by decide) (fun c_16 => ?_) (fun c_16 => ?_)
        · replace Heq := (if_pos c_16).symm.trans Heq
          exact w_rin_J43 hC Heq Kr _ _ _ hP hD hS (lv_sub hl [0] rfl)
        · replace Heq := (if_neg c_16).symm.trans Heq
          refine lv_iconst (v := 1) hx hb d_rin_39 (by decide) ?_
          refine lv_goto (tgt := 44) hx hb d_rin_40 (by decide) ?_
          exact w_rin_J44 hC Heq Kr _ _ _ hP hD hS (lv_sub hl [0] rfl)
  · replace Heq := (if_neg c_2).symm.trans Heq
    refine lv_iconst (v := 0) hx hb d_rin_9 (by decide) ?_
    exact Kr _ (Option.some.inj Heq).symm 10 _ _ _ d_rin_10 (Or.inl rfl) hP hD hS
def m_rin (S : MS) (x1 : Int32) (x2 : Int32) : Option (MS × Int32) := m_rin_J0 S x1 x2
theorem g_rin (l : Launch) (D : va_G) (sz : Nat) {md : Nat → Nat} {mc : Nat → ClassId} {S : MS} {x1 : Int32} {x2 : Int32} {o : MS × Int32} (Heq : m_rin S x1 x2 = some o) : Met l ⟨"JoinedTreesModel", "in", "(II)Z"⟩ (Cond.code ⟨"JoinedTreesModel", "in", "(II)Z"⟩ prog_14_method_8_code 3 (some .boolean) :: gb) ({ frames := 0, cells := 0, slots := 0, locals := 0 }) (gPc D (mw md mc S) (mty mc) sz [.ref (md 100), .int x1, .int x2]) (va_Qi (fun (r : Int32) (_ : Unit) => r = o.2) (fun _ t => gO D (mw md mc o.1) (mty mc) (va_A (mw md mc S) sz) t) (va_A (mw md mc S) sz)) 0 0 (va_A (mw md mc S) sz) := by
  refine Met.ofW (cc := prog_14_method_8_code) (maxL := 3) (ret := (some .boolean)) (by decide) rfl ?_
  intro p e s m args below meth c s₁ B hml hv
  obtain ⟨rfl, hsz, hP, hK, hD0⟩ := hv
  have hx := B.exec
  have hb := B.bytes
  have hr := B.returns
  have hts : ∀ w9 ∈ gb, w9.before [.ref (md 100), .int x1, .int x2].toArray s = true := fun w9 h => atoms_spec (ws := Cond.code ⟨"JoinedTreesModel", "in", "(II)Z"⟩ prog_14_method_8_code 3 (some .boolean) :: gb) B.pre w9 (List.mem_cons_of_mem _ h)
  have hown : s.vm.findClass "JoinedTreesModel" = some m.cls := findClass_of_methodNamed B.named
  have hlocks := B.notSynchronized
  subst hsz
  have hD := hD0.self (sz := s.heap.size)
  generalize hAe : va_A (mw md mc S) s.heap.size = A at hD ⊢
  have hA : ∀ q : Nat, s.heap.size ≤ q → A q := fun q h => by rw [← hAe]; exact Or.inr h
  have hS : va_S A s.heap s.heap [] := va_S.rf
  have hl := lv_entry ([.ref (md 100), .int x1, .int x2]) (n := 3) (Nat.le_of_ble_eq_true rfl)
  rw [lg_entry_eq]
  generalize (lg_sl ([.ref (md 100), .int x1, .int x2]) ++ List.replicate (3 - (lg_sl ([.ref (md 100), .int x1, .int x2])).length) Slot.unset).toArray = ls at hl ⊢
  have hl : lv_has ls 3 [(0, .ref (md 100)), (1, .int x1), (2, .int x2)] := hl
  refine w_rin_J0 ⟨hx, hb, hr, hml, hown, hts, hK, hA⟩ Heq (fun r h pc H locs ls hd hz hP hD hS => ?_) _ _ _ hP hD hS (lv_sub hl [0, 1, 2] rfl)
  subst h
  exact W.zret (ty := .boolean) hx hb hr (by rcases hz with hz | hz <;> rw [hz] <;> rfl) (fun t ht hW => ⟨⟨_, (), rfl, rfl, by rw [ht]; exact hP, va_K.moved hW.alike hK, hD⟩, hS.F ht⟩) hS.2.2 hd
def m_rowns_J52 (S : MS) (t0 : Int32) : Option (MS × Int32) := (if t0 = 0 ∨ t0 = 1 then some (S, t0) else none)
theorem d_rowns_0 : decode prog_14_method_9_code 0 = .ok (.aload_n 0, 1) := by decide +kernel
theorem d_rowns_1 : decode prog_14_method_9_code 1 = .ok (.getfield 60, 3) := by decide +kernel
theorem d_rowns_4 : decode prog_14_method_9_code 4 = .ok (.iload_n 2, 1) := by decide +kernel
theorem d_rowns_5 : decode prog_14_method_9_code 5 = .ok (.baload, 1) := by decide +kernel
theorem d_rowns_6 : decode prog_14_method_9_code 6 = .ok (.ifCond .ne 45, 3) := by decide +kernel
theorem d_rowns_51 : decode prog_14_method_9_code 51 = .ok (.iconst 0, 1) := by decide +kernel
theorem d_rowns_52 : decode prog_14_method_9_code 52 = .ok (.ireturn, 1) := by decide +kernel
set_option maxHeartbeats 4000000 in
set_option maxRecDepth 100000 in
theorem w_rowns_J52 {p : Program} {l : Launch} {e : Env} {s : State} {m : MethodId} {args : Array Value} {below : List Frame} {meth : Method} {c : Code} {A : Nat → Prop} {D : va_G} {md : Nat → Nat} {mc : Nat → ClassId} {Q : State → Prop} (hC : MCx "JoinedTreesModel" prog_14_method_9_code 3 (some .boolean) p s m args meth c A D mc) {S : MS} {t0 : Int32} {o : MS × Int32} (Heq : m_rowns_J52 S t0 = some o) (Kr : ∀ r : MS × Int32, o = r → ∀ (pc : Nat) (H : Heap) (locs : List Loc) (ls : Array Slot), decode prog_14_method_9_code pc = .ok (.ireturn, 1) → (r.2 = 0 ∨ r.2 = 1) → va_P D cls (mw md mc r.1) H → va_D A (mw md mc r.1) → va_S A s.heap H locs → W p l e ({ frames := 0, cells := 0, slots := 0, locals := 0 }) s m args below meth c H locs 0 0 Q (F0 m pc ls [.int r.2])) : ∀ (H : Heap) (locs : List Loc) (ls : Array Slot), va_P D cls (mw md mc S) H → va_D A (mw md mc S) → va_S A s.heap H locs → lv_has ls 3 [(0, .ref (md 100))] → W p l e ({ frames := 0, cells := 0, slots := 0, locals := 0 }) s m args below meth c H locs 0 0 Q (F0 m 52 ls [.int t0]) := by
  intro H locs ls hP hD hS hl
  obtain ⟨hx, hb, hr, hml, hown, hts, hK, hA⟩ := id hC
  unfold m_rowns_J52 at Heq
  by_cases hz_1 : t0 = 0 ∨ t0 = 1
  case neg => rw [if_neg hz_1] at Heq; cases Heq
  replace Heq := (if_pos hz_1).symm.trans Heq
  exact Kr _ (Option.some.inj Heq).symm 52 _ _ _ d_rowns_52 hz_1 hP hD hS
def m_rowns_J51 (S : MS) : Option (MS × Int32) := m_rowns_J52 S 0
set_option maxHeartbeats 4000000 in
set_option maxRecDepth 100000 in
theorem w_rowns_J51 {p : Program} {l : Launch} {e : Env} {s : State} {m : MethodId} {args : Array Value} {below : List Frame} {meth : Method} {c : Code} {A : Nat → Prop} {D : va_G} {md : Nat → Nat} {mc : Nat → ClassId} {Q : State → Prop} (hC : MCx "JoinedTreesModel" prog_14_method_9_code 3 (some .boolean) p s m args meth c A D mc) {S : MS} {o : MS × Int32} (Heq : m_rowns_J51 S = some o) (Kr : ∀ r : MS × Int32, o = r → ∀ (pc : Nat) (H : Heap) (locs : List Loc) (ls : Array Slot), decode prog_14_method_9_code pc = .ok (.ireturn, 1) → (r.2 = 0 ∨ r.2 = 1) → va_P D cls (mw md mc r.1) H → va_D A (mw md mc r.1) → va_S A s.heap H locs → W p l e ({ frames := 0, cells := 0, slots := 0, locals := 0 }) s m args below meth c H locs 0 0 Q (F0 m pc ls [.int r.2])) : ∀ (H : Heap) (locs : List Loc) (ls : Array Slot), va_P D cls (mw md mc S) H → va_D A (mw md mc S) → va_S A s.heap H locs → lv_has ls 3 [(0, .ref (md 100))] → W p l e ({ frames := 0, cells := 0, slots := 0, locals := 0 }) s m args below meth c H locs 0 0 Q (F0 m 51 ls []) := by
  intro H locs ls hP hD hS hl
  obtain ⟨hx, hb, hr, hml, hown, hts, hK, hA⟩ := id hC
  unfold m_rowns_J51 at Heq
  refine lv_iconst (v := 0) hx hb d_rowns_51 (by decide) ?_
  exact w_rowns_J52 hC Heq Kr _ _ _ hP hD hS (lv_sub hl [0] rfl)
def m_rowns_J47 (S : MS) : Option (MS × Int32) := m_rowns_J52 S 1
theorem d_rowns_9 : decode prog_14_method_9_code 9 = .ok (.aload_n 0, 1) := by decide +kernel
theorem d_rowns_10 : decode prog_14_method_9_code 10 = .ok (.getfield 35, 3) := by decide +kernel
theorem d_rowns_13 : decode prog_14_method_9_code 13 = .ok (.iload_n 2, 1) := by decide +kernel
theorem d_rowns_14 : decode prog_14_method_9_code 14 = .ok (.iaload, 1) := by decide +kernel
theorem d_rowns_15 : decode prog_14_method_9_code 15 = .ok (.ifCond .ge 16, 3) := by decide +kernel
theorem d_rowns_31 : decode prog_14_method_9_code 31 = .ok (.aload_n 0, 1) := by decide +kernel
theorem d_rowns_32 : decode prog_14_method_9_code 32 = .ok (.getfield 95, 3) := by decide +kernel
theorem d_rowns_35 : decode prog_14_method_9_code 35 = .ok (.iload_n 1, 1) := by decide +kernel
theorem d_rowns_36 : decode prog_14_method_9_code 36 = .ok (.aaload, 1) := by decide +kernel
theorem d_rowns_37 : decode prog_14_method_9_code 37 = .ok (.aload_n 0, 1) := by decide +kernel
theorem d_rowns_38 : decode prog_14_method_9_code 38 = .ok (.getfield 35, 3) := by decide +kernel
theorem d_rowns_41 : decode prog_14_method_9_code 41 = .ok (.iload_n 2, 1) := by decide +kernel
theorem d_rowns_42 : decode prog_14_method_9_code 42 = .ok (.iaload, 1) := by decide +kernel
theorem d_rowns_43 : decode prog_14_method_9_code 43 = .ok (.baload, 1) := by decide +kernel
theorem d_rowns_44 : decode prog_14_method_9_code 44 = .ok (.ifCond .eq 7, 3) := by decide +kernel
theorem d_rowns_47 : decode prog_14_method_9_code 47 = .ok (.iconst 1, 1) := by decide +kernel
theorem d_rowns_48 : decode prog_14_method_9_code 48 = .ok (.goto 4, 3) := by decide +kernel
set_option maxHeartbeats 4000000 in
set_option maxRecDepth 100000 in
theorem w_rowns_J47 {p : Program} {l : Launch} {e : Env} {s : State} {m : MethodId} {args : Array Value} {below : List Frame} {meth : Method} {c : Code} {A : Nat → Prop} {D : va_G} {md : Nat → Nat} {mc : Nat → ClassId} {Q : State → Prop} (hC : MCx "JoinedTreesModel" prog_14_method_9_code 3 (some .boolean) p s m args meth c A D mc) {S : MS} {o : MS × Int32} (Heq : m_rowns_J47 S = some o) (Kr : ∀ r : MS × Int32, o = r → ∀ (pc : Nat) (H : Heap) (locs : List Loc) (ls : Array Slot), decode prog_14_method_9_code pc = .ok (.ireturn, 1) → (r.2 = 0 ∨ r.2 = 1) → va_P D cls (mw md mc r.1) H → va_D A (mw md mc r.1) → va_S A s.heap H locs → W p l e ({ frames := 0, cells := 0, slots := 0, locals := 0 }) s m args below meth c H locs 0 0 Q (F0 m pc ls [.int r.2])) : ∀ (H : Heap) (locs : List Loc) (ls : Array Slot), va_P D cls (mw md mc S) H → va_D A (mw md mc S) → va_S A s.heap H locs → lv_has ls 3 [(0, .ref (md 100))] → W p l e ({ frames := 0, cells := 0, slots := 0, locals := 0 }) s m args below meth c H locs 0 0 Q (F0 m 47 ls []) := by
  intro H locs ls hP hD hS hl
  obtain ⟨hx, hb, hr, hml, hown, hts, hK, hA⟩ := id hC
  unfold m_rowns_J47 at Heq
  refine lv_iconst (v := 1) hx hb d_rowns_47 (by decide) ?_
  refine lv_goto (tgt := 52) hx hb d_rowns_48 (by decide) ?_
  exact w_rowns_J52 hC Heq Kr _ _ _ hP hD hS (lv_sub hl [0] rfl)
def m_rowns_J0 (S : MS) (x1 : Int32) (x2 : Int32) : Option (MS × Int32) := gd x2 4000 ((if S.a 21 x2.toNatClampNeg = 0 then gd x2 4000 ((if 0 ≤ S.a 13 x2.toNatClampNeg then gd x1 8 (gd x2 4000 (gd (S.a 13 x2.toNatClampNeg) 1000 ((if S.a (101 + x1.toNatClampNeg) ((S.a 13 x2.toNatClampNeg).toNatClampNeg) = 0 then m_rowns_J51 S else m_rowns_J47 S)))) else gd x2 4000 ((if S.a 12 x2.toNatClampNeg = x1 then m_rowns_J47 S else m_rowns_J51 S)))) else m_rowns_J51 S))
theorem d_rowns_18 : decode prog_14_method_9_code 18 = .ok (.aload_n 0, 1) := by decide +kernel
theorem d_rowns_19 : decode prog_14_method_9_code 19 = .ok (.getfield 32, 3) := by decide +kernel
theorem d_rowns_22 : decode prog_14_method_9_code 22 = .ok (.iload_n 2, 1) := by decide +kernel
theorem d_rowns_23 : decode prog_14_method_9_code 23 = .ok (.iaload, 1) := by decide +kernel
theorem d_rowns_24 : decode prog_14_method_9_code 24 = .ok (.iload_n 1, 1) := by decide +kernel
theorem d_rowns_25 : decode prog_14_method_9_code 25 = .ok (.if_icmp .ne 26, 3) := by decide +kernel
theorem d_rowns_28 : decode prog_14_method_9_code 28 = .ok (.goto 19, 3) := by decide +kernel
set_option maxHeartbeats 4000000 in
set_option maxRecDepth 100000 in
theorem w_rowns_J0 {p : Program} {l : Launch} {e : Env} {s : State} {m : MethodId} {args : Array Value} {below : List Frame} {meth : Method} {c : Code} {A : Nat → Prop} {D : va_G} {md : Nat → Nat} {mc : Nat → ClassId} {Q : State → Prop} (hC : MCx "JoinedTreesModel" prog_14_method_9_code 3 (some .boolean) p s m args meth c A D mc) {S : MS} {x1 : Int32} {x2 : Int32} {o : MS × Int32} (Heq : m_rowns_J0 S x1 x2 = some o) (Kr : ∀ r : MS × Int32, o = r → ∀ (pc : Nat) (H : Heap) (locs : List Loc) (ls : Array Slot), decode prog_14_method_9_code pc = .ok (.ireturn, 1) → (r.2 = 0 ∨ r.2 = 1) → va_P D cls (mw md mc r.1) H → va_D A (mw md mc r.1) → va_S A s.heap H locs → W p l e ({ frames := 0, cells := 0, slots := 0, locals := 0 }) s m args below meth c H locs 0 0 Q (F0 m pc ls [.int r.2])) : ∀ (H : Heap) (locs : List Loc) (ls : Array Slot), va_P D cls (mw md mc S) H → va_D A (mw md mc S) → va_S A s.heap H locs → lv_has ls 3 [(0, .ref (md 100)), (1, .int x1), (2, .int x2)] → W p l e ({ frames := 0, cells := 0, slots := 0, locals := 0 }) s m args below meth c H locs 0 0 Q (F0 m 0 ls []) := by
  intro H locs ls hP hD hS hl
  obtain ⟨hx, hb, hr, hml, hown, hts, hK, hA⟩ := id hC
  unfold m_rowns_J0 at Heq
  refine lv_aload_n hx hb d_rowns_0 rfl (lv_at hl 0 rfl) ?_
  refine va_get (D := D) (ci := 12) (v := .ref (md 21)) (C := R_MM) (T := F_MM) (N := 77) hx hb hts i_MM hown hK hP 0 rfl rfl 21 (by decide) (hts _ kw_1403) (fun _ h9 => h9) rfl d_rowns_1 ?_
  refine lv_iload_n hx hb d_rowns_4 rfl (lv_at hl 2 rfl) ?_
  obtain ⟨hi_1, Heq⟩ := gd_some Heq
  refine va_zald hx hb hK hP 17 2 rfl rfl (i := x2) hi_1 d_rowns_5 ?_
  refine w_i (y := S.a 21 x2.toNatClampNeg) rfl ?_
  refine lv_if_ne (tgt := 51) hx hb d_rowns_6 (by decide) (fun c_2 => ?_) (fun c_2 => ?_)
  · replace Heq := (if_neg c_2).symm.trans Heq
    exact w_rowns_J51 hC Heq Kr _ _ _ hP hD hS (lv_sub hl [0] rfl)
  · replace Heq := (if_pos c_2).symm.trans Heq
    refine lv_aload_n hx hb d_rowns_9 rfl (lv_at hl 0 rfl) ?_
    refine va_get (D := D) (ci := 12) (v := .ref (md 13)) (C := R_MM) (T := F_MM) (N := 77) hx hb hts i_MM hown hK hP 0 rfl rfl 13 (by decide) (hts _ kw_1395) (fun _ h9 => h9) rfl d_rowns_10 ?_
    refine lv_iload_n hx hb d_rowns_13 rfl (lv_at hl 2 rfl) ?_
    obtain ⟨hi_3, Heq⟩ := gd_some Heq
    refine va_iald hx hb hK hP 9 0 rfl rfl (i := x2) hi_3 d_rowns_14 ?_
    refine w_i (y := S.a 13 x2.toNatClampNeg) rfl ?_
    refine lv_if_ge (tgt := 31) hx hb d_rowns_15 (by decide) (fun c_4 => ?_) (fun c_4 => ?_)
    · replace Heq := (if_pos c_4).symm.trans Heq
      refine lv_aload_n hx hb d_rowns_31 rfl (lv_at hl 0 rfl) ?_
      refine va_get (D := D) (ci := 12) (v := .ref (md 36)) (C := R_MM) (T := F_MM) (N := 77) hx hb hts i_MM hown hK hP 0 rfl rfl 36 (by decide) (hts _ kw_1418) (fun _ h9 => h9) rfl d_rowns_32 ?_
      refine lv_iload_n hx hb d_rowns_35 rfl (lv_at hl 1 rfl) ?_
      obtain ⟨hi_5, Heq⟩ := gd_some Heq
      refine tx_ald2 hx hb hK hP 48 4 rfl rfl (i := x1) hi_5 d_rowns_36 ?_
      refine w_v (y := .ref (md (101 + x1.toNatClampNeg))) rfl ?_
      refine lv_aload_n hx hb d_rowns_37 rfl (lv_at hl 0 rfl) ?_
      refine va_get (D := D) (ci := 12) (v := .ref (md 13)) (C := R_MM) (T := F_MM) (N := 77) hx hb hts i_MM hown hK hP 0 rfl rfl 13 (by decide) (hts _ kw_1395) (fun _ h9 => h9) rfl d_rowns_38 ?_
      refine lv_iload_n hx hb d_rowns_41 rfl (lv_at hl 2 rfl) ?_
      obtain ⟨hi_6, Heq⟩ := gd_some Heq
      refine va_iald hx hb hK hP 9 0 rfl rfl (i := x2) hi_6 d_rowns_42 ?_
      refine w_i (y := S.a 13 x2.toNatClampNeg) rfl ?_
      obtain ⟨hi_7, Heq⟩ := gd_some Heq
      refine va_zald hx hb hK hP (51 + x1.toNatClampNeg) 2 (mp_R101 (vp_in.lt hi_5)) rfl (i := S.a 13 x2.toNatClampNeg) hi_7 d_rowns_43 ?_
      refine w_i (y := S.a (101 + x1.toNatClampNeg) ((S.a 13 x2.toNatClampNeg).toNatClampNeg)) rfl ?_
      refine lv_if_eq (tgt := 51) hx hb d_rowns_44 (by decide) (fun c_8 => ?_) (fun c_8 => ?_)
      · replace Heq := (if_pos c_8).symm.trans Heq
        exact w_rowns_J51 hC Heq Kr _ _ _ hP hD hS (lv_sub hl [0] rfl)
      · replace Heq := (if_neg c_8).symm.trans Heq
        exact w_rowns_J47 hC Heq Kr _ _ _ hP hD hS (lv_sub hl [0] rfl)
    · replace Heq := (if_neg c_4).symm.trans Heq
      refine lv_aload_n hx hb d_rowns_18 rfl (lv_at hl 0 rfl) ?_
      refine va_get (D := D) (ci := 12) (v := .ref (md 12)) (C := R_MM) (T := F_MM) (N := 77) hx hb hts i_MM hown hK hP 0 rfl rfl 12 (by decide) (hts _ kw_1394) (fun _ h9 => h9) rfl d_rowns_19 ?_
      refine lv_iload_n hx hb d_rowns_22 rfl (lv_at hl 2 rfl) ?_
      obtain ⟨hi_9, Heq⟩ := gd_some Heq
      refine va_iald hx hb hK hP 8 0 rfl rfl (i := x2) hi_9 d_rowns_23 ?_
      refine w_i (y := S.a 12 x2.toNatClampNeg) rfl ?_
      refine lv_iload_n hx hb d_rowns_24 rfl (lv_at hl 1 rfl) ?_
      refine lv_icmp_ne (tgt := 51) hx hb d_rowns_25 (by decide) (fun c_10 => ?_) (fun c_10 => ?_)
      · replace Heq := (if_neg c_10).symm.trans Heq
        exact w_rowns_J51 hC Heq Kr _ _ _ hP hD hS (lv_sub hl [0] rfl)
      · replace Heq := (if_pos c_10).symm.trans Heq
        refine lv_goto (tgt := 47) hx hb d_rowns_28 (by decide) ?_
        exact w_rowns_J47 hC Heq Kr _ _ _ hP hD hS (lv_sub hl [0] rfl)
def m_rowns (S : MS) (x1 : Int32) (x2 : Int32) : Option (MS × Int32) := m_rowns_J0 S x1 x2
theorem g_rowns (l : Launch) (D : va_G) (sz : Nat) {md : Nat → Nat} {mc : Nat → ClassId} {S : MS} {x1 : Int32} {x2 : Int32} {o : MS × Int32} (Heq : m_rowns S x1 x2 = some o) : Met l ⟨"JoinedTreesModel", "owns", "(II)Z"⟩ (Cond.code ⟨"JoinedTreesModel", "owns", "(II)Z"⟩ prog_14_method_9_code 3 (some .boolean) :: gb) ({ frames := 0, cells := 0, slots := 0, locals := 0 }) (gPc D (mw md mc S) (mty mc) sz [.ref (md 100), .int x1, .int x2]) (va_Qi (fun (r : Int32) (_ : Unit) => r = o.2) (fun _ t => gO D (mw md mc o.1) (mty mc) (va_A (mw md mc S) sz) t) (va_A (mw md mc S) sz)) 0 0 (va_A (mw md mc S) sz) := by
  refine Met.ofW (cc := prog_14_method_9_code) (maxL := 3) (ret := (some .boolean)) (by decide) rfl ?_
  intro p e s m args below meth c s₁ B hml hv
  obtain ⟨rfl, hsz, hP, hK, hD0⟩ := hv
  have hx := B.exec
  have hb := B.bytes
  have hr := B.returns
  have hts : ∀ w9 ∈ gb, w9.before [.ref (md 100), .int x1, .int x2].toArray s = true := fun w9 h => atoms_spec (ws := Cond.code ⟨"JoinedTreesModel", "owns", "(II)Z"⟩ prog_14_method_9_code 3 (some .boolean) :: gb) B.pre w9 (List.mem_cons_of_mem _ h)
  have hown : s.vm.findClass "JoinedTreesModel" = some m.cls := findClass_of_methodNamed B.named
  have hlocks := B.notSynchronized
  subst hsz
  have hD := hD0.self (sz := s.heap.size)
  generalize hAe : va_A (mw md mc S) s.heap.size = A at hD ⊢
  have hA : ∀ q : Nat, s.heap.size ≤ q → A q := fun q h => by rw [← hAe]; exact Or.inr h
  have hS : va_S A s.heap s.heap [] := va_S.rf
  have hl := lv_entry ([.ref (md 100), .int x1, .int x2]) (n := 3) (Nat.le_of_ble_eq_true rfl)
  rw [lg_entry_eq]
  generalize (lg_sl ([.ref (md 100), .int x1, .int x2]) ++ List.replicate (3 - (lg_sl ([.ref (md 100), .int x1, .int x2])).length) Slot.unset).toArray = ls at hl ⊢
  have hl : lv_has ls 3 [(0, .ref (md 100)), (1, .int x1), (2, .int x2)] := hl
  refine w_rowns_J0 ⟨hx, hb, hr, hml, hown, hts, hK, hA⟩ Heq (fun r h pc H locs ls hd hz hP hD hS => ?_) _ _ _ hP hD hS (lv_sub hl [0, 1, 2] rfl)
  subst h
  exact W.zret (ty := .boolean) hx hb hr (by rcases hz with hz | hz <;> rw [hz] <;> rfl) (fun t ht hW => ⟨⟨_, (), rfl, rfl, by rw [ht]; exact hP, va_K.moved hW.alike hK, hD⟩, hS.F ht⟩) hS.2.2 hd
