def m_cJT_isDigit_J17 (N : Nat → Nat) (S : CS) (t0 : Int32) : Option (CS × Int32) := (if t0 = 0 ∨ t0 = 1 then some (S, t0) else none)
theorem d_cJT_isDigit_0 : decode prog_1_method_58_code 0 = .ok (.iload_n 0, 1) := by decide +kernel
theorem d_cJT_isDigit_1 : decode prog_1_method_58_code 1 = .ok (.bipush 48, 2) := by decide +kernel
theorem d_cJT_isDigit_3 : decode prog_1_method_58_code 3 = .ok (.if_icmp .lt 13, 3) := by decide +kernel
theorem d_cJT_isDigit_16 : decode prog_1_method_58_code 16 = .ok (.iconst 0, 1) := by decide +kernel
theorem d_cJT_isDigit_17 : decode prog_1_method_58_code 17 = .ok (.ireturn, 1) := by decide +kernel
set_option maxHeartbeats 4000000 in
set_option maxRecDepth 100000 in
theorem w_cJT_isDigit_J17 {p : Program} {l : Launch} {e : Env} {s : State} {m : MethodId} {args : Array Value} {below : List Frame} {meth : Method} {c : Code} {A : Nat → Prop} {D : va_G} {ad : Nat → Nat → Nat} {cc : Nat → ClassId} {sad sav : Nat → Nat} {Q : State → Prop} (hC : MCc sad sav "JoinedTrees" prog_1_method_58_code 1 (some .boolean) p s m args meth c A D cc) {N : Nat → Nat} {S : CS} {t0 : Int32} {o : CS × Int32} (Heq : m_cJT_isDigit_J17 N S t0 = some o) (Kr : ∀ r : CS × Int32, o = r → ∀ (pc : Nat) (H : Heap) (locs : List Loc) (ls : Array Slot), decode prog_1_method_58_code pc = .ok (.ireturn, 1) → (r.2 = 0 ∨ r.2 = 1) → va_P D cls (cw ad cc N r.1) H → va_D A (cw ad cc N r.1) → va_S A s.heap H locs → W p l e ({ frames := 0, cells := 0, slots := 0, locals := 0 }) s m args below meth c H locs 0 0 Q (F0 m pc ls [.int r.2])) : ∀ (H : Heap) (locs : List Loc) (ls : Array Slot), va_P D cls (cw ad cc N S) H → va_D A (cw ad cc N S) → va_S A s.heap H locs → lv_has ls 1 [] → W p l e ({ frames := 0, cells := 0, slots := 0, locals := 0 }) s m args below meth c H locs 0 0 Q (F0 m 17 ls [.int t0]) := by
  intro H locs ls hP hD hS hl
  obtain ⟨hx, hb, hr, hml, hown, hts, hK, hA, hev, hE, hN, hNS⟩ := id hC
  unfold m_cJT_isDigit_J17 at Heq
  by_cases hz_1 : t0 = 0 ∨ t0 = 1
  case neg => rw [if_neg hz_1] at Heq; cases Heq
  replace Heq := (if_pos hz_1).symm.trans Heq
  exact Kr _ (Option.some.inj Heq).symm 17 _ _ _ d_cJT_isDigit_17 hz_1 hP hD hS
def m_cJT_isDigit_J16 (N : Nat → Nat) (S : CS) : Option (CS × Int32) := m_cJT_isDigit_J17 N S 0
set_option maxHeartbeats 4000000 in
set_option maxRecDepth 100000 in
theorem w_cJT_isDigit_J16 {p : Program} {l : Launch} {e : Env} {s : State} {m : MethodId} {args : Array Value} {below : List Frame} {meth : Method} {c : Code} {A : Nat → Prop} {D : va_G} {ad : Nat → Nat → Nat} {cc : Nat → ClassId} {sad sav : Nat → Nat} {Q : State → Prop} (hC : MCc sad sav "JoinedTrees" prog_1_method_58_code 1 (some .boolean) p s m args meth c A D cc) {N : Nat → Nat} {S : CS} {o : CS × Int32} (Heq : m_cJT_isDigit_J16 N S = some o) (Kr : ∀ r : CS × Int32, o = r → ∀ (pc : Nat) (H : Heap) (locs : List Loc) (ls : Array Slot), decode prog_1_method_58_code pc = .ok (.ireturn, 1) → (r.2 = 0 ∨ r.2 = 1) → va_P D cls (cw ad cc N r.1) H → va_D A (cw ad cc N r.1) → va_S A s.heap H locs → W p l e ({ frames := 0, cells := 0, slots := 0, locals := 0 }) s m args below meth c H locs 0 0 Q (F0 m pc ls [.int r.2])) : ∀ (H : Heap) (locs : List Loc) (ls : Array Slot), va_P D cls (cw ad cc N S) H → va_D A (cw ad cc N S) → va_S A s.heap H locs → lv_has ls 1 [] → W p l e ({ frames := 0, cells := 0, slots := 0, locals := 0 }) s m args below meth c H locs 0 0 Q (F0 m 16 ls []) := by
  intro H locs ls hP hD hS hl
  obtain ⟨hx, hb, hr, hml, hown, hts, hK, hA, hev, hE, hN, hNS⟩ := id hC
  unfold m_cJT_isDigit_J16 at Heq
  refine lv_iconst (v := 0) hx hb d_cJT_isDigit_16 (by decide) ?_
  exact w_cJT_isDigit_J17 hC Heq Kr _ _ _ hP hD hS (lv_sub hl [] rfl)
def m_cJT_isDigit_J0 (N : Nat → Nat) (S : CS) (x0 : Int32) : Option (CS × Int32) := (if x0 < 48 then m_cJT_isDigit_J16 N S else (if 57 < x0 then m_cJT_isDigit_J16 N S else m_cJT_isDigit_J17 N S 1))
theorem d_cJT_isDigit_6 : decode prog_1_method_58_code 6 = .ok (.iload_n 0, 1) := by decide +kernel
theorem d_cJT_isDigit_7 : decode prog_1_method_58_code 7 = .ok (.bipush 57, 2) := by decide +kernel
theorem d_cJT_isDigit_9 : decode prog_1_method_58_code 9 = .ok (.if_icmp .gt 7, 3) := by decide +kernel
theorem d_cJT_isDigit_12 : decode prog_1_method_58_code 12 = .ok (.iconst 1, 1) := by decide +kernel
theorem d_cJT_isDigit_13 : decode prog_1_method_58_code 13 = .ok (.goto 4, 3) := by decide +kernel
set_option maxHeartbeats 4000000 in
set_option maxRecDepth 100000 in
theorem w_cJT_isDigit_J0 {p : Program} {l : Launch} {e : Env} {s : State} {m : MethodId} {args : Array Value} {below : List Frame} {meth : Method} {c : Code} {A : Nat → Prop} {D : va_G} {ad : Nat → Nat → Nat} {cc : Nat → ClassId} {sad sav : Nat → Nat} {Q : State → Prop} (hC : MCc sad sav "JoinedTrees" prog_1_method_58_code 1 (some .boolean) p s m args meth c A D cc) {N : Nat → Nat} {S : CS} {x0 : Int32} {o : CS × Int32} (Heq : m_cJT_isDigit_J0 N S x0 = some o) (Kr : ∀ r : CS × Int32, o = r → ∀ (pc : Nat) (H : Heap) (locs : List Loc) (ls : Array Slot), decode prog_1_method_58_code pc = .ok (.ireturn, 1) → (r.2 = 0 ∨ r.2 = 1) → va_P D cls (cw ad cc N r.1) H → va_D A (cw ad cc N r.1) → va_S A s.heap H locs → W p l e ({ frames := 0, cells := 0, slots := 0, locals := 0 }) s m args below meth c H locs 0 0 Q (F0 m pc ls [.int r.2])) : ∀ (H : Heap) (locs : List Loc) (ls : Array Slot), va_P D cls (cw ad cc N S) H → va_D A (cw ad cc N S) → va_S A s.heap H locs → lv_has ls 1 [(0, .int x0)] → W p l e ({ frames := 0, cells := 0, slots := 0, locals := 0 }) s m args below meth c H locs 0 0 Q (F0 m 0 ls []) := by
  intro H locs ls hP hD hS hl
  obtain ⟨hx, hb, hr, hml, hown, hts, hK, hA, hev, hE, hN, hNS⟩ := id hC
  unfold m_cJT_isDigit_J0 at Heq
  refine lv_iload_n hx hb d_cJT_isDigit_0 rfl (lv_at hl 0 rfl) ?_
  refine lv_bipush (v := 48) hx hb d_cJT_isDigit_1 (by decide) ?_
  refine lv_icmp_lt (tgt := 16) hx hb d_cJT_isDigit_3 (by decide) (fun c_1 => ?_) (fun c_1 => ?_)
  · replace Heq := (if_pos c_1).symm.trans Heq
    exact w_cJT_isDigit_J16 hC Heq Kr _ _ _ hP hD hS (lv_sub hl [] rfl)
  · replace Heq := (if_neg c_1).symm.trans Heq
    refine lv_iload_n hx hb d_cJT_isDigit_6 rfl (lv_at hl 0 rfl) ?_
    refine lv_bipush (v := 57) hx hb d_cJT_isDigit_7 (by decide) ?_
    refine lv_icmp_gt (tgt := 16) hx hb d_cJT_isDigit_9 (by decide) (fun c_2 => ?_) (fun c_2 => ?_)
    · replace Heq := (if_pos c_2).symm.trans Heq
      exact w_cJT_isDigit_J16 hC Heq Kr _ _ _ hP hD hS (lv_sub hl [] rfl)
    · replace Heq := (if_neg c_2).symm.trans Heq
      refine lv_iconst (v := 1) hx hb d_cJT_isDigit_12 (by decide) ?_
      refine lv_goto (tgt := 17) hx hb d_cJT_isDigit_13 (by decide) ?_
      exact w_cJT_isDigit_J17 hC Heq Kr _ _ _ hP hD hS (lv_sub hl [] rfl)
def m_cJT_isDigit (N : Nat → Nat) (S : CS) (x0 : Int32) : Option (CS × Int32) := m_cJT_isDigit_J0 N S x0
set_option maxHeartbeats 4000000 in
theorem g_cJT_isDigit (l : Launch) (D : va_G) (sz : Nat) {ad : Nat → Nat → Nat} {cc : Nat → ClassId} {sad sav : Nat → Nat} {N : Nat → Nat} {S : CS} {x0 : Int32} {o : CS × Int32} (Heq : m_cJT_isDigit N S x0 = some o) : Met l ⟨"JoinedTrees", "isDigit", "(I)Z"⟩ (Cond.code ⟨"JoinedTrees", "isDigit", "(I)Z"⟩ prog_1_method_58_code 1 (some .boolean) :: gb) ({ frames := 0, cells := 0, slots := 0, locals := 0 }) (cPc sad sav D (cw ad cc N S) (cty cc) sz [.int x0]) (va_Qi (fun (r : Int32) (_ : Unit) => r = o.2) (fun _ t => gO D (cw ad cc N o.1) (cty cc) (va_A (cw ad cc N S) sz) t) (va_A (cw ad cc N S) sz)) 0 0 (va_A (cw ad cc N S) sz) := by
  refine Met.ofW (cc := prog_1_method_58_code) (maxL := 1) (ret := (some .boolean)) (by decide) rfl ?_
  intro p e s m args below meth c s₁ B hml hv
  obtain ⟨rfl, hsz, hP, hK, hD0, hev, hE, hN⟩ := hv
  have hx := B.exec
  have hb := B.bytes
  have hr := B.returns
  have hts : ∀ w9 ∈ gb, w9.before [.int x0].toArray s = true := fun w9 h => atoms_spec (ws := Cond.code ⟨"JoinedTrees", "isDigit", "(I)Z"⟩ prog_1_method_58_code 1 (some .boolean) :: gb) B.pre w9 (List.mem_cons_of_mem _ h)
  have hown : s.vm.findClass "JoinedTrees" = some m.cls := findClass_of_methodNamed B.named
  have hlocks := B.notSynchronized
  have hNS := ns_of hP
  subst hsz
  have hD := hD0.self (sz := s.heap.size)
  generalize hAe : va_A (cw ad cc N S) s.heap.size = A at hD hev hE hNS ⊢
  have hA : ∀ q : Nat, s.heap.size ≤ q → A q := fun q h => by rw [← hAe]; exact Or.inr h
  have hS : va_S A s.heap s.heap [] := va_S.rf
  obtain ⟨ls, hl, hle⟩ : ∃ ls : Array Slot, lv_has ls 1 [(0, .int x0)] ∧ entryFrame m ([.int x0] : List Value).toArray 1 = F0 m 0 ls [] := by
    exact ⟨_, lv_entry (n := 1) _ (Nat.le_of_ble_eq_true rfl), lg_entry_eq ..⟩
  rw [hle]
  refine w_cJT_isDigit_J0 ⟨hx, hb, hr, hml, hown, hts, hK, hA, hev, hE, hN, hNS⟩ Heq (fun r h pc H locs ls hd hz hP hD hS => ?_) _ _ _ hP hD hS (lv_sub hl [0] rfl)
  subst h
  exact W.zret (ty := .boolean) hx hb hr (by rcases hz with hz | hz <;> rw [hz] <;> rfl) (fun t ht hW => ⟨⟨_, (), rfl, rfl, by rw [ht]; exact hP, va_K.moved hW.alike hK, hD⟩, hS.F ht⟩) hS.2.2 hd
def m_cRd_readNumber_B89 (N : Nat → Nat) (x0 : Nat) (S : CS) (x1 : Option Nat) (x2 : Int32) (x3 : Int32) (x4 : Int64) (x6 : Int32) : Option ((CS × Option Nat × Int32 × Int32 × Int64 × Int32) ⊕ (CS × Option Nat × Int32 × Int64)) := (if x3 ≤ x6 then some (.inr (S, x1, x2, x4)) else gl x0 (N 1) (gn (S.r 1 2 x0) (N 5) (fun j_2 => ob (m_cRw_at N j_2 S (S.i 1 4 x0)) (fun o_5 => ob (m_cJT_isDigit N o_5.1 o_5.2) (fun o_7 => (if o_7.2 = 0 then some (.inr (o_7.1, x1, x2, x4)) else gn (o_7.1.r 1 2 x0) (N 5) (fun j_10 => ob (m_cRw_at N j_10 o_7.1 (o_7.1.i 1 4 x0)) (fun o_13 => some (.inl ((o_13.1.setI 1 4 x0 ((o_13.1.i 1 4 x0) + 1)), x1, x2, x3, (((10 * x4) + o_13.2.toInt64) - 48), (x6 + 1)))))))))))
theorem d_cRd_readNumber_0 : decode prog_3_method_15_code 0 = .ok (.aload_n 1, 1) := by decide +kernel
theorem d_cRd_readNumber_1 : decode prog_3_method_15_code 1 = .ok (.iconst 3, 1) := by decide +kernel
theorem d_cRd_readNumber_2 : decode prog_3_method_15_code 2 = .ok (.putfield 77, 3) := by decide +kernel
theorem d_cRd_readNumber_5 : decode prog_3_method_15_code 5 = .ok (.aload_n 0, 1) := by decide +kernel
theorem d_cRd_readNumber_6 : decode prog_3_method_15_code 6 = .ok (.getfield 27, 3) := by decide +kernel
theorem d_cRd_readNumber_9 : decode prog_3_method_15_code 9 = .ok (.aload_n 0, 1) := by decide +kernel
theorem d_cRd_readNumber_10 : decode prog_3_method_15_code 10 = .ok (.getfield 34, 3) := by decide +kernel
theorem d_cRd_readNumber_13 : decode prog_3_method_15_code 13 = .ok (.invokevirtual 70, 3) := by decide +kernel
theorem d_cRd_readNumber_16 : decode prog_3_method_15_code 16 = .ok (.bipush 45, 2) := by decide +kernel
theorem d_cRd_readNumber_18 : decode prog_3_method_15_code 18 = .ok (.if_icmp .ne 7, 3) := by decide +kernel
theorem d_cRd_readNumber_25 : decode prog_3_method_15_code 25 = .ok (.iconst 0, 1) := by decide +kernel
theorem d_cRd_readNumber_26 : decode prog_3_method_15_code 26 = .ok (.istore_n 2, 1) := by decide +kernel
theorem d_cRd_readNumber_27 : decode prog_3_method_15_code 27 = .ok (.iload_n 2, 1) := by decide +kernel
theorem d_cRd_readNumber_28 : decode prog_3_method_15_code 28 = .ok (.ifCond .eq 13, 3) := by decide +kernel
theorem d_cRd_readNumber_41 : decode prog_3_method_15_code 41 = .ok (.aload_n 0, 1) := by decide +kernel
theorem d_cRd_readNumber_42 : decode prog_3_method_15_code 42 = .ok (.getfield 27, 3) := by decide +kernel
theorem d_cRd_readNumber_45 : decode prog_3_method_15_code 45 = .ok (.aload_n 0, 1) := by decide +kernel
theorem d_cRd_readNumber_46 : decode prog_3_method_15_code 46 = .ok (.getfield 34, 3) := by decide +kernel
theorem d_cRd_readNumber_49 : decode prog_3_method_15_code 49 = .ok (.invokevirtual 70, 3) := by decide +kernel
theorem d_cRd_readNumber_52 : decode prog_3_method_15_code 52 = .ok (.invokestatic 148, 3) := by decide +kernel
theorem d_cRd_readNumber_55 : decode prog_3_method_15_code 55 = .ok (.ifCond .ne 5, 3) := by decide +kernel
theorem d_cRd_readNumber_60 : decode prog_3_method_15_code 60 = .ok (.aload_n 0, 1) := by decide +kernel
theorem d_cRd_readNumber_61 : decode prog_3_method_15_code 61 = .ok (.getfield 27, 3) := by decide +kernel
theorem d_cRd_readNumber_64 : decode prog_3_method_15_code 64 = .ok (.aload_n 0, 1) := by decide +kernel
theorem d_cRd_readNumber_65 : decode prog_3_method_15_code 65 = .ok (.getfield 34, 3) := by decide +kernel
theorem d_cRd_readNumber_68 : decode prog_3_method_15_code 68 = .ok (.invokevirtual 70, 3) := by decide +kernel
theorem d_cRd_readNumber_71 : decode prog_3_method_15_code 71 = .ok (.bipush 48, 2) := by decide +kernel
theorem d_cRd_readNumber_73 : decode prog_3_method_15_code 73 = .ok (.if_icmp .ne 7, 3) := by decide +kernel
theorem d_cRd_readNumber_80 : decode prog_3_method_15_code 80 = .ok (.bipush 18, 2) := by decide +kernel
theorem d_cRd_readNumber_82 : decode prog_3_method_15_code 82 = .ok (.istore_n 3, 1) := by decide +kernel
theorem d_cRd_readNumber_83 : decode prog_3_method_15_code 83 = .ok (.lconst 0, 1) := by decide +kernel
theorem d_cRd_readNumber_84 : decode prog_3_method_15_code 84 = .ok (.lstore 4, 2) := by decide +kernel
theorem d_cRd_readNumber_86 : decode prog_3_method_15_code 86 = .ok (.iconst 0, 1) := by decide +kernel
theorem d_cRd_readNumber_87 : decode prog_3_method_15_code 87 = .ok (.istore 6, 2) := by decide +kernel
theorem d_cRd_readNumber_89 : decode prog_3_method_15_code 89 = .ok (.iload 6, 2) := by decide +kernel
theorem d_cRd_readNumber_91 : decode prog_3_method_15_code 91 = .ok (.iload_n 3, 1) := by decide +kernel
theorem d_cRd_readNumber_92 : decode prog_3_method_15_code 92 = .ok (.if_icmp .ge 61, 3) := by decide +kernel
theorem d_cRd_readNumber_95 : decode prog_3_method_15_code 95 = .ok (.aload_n 0, 1) := by decide +kernel
theorem d_cRd_readNumber_96 : decode prog_3_method_15_code 96 = .ok (.getfield 27, 3) := by decide +kernel
theorem d_cRd_readNumber_99 : decode prog_3_method_15_code 99 = .ok (.aload_n 0, 1) := by decide +kernel
theorem d_cRd_readNumber_100 : decode prog_3_method_15_code 100 = .ok (.getfield 34, 3) := by decide +kernel
theorem d_cRd_readNumber_103 : decode prog_3_method_15_code 103 = .ok (.invokevirtual 70, 3) := by decide +kernel
theorem d_cRd_readNumber_106 : decode prog_3_method_15_code 106 = .ok (.invokestatic 148, 3) := by decide +kernel
theorem d_cRd_readNumber_109 : decode prog_3_method_15_code 109 = .ok (.ifCond .eq 44, 3) := by decide +kernel
theorem d_cRd_readNumber_112 : decode prog_3_method_15_code 112 = .ok (.ldc2_w 151, 3) := by decide +kernel
theorem d_cRd_readNumber_115 : decode prog_3_method_15_code 115 = .ok (.lload 4, 2) := by decide +kernel
theorem d_cRd_readNumber_117 : decode prog_3_method_15_code 117 = .ok (.lmul, 1) := by decide +kernel
theorem d_cRd_readNumber_118 : decode prog_3_method_15_code 118 = .ok (.aload_n 0, 1) := by decide +kernel
theorem d_cRd_readNumber_119 : decode prog_3_method_15_code 119 = .ok (.getfield 27, 3) := by decide +kernel
theorem d_cRd_readNumber_122 : decode prog_3_method_15_code 122 = .ok (.aload_n 0, 1) := by decide +kernel
theorem d_cRd_readNumber_123 : decode prog_3_method_15_code 123 = .ok (.getfield 34, 3) := by decide +kernel
theorem d_cRd_readNumber_126 : decode prog_3_method_15_code 126 = .ok (.invokevirtual 70, 3) := by decide +kernel
theorem d_cRd_readNumber_129 : decode prog_3_method_15_code 129 = .ok (.i2l, 1) := by decide +kernel
theorem d_cRd_readNumber_130 : decode prog_3_method_15_code 130 = .ok (.ladd, 1) := by decide +kernel
theorem d_cRd_readNumber_131 : decode prog_3_method_15_code 131 = .ok (.ldc2_w 153, 3) := by decide +kernel
theorem d_cRd_readNumber_134 : decode prog_3_method_15_code 134 = .ok (.lsub, 1) := by decide +kernel
theorem d_cRd_readNumber_135 : decode prog_3_method_15_code 135 = .ok (.lstore 4, 2) := by decide +kernel
theorem d_cRd_readNumber_137 : decode prog_3_method_15_code 137 = .ok (.aload_n 0, 1) := by decide +kernel
theorem d_cRd_readNumber_138 : decode prog_3_method_15_code 138 = .ok (.dup, 1) := by decide +kernel
theorem d_cRd_readNumber_139 : decode prog_3_method_15_code 139 = .ok (.getfield 34, 3) := by decide +kernel
theorem d_cRd_readNumber_142 : decode prog_3_method_15_code 142 = .ok (.iconst 1, 1) := by decide +kernel
theorem d_cRd_readNumber_143 : decode prog_3_method_15_code 143 = .ok (.iadd, 1) := by decide +kernel
theorem d_cRd_readNumber_144 : decode prog_3_method_15_code 144 = .ok (.putfield 34, 3) := by decide +kernel
theorem d_cRd_readNumber_147 : decode prog_3_method_15_code 147 = .ok (.iinc 6 1, 3) := by decide +kernel
theorem d_cRd_readNumber_150 : decode prog_3_method_15_code 150 = .ok (.goto (-61), 3) := by decide +kernel
set_option maxHeartbeats 4000000 in
set_option maxRecDepth 100000 in
theorem w_cRd_readNumber_B89 {p : Program} {l : Launch} {e : Env} {s : State} {m : MethodId} {args : Array Value} {below : List Frame} {meth : Method} {c : Code} {A : Nat → Prop} {D : va_G} {ad : Nat → Nat → Nat} {cc : Nat → ClassId} {sad sav : Nat → Nat} {Q : State → Prop} (hC : MCc sad sav "JoinedTrees$JsonReader" prog_3_method_15_code 7 (some .boolean) p s m args meth c A D cc) {N : Nat → Nat} {x0 : Nat} {S : CS} {x1 : Option Nat} {x2 : Int32} {x3 : Int32} {x4 : Int64} {x6 : Int32} {o : ((CS × Option Nat × Int32 × Int32 × Int64 × Int32) ⊕ (CS × Option Nat × Int32 × Int64))} (Heq : m_cRd_readNumber_B89 N x0 S x1 x2 x3 x4 x6 = some o) (Ka : ∀ b : CS × Option Nat × Int32 × Int32 × Int64 × Int32, o = .inl b → ∀ (H : Heap) (locs : List Loc) (ls : Array Slot), va_P D cls (cw ad cc N b.1) H → va_D A (cw ad cc N b.1) → va_S A s.heap H locs → lv_has ls 7 [(0, .ref (ad 1 x0)), (1, rv ad 9 b.2.1), (2, .int b.2.2.1), (3, .int b.2.2.2.1), (4, .long b.2.2.2.2.1), (6, .int b.2.2.2.2.2)] → W p l e ({ frames := 1, cells := 0, slots := 0, locals := 21 }) s m args below meth c H locs 0 0 Q (F0 m 89 ls [])) (K0 : ∀ b : CS × Option Nat × Int32 × Int64, o = .inr b → ∀ (H : Heap) (locs : List Loc) (ls : Array Slot), va_P D cls (cw ad cc N b.1) H → va_D A (cw ad cc N b.1) → va_S A s.heap H locs → lv_has ls 7 [(0, .ref (ad 1 x0)), (1, rv ad 9 b.2.1), (2, .int b.2.2.1), (4, .long b.2.2.2)] → W p l e ({ frames := 1, cells := 0, slots := 0, locals := 21 }) s m args below meth c H locs 0 0 Q (F0 m 153 ls [])) : ∀ (H : Heap) (locs : List Loc) (ls : Array Slot), va_P D cls (cw ad cc N S) H → va_D A (cw ad cc N S) → va_S A s.heap H locs → lv_has ls 7 [(0, .ref (ad 1 x0)), (1, rv ad 9 x1), (2, .int x2), (3, .int x3), (4, .long x4), (6, .int x6)] → W p l e ({ frames := 1, cells := 0, slots := 0, locals := 21 }) s m args below meth c H locs 0 0 Q (F0 m 89 ls []) := by
  intro H locs ls hP hD hS hl
  obtain ⟨hx, hb, hr, hml, hown, hts, hK, hA, hev, hE, hN, hNS⟩ := id hC
  unfold m_cRd_readNumber_B89 at Heq
  refine lv_iload hx hb d_cRd_readNumber_89 (lv_at hl 5 rfl) ?_
  refine lv_iload_n hx hb d_cRd_readNumber_91 rfl (lv_at hl 3 rfl) ?_
  refine lv_icmp_ge (tgt := 153) hx hb d_cRd_readNumber_92 (by decide) (fun c_1 => ?_) (fun c_1 => ?_)
  · replace Heq := (if_pos c_1).symm.trans Heq
    exact K0 _ (Option.some.inj Heq).symm _ _ _ hP hD hS (lv_sub hl [0, 1, 2, 4] rfl)
  · replace Heq := (if_neg c_1).symm.trans Heq
    refine lv_aload_n hx hb d_cRd_readNumber_95 rfl (lv_at hl 0 rfl) ?_
    obtain ⟨hl_x0_1, Heq⟩ := gl_some Heq
    refine va_get (D := D) (ci := 1) (v := rv ad 5 (S.r 1 2 x0)) (C := R_Rd) (T := F_Rd) (N := 10) hx hb hts i_Rd hown hK hP (cPos N 1 x0) (cw_obj (k := 1) (by decide) hl_x0_1) rfl 2 (by decide) (hts _ kw_346) (fun _ h9 => h9) rfl d_cRd_readNumber_96 ?_
    refine lv_aload_n hx hb d_cRd_readNumber_99 rfl (lv_at hl 0 rfl) ?_
    refine va_get (D := D) (ci := 1) (v := .int (S.i 1 4 x0)) (C := R_Rd) (T := F_Rd) (N := 10) hx hb hts i_Rd hown hK hP (cPos N 1 x0) (cw_obj (k := 1) (by decide) hl_x0_1) rfl 4 (by decide) (hts _ kw_349) (fun _ h9 => h9) rfl d_cRd_readNumber_100 ?_
    obtain ⟨j_2, hj_3, hl_4, Heq⟩ := gn_some Heq
    refine w_s (st' := [.int (S.i 1 4 x0), .ref (ad 5 j_2)]) (congrArg (fun z9 : Option Nat => [.int (S.i 1 4 x0), rv ad 5 z9]) hj_3) ?_
    obtain ⟨o_5, h_6, Heq⟩ := ob_some Heq
    have hFc := fr_all hD hS hA
    refine va_calli (va_runV (As := [.int (S.i 1 4 x0)]) (rest := []) ⟨hx, hb, hml, hown, hts⟩ (g_cRw_at l D H.size (ad := ad) (cc := cc) (sad := sad) (sav := sav) h_6) (cw_v 1 hts kw_689 kw_871 kw_687 kw_688 kw_4 rfl rfl (by decide +kernel) ⟨Nat.le_of_ble_eq_true rfl, Nat.le_of_ble_eq_true rfl⟩) ⟨c_blind, va_recv hK hP (ci := 5) (q0 := cPos N 5 j_2) rfl (cw_obj (k := 5) (by decide) hl_4), fun U hU hW => c_pre hU hW hP hK hD hev hE hN hNS hS hFc⟩ rfl rfl hl.1 rfl (lv_room (Nat.le_of_ble_eq_true rfl)) d_cRd_readNumber_103 ⟨Nat.le_of_ble_eq_true rfl, Nat.le_of_ble_eq_true rfl⟩) hS (fun q _ h => hFc q h) hFc (fun rz u t H1 locs ht hvm hw hB hz1 hk1 hS => ?_)
    obtain ⟨hP, -, hD1⟩ := hB
    rw [ht] at hP
    have hD := hD1.weaken (fun _ q _ h => hFc q.1 h)
    generalize H1 = H at hP hS ⊢
    refine W.cs (cells' := 0) (slots' := 0) rfl rfl ?_
    subst hw
    obtain ⟨o_7, h_8, Heq⟩ := ob_some Heq
    have hFc := fr_all hD hS hA
    refine va_calli (va_runSN (As := [.int o_5.2]) (rest := []) ⟨hx, hb, hml, hown, hts⟩ (g_cJT_isDigit l D H.size (ad := ad) (cc := cc) (sad := sad) (sav := sav) h_8) ⟨cw_n 1 hts kw_964 hN kw_1 rfl rfl (by decide +kernel) ⟨Nat.le_of_ble_eq_true rfl, Nat.le_of_ble_eq_true rfl⟩, hts _ kw_963⟩ ⟨c_blind, fun U hU hW => c_pre hU hW hP hK hD hev hE hN hNS hS hFc⟩ rfl rfl hl.1 rfl (lv_room (Nat.le_of_ble_eq_true rfl)) d_cRd_readNumber_106 ⟨Nat.le_of_ble_eq_true rfl, Nat.le_of_ble_eq_true rfl⟩) hS (fun q _ h => hFc q h) hFc (fun rz u t H1 locs ht hvm hw hB hz1 hk1 hS => ?_)
    obtain ⟨hP, -, hD1⟩ := hB
    rw [ht] at hP
    have hD := hD1.weaken (fun _ q _ h => hFc q.1 h)
    generalize H1 = H at hP hS ⊢
    refine W.cs (cells' := 0) (slots' := 0) rfl rfl ?_
    subst hw
    refine lv_if_eq (tgt := 153) hx hb d_cRd_readNumber_109 (by decide) (fun c_9 => ?_) (fun c_9 => ?_)
    · replace Heq := (if_pos c_9).symm.trans Heq
      exact K0 _ (Option.some.inj Heq).symm _ _ _ hP hD hS (lv_sub hl [0, 1, 2, 4] rfl)
    · replace Heq := (if_neg c_9).symm.trans Heq
      refine lv_ldc2 (v := 10) hx hb hown (hts _ kw_965) d_cRd_readNumber_112 ?_
      refine lv_lload hx hb d_cRd_readNumber_115 (lv_at hl 4 rfl) ?_
      refine lv_lmul hx hb d_cRd_readNumber_117 ?_
      refine w_l (y := 10 * x4) rfl ?_
      refine lv_aload_n hx hb d_cRd_readNumber_118 rfl (lv_at hl 0 rfl) ?_
      refine va_get (D := D) (ci := 1) (v := rv ad 5 (o_7.1.r 1 2 x0)) (C := R_Rd) (T := F_Rd) (N := 10) hx hb hts i_Rd hown hK hP (cPos N 1 x0) (cw_obj (k := 1) (by decide) hl_x0_1) rfl 2 (by decide) (hts _ kw_346) (fun _ h9 => h9) rfl d_cRd_readNumber_119 ?_
      refine lv_aload_n hx hb d_cRd_readNumber_122 rfl (lv_at hl 0 rfl) ?_
      refine va_get (D := D) (ci := 1) (v := .int (o_7.1.i 1 4 x0)) (C := R_Rd) (T := F_Rd) (N := 10) hx hb hts i_Rd hown hK hP (cPos N 1 x0) (cw_obj (k := 1) (by decide) hl_x0_1) rfl 4 (by decide) (hts _ kw_349) (fun _ h9 => h9) rfl d_cRd_readNumber_123 ?_
      obtain ⟨j_10, hj_11, hl_12, Heq⟩ := gn_some Heq
      refine w_s (st' := [.int (o_7.1.i 1 4 x0), .ref (ad 5 j_10), .long (10 * x4)]) (congrArg (fun z9 : Option Nat => [.int (o_7.1.i 1 4 x0), rv ad 5 z9, .long (10 * x4)]) hj_11) ?_
      obtain ⟨o_13, h_14, Heq⟩ := ob_some Heq
      have hFc := fr_all hD hS hA
      refine va_calli (va_runV (As := [.int (o_7.1.i 1 4 x0)]) (rest := [.long (10 * x4)]) ⟨hx, hb, hml, hown, hts⟩ (g_cRw_at l D H.size (ad := ad) (cc := cc) (sad := sad) (sav := sav) h_14) (cw_v 1 hts kw_689 kw_871 kw_687 kw_688 kw_4 rfl rfl (by decide +kernel) ⟨Nat.le_of_ble_eq_true rfl, Nat.le_of_ble_eq_true rfl⟩) ⟨c_blind, va_recv hK hP (ci := 5) (q0 := cPos N 5 j_10) rfl (cw_obj (k := 5) (by decide) hl_12), fun U hU hW => c_pre hU hW hP hK hD hev hE hN hNS hS hFc⟩ rfl rfl hl.1 rfl (lv_room (Nat.le_of_ble_eq_true rfl)) d_cRd_readNumber_126 ⟨Nat.le_of_ble_eq_true rfl, Nat.le_of_ble_eq_true rfl⟩) hS (fun q _ h => hFc q h) hFc (fun rz u t H1 locs ht hvm hw hB hz1 hk1 hS => ?_)
      obtain ⟨hP, -, hD1⟩ := hB
      rw [ht] at hP
      have hD := hD1.weaken (fun _ q _ h => hFc q.1 h)
      generalize H1 = H at hP hS ⊢
      refine W.cs (cells' := 0) (slots' := 0) rfl rfl ?_
      subst hw
      refine lv_i2l hx hb d_cRd_readNumber_129 rfl ?_
      refine w_l (y := o_13.2.toInt64) rfl ?_
      refine lv_ladd hx hb d_cRd_readNumber_130 ?_
      refine w_l (y := (10 * x4) + o_13.2.toInt64) rfl ?_
      refine lv_ldc2 (v := 48) hx hb hown (hts _ kw_966) d_cRd_readNumber_131 ?_
      refine lv_lsub hx hb d_cRd_readNumber_134 ?_
      refine w_l (y := ((10 * x4) + o_13.2.toInt64) - 48) rfl ?_
      refine lv_lstore (lv' := [(4, .long (((10 * x4) + o_13.2.toInt64) - 48)), (0, .ref (ad 1 x0)), (1, rv ad 9 x1), (2, .int x2), (3, .int x3), (6, .int x6)]) hx hb d_cRd_readNumber_135 hl (by decide) rfl (fun ls hl => ?_)
      refine lv_aload_n hx hb d_cRd_readNumber_137 rfl (lv_at hl 1 rfl) ?_
      refine lv_dup hx hb d_cRd_readNumber_138 rfl ?_
      refine va_get (D := D) (ci := 1) (v := .int (o_13.1.i 1 4 x0)) (C := R_Rd) (T := F_Rd) (N := 10) hx hb hts i_Rd hown hK hP (cPos N 1 x0) (cw_obj (k := 1) (by decide) hl_x0_1) rfl 4 (by decide) (hts _ kw_349) (fun _ h9 => h9) rfl d_cRd_readNumber_139 ?_
      refine lv_iconst (v := 1) hx hb d_cRd_readNumber_142 (by decide) ?_
      refine lv_iadd hx hb d_cRd_readNumber_143 ?_
      refine w_i (y := (o_13.1.i 1 4 x0) + 1) rfl ?_
      refine va_put (D := D) (ci := 1) (v := .int ((o_13.1.i 1 4 x0) + 1)) (ty := .int) (C := R_Rd) (T := F_Rd) (N := 10) hx hb hts i_Rd t_Rd t_Rd_ok n_Rd hown hK hP hD hS (cPos N 1 x0) (cw_obj (k := 1) (by decide) hl_x0_1) rfl 4 (by decide) (hts _ kw_349) (fun _ h9 => h9) rfl (by decide +kernel) rfl rfl (Nat.le_of_ble_eq_true rfl) d_cRd_readNumber_144 (fun H locs hP hD hS => ?_)
      have hD := (congrArg (fun w9 => va_D A w9) (cw_setI (ad := ad) (cc := cc) (S := o_13.1) (k := 1) (f := 4) (v := (o_13.1.i 1 4 x0) + 1) (by decide) rfl hl_x0_1)).mp hD
      have hP := (congrArg (fun w9 => va_P D cls w9 H) (cw_setI (ad := ad) (cc := cc) (S := o_13.1) (k := 1) (f := 4) (v := (o_13.1.i 1 4 x0) + 1) (by decide) rfl hl_x0_1)).mp hP
      refine lv_iinc (v := x6 + 1) (lv' := [(6, .int (x6 + 1)), (4, .long (((10 * x4) + o_13.2.toInt64) - 48)), (0, .ref (ad 1 x0)), (1, rv ad 9 x1), (2, .int x2), (3, .int x3)]) hx hb d_cRd_readNumber_147 hl (k := 5) rfl rfl (by decide) rfl (fun ls hl => ?_)
      refine lv_goto (tgt := 89) hx hb d_cRd_readNumber_150 (by decide) ?_
      exact Ka _ (Option.some.inj Heq).symm _ _ _ hP hD hS (lv_sub hl [2, 3, 4, 5, 1, 0] rfl)
def m_cRd_readNumber_L89 (N : Nat → Nat) (x0 : Nat) (S : CS) (x1 : Option Nat) (x2 : Int32) (x3 : Int32) (x4 : Int64) (x6 : Int32) : Option (CS × Option Nat × Int32 × Int64) := lp (fun a : CS × Option Nat × Int32 × Int32 × Int64 × Int32 => m_cRd_readNumber_B89 N x0 a.1 a.2.1 a.2.2.1 a.2.2.2.1 a.2.2.2.2.1 a.2.2.2.2.2) FU (S, x1, x2, x3, x4, x6)
theorem w_cRd_readNumber_L89 {p : Program} {l : Launch} {e : Env} {s : State} {m : MethodId} {args : Array Value} {below : List Frame} {meth : Method} {c : Code} {A : Nat → Prop} {D : va_G} {ad : Nat → Nat → Nat} {cc : Nat → ClassId} {sad sav : Nat → Nat} {Q : State → Prop} (hC : MCc sad sav "JoinedTrees$JsonReader" prog_3_method_15_code 7 (some .boolean) p s m args meth c A D cc) {N : Nat → Nat} {x0 : Nat} {S : CS} {x1 : Option Nat} {x2 : Int32} {x3 : Int32} {x4 : Int64} {x6 : Int32} {o : CS × Option Nat × Int32 × Int64} (Heq : m_cRd_readNumber_L89 N x0 S x1 x2 x3 x4 x6 = some o) (K0 : ∀ b : CS × Option Nat × Int32 × Int64, o = b → ∀ (H : Heap) (locs : List Loc) (ls : Array Slot), va_P D cls (cw ad cc N b.1) H → va_D A (cw ad cc N b.1) → va_S A s.heap H locs → lv_has ls 7 [(0, .ref (ad 1 x0)), (1, rv ad 9 b.2.1), (2, .int b.2.2.1), (4, .long b.2.2.2)] → W p l e ({ frames := 1, cells := 0, slots := 0, locals := 21 }) s m args below meth c H locs 0 0 Q (F0 m 153 ls [])) : ∀ (H : Heap) (locs : List Loc) (ls : Array Slot), va_P D cls (cw ad cc N S) H → va_D A (cw ad cc N S) → va_S A s.heap H locs → lv_has ls 7 [(0, .ref (ad 1 x0)), (1, rv ad 9 x1), (2, .int x2), (3, .int x3), (4, .long x4), (6, .int x6)] → W p l e ({ frames := 1, cells := 0, slots := 0, locals := 21 }) s m args below meth c H locs 0 0 Q (F0 m 89 ls []) := by
  refine lp_w (G := fun a : CS × Option Nat × Int32 × Int32 × Int64 × Int32 => ∀ (H : Heap) (locs : List Loc) (ls : Array Slot), va_P D cls (cw ad cc N a.1) H → va_D A (cw ad cc N a.1) → va_S A s.heap H locs → lv_has ls 7 [(0, .ref (ad 1 x0)), (1, rv ad 9 a.2.1), (2, .int a.2.2.1), (3, .int a.2.2.2.1), (4, .long a.2.2.2.2.1), (6, .int a.2.2.2.2.2)] → W p l e ({ frames := 1, cells := 0, slots := 0, locals := 21 }) s m args below meth c H locs 0 0 Q (F0 m 89 ls [])) ?_ FU (S, x1, x2, x3, x4, x6) Heq
  intro a o1 ho Ka Ke
  exact w_cRd_readNumber_B89 hC ho (fun b h => Ka b h) (fun b h => K0 b (Ke _ h).symm)
def m_cRd_readNumber_J166 (N : Nat → Nat) (x0 : Nat) (S : CS) (t0 : Int64) (t1 : Option Nat) : Option (CS × Int32) := gn t1 (N 9) (fun j_1 => some ((S.setL 9 1 j_1 t0), 1))
theorem d_cRd_readNumber_153 : decode prog_3_method_15_code 153 = .ok (.aload_n 1, 1) := by decide +kernel
theorem d_cRd_readNumber_154 : decode prog_3_method_15_code 154 = .ok (.iload_n 2, 1) := by decide +kernel
theorem d_cRd_readNumber_155 : decode prog_3_method_15_code 155 = .ok (.ifCond .eq 9, 3) := by decide +kernel
theorem d_cRd_readNumber_164 : decode prog_3_method_15_code 164 = .ok (.lload 4, 2) := by decide +kernel
theorem d_cRd_readNumber_166 : decode prog_3_method_15_code 166 = .ok (.putfield 155, 3) := by decide +kernel
theorem d_cRd_readNumber_169 : decode prog_3_method_15_code 169 = .ok (.iconst 1, 1) := by decide +kernel
theorem d_cRd_readNumber_170 : decode prog_3_method_15_code 170 = .ok (.ireturn, 1) := by decide +kernel
set_option maxHeartbeats 4000000 in
set_option maxRecDepth 100000 in
theorem w_cRd_readNumber_J166 {p : Program} {l : Launch} {e : Env} {s : State} {m : MethodId} {args : Array Value} {below : List Frame} {meth : Method} {c : Code} {A : Nat → Prop} {D : va_G} {ad : Nat → Nat → Nat} {cc : Nat → ClassId} {sad sav : Nat → Nat} {Q : State → Prop} (hC : MCc sad sav "JoinedTrees$JsonReader" prog_3_method_15_code 7 (some .boolean) p s m args meth c A D cc) {N : Nat → Nat} {x0 : Nat} {S : CS} {t0 : Int64} {t1 : Option Nat} {o : CS × Int32} (Heq : m_cRd_readNumber_J166 N x0 S t0 t1 = some o) (Kr : ∀ r : CS × Int32, o = r → ∀ (pc : Nat) (H : Heap) (locs : List Loc) (ls : Array Slot), decode prog_3_method_15_code pc = .ok (.ireturn, 1) → (r.2 = 0 ∨ r.2 = 1) → va_P D cls (cw ad cc N r.1) H → va_D A (cw ad cc N r.1) → va_S A s.heap H locs → W p l e ({ frames := 1, cells := 0, slots := 0, locals := 21 }) s m args below meth c H locs 0 0 Q (F0 m pc ls [.int r.2])) : ∀ (H : Heap) (locs : List Loc) (ls : Array Slot), va_P D cls (cw ad cc N S) H → va_D A (cw ad cc N S) → va_S A s.heap H locs → lv_has ls 7 [(0, .ref (ad 1 x0))] → W p l e ({ frames := 1, cells := 0, slots := 0, locals := 21 }) s m args below meth c H locs 0 0 Q (F0 m 166 ls [.long t0, rv ad 9 t1]) := by
  intro H locs ls hP hD hS hl
  obtain ⟨hx, hb, hr, hml, hown, hts, hK, hA, hev, hE, hN, hNS⟩ := id hC
  unfold m_cRd_readNumber_J166 at Heq
  obtain ⟨j_1, hj_2, hl_3, Heq⟩ := gn_some Heq
  refine w_s (st' := [.long t0, .ref (ad 9 j_1)]) (congrArg (fun z9 : Option Nat => [.long t0, rv ad 9 z9]) hj_2) ?_
  refine va_put (D := D) (ci := 9) (v := .long t0) (ty := .long) (C := R_Va) (T := F_Va) (N := 10) hx hb hts i_Va t_Va t_Va_ok n_Va hown hK hP hD hS (cPos N 9 j_1) (cw_obj (k := 9) (by decide) hl_3) rfl 1 (by decide) (hts _ kw_298) (fun _ h9 => h9) rfl (by decide +kernel) rfl rfl (Nat.le_of_ble_eq_true rfl) d_cRd_readNumber_166 (fun H locs hP hD hS => ?_)
  have hD := (congrArg (fun w9 => va_D A w9) (cw_setL (ad := ad) (cc := cc) (S := S) (k := 9) (f := 1) (v := t0) (by decide) rfl hl_3)).mp hD
  have hP := (congrArg (fun w9 => va_P D cls w9 H) (cw_setL (ad := ad) (cc := cc) (S := S) (k := 9) (f := 1) (v := t0) (by decide) rfl hl_3)).mp hP
  refine lv_iconst (v := 1) hx hb d_cRd_readNumber_169 (by decide) ?_
  exact Kr _ (Option.some.inj Heq).symm 170 _ _ _ d_cRd_readNumber_170 (Or.inr rfl) hP hD hS
def m_cRd_readNumber_J153 (N : Nat → Nat) (x0 : Nat) (S : CS) (x1 : Option Nat) (x2 : Int32) (x4 : Int64) : Option (CS × Int32) := (if x2 = 0 then m_cRd_readNumber_J166 N x0 S x4 x1 else m_cRd_readNumber_J166 N x0 S (-x4) x1)
theorem d_cRd_readNumber_158 : decode prog_3_method_15_code 158 = .ok (.lload 4, 2) := by decide +kernel
theorem d_cRd_readNumber_160 : decode prog_3_method_15_code 160 = .ok (.lneg, 1) := by decide +kernel
theorem d_cRd_readNumber_161 : decode prog_3_method_15_code 161 = .ok (.goto 5, 3) := by decide +kernel
set_option maxHeartbeats 4000000 in
set_option maxRecDepth 100000 in
theorem w_cRd_readNumber_J153 {p : Program} {l : Launch} {e : Env} {s : State} {m : MethodId} {args : Array Value} {below : List Frame} {meth : Method} {c : Code} {A : Nat → Prop} {D : va_G} {ad : Nat → Nat → Nat} {cc : Nat → ClassId} {sad sav : Nat → Nat} {Q : State → Prop} (hC : MCc sad sav "JoinedTrees$JsonReader" prog_3_method_15_code 7 (some .boolean) p s m args meth c A D cc) {N : Nat → Nat} {x0 : Nat} {S : CS} {x1 : Option Nat} {x2 : Int32} {x4 : Int64} {o : CS × Int32} (Heq : m_cRd_readNumber_J153 N x0 S x1 x2 x4 = some o) (Kr : ∀ r : CS × Int32, o = r → ∀ (pc : Nat) (H : Heap) (locs : List Loc) (ls : Array Slot), decode prog_3_method_15_code pc = .ok (.ireturn, 1) → (r.2 = 0 ∨ r.2 = 1) → va_P D cls (cw ad cc N r.1) H → va_D A (cw ad cc N r.1) → va_S A s.heap H locs → W p l e ({ frames := 1, cells := 0, slots := 0, locals := 21 }) s m args below meth c H locs 0 0 Q (F0 m pc ls [.int r.2])) : ∀ (H : Heap) (locs : List Loc) (ls : Array Slot), va_P D cls (cw ad cc N S) H → va_D A (cw ad cc N S) → va_S A s.heap H locs → lv_has ls 7 [(0, .ref (ad 1 x0)), (1, rv ad 9 x1), (2, .int x2), (4, .long x4)] → W p l e ({ frames := 1, cells := 0, slots := 0, locals := 21 }) s m args below meth c H locs 0 0 Q (F0 m 153 ls []) := by
  intro H locs ls hP hD hS hl
  obtain ⟨hx, hb, hr, hml, hown, hts, hK, hA, hev, hE, hN, hNS⟩ := id hC
  unfold m_cRd_readNumber_J153 at Heq
  refine tx_aload_n (x := x1.map (ad 9)) hx hb d_cRd_readNumber_153 rfl (lv_at hl 1 rfl) ?_
  refine w_v (y := rv ad 9 x1) rfl ?_
  refine lv_iload_n hx hb d_cRd_readNumber_154 rfl (lv_at hl 2 rfl) ?_
  refine lv_if_eq (tgt := 164) hx hb d_cRd_readNumber_155 (by decide) (fun c_1 => ?_) (fun c_1 => ?_)
  · replace Heq := (if_pos c_1).symm.trans Heq
    refine lv_lload hx hb d_cRd_readNumber_164 (lv_at hl 3 rfl) ?_
    exact w_cRd_readNumber_J166 hC Heq Kr _ _ _ hP hD hS (lv_sub hl [0] rfl)
  · replace Heq := (if_neg c_1).symm.trans Heq
    refine lv_lload hx hb d_cRd_readNumber_158 (lv_at hl 3 rfl) ?_
    refine lv_lneg hx hb d_cRd_readNumber_160 ?_
    refine w_l (y := -x4) rfl ?_
    refine lv_goto (tgt := 166) hx hb d_cRd_readNumber_161 (by decide) ?_
    exact w_cRd_readNumber_J166 hC Heq Kr _ _ _ hP hD hS (lv_sub hl [0] rfl)
def m_cRd_readNumber_J82 (N : Nat → Nat) (x0 : Nat) (S : CS) (x1 : Option Nat) (x2 : Int32) (t0 : Int32) : Option (CS × Int32) := ob (m_cRd_readNumber_L89 N x0 S x1 x2 t0 0 0) (fun b_1 => m_cRd_readNumber_J153 N x0 b_1.1 b_1.2.1 b_1.2.2.1 b_1.2.2.2)
set_option maxHeartbeats 4000000 in
set_option maxRecDepth 100000 in
theorem w_cRd_readNumber_J82 {p : Program} {l : Launch} {e : Env} {s : State} {m : MethodId} {args : Array Value} {below : List Frame} {meth : Method} {c : Code} {A : Nat → Prop} {D : va_G} {ad : Nat → Nat → Nat} {cc : Nat → ClassId} {sad sav : Nat → Nat} {Q : State → Prop} (hC : MCc sad sav "JoinedTrees$JsonReader" prog_3_method_15_code 7 (some .boolean) p s m args meth c A D cc) {N : Nat → Nat} {x0 : Nat} {S : CS} {x1 : Option Nat} {x2 : Int32} {t0 : Int32} {o : CS × Int32} (Heq : m_cRd_readNumber_J82 N x0 S x1 x2 t0 = some o) (Kr : ∀ r : CS × Int32, o = r → ∀ (pc : Nat) (H : Heap) (locs : List Loc) (ls : Array Slot), decode prog_3_method_15_code pc = .ok (.ireturn, 1) → (r.2 = 0 ∨ r.2 = 1) → va_P D cls (cw ad cc N r.1) H → va_D A (cw ad cc N r.1) → va_S A s.heap H locs → W p l e ({ frames := 1, cells := 0, slots := 0, locals := 21 }) s m args below meth c H locs 0 0 Q (F0 m pc ls [.int r.2])) : ∀ (H : Heap) (locs : List Loc) (ls : Array Slot), va_P D cls (cw ad cc N S) H → va_D A (cw ad cc N S) → va_S A s.heap H locs → lv_has ls 7 [(0, .ref (ad 1 x0)), (1, rv ad 9 x1), (2, .int x2)] → W p l e ({ frames := 1, cells := 0, slots := 0, locals := 21 }) s m args below meth c H locs 0 0 Q (F0 m 82 ls [.int t0]) := by
  intro H locs ls hP hD hS hl
  obtain ⟨hx, hb, hr, hml, hown, hts, hK, hA, hev, hE, hN, hNS⟩ := id hC
  unfold m_cRd_readNumber_J82 at Heq
  refine lv_istore_n (lv' := [(3, .int t0), (0, .ref (ad 1 x0)), (1, rv ad 9 x1), (2, .int x2)]) hx hb d_cRd_readNumber_82 rfl hl (by decide) rfl (fun ls hl => ?_)
  refine lv_lconst (v := 0) hx hb d_cRd_readNumber_83 (by decide) ?_
  refine lv_lstore (lv' := [(4, .long 0), (3, .int t0), (0, .ref (ad 1 x0)), (1, rv ad 9 x1), (2, .int x2)]) hx hb d_cRd_readNumber_84 hl (by decide) rfl (fun ls hl => ?_)
  refine lv_iconst (v := 0) hx hb d_cRd_readNumber_86 (by decide) ?_
  refine lv_istore (lv' := [(6, .int 0), (4, .long 0), (3, .int t0), (0, .ref (ad 1 x0)), (1, rv ad 9 x1), (2, .int x2)]) hx hb d_cRd_readNumber_87 hl (by decide) rfl (fun ls hl => ?_)
  obtain ⟨b_1, h_2, Heq⟩ := ob_some Heq
  refine w_cRd_readNumber_L89 hC h_2 (fun b h => ?_) _ _ _ hP hD hS (lv_sub hl [3, 4, 5, 2, 1, 0] rfl)
  subst h
  intro H locs ls hP hD hS hl
  exact w_cRd_readNumber_J153 hC Heq Kr _ _ _ hP hD hS (lv_sub hl [0, 1, 2, 3] rfl)
def m_cRd_readNumber_J41 (N : Nat → Nat) (x0 : Nat) (S : CS) (x1 : Option Nat) (x2 : Int32) : Option (CS × Int32) := gl x0 (N 1) (gn (S.r 1 2 x0) (N 5) (fun j_1 => ob (m_cRw_at N j_1 S (S.i 1 4 x0)) (fun o_4 => ob (m_cJT_isDigit N o_4.1 o_4.2) (fun o_6 => (if o_6.2 = 0 then some (o_6.1, 0) else gn (o_6.1.r 1 2 x0) (N 5) (fun j_9 => ob (m_cRw_at N j_9 o_6.1 (o_6.1.i 1 4 x0)) (fun o_12 => (if o_12.2 = 48 then m_cRd_readNumber_J82 N x0 o_12.1 x1 x2 1 else m_cRd_readNumber_J82 N x0 o_12.1 x1 x2 18))))))))
theorem d_cRd_readNumber_76 : decode prog_3_method_15_code 76 = .ok (.iconst 1, 1) := by decide +kernel
theorem d_cRd_readNumber_77 : decode prog_3_method_15_code 77 = .ok (.goto 5, 3) := by decide +kernel
theorem d_cRd_readNumber_58 : decode prog_3_method_15_code 58 = .ok (.iconst 0, 1) := by decide +kernel
theorem d_cRd_readNumber_59 : decode prog_3_method_15_code 59 = .ok (.ireturn, 1) := by decide +kernel
set_option maxHeartbeats 4000000 in
set_option maxRecDepth 100000 in
theorem w_cRd_readNumber_J41 {p : Program} {l : Launch} {e : Env} {s : State} {m : MethodId} {args : Array Value} {below : List Frame} {meth : Method} {c : Code} {A : Nat → Prop} {D : va_G} {ad : Nat → Nat → Nat} {cc : Nat → ClassId} {sad sav : Nat → Nat} {Q : State → Prop} (hC : MCc sad sav "JoinedTrees$JsonReader" prog_3_method_15_code 7 (some .boolean) p s m args meth c A D cc) {N : Nat → Nat} {x0 : Nat} {S : CS} {x1 : Option Nat} {x2 : Int32} {o : CS × Int32} (Heq : m_cRd_readNumber_J41 N x0 S x1 x2 = some o) (Kr : ∀ r : CS × Int32, o = r → ∀ (pc : Nat) (H : Heap) (locs : List Loc) (ls : Array Slot), decode prog_3_method_15_code pc = .ok (.ireturn, 1) → (r.2 = 0 ∨ r.2 = 1) → va_P D cls (cw ad cc N r.1) H → va_D A (cw ad cc N r.1) → va_S A s.heap H locs → W p l e ({ frames := 1, cells := 0, slots := 0, locals := 21 }) s m args below meth c H locs 0 0 Q (F0 m pc ls [.int r.2])) : ∀ (H : Heap) (locs : List Loc) (ls : Array Slot), va_P D cls (cw ad cc N S) H → va_D A (cw ad cc N S) → va_S A s.heap H locs → lv_has ls 7 [(0, .ref (ad 1 x0)), (1, rv ad 9 x1), (2, .int x2)] → W p l e ({ frames := 1, cells := 0, slots := 0, locals := 21 }) s m args below meth c H locs 0 0 Q (F0 m 41 ls []) := by
  intro H locs ls hP hD hS hl
  obtain ⟨hx, hb, hr, hml, hown, hts, hK, hA, hev, hE, hN, hNS⟩ := id hC
  unfold m_cRd_readNumber_J41 at Heq
  refine lv_aload_n hx hb d_cRd_readNumber_41 rfl (lv_at hl 0 rfl) ?_
  obtain ⟨hl_x0_1, Heq⟩ := gl_some Heq
  refine va_get (D := D) (ci := 1) (v := rv ad 5 (S.r 1 2 x0)) (C := R_Rd) (T := F_Rd) (N := 10) hx hb hts i_Rd hown hK hP (cPos N 1 x0) (cw_obj (k := 1) (by decide) hl_x0_1) rfl 2 (by decide) (hts _ kw_346) (fun _ h9 => h9) rfl d_cRd_readNumber_42 ?_
  refine lv_aload_n hx hb d_cRd_readNumber_45 rfl (lv_at hl 0 rfl) ?_
  refine va_get (D := D) (ci := 1) (v := .int (S.i 1 4 x0)) (C := R_Rd) (T := F_Rd) (N := 10) hx hb hts i_Rd hown hK hP (cPos N 1 x0) (cw_obj (k := 1) (by decide) hl_x0_1) rfl 4 (by decide) (hts _ kw_349) (fun _ h9 => h9) rfl d_cRd_readNumber_46 ?_
  obtain ⟨j_1, hj_2, hl_3, Heq⟩ := gn_some Heq
  refine w_s (st' := [.int (S.i 1 4 x0), .ref (ad 5 j_1)]) (congrArg (fun z9 : Option Nat => [.int (S.i 1 4 x0), rv ad 5 z9]) hj_2) ?_
  obtain ⟨o_4, h_5, Heq⟩ := ob_some Heq
  have hFc := fr_all hD hS hA
  refine va_calli (va_runV (As := [.int (S.i 1 4 x0)]) (rest := []) ⟨hx, hb, hml, hown, hts⟩ (g_cRw_at l D H.size (ad := ad) (cc := cc) (sad := sad) (sav := sav) h_5) (cw_v 1 hts kw_689 kw_871 kw_687 kw_688 kw_4 rfl rfl (by decide +kernel) ⟨Nat.le_of_ble_eq_true rfl, Nat.le_of_ble_eq_true rfl⟩) ⟨c_blind, va_recv hK hP (ci := 5) (q0 := cPos N 5 j_1) rfl (cw_obj (k := 5) (by decide) hl_3), fun U hU hW => c_pre hU hW hP hK hD hev hE hN hNS hS hFc⟩ rfl rfl hl.1 rfl (lv_room (Nat.le_of_ble_eq_true rfl)) d_cRd_readNumber_49 ⟨Nat.le_of_ble_eq_true rfl, Nat.le_of_ble_eq_true rfl⟩) hS (fun q _ h => hFc q h) hFc (fun rz u t H1 locs ht hvm hw hB hz1 hk1 hS => ?_)
  obtain ⟨hP, -, hD1⟩ := hB
  rw [ht] at hP
  have hD := hD1.weaken (fun _ q _ h => hFc q.1 h)
  generalize H1 = H at hP hS ⊢
  refine W.cs (cells' := 0) (slots' := 0) rfl rfl ?_
  subst hw
  obtain ⟨o_6, h_7, Heq⟩ := ob_some Heq
  have hFc := fr_all hD hS hA
  refine va_calli (va_runSN (As := [.int o_4.2]) (rest := []) ⟨hx, hb, hml, hown, hts⟩ (g_cJT_isDigit l D H.size (ad := ad) (cc := cc) (sad := sad) (sav := sav) h_7) ⟨cw_n 1 hts kw_964 hN kw_1 rfl rfl (by decide +kernel) ⟨Nat.le_of_ble_eq_true rfl, Nat.le_of_ble_eq_true rfl⟩, hts _ kw_963⟩ ⟨c_blind, fun U hU hW => c_pre hU hW hP hK hD hev hE hN hNS hS hFc⟩ rfl rfl hl.1 rfl (lv_room (Nat.le_of_ble_eq_true rfl)) d_cRd_readNumber_52 ⟨Nat.le_of_ble_eq_true rfl, Nat.le_of_ble_eq_true rfl⟩) hS (fun q _ h => hFc q h) hFc (fun rz u t H1 locs ht hvm hw hB hz1 hk1 hS => ?_)
  obtain ⟨hP, -, hD1⟩ := hB
  rw [ht] at hP
  have hD := hD1.weaken (fun _ q _ h => hFc q.1 h)
  generalize H1 = H at hP hS ⊢
  refine W.cs (cells' := 0) (slots' := 0) rfl rfl ?_
  subst hw
  refine lv_if_ne (tgt := 60) hx hb d_cRd_readNumber_55 (by decide) (fun c_8 => ?_) (fun c_8 => ?_)
  · replace Heq := (if_neg c_8).symm.trans Heq
    refine lv_aload_n hx hb d_cRd_readNumber_60 rfl (lv_at hl 0 rfl) ?_
    refine va_get (D := D) (ci := 1) (v := rv ad 5 (o_6.1.r 1 2 x0)) (C := R_Rd) (T := F_Rd) (N := 10) hx hb hts i_Rd hown hK hP (cPos N 1 x0) (cw_obj (k := 1) (by decide) hl_x0_1) rfl 2 (by decide) (hts _ kw_346) (fun _ h9 => h9) rfl d_cRd_readNumber_61 ?_
    refine lv_aload_n hx hb d_cRd_readNumber_64 rfl (lv_at hl 0 rfl) ?_
    refine va_get (D := D) (ci := 1) (v := .int (o_6.1.i 1 4 x0)) (C := R_Rd) (T := F_Rd) (N := 10) hx hb hts i_Rd hown hK hP (cPos N 1 x0) (cw_obj (k := 1) (by decide) hl_x0_1) rfl 4 (by decide) (hts _ kw_349) (fun _ h9 => h9) rfl d_cRd_readNumber_65 ?_
    obtain ⟨j_9, hj_10, hl_11, Heq⟩ := gn_some Heq
    refine w_s (st' := [.int (o_6.1.i 1 4 x0), .ref (ad 5 j_9)]) (congrArg (fun z9 : Option Nat => [.int (o_6.1.i 1 4 x0), rv ad 5 z9]) hj_10) ?_
    obtain ⟨o_12, h_13, Heq⟩ := ob_some Heq
    have hFc := fr_all hD hS hA
    refine va_calli (va_runV (As := [.int (o_6.1.i 1 4 x0)]) (rest := []) ⟨hx, hb, hml, hown, hts⟩ (g_cRw_at l D H.size (ad := ad) (cc := cc) (sad := sad) (sav := sav) h_13) (cw_v 1 hts kw_689 kw_871 kw_687 kw_688 kw_4 rfl rfl (by decide +kernel) ⟨Nat.le_of_ble_eq_true rfl, Nat.le_of_ble_eq_true rfl⟩) ⟨c_blind, va_recv hK hP (ci := 5) (q0 := cPos N 5 j_9) rfl (cw_obj (k := 5) (by decide) hl_11), fun U hU hW => c_pre hU hW hP hK hD hev hE hN hNS hS hFc⟩ rfl rfl hl.1 rfl (lv_room (Nat.le_of_ble_eq_true rfl)) d_cRd_readNumber_68 ⟨Nat.le_of_ble_eq_true rfl, Nat.le_of_ble_eq_true rfl⟩) hS (fun q _ h => hFc q h) hFc (fun rz u t H1 locs ht hvm hw hB hz1 hk1 hS => ?_)
    obtain ⟨hP, -, hD1⟩ := hB
    rw [ht] at hP
    have hD := hD1.weaken (fun _ q _ h => hFc q.1 h)
    generalize H1 = H at hP hS ⊢
    refine W.cs (cells' := 0) (slots' := 0) rfl rfl ?_
    subst hw
    refine lv_bipush (v := 48) hx hb d_cRd_readNumber_71 (by decide) ?_
    refine lv_icmp_ne (tgt := 80) hx hb d_cRd_readNumber_73 (by decide) (fun c_14 => ?_) (fun c_14 => ?_)
    · replace Heq := (if_neg c_14).symm.trans Heq
      refine lv_bipush (v := 18) hx hb d_cRd_readNumber_80 (by decide) ?_
      exact w_cRd_readNumber_J82 hC Heq Kr _ _ _ hP hD hS (lv_sub hl [0, 1, 2] rfl)
    · replace Heq := (if_pos c_14).symm.trans Heq
      refine lv_iconst (v := 1) hx hb d_cRd_readNumber_76 (by decide) ?_
      refine lv_goto (tgt := 82) hx hb d_cRd_readNumber_77 (by decide) ?_
      exact w_cRd_readNumber_J82 hC Heq Kr _ _ _ hP hD hS (lv_sub hl [0, 1, 2] rfl)
  · replace Heq := (if_pos c_8).symm.trans Heq
    refine lv_iconst (v := 0) hx hb d_cRd_readNumber_58 (by decide) ?_
    exact Kr _ (Option.some.inj Heq).symm 59 _ _ _ d_cRd_readNumber_59 (Or.inl rfl) hP hD hS
def m_cRd_readNumber_J26 (N : Nat → Nat) (x0 : Nat) (S : CS) (x1 : Option Nat) (t0 : Int32) : Option (CS × Int32) := (if t0 = 0 then m_cRd_readNumber_J41 N x0 S x1 t0 else gl x0 (N 1) (m_cRd_readNumber_J41 N x0 (S.setI 1 4 x0 ((S.i 1 4 x0) + 1)) x1 t0))
theorem d_cRd_readNumber_31 : decode prog_3_method_15_code 31 = .ok (.aload_n 0, 1) := by decide +kernel
theorem d_cRd_readNumber_32 : decode prog_3_method_15_code 32 = .ok (.dup, 1) := by decide +kernel
theorem d_cRd_readNumber_33 : decode prog_3_method_15_code 33 = .ok (.getfield 34, 3) := by decide +kernel
theorem d_cRd_readNumber_36 : decode prog_3_method_15_code 36 = .ok (.iconst 1, 1) := by decide +kernel
theorem d_cRd_readNumber_37 : decode prog_3_method_15_code 37 = .ok (.iadd, 1) := by decide +kernel
theorem d_cRd_readNumber_38 : decode prog_3_method_15_code 38 = .ok (.putfield 34, 3) := by decide +kernel
set_option maxHeartbeats 4000000 in
set_option maxRecDepth 100000 in
theorem w_cRd_readNumber_J26 {p : Program} {l : Launch} {e : Env} {s : State} {m : MethodId} {args : Array Value} {below : List Frame} {meth : Method} {c : Code} {A : Nat → Prop} {D : va_G} {ad : Nat → Nat → Nat} {cc : Nat → ClassId} {sad sav : Nat → Nat} {Q : State → Prop} (hC : MCc sad sav "JoinedTrees$JsonReader" prog_3_method_15_code 7 (some .boolean) p s m args meth c A D cc) {N : Nat → Nat} {x0 : Nat} {S : CS} {x1 : Option Nat} {t0 : Int32} {o : CS × Int32} (Heq : m_cRd_readNumber_J26 N x0 S x1 t0 = some o) (Kr : ∀ r : CS × Int32, o = r → ∀ (pc : Nat) (H : Heap) (locs : List Loc) (ls : Array Slot), decode prog_3_method_15_code pc = .ok (.ireturn, 1) → (r.2 = 0 ∨ r.2 = 1) → va_P D cls (cw ad cc N r.1) H → va_D A (cw ad cc N r.1) → va_S A s.heap H locs → W p l e ({ frames := 1, cells := 0, slots := 0, locals := 21 }) s m args below meth c H locs 0 0 Q (F0 m pc ls [.int r.2])) : ∀ (H : Heap) (locs : List Loc) (ls : Array Slot), va_P D cls (cw ad cc N S) H → va_D A (cw ad cc N S) → va_S A s.heap H locs → lv_has ls 7 [(0, .ref (ad 1 x0)), (1, rv ad 9 x1)] → W p l e ({ frames := 1, cells := 0, slots := 0, locals := 21 }) s m args below meth c H locs 0 0 Q (F0 m 26 ls [.int t0]) := by
  intro H locs ls hP hD hS hl
  obtain ⟨hx, hb, hr, hml, hown, hts, hK, hA, hev, hE, hN, hNS⟩ := id hC
  unfold m_cRd_readNumber_J26 at Heq
  refine lv_istore_n (lv' := [(2, .int t0), (0, .ref (ad 1 x0)), (1, rv ad 9 x1)]) hx hb d_cRd_readNumber_26 rfl hl (by decide) rfl (fun ls hl => ?_)
  refine lv_iload_n hx hb d_cRd_readNumber_27 rfl (lv_at hl 0 rfl) ?_
  refine lv_if_eq (tgt := 41) hx hb d_cRd_readNumber_28 (by decide) (fun c_1 => ?_) (fun c_1 => ?_)
  · replace Heq := (if_pos c_1).symm.trans Heq
    exact w_cRd_readNumber_J41 hC Heq Kr _ _ _ hP hD hS (lv_sub hl [1, 2, 0] rfl)
  · replace Heq := (if_neg c_1).symm.trans Heq
    refine lv_aload_n hx hb d_cRd_readNumber_31 rfl (lv_at hl 1 rfl) ?_
    refine lv_dup hx hb d_cRd_readNumber_32 rfl ?_
    obtain ⟨hl_x0_1, Heq⟩ := gl_some Heq
    refine va_get (D := D) (ci := 1) (v := .int (S.i 1 4 x0)) (C := R_Rd) (T := F_Rd) (N := 10) hx hb hts i_Rd hown hK hP (cPos N 1 x0) (cw_obj (k := 1) (by decide) hl_x0_1) rfl 4 (by decide) (hts _ kw_349) (fun _ h9 => h9) rfl d_cRd_readNumber_33 ?_
    refine lv_iconst (v := 1) hx hb d_cRd_readNumber_36 (by decide) ?_
    refine lv_iadd hx hb d_cRd_readNumber_37 ?_
    refine w_i (y := (S.i 1 4 x0) + 1) rfl ?_
    refine va_put (D := D) (ci := 1) (v := .int ((S.i 1 4 x0) + 1)) (ty := .int) (C := R_Rd) (T := F_Rd) (N := 10) hx hb hts i_Rd t_Rd t_Rd_ok n_Rd hown hK hP hD hS (cPos N 1 x0) (cw_obj (k := 1) (by decide) hl_x0_1) rfl 4 (by decide) (hts _ kw_349) (fun _ h9 => h9) rfl (by decide +kernel) rfl rfl (Nat.le_of_ble_eq_true rfl) d_cRd_readNumber_38 (fun H locs hP hD hS => ?_)
    have hD := (congrArg (fun w9 => va_D A w9) (cw_setI (ad := ad) (cc := cc) (S := S) (k := 1) (f := 4) (v := (S.i 1 4 x0) + 1) (by decide) rfl hl_x0_1)).mp hD
    have hP := (congrArg (fun w9 => va_P D cls w9 H) (cw_setI (ad := ad) (cc := cc) (S := S) (k := 1) (f := 4) (v := (S.i 1 4 x0) + 1) (by decide) rfl hl_x0_1)).mp hP
    exact w_cRd_readNumber_J41 hC Heq Kr _ _ _ hP hD hS (lv_sub hl [1, 2, 0] rfl)
def m_cRd_readNumber_J0 (N : Nat → Nat) (x0 : Nat) (S : CS) (x1 : Nat) : Option (CS × Int32) := gl x1 (N 9) (gl x0 (N 1) (gn (S.r 1 2 x0) (N 5) (fun j_1 => ob (m_cRw_at N j_1 (S.setI 9 0 x1 3) (S.i 1 4 x0)) (fun o_4 => (if o_4.2 = 45 then m_cRd_readNumber_J26 N x0 o_4.1 (some x1) 1 else m_cRd_readNumber_J26 N x0 o_4.1 (some x1) 0)))))
theorem d_cRd_readNumber_21 : decode prog_3_method_15_code 21 = .ok (.iconst 1, 1) := by decide +kernel
theorem d_cRd_readNumber_22 : decode prog_3_method_15_code 22 = .ok (.goto 4, 3) := by decide +kernel
set_option maxHeartbeats 4000000 in
set_option maxRecDepth 100000 in
theorem w_cRd_readNumber_J0 {p : Program} {l : Launch} {e : Env} {s : State} {m : MethodId} {args : Array Value} {below : List Frame} {meth : Method} {c : Code} {A : Nat → Prop} {D : va_G} {ad : Nat → Nat → Nat} {cc : Nat → ClassId} {sad sav : Nat → Nat} {Q : State → Prop} (hC : MCc sad sav "JoinedTrees$JsonReader" prog_3_method_15_code 7 (some .boolean) p s m args meth c A D cc) {N : Nat → Nat} {x0 : Nat} {S : CS} {x1 : Nat} {o : CS × Int32} (Heq : m_cRd_readNumber_J0 N x0 S x1 = some o) (Kr : ∀ r : CS × Int32, o = r → ∀ (pc : Nat) (H : Heap) (locs : List Loc) (ls : Array Slot), decode prog_3_method_15_code pc = .ok (.ireturn, 1) → (r.2 = 0 ∨ r.2 = 1) → va_P D cls (cw ad cc N r.1) H → va_D A (cw ad cc N r.1) → va_S A s.heap H locs → W p l e ({ frames := 1, cells := 0, slots := 0, locals := 21 }) s m args below meth c H locs 0 0 Q (F0 m pc ls [.int r.2])) : ∀ (H : Heap) (locs : List Loc) (ls : Array Slot), va_P D cls (cw ad cc N S) H → va_D A (cw ad cc N S) → va_S A s.heap H locs → lv_has ls 7 [(0, .ref (ad 1 x0)), (1, .ref (ad 9 x1))] → W p l e ({ frames := 1, cells := 0, slots := 0, locals := 21 }) s m args below meth c H locs 0 0 Q (F0 m 0 ls []) := by
  intro H locs ls hP hD hS hl
  obtain ⟨hx, hb, hr, hml, hown, hts, hK, hA, hev, hE, hN, hNS⟩ := id hC
  unfold m_cRd_readNumber_J0 at Heq
  refine lv_aload_n hx hb d_cRd_readNumber_0 rfl (lv_at hl 1 rfl) ?_
  refine lv_iconst (v := 3) hx hb d_cRd_readNumber_1 (by decide) ?_
  obtain ⟨hl_x1_9, Heq⟩ := gl_some Heq
  refine va_put (D := D) (ci := 9) (v := .int 3) (ty := .int) (C := R_Va) (T := F_Va) (N := 10) hx hb hts i_Va t_Va t_Va_ok n_Va hown hK hP hD hS (cPos N 9 x1) (cw_obj (k := 9) (by decide) hl_x1_9) rfl 0 (by decide) (hts _ kw_295) (fun _ h9 => h9) rfl (by decide +kernel) rfl rfl (Nat.le_of_ble_eq_true rfl) d_cRd_readNumber_2 (fun H locs hP hD hS => ?_)
  have hD := (congrArg (fun w9 => va_D A w9) (cw_setI (ad := ad) (cc := cc) (S := S) (k := 9) (f := 0) (v := 3) (by decide) rfl hl_x1_9)).mp hD
  have hP := (congrArg (fun w9 => va_P D cls w9 H) (cw_setI (ad := ad) (cc := cc) (S := S) (k := 9) (f := 0) (v := 3) (by decide) rfl hl_x1_9)).mp hP
  refine lv_aload_n hx hb d_cRd_readNumber_5 rfl (lv_at hl 0 rfl) ?_
  obtain ⟨hl_x0_1, Heq⟩ := gl_some Heq
  refine va_get (D := D) (ci := 1) (v := rv ad 5 (S.r 1 2 x0)) (C := R_Rd) (T := F_Rd) (N := 10) hx hb hts i_Rd hown hK hP (cPos N 1 x0) (cw_obj (k := 1) (by decide) hl_x0_1) rfl 2 (by decide) (hts _ kw_346) (fun _ h9 => h9) rfl d_cRd_readNumber_6 ?_
  refine lv_aload_n hx hb d_cRd_readNumber_9 rfl (lv_at hl 0 rfl) ?_
  refine va_get (D := D) (ci := 1) (v := .int (S.i 1 4 x0)) (C := R_Rd) (T := F_Rd) (N := 10) hx hb hts i_Rd hown hK hP (cPos N 1 x0) (cw_obj (k := 1) (by decide) hl_x0_1) rfl 4 (by decide) (hts _ kw_349) (fun _ h9 => h9) rfl d_cRd_readNumber_10 ?_
  obtain ⟨j_1, hj_2, hl_3, Heq⟩ := gn_some Heq
  refine w_s (st' := [.int (S.i 1 4 x0), .ref (ad 5 j_1)]) (congrArg (fun z9 : Option Nat => [.int (S.i 1 4 x0), rv ad 5 z9]) hj_2) ?_
  obtain ⟨o_4, h_5, Heq⟩ := ob_some Heq
  have hFc := fr_all hD hS hA
  refine va_calli (va_runV (As := [.int (S.i 1 4 x0)]) (rest := []) ⟨hx, hb, hml, hown, hts⟩ (g_cRw_at l D H.size (ad := ad) (cc := cc) (sad := sad) (sav := sav) h_5) (cw_v 1 hts kw_689 kw_871 kw_687 kw_688 kw_4 rfl rfl (by decide +kernel) ⟨Nat.le_of_ble_eq_true rfl, Nat.le_of_ble_eq_true rfl⟩) ⟨c_blind, va_recv hK hP (ci := 5) (q0 := cPos N 5 j_1) rfl (cw_obj (k := 5) (by decide) hl_3), fun U hU hW => c_pre hU hW hP hK hD hev hE hN hNS hS hFc⟩ rfl rfl hl.1 rfl (lv_room (Nat.le_of_ble_eq_true rfl)) d_cRd_readNumber_13 ⟨Nat.le_of_ble_eq_true rfl, Nat.le_of_ble_eq_true rfl⟩) hS (fun q _ h => hFc q h) hFc (fun rz u t H1 locs ht hvm hw hB hz1 hk1 hS => ?_)
  obtain ⟨hP, -, hD1⟩ := hB
  rw [ht] at hP
  have hD := hD1.weaken (fun _ q _ h => hFc q.1 h)
  generalize H1 = H at hP hS ⊢
  refine W.cs (cells' := 0) (slots' := 0) rfl rfl ?_
  subst hw
  refine lv_bipush (v := 45) hx hb d_cRd_readNumber_16 (by decide) ?_
  refine lv_icmp_ne (tgt := 25) hx hb d_cRd_readNumber_18 (by decide) (fun c_6 => ?_) (fun c_6 => ?_)
  · replace Heq := (if_neg c_6).symm.trans Heq
    refine lv_iconst (v := 0) hx hb d_cRd_readNumber_25 (by decide) ?_
    exact w_cRd_readNumber_J26 hC Heq Kr _ _ _ hP hD hS (lv_sub hl [0, 1] rfl)
  · replace Heq := (if_pos c_6).symm.trans Heq
    refine lv_iconst (v := 1) hx hb d_cRd_readNumber_21 (by decide) ?_
    refine lv_goto (tgt := 26) hx hb d_cRd_readNumber_22 (by decide) ?_
    exact w_cRd_readNumber_J26 hC Heq Kr _ _ _ hP hD hS (lv_sub hl [0, 1] rfl)
def m_cRd_readNumber (N : Nat → Nat) (x0 : Nat) (S : CS) (x1 : Nat) : Option (CS × Int32) := m_cRd_readNumber_J0 N x0 S x1
set_option maxHeartbeats 4000000 in
theorem g_cRd_readNumber (l : Launch) (D : va_G) (sz : Nat) {ad : Nat → Nat → Nat} {cc : Nat → ClassId} {sad sav : Nat → Nat} {N : Nat → Nat} {x0 : Nat} {S : CS} {x1 : Nat} {o : CS × Int32} (Heq : m_cRd_readNumber N x0 S x1 = some o) : Met l ⟨"JoinedTrees$JsonReader", "readNumber", "(LJoinedTrees$Value;)Z"⟩ (Cond.code ⟨"JoinedTrees$JsonReader", "readNumber", "(LJoinedTrees$Value;)Z"⟩ prog_3_method_15_code 7 (some .boolean) :: gb) ({ frames := 1, cells := 0, slots := 0, locals := 21 }) (cPc sad sav D (cw ad cc N S) (cty cc) sz [.ref (ad 1 x0), .ref (ad 9 x1)]) (va_Qi (fun (r : Int32) (_ : Unit) => r = o.2) (fun _ t => gO D (cw ad cc N o.1) (cty cc) (va_A (cw ad cc N S) sz) t) (va_A (cw ad cc N S) sz)) 0 0 (va_A (cw ad cc N S) sz) := by
  refine Met.ofW (cc := prog_3_method_15_code) (maxL := 7) (ret := (some .boolean)) (by decide) rfl ?_
  intro p e s m args below meth c s₁ B hml hv
  obtain ⟨rfl, hsz, hP, hK, hD0, hev, hE, hN⟩ := hv
  have hx := B.exec
  have hb := B.bytes
  have hr := B.returns
  have hts : ∀ w9 ∈ gb, w9.before [.ref (ad 1 x0), .ref (ad 9 x1)].toArray s = true := fun w9 h => atoms_spec (ws := Cond.code ⟨"JoinedTrees$JsonReader", "readNumber", "(LJoinedTrees$Value;)Z"⟩ prog_3_method_15_code 7 (some .boolean) :: gb) B.pre w9 (List.mem_cons_of_mem _ h)
  have hown : s.vm.findClass "JoinedTrees$JsonReader" = some m.cls := findClass_of_methodNamed B.named
  have hlocks := B.notSynchronized
  have hNS := ns_of hP
  subst hsz
  have hD := hD0.self (sz := s.heap.size)
  generalize hAe : va_A (cw ad cc N S) s.heap.size = A at hD hev hE hNS ⊢
  have hA : ∀ q : Nat, s.heap.size ≤ q → A q := fun q h => by rw [← hAe]; exact Or.inr h
  have hS : va_S A s.heap s.heap [] := va_S.rf
  obtain ⟨ls, hl, hle⟩ : ∃ ls : Array Slot, lv_has ls 7 [(0, .ref (ad 1 x0)), (1, .ref (ad 9 x1))] ∧ entryFrame m ([.ref (ad 1 x0), .ref (ad 9 x1)] : List Value).toArray 7 = F0 m 0 ls [] := by
    exact ⟨_, lv_entry (n := 7) _ (Nat.le_of_ble_eq_true rfl), lg_entry_eq ..⟩
  rw [hle]
  refine w_cRd_readNumber_J0 ⟨hx, hb, hr, hml, hown, hts, hK, hA, hev, hE, hN, hNS⟩ Heq (fun r h pc H locs ls hd hz hP hD hS => ?_) _ _ _ hP hD hS (lv_sub hl [0, 1] rfl)
  subst h
  exact W.zret (ty := .boolean) hx hb hr (by rcases hz with hz | hz <;> rw [hz] <;> rfl) (fun t ht hW => ⟨⟨_, (), rfl, rfl, by rw [ht]; exact hP, va_K.moved hW.alike hK, hD⟩, hS.F ht⟩) hS.2.2 hd
def m_cRd_isNewKey_J68 (N : Nat → Nat) (x0 : Nat) (S : CS) (x1 : Int32) (x2 : Int32) (x3 : Int32) : Option ((CS × Int32 × Int32 × Int32) ⊕ ((CS × Int32) ⊕ (CS × Int32))) := some (.inl (S, x1, x2, (x3 + 1)))
theorem d_cRd_isNewKey_0 : decode prog_3_method_7_code 0 = .ok (.aload_n 0, 1) := by decide +kernel
theorem d_cRd_isNewKey_1 : decode prog_3_method_7_code 1 = .ok (.getfield 22, 3) := by decide +kernel
theorem d_cRd_isNewKey_4 : decode prog_3_method_7_code 4 = .ok (.getfield 67, 3) := by decide +kernel
theorem d_cRd_isNewKey_7 : decode prog_3_method_7_code 7 = .ok (.iload_n 1, 1) := by decide +kernel
theorem d_cRd_isNewKey_8 : decode prog_3_method_7_code 8 = .ok (.isub, 1) := by decide +kernel
theorem d_cRd_isNewKey_9 : decode prog_3_method_7_code 9 = .ok (.istore_n 2, 1) := by decide +kernel
theorem d_cRd_isNewKey_10 : decode prog_3_method_7_code 10 = .ok (.iconst 0, 1) := by decide +kernel
theorem d_cRd_isNewKey_11 : decode prog_3_method_7_code 11 = .ok (.istore_n 3, 1) := by decide +kernel
theorem d_cRd_isNewKey_12 : decode prog_3_method_7_code 12 = .ok (.iload_n 3, 1) := by decide +kernel
theorem d_cRd_isNewKey_13 : decode prog_3_method_7_code 13 = .ok (.aload_n 0, 1) := by decide +kernel
theorem d_cRd_isNewKey_14 : decode prog_3_method_7_code 14 = .ok (.getfield 30, 3) := by decide +kernel
theorem d_cRd_isNewKey_17 : decode prog_3_method_7_code 17 = .ok (.if_icmp .ge 57, 3) := by decide +kernel
theorem d_cRd_isNewKey_20 : decode prog_3_method_7_code 20 = .ok (.aload_n 0, 1) := by decide +kernel
theorem d_cRd_isNewKey_21 : decode prog_3_method_7_code 21 = .ok (.getfield 11, 3) := by decide +kernel
theorem d_cRd_isNewKey_24 : decode prog_3_method_7_code 24 = .ok (.iload_n 3, 1) := by decide +kernel
theorem d_cRd_isNewKey_25 : decode prog_3_method_7_code 25 = .ok (.aaload, 1) := by decide +kernel
theorem d_cRd_isNewKey_26 : decode prog_3_method_7_code 26 = .ok (.astore 4, 2) := by decide +kernel
theorem d_cRd_isNewKey_28 : decode prog_3_method_7_code 28 = .ok (.aload 4, 2) := by decide +kernel
theorem d_cRd_isNewKey_30 : decode prog_3_method_7_code 30 = .ok (.getfield 80, 3) := by decide +kernel
theorem d_cRd_isNewKey_33 : decode prog_3_method_7_code 33 = .ok (.aload_n 0, 1) := by decide +kernel
theorem d_cRd_isNewKey_34 : decode prog_3_method_7_code 34 = .ok (.getfield 40, 3) := by decide +kernel
theorem d_cRd_isNewKey_37 : decode prog_3_method_7_code 37 = .ok (.if_acmp .ne 31, 3) := by decide +kernel
theorem d_cRd_isNewKey_68 : decode prog_3_method_7_code 68 = .ok (.iinc 3 1, 3) := by decide +kernel
theorem d_cRd_isNewKey_71 : decode prog_3_method_7_code 71 = .ok (.goto (-59), 3) := by decide +kernel
set_option maxHeartbeats 4000000 in
set_option maxRecDepth 100000 in
theorem w_cRd_isNewKey_J68 {p : Program} {l : Launch} {e : Env} {s : State} {m : MethodId} {args : Array Value} {below : List Frame} {meth : Method} {c : Code} {A : Nat → Prop} {D : va_G} {ad : Nat → Nat → Nat} {cc : Nat → ClassId} {sad sav : Nat → Nat} {Q : State → Prop} (hC : MCc sad sav "JoinedTrees$JsonReader" prog_3_method_7_code 5 (some .boolean) p s m args meth c A D cc) {N : Nat → Nat} {x0 : Nat} {S : CS} {x1 : Int32} {x2 : Int32} {x3 : Int32} {o : ((CS × Int32 × Int32 × Int32) ⊕ ((CS × Int32) ⊕ (CS × Int32)))} (Heq : m_cRd_isNewKey_J68 N x0 S x1 x2 x3 = some o) (Ka : ∀ b : CS × Int32 × Int32 × Int32, o = .inl b → ∀ (H : Heap) (locs : List Loc) (ls : Array Slot), va_P D cls (cw ad cc N b.1) H → va_D A (cw ad cc N b.1) → va_S A s.heap H locs → lv_has ls 5 [(0, .ref (ad 1 x0)), (1, .int b.2.1), (2, .int b.2.2.1), (3, .int b.2.2.2)] → W p l e ({ frames := 2, cells := 0, slots := 0, locals := 48 }) s m args below meth c H locs 0 0 Q (F0 m 12 ls [])) (K0 : ∀ b : CS × Int32, o = .inr (.inl b) → ∀ (H : Heap) (locs : List Loc) (ls : Array Slot), va_P D cls (cw ad cc N b.1) H → va_D A (cw ad cc N b.1) → va_S A s.heap H locs → lv_has ls 5 [(0, .ref (ad 1 x0)), (2, .int b.2)] → W p l e ({ frames := 2, cells := 0, slots := 0, locals := 48 }) s m args below meth c H locs 0 0 Q (F0 m 74 ls [])) (Kr : ∀ r : CS × Int32, o = .inr (.inr r) → ∀ (pc : Nat) (H : Heap) (locs : List Loc) (ls : Array Slot), decode prog_3_method_7_code pc = .ok (.ireturn, 1) → (r.2 = 0 ∨ r.2 = 1) → va_P D cls (cw ad cc N r.1) H → va_D A (cw ad cc N r.1) → va_S A s.heap H locs → W p l e ({ frames := 2, cells := 0, slots := 0, locals := 48 }) s m args below meth c H locs 0 0 Q (F0 m pc ls [.int r.2])) : ∀ (H : Heap) (locs : List Loc) (ls : Array Slot), va_P D cls (cw ad cc N S) H → va_D A (cw ad cc N S) → va_S A s.heap H locs → lv_has ls 5 [(0, .ref (ad 1 x0)), (1, .int x1), (2, .int x2), (3, .int x3)] → W p l e ({ frames := 2, cells := 0, slots := 0, locals := 48 }) s m args below meth c H locs 0 0 Q (F0 m 68 ls []) := by
  intro H locs ls hP hD hS hl
  obtain ⟨hx, hb, hr, hml, hown, hts, hK, hA, hev, hE, hN, hNS⟩ := id hC
  unfold m_cRd_isNewKey_J68 at Heq
  refine lv_iinc (v := x3 + 1) (lv' := [(3, .int (x3 + 1)), (0, .ref (ad 1 x0)), (1, .int x1), (2, .int x2)]) hx hb d_cRd_isNewKey_68 hl (k := 3) rfl rfl (by decide) rfl (fun ls hl => ?_)
  refine lv_goto (tgt := 12) hx hb d_cRd_isNewKey_71 (by decide) ?_
  exact Ka _ (Option.some.inj Heq).symm _ _ _ hP hD hS (lv_sub hl [1, 2, 3, 0] rfl)
def m_cRd_isNewKey_B12 (N : Nat → Nat) (x0 : Nat) (S : CS) (x1 : Int32) (x2 : Int32) (x3 : Int32) : Option ((CS × Int32 × Int32 × Int32) ⊕ ((CS × Int32) ⊕ (CS × Int32))) := gl x0 (N 1) ((if S.i 1 3 x0 ≤ x3 then some (.inr (.inl (S, x2))) else gn (S.r 1 0 x0) (N 18) (fun j_2 => gd x3 (S.z 18 j_2) (gn (S.q 18 j_2 x3.toNatClampNeg) (N 9) (fun j_6 => gv (S.r 9 2 j_6) (N 9) (gv (S.r 1 6 x0) (N 9) ((if (S.r 9 2 j_6) = (S.r 1 6 x0) then gn (S.r 1 1 x0) (N 5) (fun j_12 => ob (m_cRw_compareWith N j_12 S (S.i 9 3 j_6) (S.i 9 4 j_6) j_12 x1 x2) (fun o_15 => (if o_15.2 = 0 then some (.inr (.inr (o_15.1, 0))) else m_cRd_isNewKey_J68 N x0 o_15.1 x1 x2 x3))) else m_cRd_isNewKey_J68 N x0 S x1 x2 x3))))))))
theorem d_cRd_isNewKey_40 : decode prog_3_method_7_code 40 = .ok (.aload_n 0, 1) := by decide +kernel
theorem d_cRd_isNewKey_41 : decode prog_3_method_7_code 41 = .ok (.getfield 22, 3) := by decide +kernel
theorem d_cRd_isNewKey_44 : decode prog_3_method_7_code 44 = .ok (.aload 4, 2) := by decide +kernel
theorem d_cRd_isNewKey_46 : decode prog_3_method_7_code 46 = .ok (.getfield 95, 3) := by decide +kernel
theorem d_cRd_isNewKey_49 : decode prog_3_method_7_code 49 = .ok (.aload 4, 2) := by decide +kernel
theorem d_cRd_isNewKey_51 : decode prog_3_method_7_code 51 = .ok (.getfield 96, 3) := by decide +kernel
theorem d_cRd_isNewKey_54 : decode prog_3_method_7_code 54 = .ok (.aload_n 0, 1) := by decide +kernel
theorem d_cRd_isNewKey_55 : decode prog_3_method_7_code 55 = .ok (.getfield 22, 3) := by decide +kernel
theorem d_cRd_isNewKey_58 : decode prog_3_method_7_code 58 = .ok (.iload_n 1, 1) := by decide +kernel
theorem d_cRd_isNewKey_59 : decode prog_3_method_7_code 59 = .ok (.iload_n 2, 1) := by decide +kernel
theorem d_cRd_isNewKey_60 : decode prog_3_method_7_code 60 = .ok (.invokevirtual 97, 3) := by decide +kernel
theorem d_cRd_isNewKey_63 : decode prog_3_method_7_code 63 = .ok (.ifCond .ne 5, 3) := by decide +kernel
theorem d_cRd_isNewKey_66 : decode prog_3_method_7_code 66 = .ok (.iconst 0, 1) := by decide +kernel
theorem d_cRd_isNewKey_67 : decode prog_3_method_7_code 67 = .ok (.ireturn, 1) := by decide +kernel
set_option maxHeartbeats 4000000 in
set_option maxRecDepth 100000 in
theorem w_cRd_isNewKey_B12 {p : Program} {l : Launch} {e : Env} {s : State} {m : MethodId} {args : Array Value} {below : List Frame} {meth : Method} {c : Code} {A : Nat → Prop} {D : va_G} {ad : Nat → Nat → Nat} {cc : Nat → ClassId} {sad sav : Nat → Nat} {Q : State → Prop} (hC : MCc sad sav "JoinedTrees$JsonReader" prog_3_method_7_code 5 (some .boolean) p s m args meth c A D cc) {N : Nat → Nat} {x0 : Nat} {S : CS} {x1 : Int32} {x2 : Int32} {x3 : Int32} {o : ((CS × Int32 × Int32 × Int32) ⊕ ((CS × Int32) ⊕ (CS × Int32)))} (Heq : m_cRd_isNewKey_B12 N x0 S x1 x2 x3 = some o) (Ka : ∀ b : CS × Int32 × Int32 × Int32, o = .inl b → ∀ (H : Heap) (locs : List Loc) (ls : Array Slot), va_P D cls (cw ad cc N b.1) H → va_D A (cw ad cc N b.1) → va_S A s.heap H locs → lv_has ls 5 [(0, .ref (ad 1 x0)), (1, .int b.2.1), (2, .int b.2.2.1), (3, .int b.2.2.2)] → W p l e ({ frames := 2, cells := 0, slots := 0, locals := 48 }) s m args below meth c H locs 0 0 Q (F0 m 12 ls [])) (K0 : ∀ b : CS × Int32, o = .inr (.inl b) → ∀ (H : Heap) (locs : List Loc) (ls : Array Slot), va_P D cls (cw ad cc N b.1) H → va_D A (cw ad cc N b.1) → va_S A s.heap H locs → lv_has ls 5 [(0, .ref (ad 1 x0)), (2, .int b.2)] → W p l e ({ frames := 2, cells := 0, slots := 0, locals := 48 }) s m args below meth c H locs 0 0 Q (F0 m 74 ls [])) (Kr : ∀ r : CS × Int32, o = .inr (.inr r) → ∀ (pc : Nat) (H : Heap) (locs : List Loc) (ls : Array Slot), decode prog_3_method_7_code pc = .ok (.ireturn, 1) → (r.2 = 0 ∨ r.2 = 1) → va_P D cls (cw ad cc N r.1) H → va_D A (cw ad cc N r.1) → va_S A s.heap H locs → W p l e ({ frames := 2, cells := 0, slots := 0, locals := 48 }) s m args below meth c H locs 0 0 Q (F0 m pc ls [.int r.2])) : ∀ (H : Heap) (locs : List Loc) (ls : Array Slot), va_P D cls (cw ad cc N S) H → va_D A (cw ad cc N S) → va_S A s.heap H locs → lv_has ls 5 [(0, .ref (ad 1 x0)), (1, .int x1), (2, .int x2), (3, .int x3)] → W p l e ({ frames := 2, cells := 0, slots := 0, locals := 48 }) s m args below meth c H locs 0 0 Q (F0 m 12 ls []) := by
  intro H locs ls hP hD hS hl
  obtain ⟨hx, hb, hr, hml, hown, hts, hK, hA, hev, hE, hN, hNS⟩ := id hC
  unfold m_cRd_isNewKey_B12 at Heq
  refine lv_iload_n hx hb d_cRd_isNewKey_12 rfl (lv_at hl 3 rfl) ?_
  refine lv_aload_n hx hb d_cRd_isNewKey_13 rfl (lv_at hl 0 rfl) ?_
  obtain ⟨hl_x0_1, Heq⟩ := gl_some Heq
  refine va_get (D := D) (ci := 1) (v := .int (S.i 1 3 x0)) (C := R_Rd) (T := F_Rd) (N := 10) hx hb hts i_Rd hown hK hP (cPos N 1 x0) (cw_obj (k := 1) (by decide) hl_x0_1) rfl 3 (by decide) (hts _ kw_347) (fun _ h9 => h9) rfl d_cRd_isNewKey_14 ?_
  refine lv_icmp_ge (tgt := 74) hx hb d_cRd_isNewKey_17 (by decide) (fun c_1 => ?_) (fun c_1 => ?_)
  · replace Heq := (if_pos c_1).symm.trans Heq
    exact K0 _ (Option.some.inj Heq).symm _ _ _ hP hD hS (lv_sub hl [0, 2] rfl)
  · replace Heq := (if_neg c_1).symm.trans Heq
    refine lv_aload_n hx hb d_cRd_isNewKey_20 rfl (lv_at hl 0 rfl) ?_
    refine va_get (D := D) (ci := 1) (v := rv ad 18 (S.r 1 0 x0)) (C := R_Rd) (T := F_Rd) (N := 10) hx hb hts i_Rd hown hK hP (cPos N 1 x0) (cw_obj (k := 1) (by decide) hl_x0_1) rfl 0 (by decide) (hts _ kw_342) (fun _ h9 => h9) rfl d_cRd_isNewKey_21 ?_
    refine lv_iload_n hx hb d_cRd_isNewKey_24 rfl (lv_at hl 3 rfl) ?_
    obtain ⟨j_2, hj_3, hl_4, Heq⟩ := gn_some Heq
    refine w_s (st' := [.int x3, .ref (ad 18 j_2)]) (congrArg (fun z9 : Option Nat => [.int x3, rv ad 18 z9]) hj_3) ?_
    obtain ⟨hi_5, Heq⟩ := gd_some Heq
    refine va_aldq hx hb hK hP (cPos N 18 j_2) 6 (cw_refs (k := 18) (by decide) hl_4) rfl (i := x3) hi_5 d_cRd_isNewKey_25 ?_
    refine w_v (y := rv ad 9 (S.q 18 j_2 x3.toNatClampNeg)) rfl ?_
    refine tx_astore (x := (S.q 18 j_2 x3.toNatClampNeg).map (ad 9)) (lv' := [(4, rv ad 9 (S.q 18 j_2 x3.toNatClampNeg)), (0, .ref (ad 1 x0)), (1, .int x1), (2, .int x2), (3, .int x3)]) hx hb d_cRd_isNewKey_26 hl (by decide) rfl (fun ls hl => ?_)
    refine tx_aload (x := (S.q 18 j_2 x3.toNatClampNeg).map (ad 9)) hx hb d_cRd_isNewKey_28 (lv_at hl 0 rfl) ?_
    refine w_v (y := rv ad 9 (S.q 18 j_2 x3.toNatClampNeg)) rfl ?_
    obtain ⟨j_6, hj_7, hl_8, Heq⟩ := gn_some Heq
    refine w_s (st' := [.ref (ad 9 j_6)]) (congrArg (fun z9 : Option Nat => [rv ad 9 z9]) hj_7) ?_
    refine va_get (D := D) (ci := 9) (v := rv ad 9 (S.r 9 2 j_6)) (C := R_Va) (T := F_Va) (N := 10) hx hb hts i_Va hown hK hP (cPos N 9 j_6) (cw_obj (k := 9) (by decide) hl_8) rfl 2 (by decide) (hts _ kw_301) (fun _ h9 => h9) rfl d_cRd_isNewKey_30 ?_
    refine lv_aload_n hx hb d_cRd_isNewKey_33 rfl (lv_at hl 1 rfl) ?_
    refine va_get (D := D) (ci := 1) (v := rv ad 9 (S.r 1 6 x0)) (C := R_Rd) (T := F_Rd) (N := 10) hx hb hts i_Rd hown hK hP (cPos N 1 x0) (cw_obj (k := 1) (by decide) hl_x0_1) rfl 6 (by decide) (hts _ kw_352) (fun _ h9 => h9) rfl d_cRd_isNewKey_34 ?_
    obtain ⟨hv_9, Heq⟩ := gv_some Heq
    obtain ⟨hv_10, Heq⟩ := gv_some Heq
    have ec_11 := rv_eq hD (k := 9) (by decide) (x := (S.r 9 2 j_6)) (y := (S.r 1 6 x0)) hv_9 hv_10
    refine lv_acmp_ne (rx := (S.r 9 2 j_6).map (ad 9)) (ry := (S.r 1 6 x0).map (ad 9)) (tgt := 68) hx hb d_cRd_isNewKey_37 (by decide) (fun c_11 => ?_) (fun c_11 => ?_)
    · replace Heq := (if_neg (fun q9 => c_11 (ec_11.mpr q9))).symm.trans Heq
      exact w_cRd_isNewKey_J68 hC Heq Ka K0 Kr _ _ _ hP hD hS (lv_sub hl [1, 2, 3, 4] rfl)
    · replace Heq := (if_pos (ec_11.mp c_11)).symm.trans Heq
      refine lv_aload_n hx hb d_cRd_isNewKey_40 rfl (lv_at hl 1 rfl) ?_
      refine va_get (D := D) (ci := 1) (v := rv ad 5 (S.r 1 1 x0)) (C := R_Rd) (T := F_Rd) (N := 10) hx hb hts i_Rd hown hK hP (cPos N 1 x0) (cw_obj (k := 1) (by decide) hl_x0_1) rfl 1 (by decide) (hts _ kw_344) (fun _ h9 => h9) rfl d_cRd_isNewKey_41 ?_
      refine tx_aload (x := (S.q 18 j_2 x3.toNatClampNeg).map (ad 9)) hx hb d_cRd_isNewKey_44 (lv_at hl 0 rfl) ?_
      refine w_v (y := rv ad 9 (S.q 18 j_2 x3.toNatClampNeg)) rfl ?_
      refine w_s (st' := [.ref (ad 9 j_6), rv ad 5 (S.r 1 1 x0)]) (congrArg (fun z9 : Option Nat => [rv ad 9 z9, rv ad 5 (S.r 1 1 x0)]) hj_7) ?_
      refine va_get (D := D) (ci := 9) (v := .int (S.i 9 3 j_6)) (C := R_Va) (T := F_Va) (N := 10) hx hb hts i_Va hown hK hP (cPos N 9 j_6) (cw_obj (k := 9) (by decide) hl_8) rfl 3 (by decide) (hts _ kw_304) (fun _ h9 => h9) rfl d_cRd_isNewKey_46 ?_
      refine tx_aload (x := (S.q 18 j_2 x3.toNatClampNeg).map (ad 9)) hx hb d_cRd_isNewKey_49 (lv_at hl 0 rfl) ?_
      refine w_v (y := rv ad 9 (S.q 18 j_2 x3.toNatClampNeg)) rfl ?_
      refine w_s (st' := [.ref (ad 9 j_6), .int (S.i 9 3 j_6), rv ad 5 (S.r 1 1 x0)]) (congrArg (fun z9 : Option Nat => [rv ad 9 z9, .int (S.i 9 3 j_6), rv ad 5 (S.r 1 1 x0)]) hj_7) ?_
      refine va_get (D := D) (ci := 9) (v := .int (S.i 9 4 j_6)) (C := R_Va) (T := F_Va) (N := 10) hx hb hts i_Va hown hK hP (cPos N 9 j_6) (cw_obj (k := 9) (by decide) hl_8) rfl 4 (by decide) (hts _ kw_307) (fun _ h9 => h9) rfl d_cRd_isNewKey_51 ?_
      refine lv_aload_n hx hb d_cRd_isNewKey_54 rfl (lv_at hl 1 rfl) ?_
      refine va_get (D := D) (ci := 1) (v := rv ad 5 (S.r 1 1 x0)) (C := R_Rd) (T := F_Rd) (N := 10) hx hb hts i_Rd hown hK hP (cPos N 1 x0) (cw_obj (k := 1) (by decide) hl_x0_1) rfl 1 (by decide) (hts _ kw_344) (fun _ h9 => h9) rfl d_cRd_isNewKey_55 ?_
      refine lv_iload_n hx hb d_cRd_isNewKey_58 rfl (lv_at hl 2 rfl) ?_
      refine lv_iload_n hx hb d_cRd_isNewKey_59 rfl (lv_at hl 3 rfl) ?_
      obtain ⟨j_12, hj_13, hl_14, Heq⟩ := gn_some Heq
      refine w_s (st' := [.int x2, .int x1, .ref (ad 5 j_12), .int (S.i 9 4 j_6), .int (S.i 9 3 j_6), rv ad 5 (S.r 1 1 x0)]) (congrArg (fun z9 : Option Nat => [.int x2, .int x1, rv ad 5 z9, .int (S.i 9 4 j_6), .int (S.i 9 3 j_6), rv ad 5 (S.r 1 1 x0)]) hj_13) ?_
      refine w_s (st' := [.int x2, .int x1, .ref (ad 5 j_12), .int (S.i 9 4 j_6), .int (S.i 9 3 j_6), .ref (ad 5 j_12)]) (congrArg (fun z9 : Option Nat => [.int x2, .int x1, .ref (ad 5 j_12), .int (S.i 9 4 j_6), .int (S.i 9 3 j_6), rv ad 5 z9]) hj_13) ?_
      obtain ⟨o_15, h_16, Heq⟩ := ob_some Heq
      have hFc := fr_all hD hS hA
      refine va_calli (va_runV (As := [.int (S.i 9 3 j_6), .int (S.i 9 4 j_6), .ref (ad 5 j_12), .int x1, .int x2]) (rest := []) ⟨hx, hb, hml, hown, hts⟩ (g_cRw_compareWith l D H.size (ad := ad) (cc := cc) (sad := sad) (sav := sav) h_16) (cw_v 5 hts kw_685 kw_979 kw_683 kw_684 kw_4 rfl rfl (by decide +kernel) ⟨Nat.le_of_ble_eq_true rfl, Nat.le_of_ble_eq_true rfl⟩) ⟨c_blind, va_recv hK hP (ci := 5) (q0 := cPos N 5 j_12) rfl (cw_obj (k := 5) (by decide) hl_14), fun U hU hW => c_pre hU hW hP hK hD hev hE hN hNS hS hFc⟩ rfl rfl hl.1 rfl (lv_room (Nat.le_of_ble_eq_true rfl)) d_cRd_isNewKey_60 ⟨Nat.le_of_ble_eq_true rfl, Nat.le_of_ble_eq_true rfl⟩) hS (fun q _ h => hFc q h) hFc (fun rz u t H1 locs ht hvm hw hB hz1 hk1 hS => ?_)
      obtain ⟨hP, -, hD1⟩ := hB
      rw [ht] at hP
      have hD := hD1.weaken (fun _ q _ h => hFc q.1 h)
      generalize H1 = H at hP hS ⊢
      refine W.cs (cells' := 0) (slots' := 0) rfl rfl ?_
      subst hw
      refine lv_if_ne (tgt := 68) hx hb d_cRd_isNewKey_63 (by decide) (fun c_17 => ?_) (fun c_17 => ?_)
      · replace Heq := (if_neg c_17).symm.trans Heq
        exact w_cRd_isNewKey_J68 hC Heq Ka K0 Kr _ _ _ hP hD hS (lv_sub hl [1, 2, 3, 4] rfl)
      · replace Heq := (if_pos c_17).symm.trans Heq
        refine lv_iconst (v := 0) hx hb d_cRd_isNewKey_66 (by decide) ?_
        exact Kr _ (Option.some.inj Heq).symm 67 _ _ _ d_cRd_isNewKey_67 (Or.inl rfl) hP hD hS
def m_cRd_isNewKey_L12 (N : Nat → Nat) (x0 : Nat) (S : CS) (x1 : Int32) (x2 : Int32) (x3 : Int32) : Option ((CS × Int32) ⊕ (CS × Int32)) := lp (fun a : CS × Int32 × Int32 × Int32 => m_cRd_isNewKey_B12 N x0 a.1 a.2.1 a.2.2.1 a.2.2.2) FU (S, x1, x2, x3)
theorem w_cRd_isNewKey_L12 {p : Program} {l : Launch} {e : Env} {s : State} {m : MethodId} {args : Array Value} {below : List Frame} {meth : Method} {c : Code} {A : Nat → Prop} {D : va_G} {ad : Nat → Nat → Nat} {cc : Nat → ClassId} {sad sav : Nat → Nat} {Q : State → Prop} (hC : MCc sad sav "JoinedTrees$JsonReader" prog_3_method_7_code 5 (some .boolean) p s m args meth c A D cc) {N : Nat → Nat} {x0 : Nat} {S : CS} {x1 : Int32} {x2 : Int32} {x3 : Int32} {o : ((CS × Int32) ⊕ (CS × Int32))} (Heq : m_cRd_isNewKey_L12 N x0 S x1 x2 x3 = some o) (K0 : ∀ b : CS × Int32, o = (.inl b) → ∀ (H : Heap) (locs : List Loc) (ls : Array Slot), va_P D cls (cw ad cc N b.1) H → va_D A (cw ad cc N b.1) → va_S A s.heap H locs → lv_has ls 5 [(0, .ref (ad 1 x0)), (2, .int b.2)] → W p l e ({ frames := 2, cells := 0, slots := 0, locals := 48 }) s m args below meth c H locs 0 0 Q (F0 m 74 ls [])) (Kr : ∀ r : CS × Int32, o = (.inr r) → ∀ (pc : Nat) (H : Heap) (locs : List Loc) (ls : Array Slot), decode prog_3_method_7_code pc = .ok (.ireturn, 1) → (r.2 = 0 ∨ r.2 = 1) → va_P D cls (cw ad cc N r.1) H → va_D A (cw ad cc N r.1) → va_S A s.heap H locs → W p l e ({ frames := 2, cells := 0, slots := 0, locals := 48 }) s m args below meth c H locs 0 0 Q (F0 m pc ls [.int r.2])) : ∀ (H : Heap) (locs : List Loc) (ls : Array Slot), va_P D cls (cw ad cc N S) H → va_D A (cw ad cc N S) → va_S A s.heap H locs → lv_has ls 5 [(0, .ref (ad 1 x0)), (1, .int x1), (2, .int x2), (3, .int x3)] → W p l e ({ frames := 2, cells := 0, slots := 0, locals := 48 }) s m args below meth c H locs 0 0 Q (F0 m 12 ls []) := by
  refine lp_w (G := fun a : CS × Int32 × Int32 × Int32 => ∀ (H : Heap) (locs : List Loc) (ls : Array Slot), va_P D cls (cw ad cc N a.1) H → va_D A (cw ad cc N a.1) → va_S A s.heap H locs → lv_has ls 5 [(0, .ref (ad 1 x0)), (1, .int a.2.1), (2, .int a.2.2.1), (3, .int a.2.2.2)] → W p l e ({ frames := 2, cells := 0, slots := 0, locals := 48 }) s m args below meth c H locs 0 0 Q (F0 m 12 ls [])) ?_ FU (S, x1, x2, x3) Heq
  intro a o1 ho Ka Ke
  exact w_cRd_isNewKey_B12 hC ho (fun b h => Ka b h) (fun b h => K0 b (Ke _ h).symm) (fun r h => Kr r (Ke _ h).symm)
def m_cRd_isNewKey_J83 (N : Nat → Nat) (x0 : Nat) (S : CS) (t0 : Int32) : Option (CS × Int32) := (if t0 = 0 ∨ t0 = 1 then some (S, t0) else none)
theorem d_cRd_isNewKey_74 : decode prog_3_method_7_code 74 = .ok (.iload_n 2, 1) := by decide +kernel
theorem d_cRd_isNewKey_75 : decode prog_3_method_7_code 75 = .ok (.ifCond .le 7, 3) := by decide +kernel
theorem d_cRd_isNewKey_82 : decode prog_3_method_7_code 82 = .ok (.iconst 0, 1) := by decide +kernel
theorem d_cRd_isNewKey_83 : decode prog_3_method_7_code 83 = .ok (.ireturn, 1) := by decide +kernel
set_option maxHeartbeats 4000000 in
set_option maxRecDepth 100000 in
theorem w_cRd_isNewKey_J83 {p : Program} {l : Launch} {e : Env} {s : State} {m : MethodId} {args : Array Value} {below : List Frame} {meth : Method} {c : Code} {A : Nat → Prop} {D : va_G} {ad : Nat → Nat → Nat} {cc : Nat → ClassId} {sad sav : Nat → Nat} {Q : State → Prop} (hC : MCc sad sav "JoinedTrees$JsonReader" prog_3_method_7_code 5 (some .boolean) p s m args meth c A D cc) {N : Nat → Nat} {x0 : Nat} {S : CS} {t0 : Int32} {o : CS × Int32} (Heq : m_cRd_isNewKey_J83 N x0 S t0 = some o) (Kr : ∀ r : CS × Int32, o = r → ∀ (pc : Nat) (H : Heap) (locs : List Loc) (ls : Array Slot), decode prog_3_method_7_code pc = .ok (.ireturn, 1) → (r.2 = 0 ∨ r.2 = 1) → va_P D cls (cw ad cc N r.1) H → va_D A (cw ad cc N r.1) → va_S A s.heap H locs → W p l e ({ frames := 2, cells := 0, slots := 0, locals := 48 }) s m args below meth c H locs 0 0 Q (F0 m pc ls [.int r.2])) : ∀ (H : Heap) (locs : List Loc) (ls : Array Slot), va_P D cls (cw ad cc N S) H → va_D A (cw ad cc N S) → va_S A s.heap H locs → lv_has ls 5 [(0, .ref (ad 1 x0))] → W p l e ({ frames := 2, cells := 0, slots := 0, locals := 48 }) s m args below meth c H locs 0 0 Q (F0 m 83 ls [.int t0]) := by
  intro H locs ls hP hD hS hl
  obtain ⟨hx, hb, hr, hml, hown, hts, hK, hA, hev, hE, hN, hNS⟩ := id hC
  unfold m_cRd_isNewKey_J83 at Heq
  by_cases hz_1 : t0 = 0 ∨ t0 = 1
  case neg => rw [if_neg hz_1] at Heq; cases Heq
  replace Heq := (if_pos hz_1).symm.trans Heq
  exact Kr _ (Option.some.inj Heq).symm 83 _ _ _ d_cRd_isNewKey_83 hz_1 hP hD hS
def m_cRd_isNewKey_J0 (N : Nat → Nat) (x0 : Nat) (S : CS) (x1 : Int32) : Option (CS × Int32) := gl x0 (N 1) (gn (S.r 1 1 x0) (N 5) (fun j_1 => oe (m_cRd_isNewKey_L12 N x0 S x1 ((S.i 5 1 j_1) - x1) 0) (fun b_4 => (if b_4.2 ≤ 0 then m_cRd_isNewKey_J83 N x0 b_4.1 0 else m_cRd_isNewKey_J83 N x0 b_4.1 1)) (fun r_6 => some r_6)))
theorem d_cRd_isNewKey_78 : decode prog_3_method_7_code 78 = .ok (.iconst 1, 1) := by decide +kernel
theorem d_cRd_isNewKey_79 : decode prog_3_method_7_code 79 = .ok (.goto 4, 3) := by decide +kernel
set_option maxHeartbeats 4000000 in
set_option maxRecDepth 100000 in
theorem w_cRd_isNewKey_J0 {p : Program} {l : Launch} {e : Env} {s : State} {m : MethodId} {args : Array Value} {below : List Frame} {meth : Method} {c : Code} {A : Nat → Prop} {D : va_G} {ad : Nat → Nat → Nat} {cc : Nat → ClassId} {sad sav : Nat → Nat} {Q : State → Prop} (hC : MCc sad sav "JoinedTrees$JsonReader" prog_3_method_7_code 5 (some .boolean) p s m args meth c A D cc) {N : Nat → Nat} {x0 : Nat} {S : CS} {x1 : Int32} {o : CS × Int32} (Heq : m_cRd_isNewKey_J0 N x0 S x1 = some o) (Kr : ∀ r : CS × Int32, o = r → ∀ (pc : Nat) (H : Heap) (locs : List Loc) (ls : Array Slot), decode prog_3_method_7_code pc = .ok (.ireturn, 1) → (r.2 = 0 ∨ r.2 = 1) → va_P D cls (cw ad cc N r.1) H → va_D A (cw ad cc N r.1) → va_S A s.heap H locs → W p l e ({ frames := 2, cells := 0, slots := 0, locals := 48 }) s m args below meth c H locs 0 0 Q (F0 m pc ls [.int r.2])) : ∀ (H : Heap) (locs : List Loc) (ls : Array Slot), va_P D cls (cw ad cc N S) H → va_D A (cw ad cc N S) → va_S A s.heap H locs → lv_has ls 5 [(0, .ref (ad 1 x0)), (1, .int x1)] → W p l e ({ frames := 2, cells := 0, slots := 0, locals := 48 }) s m args below meth c H locs 0 0 Q (F0 m 0 ls []) := by
  intro H locs ls hP hD hS hl
  obtain ⟨hx, hb, hr, hml, hown, hts, hK, hA, hev, hE, hN, hNS⟩ := id hC
  unfold m_cRd_isNewKey_J0 at Heq
  refine lv_aload_n hx hb d_cRd_isNewKey_0 rfl (lv_at hl 0 rfl) ?_
  obtain ⟨hl_x0_1, Heq⟩ := gl_some Heq
  refine va_get (D := D) (ci := 1) (v := rv ad 5 (S.r 1 1 x0)) (C := R_Rd) (T := F_Rd) (N := 10) hx hb hts i_Rd hown hK hP (cPos N 1 x0) (cw_obj (k := 1) (by decide) hl_x0_1) rfl 1 (by decide) (hts _ kw_344) (fun _ h9 => h9) rfl d_cRd_isNewKey_1 ?_
  obtain ⟨j_1, hj_2, hl_3, Heq⟩ := gn_some Heq
  refine w_s (st' := [.ref (ad 5 j_1)]) (congrArg (fun z9 : Option Nat => [rv ad 5 z9]) hj_2) ?_
  refine va_get (D := D) (ci := 5) (v := .int (S.i 5 1 j_1)) (C := R_Rw) (T := F_Rw) (N := 3) hx hb hts i_Rw hown hK hP (cPos N 5 j_1) (cw_obj (k := 5) (by decide) hl_3) rfl 1 (by decide) (hts _ kw_146) (fun _ h9 => h9) rfl d_cRd_isNewKey_4 ?_
  refine lv_iload_n hx hb d_cRd_isNewKey_7 rfl (lv_at hl 1 rfl) ?_
  refine lv_isub hx hb d_cRd_isNewKey_8 ?_
  refine w_i (y := (S.i 5 1 j_1) - x1) rfl ?_
  refine lv_istore_n (lv' := [(2, .int ((S.i 5 1 j_1) - x1)), (0, .ref (ad 1 x0)), (1, .int x1)]) hx hb d_cRd_isNewKey_9 rfl hl (by decide) rfl (fun ls hl => ?_)
  refine lv_iconst (v := 0) hx hb d_cRd_isNewKey_10 (by decide) ?_
  refine lv_istore_n (lv' := [(3, .int 0), (2, .int ((S.i 5 1 j_1) - x1)), (0, .ref (ad 1 x0)), (1, .int x1)]) hx hb d_cRd_isNewKey_11 rfl hl (by decide) rfl (fun ls hl => ?_)
  rcases oe_some Heq with ⟨b_4, h_5, Heq⟩ | ⟨r_6, h_5, Heq⟩
  · refine w_cRd_isNewKey_L12 hC h_5 (fun b h => ?_) (fun r h => by cases h) _ _ _ hP hD hS (lv_sub hl [2, 3, 1, 0] rfl)
    cases h
    intro H locs ls hP hD hS hl
    refine lv_iload_n hx hb d_cRd_isNewKey_74 rfl (lv_at hl 1 rfl) ?_
    refine lv_if_le (tgt := 82) hx hb d_cRd_isNewKey_75 (by decide) (fun c_7 => ?_) (fun c_7 => ?_)
    · replace Heq := (if_pos c_7).symm.trans Heq
      refine lv_iconst (v := 0) hx hb d_cRd_isNewKey_82 (by decide) ?_
      exact w_cRd_isNewKey_J83 hC Heq Kr _ _ _ hP hD hS (lv_sub hl [0] rfl)
    · replace Heq := (if_neg c_7).symm.trans Heq
      refine lv_iconst (v := 1) hx hb d_cRd_isNewKey_78 (by decide) ?_
      refine lv_goto (tgt := 83) hx hb d_cRd_isNewKey_79 (by decide) ?_
      exact w_cRd_isNewKey_J83 hC Heq Kr _ _ _ hP hD hS (lv_sub hl [0] rfl)
  · refine w_cRd_isNewKey_L12 hC h_5 (fun b h => by cases h) (fun r h => ?_) _ _ _ hP hD hS (lv_sub hl [2, 3, 1, 0] rfl)
    cases h
    exact Kr _ (Option.some.inj Heq).symm
def m_cRd_isNewKey (N : Nat → Nat) (x0 : Nat) (S : CS) (x1 : Int32) : Option (CS × Int32) := m_cRd_isNewKey_J0 N x0 S x1
set_option maxHeartbeats 4000000 in
theorem g_cRd_isNewKey (l : Launch) (D : va_G) (sz : Nat) {ad : Nat → Nat → Nat} {cc : Nat → ClassId} {sad sav : Nat → Nat} {N : Nat → Nat} {x0 : Nat} {S : CS} {x1 : Int32} {o : CS × Int32} (Heq : m_cRd_isNewKey N x0 S x1 = some o) : Met l ⟨"JoinedTrees$JsonReader", "isNewKey", "(I)Z"⟩ (Cond.code ⟨"JoinedTrees$JsonReader", "isNewKey", "(I)Z"⟩ prog_3_method_7_code 5 (some .boolean) :: gb) ({ frames := 2, cells := 0, slots := 0, locals := 48 }) (cPc sad sav D (cw ad cc N S) (cty cc) sz [.ref (ad 1 x0), .int x1]) (va_Qi (fun (r : Int32) (_ : Unit) => r = o.2) (fun _ t => gO D (cw ad cc N o.1) (cty cc) (va_A (cw ad cc N S) sz) t) (va_A (cw ad cc N S) sz)) 0 0 (va_A (cw ad cc N S) sz) := by
  refine Met.ofW (cc := prog_3_method_7_code) (maxL := 5) (ret := (some .boolean)) (by decide) rfl ?_
  intro p e s m args below meth c s₁ B hml hv
  obtain ⟨rfl, hsz, hP, hK, hD0, hev, hE, hN⟩ := hv
  have hx := B.exec
  have hb := B.bytes
  have hr := B.returns
  have hts : ∀ w9 ∈ gb, w9.before [.ref (ad 1 x0), .int x1].toArray s = true := fun w9 h => atoms_spec (ws := Cond.code ⟨"JoinedTrees$JsonReader", "isNewKey", "(I)Z"⟩ prog_3_method_7_code 5 (some .boolean) :: gb) B.pre w9 (List.mem_cons_of_mem _ h)
  have hown : s.vm.findClass "JoinedTrees$JsonReader" = some m.cls := findClass_of_methodNamed B.named
  have hlocks := B.notSynchronized
  have hNS := ns_of hP
  subst hsz
  have hD := hD0.self (sz := s.heap.size)
  generalize hAe : va_A (cw ad cc N S) s.heap.size = A at hD hev hE hNS ⊢
  have hA : ∀ q : Nat, s.heap.size ≤ q → A q := fun q h => by rw [← hAe]; exact Or.inr h
  have hS : va_S A s.heap s.heap [] := va_S.rf
  obtain ⟨ls, hl, hle⟩ : ∃ ls : Array Slot, lv_has ls 5 [(0, .ref (ad 1 x0)), (1, .int x1)] ∧ entryFrame m ([.ref (ad 1 x0), .int x1] : List Value).toArray 5 = F0 m 0 ls [] := by
    exact ⟨_, lv_entry (n := 5) _ (Nat.le_of_ble_eq_true rfl), lg_entry_eq ..⟩
  rw [hle]
  refine w_cRd_isNewKey_J0 ⟨hx, hb, hr, hml, hown, hts, hK, hA, hev, hE, hN, hNS⟩ Heq (fun r h pc H locs ls hd hz hP hD hS => ?_) _ _ _ hP hD hS (lv_sub hl [0, 1] rfl)
  subst h
  exact W.zret (ty := .boolean) hx hb hr (by rcases hz with hz | hz <;> rw [hz] <;> rfl) (fun t ht hW => ⟨⟨_, (), rfl, rfl, by rw [ht]; exact hP, va_K.moved hW.alike hK, hD⟩, hS.F ht⟩) hS.2.2 hd
def m_cRd_readKey_J41 (N : Nat → Nat) (x0 : Nat) (S : CS) : Option (CS × Int32) := some (S, 0)
theorem d_cRd_readKey_0 : decode prog_3_method_6_code 0 = .ok (.aload_n 0, 1) := by decide +kernel
theorem d_cRd_readKey_1 : decode prog_3_method_6_code 1 = .ok (.getfield 22, 3) := by decide +kernel
theorem d_cRd_readKey_4 : decode prog_3_method_6_code 4 = .ok (.getfield 67, 3) := by decide +kernel
theorem d_cRd_readKey_7 : decode prog_3_method_6_code 7 = .ok (.istore_n 1, 1) := by decide +kernel
theorem d_cRd_readKey_8 : decode prog_3_method_6_code 8 = .ok (.aload_n 0, 1) := by decide +kernel
theorem d_cRd_readKey_9 : decode prog_3_method_6_code 9 = .ok (.getfield 27, 3) := by decide +kernel
theorem d_cRd_readKey_12 : decode prog_3_method_6_code 12 = .ok (.aload_n 0, 1) := by decide +kernel
theorem d_cRd_readKey_13 : decode prog_3_method_6_code 13 = .ok (.getfield 34, 3) := by decide +kernel
theorem d_cRd_readKey_16 : decode prog_3_method_6_code 16 = .ok (.invokevirtual 70, 3) := by decide +kernel
theorem d_cRd_readKey_19 : decode prog_3_method_6_code 19 = .ok (.bipush 34, 2) := by decide +kernel
theorem d_cRd_readKey_21 : decode prog_3_method_6_code 21 = .ok (.if_icmp .ne 20, 3) := by decide +kernel
theorem d_cRd_readKey_41 : decode prog_3_method_6_code 41 = .ok (.iconst 0, 1) := by decide +kernel
theorem d_cRd_readKey_42 : decode prog_3_method_6_code 42 = .ok (.ireturn, 1) := by decide +kernel
set_option maxHeartbeats 4000000 in
set_option maxRecDepth 100000 in
theorem w_cRd_readKey_J41 {p : Program} {l : Launch} {e : Env} {s : State} {m : MethodId} {args : Array Value} {below : List Frame} {meth : Method} {c : Code} {A : Nat → Prop} {D : va_G} {ad : Nat → Nat → Nat} {cc : Nat → ClassId} {sad sav : Nat → Nat} {Q : State → Prop} (hC : MCc sad sav "JoinedTrees$JsonReader" prog_3_method_6_code 2 (some .boolean) p s m args meth c A D cc) {N : Nat → Nat} {x0 : Nat} {S : CS} {o : CS × Int32} (Heq : m_cRd_readKey_J41 N x0 S = some o) (Kr : ∀ r : CS × Int32, o = r → ∀ (pc : Nat) (H : Heap) (locs : List Loc) (ls : Array Slot), decode prog_3_method_6_code pc = .ok (.ireturn, 1) → (r.2 = 0 ∨ r.2 = 1) → va_P D cls (cw ad cc N r.1) H → va_D A (cw ad cc N r.1) → va_S A s.heap H locs → W p l e ({ frames := 3, cells := 0, slots := 0, locals := 72 }) s m args below meth c H locs 0 0 Q (F0 m pc ls [.int r.2])) : ∀ (H : Heap) (locs : List Loc) (ls : Array Slot), va_P D cls (cw ad cc N S) H → va_D A (cw ad cc N S) → va_S A s.heap H locs → lv_has ls 2 [(0, .ref (ad 1 x0))] → W p l e ({ frames := 3, cells := 0, slots := 0, locals := 72 }) s m args below meth c H locs 0 0 Q (F0 m 41 ls []) := by
  intro H locs ls hP hD hS hl
  obtain ⟨hx, hb, hr, hml, hown, hts, hK, hA, hev, hE, hN, hNS⟩ := id hC
  unfold m_cRd_readKey_J41 at Heq
  refine lv_iconst (v := 0) hx hb d_cRd_readKey_41 (by decide) ?_
  exact Kr _ (Option.some.inj Heq).symm 42 _ _ _ d_cRd_readKey_42 (Or.inl rfl) hP hD hS
def m_cRd_readKey_J0 (N : Nat → Nat) (x0 : Nat) (S : CS) : Option (CS × Int32) := gl x0 (N 1) (gn (S.r 1 1 x0) (N 5) (fun j_1 => gn (S.r 1 2 x0) (N 5) (fun j_4 => ob (m_cRw_at N j_4 S (S.i 1 4 x0)) (fun o_7 => (if o_7.2 = 34 then ob (m_cRd_readString N x0 o_7.1 64) (fun o_10 => (if o_10.2 = 0 then m_cRd_readKey_J41 N x0 o_10.1 else ob (m_cRd_isNewKey N x0 o_10.1 (S.i 5 1 j_1)) (fun o_13 => (if o_13.2 = 0 then m_cRd_readKey_J41 N x0 o_13.1 else gn (o_13.1.r 1 1 x0) (N 5) (fun j_16 => ob (m_cRd_skipBlanks N x0 (((o_13.1.setI 1 8 x0 (S.i 5 1 j_1)).setI 1 9 x0 ((o_13.1.i 5 1 j_16) - (S.i 5 1 j_1))).setI 1 4 x0 ((o_13.1.i 1 4 x0) + 1))) (fun o_19 => gn (o_19.r 1 2 x0) (N 5) (fun j_21 => ob (m_cRw_at N j_21 o_19 (o_19.i 1 4 x0)) (fun o_24 => (if o_24.2 = 58 then ob (m_cRd_skipBlanks N x0 (o_24.1.setI 1 4 x0 ((o_24.1.i 1 4 x0) + 1))) (fun o_27 => some (o_27, 1)) else some (o_24.1, 0)))))))))) else m_cRd_readKey_J41 N x0 o_7.1)))))
theorem d_cRd_readKey_24 : decode prog_3_method_6_code 24 = .ok (.aload_n 0, 1) := by decide +kernel
theorem d_cRd_readKey_25 : decode prog_3_method_6_code 25 = .ok (.bipush 64, 2) := by decide +kernel
theorem d_cRd_readKey_27 : decode prog_3_method_6_code 27 = .ok (.invokevirtual 89, 3) := by decide +kernel
theorem d_cRd_readKey_30 : decode prog_3_method_6_code 30 = .ok (.ifCond .eq 11, 3) := by decide +kernel
theorem d_cRd_readKey_33 : decode prog_3_method_6_code 33 = .ok (.aload_n 0, 1) := by decide +kernel
theorem d_cRd_readKey_34 : decode prog_3_method_6_code 34 = .ok (.iload_n 1, 1) := by decide +kernel
theorem d_cRd_readKey_35 : decode prog_3_method_6_code 35 = .ok (.invokevirtual 92, 3) := by decide +kernel
theorem d_cRd_readKey_38 : decode prog_3_method_6_code 38 = .ok (.ifCond .ne 5, 3) := by decide +kernel
theorem d_cRd_readKey_43 : decode prog_3_method_6_code 43 = .ok (.aload_n 0, 1) := by decide +kernel
theorem d_cRd_readKey_44 : decode prog_3_method_6_code 44 = .ok (.iload_n 1, 1) := by decide +kernel
theorem d_cRd_readKey_45 : decode prog_3_method_6_code 45 = .ok (.putfield 44, 3) := by decide +kernel
theorem d_cRd_readKey_48 : decode prog_3_method_6_code 48 = .ok (.aload_n 0, 1) := by decide +kernel
theorem d_cRd_readKey_49 : decode prog_3_method_6_code 49 = .ok (.aload_n 0, 1) := by decide +kernel
theorem d_cRd_readKey_50 : decode prog_3_method_6_code 50 = .ok (.getfield 22, 3) := by decide +kernel
theorem d_cRd_readKey_53 : decode prog_3_method_6_code 53 = .ok (.getfield 67, 3) := by decide +kernel
theorem d_cRd_readKey_56 : decode prog_3_method_6_code 56 = .ok (.iload_n 1, 1) := by decide +kernel
theorem d_cRd_readKey_57 : decode prog_3_method_6_code 57 = .ok (.isub, 1) := by decide +kernel
theorem d_cRd_readKey_58 : decode prog_3_method_6_code 58 = .ok (.putfield 47, 3) := by decide +kernel
theorem d_cRd_readKey_61 : decode prog_3_method_6_code 61 = .ok (.aload_n 0, 1) := by decide +kernel
theorem d_cRd_readKey_62 : decode prog_3_method_6_code 62 = .ok (.dup, 1) := by decide +kernel
theorem d_cRd_readKey_63 : decode prog_3_method_6_code 63 = .ok (.getfield 34, 3) := by decide +kernel
theorem d_cRd_readKey_66 : decode prog_3_method_6_code 66 = .ok (.iconst 1, 1) := by decide +kernel
theorem d_cRd_readKey_67 : decode prog_3_method_6_code 67 = .ok (.iadd, 1) := by decide +kernel
theorem d_cRd_readKey_68 : decode prog_3_method_6_code 68 = .ok (.putfield 34, 3) := by decide +kernel
theorem d_cRd_readKey_71 : decode prog_3_method_6_code 71 = .ok (.aload_n 0, 1) := by decide +kernel
theorem d_cRd_readKey_72 : decode prog_3_method_6_code 72 = .ok (.invokevirtual 53, 3) := by decide +kernel
theorem d_cRd_readKey_75 : decode prog_3_method_6_code 75 = .ok (.aload_n 0, 1) := by decide +kernel
theorem d_cRd_readKey_76 : decode prog_3_method_6_code 76 = .ok (.getfield 27, 3) := by decide +kernel
theorem d_cRd_readKey_79 : decode prog_3_method_6_code 79 = .ok (.aload_n 0, 1) := by decide +kernel
theorem d_cRd_readKey_80 : decode prog_3_method_6_code 80 = .ok (.getfield 34, 3) := by decide +kernel
theorem d_cRd_readKey_83 : decode prog_3_method_6_code 83 = .ok (.invokevirtual 70, 3) := by decide +kernel
theorem d_cRd_readKey_86 : decode prog_3_method_6_code 86 = .ok (.bipush 58, 2) := by decide +kernel
theorem d_cRd_readKey_88 : decode prog_3_method_6_code 88 = .ok (.if_icmp .eq 5, 3) := by decide +kernel
theorem d_cRd_readKey_93 : decode prog_3_method_6_code 93 = .ok (.aload_n 0, 1) := by decide +kernel
theorem d_cRd_readKey_94 : decode prog_3_method_6_code 94 = .ok (.dup, 1) := by decide +kernel
theorem d_cRd_readKey_95 : decode prog_3_method_6_code 95 = .ok (.getfield 34, 3) := by decide +kernel
theorem d_cRd_readKey_98 : decode prog_3_method_6_code 98 = .ok (.iconst 1, 1) := by decide +kernel
theorem d_cRd_readKey_99 : decode prog_3_method_6_code 99 = .ok (.iadd, 1) := by decide +kernel
theorem d_cRd_readKey_100 : decode prog_3_method_6_code 100 = .ok (.putfield 34, 3) := by decide +kernel
theorem d_cRd_readKey_103 : decode prog_3_method_6_code 103 = .ok (.aload_n 0, 1) := by decide +kernel
theorem d_cRd_readKey_104 : decode prog_3_method_6_code 104 = .ok (.invokevirtual 53, 3) := by decide +kernel
theorem d_cRd_readKey_107 : decode prog_3_method_6_code 107 = .ok (.iconst 1, 1) := by decide +kernel
theorem d_cRd_readKey_108 : decode prog_3_method_6_code 108 = .ok (.ireturn, 1) := by decide +kernel
theorem d_cRd_readKey_91 : decode prog_3_method_6_code 91 = .ok (.iconst 0, 1) := by decide +kernel
theorem d_cRd_readKey_92 : decode prog_3_method_6_code 92 = .ok (.ireturn, 1) := by decide +kernel
set_option maxHeartbeats 4000000 in
set_option maxRecDepth 100000 in
theorem w_cRd_readKey_J0 {p : Program} {l : Launch} {e : Env} {s : State} {m : MethodId} {args : Array Value} {below : List Frame} {meth : Method} {c : Code} {A : Nat → Prop} {D : va_G} {ad : Nat → Nat → Nat} {cc : Nat → ClassId} {sad sav : Nat → Nat} {Q : State → Prop} (hC : MCc sad sav "JoinedTrees$JsonReader" prog_3_method_6_code 2 (some .boolean) p s m args meth c A D cc) {N : Nat → Nat} {x0 : Nat} {S : CS} {o : CS × Int32} (Heq : m_cRd_readKey_J0 N x0 S = some o) (Kr : ∀ r : CS × Int32, o = r → ∀ (pc : Nat) (H : Heap) (locs : List Loc) (ls : Array Slot), decode prog_3_method_6_code pc = .ok (.ireturn, 1) → (r.2 = 0 ∨ r.2 = 1) → va_P D cls (cw ad cc N r.1) H → va_D A (cw ad cc N r.1) → va_S A s.heap H locs → W p l e ({ frames := 3, cells := 0, slots := 0, locals := 72 }) s m args below meth c H locs 0 0 Q (F0 m pc ls [.int r.2])) : ∀ (H : Heap) (locs : List Loc) (ls : Array Slot), va_P D cls (cw ad cc N S) H → va_D A (cw ad cc N S) → va_S A s.heap H locs → lv_has ls 2 [(0, .ref (ad 1 x0))] → W p l e ({ frames := 3, cells := 0, slots := 0, locals := 72 }) s m args below meth c H locs 0 0 Q (F0 m 0 ls []) := by
  intro H locs ls hP hD hS hl
  obtain ⟨hx, hb, hr, hml, hown, hts, hK, hA, hev, hE, hN, hNS⟩ := id hC
  unfold m_cRd_readKey_J0 at Heq
  refine lv_aload_n hx hb d_cRd_readKey_0 rfl (lv_at hl 0 rfl) ?_
  obtain ⟨hl_x0_1, Heq⟩ := gl_some Heq
  refine va_get (D := D) (ci := 1) (v := rv ad 5 (S.r 1 1 x0)) (C := R_Rd) (T := F_Rd) (N := 10) hx hb hts i_Rd hown hK hP (cPos N 1 x0) (cw_obj (k := 1) (by decide) hl_x0_1) rfl 1 (by decide) (hts _ kw_344) (fun _ h9 => h9) rfl d_cRd_readKey_1 ?_
  obtain ⟨j_1, hj_2, hl_3, Heq⟩ := gn_some Heq
  refine w_s (st' := [.ref (ad 5 j_1)]) (congrArg (fun z9 : Option Nat => [rv ad 5 z9]) hj_2) ?_
  refine va_get (D := D) (ci := 5) (v := .int (S.i 5 1 j_1)) (C := R_Rw) (T := F_Rw) (N := 3) hx hb hts i_Rw hown hK hP (cPos N 5 j_1) (cw_obj (k := 5) (by decide) hl_3) rfl 1 (by decide) (hts _ kw_146) (fun _ h9 => h9) rfl d_cRd_readKey_4 ?_
  refine lv_istore_n (lv' := [(1, .int (S.i 5 1 j_1)), (0, .ref (ad 1 x0))]) hx hb d_cRd_readKey_7 rfl hl (by decide) rfl (fun ls hl => ?_)
  refine lv_aload_n hx hb d_cRd_readKey_8 rfl (lv_at hl 1 rfl) ?_
  refine va_get (D := D) (ci := 1) (v := rv ad 5 (S.r 1 2 x0)) (C := R_Rd) (T := F_Rd) (N := 10) hx hb hts i_Rd hown hK hP (cPos N 1 x0) (cw_obj (k := 1) (by decide) hl_x0_1) rfl 2 (by decide) (hts _ kw_346) (fun _ h9 => h9) rfl d_cRd_readKey_9 ?_
  refine lv_aload_n hx hb d_cRd_readKey_12 rfl (lv_at hl 1 rfl) ?_
  refine va_get (D := D) (ci := 1) (v := .int (S.i 1 4 x0)) (C := R_Rd) (T := F_Rd) (N := 10) hx hb hts i_Rd hown hK hP (cPos N 1 x0) (cw_obj (k := 1) (by decide) hl_x0_1) rfl 4 (by decide) (hts _ kw_349) (fun _ h9 => h9) rfl d_cRd_readKey_13 ?_
  obtain ⟨j_4, hj_5, hl_6, Heq⟩ := gn_some Heq
  refine w_s (st' := [.int (S.i 1 4 x0), .ref (ad 5 j_4)]) (congrArg (fun z9 : Option Nat => [.int (S.i 1 4 x0), rv ad 5 z9]) hj_5) ?_
  obtain ⟨o_7, h_8, Heq⟩ := ob_some Heq
  have hFc := fr_all hD hS hA
  refine va_calli (va_runV (As := [.int (S.i 1 4 x0)]) (rest := []) ⟨hx, hb, hml, hown, hts⟩ (g_cRw_at l D H.size (ad := ad) (cc := cc) (sad := sad) (sav := sav) h_8) (cw_v 1 hts kw_689 kw_871 kw_687 kw_688 kw_4 rfl rfl (by decide +kernel) ⟨Nat.le_of_ble_eq_true rfl, Nat.le_of_ble_eq_true rfl⟩) ⟨c_blind, va_recv hK hP (ci := 5) (q0 := cPos N 5 j_4) rfl (cw_obj (k := 5) (by decide) hl_6), fun U hU hW => c_pre hU hW hP hK hD hev hE hN hNS hS hFc⟩ rfl rfl hl.1 rfl (lv_room (Nat.le_of_ble_eq_true rfl)) d_cRd_readKey_16 ⟨Nat.le_of_ble_eq_true rfl, Nat.le_of_ble_eq_true rfl⟩) hS (fun q _ h => hFc q h) hFc (fun rz u t H1 locs ht hvm hw hB hz1 hk1 hS => ?_)
  obtain ⟨hP, -, hD1⟩ := hB
  rw [ht] at hP
  have hD := hD1.weaken (fun _ q _ h => hFc q.1 h)
  generalize H1 = H at hP hS ⊢
  refine W.cs (cells' := 0) (slots' := 0) rfl rfl ?_
  subst hw
  refine lv_bipush (v := 34) hx hb d_cRd_readKey_19 (by decide) ?_
  refine lv_icmp_ne (tgt := 41) hx hb d_cRd_readKey_21 (by decide) (fun c_9 => ?_) (fun c_9 => ?_)
  · replace Heq := (if_neg c_9).symm.trans Heq
    exact w_cRd_readKey_J41 hC Heq Kr _ _ _ hP hD hS (lv_sub hl [1] rfl)
  · replace Heq := (if_pos c_9).symm.trans Heq
    refine lv_aload_n hx hb d_cRd_readKey_24 rfl (lv_at hl 1 rfl) ?_
    refine lv_bipush (v := 64) hx hb d_cRd_readKey_25 (by decide) ?_
    obtain ⟨o_10, h_11, Heq⟩ := ob_some Heq
    have hFc := fr_all hD hS hA
    refine va_calli (va_runV (As := [.int 64]) (rest := []) ⟨hx, hb, hml, hown, hts⟩ (g_cRd_readString l D H.size (ad := ad) (cc := cc) (sad := sad) (sav := sav) h_11) (cw_v 1 hts kw_894 kw_891 kw_892 kw_893 kw_7 rfl rfl (by decide +kernel) ⟨Nat.le_of_ble_eq_true rfl, Nat.le_of_ble_eq_true rfl⟩) ⟨c_blind, va_recv hK hP (ci := 1) (q0 := cPos N 1 x0) rfl (cw_obj (k := 1) (by decide) hl_x0_1), fun U hU hW => c_pre hU hW hP hK hD hev hE hN hNS hS hFc⟩ rfl rfl hl.1 rfl (lv_room (Nat.le_of_ble_eq_true rfl)) d_cRd_readKey_27 ⟨Nat.le_of_ble_eq_true rfl, Nat.le_of_ble_eq_true rfl⟩) hS (fun q _ h => hFc q h) hFc (fun rz u t H1 locs ht hvm hw hB hz1 hk1 hS => ?_)
    obtain ⟨hP, -, hD1⟩ := hB
    rw [ht] at hP
    have hD := hD1.weaken (fun _ q _ h => hFc q.1 h)
    generalize H1 = H at hP hS ⊢
    refine W.cs (cells' := 0) (slots' := 0) rfl rfl ?_
    subst hw
    refine lv_if_eq (tgt := 41) hx hb d_cRd_readKey_30 (by decide) (fun c_12 => ?_) (fun c_12 => ?_)
    · replace Heq := (if_pos c_12).symm.trans Heq
      exact w_cRd_readKey_J41 hC Heq Kr _ _ _ hP hD hS (lv_sub hl [1] rfl)
    · replace Heq := (if_neg c_12).symm.trans Heq
      refine lv_aload_n hx hb d_cRd_readKey_33 rfl (lv_at hl 1 rfl) ?_
      refine lv_iload_n hx hb d_cRd_readKey_34 rfl (lv_at hl 0 rfl) ?_
      obtain ⟨o_13, h_14, Heq⟩ := ob_some Heq
      have hFc := fr_all hD hS hA
      refine va_calli (va_runV (As := [.int (S.i 5 1 j_1)]) (rest := []) ⟨hx, hb, hml, hown, hts⟩ (g_cRd_isNewKey l D H.size (ad := ad) (cc := cc) (sad := sad) (sav := sav) h_14) (cw_v 1 hts kw_978 kw_975 kw_976 kw_977 kw_7 rfl rfl (by decide +kernel) ⟨Nat.le_of_ble_eq_true rfl, Nat.le_of_ble_eq_true rfl⟩) ⟨c_blind, va_recv hK hP (ci := 1) (q0 := cPos N 1 x0) rfl (cw_obj (k := 1) (by decide) hl_x0_1), fun U hU hW => c_pre hU hW hP hK hD hev hE hN hNS hS hFc⟩ rfl rfl hl.1 rfl (lv_room (Nat.le_of_ble_eq_true rfl)) d_cRd_readKey_35 ⟨Nat.le_of_ble_eq_true rfl, Nat.le_of_ble_eq_true rfl⟩) hS (fun q _ h => hFc q h) hFc (fun rz u t H1 locs ht hvm hw hB hz1 hk1 hS => ?_)
      obtain ⟨hP, -, hD1⟩ := hB
      rw [ht] at hP
      have hD := hD1.weaken (fun _ q _ h => hFc q.1 h)
      generalize H1 = H at hP hS ⊢
      refine W.cs (cells' := 0) (slots' := 0) rfl rfl ?_
      subst hw
      refine lv_if_ne (tgt := 43) hx hb d_cRd_readKey_38 (by decide) (fun c_15 => ?_) (fun c_15 => ?_)
      · replace Heq := (if_neg c_15).symm.trans Heq
        refine lv_aload_n hx hb d_cRd_readKey_43 rfl (lv_at hl 1 rfl) ?_
        refine lv_iload_n hx hb d_cRd_readKey_44 rfl (lv_at hl 0 rfl) ?_
        refine va_put (D := D) (ci := 1) (v := .int (S.i 5 1 j_1)) (ty := .int) (C := R_Rd) (T := F_Rd) (N := 10) hx hb hts i_Rd t_Rd t_Rd_ok n_Rd hown hK hP hD hS (cPos N 1 x0) (cw_obj (k := 1) (by decide) hl_x0_1) rfl 8 (by decide) (hts _ kw_354) (fun _ h9 => h9) rfl (by decide +kernel) rfl rfl (Nat.le_of_ble_eq_true rfl) d_cRd_readKey_45 (fun H locs hP hD hS => ?_)
        have hD := (congrArg (fun w9 => va_D A w9) (cw_setI (ad := ad) (cc := cc) (S := o_13.1) (k := 1) (f := 8) (v := S.i 5 1 j_1) (by decide) rfl hl_x0_1)).mp hD
        have hP := (congrArg (fun w9 => va_P D cls w9 H) (cw_setI (ad := ad) (cc := cc) (S := o_13.1) (k := 1) (f := 8) (v := S.i 5 1 j_1) (by decide) rfl hl_x0_1)).mp hP
        refine lv_aload_n hx hb d_cRd_readKey_48 rfl (lv_at hl 1 rfl) ?_
        refine lv_aload_n hx hb d_cRd_readKey_49 rfl (lv_at hl 1 rfl) ?_
        refine va_get (D := D) (ci := 1) (v := rv ad 5 (o_13.1.r 1 1 x0)) (C := R_Rd) (T := F_Rd) (N := 10) hx hb hts i_Rd hown hK hP (cPos N 1 x0) (cw_obj (k := 1) (by decide) hl_x0_1) rfl 1 (by decide) (hts _ kw_344) (fun _ h9 => h9) rfl d_cRd_readKey_50 ?_
        obtain ⟨j_16, hj_17, hl_18, Heq⟩ := gn_some Heq
        refine w_s (st' := [.ref (ad 5 j_16), .ref (ad 1 x0)]) (congrArg (fun z9 : Option Nat => [rv ad 5 z9, .ref (ad 1 x0)]) hj_17) ?_
        refine va_get (D := D) (ci := 5) (v := .int (o_13.1.i 5 1 j_16)) (C := R_Rw) (T := F_Rw) (N := 3) hx hb hts i_Rw hown hK hP (cPos N 5 j_16) (cw_obj (k := 5) (by decide) hl_18) rfl 1 (by decide) (hts _ kw_146) (fun _ h9 => h9) rfl d_cRd_readKey_53 ?_
        refine lv_iload_n hx hb d_cRd_readKey_56 rfl (lv_at hl 0 rfl) ?_
        refine lv_isub hx hb d_cRd_readKey_57 ?_
        refine w_i (y := (o_13.1.i 5 1 j_16) - (S.i 5 1 j_1)) rfl ?_
        refine va_put (D := D) (ci := 1) (v := .int ((o_13.1.i 5 1 j_16) - (S.i 5 1 j_1))) (ty := .int) (C := R_Rd) (T := F_Rd) (N := 10) hx hb hts i_Rd t_Rd t_Rd_ok n_Rd hown hK hP hD hS (cPos N 1 x0) (cw_obj (k := 1) (by decide) hl_x0_1) rfl 9 (by decide) (hts _ kw_355) (fun _ h9 => h9) rfl (by decide +kernel) rfl rfl (Nat.le_of_ble_eq_true rfl) d_cRd_readKey_58 (fun H locs hP hD hS => ?_)
        have hD := (congrArg (fun w9 => va_D A w9) (cw_setI (ad := ad) (cc := cc) (S := (o_13.1.setI 1 8 x0 (S.i 5 1 j_1))) (k := 1) (f := 9) (v := (o_13.1.i 5 1 j_16) - (S.i 5 1 j_1)) (by decide) rfl hl_x0_1)).mp hD
        have hP := (congrArg (fun w9 => va_P D cls w9 H) (cw_setI (ad := ad) (cc := cc) (S := (o_13.1.setI 1 8 x0 (S.i 5 1 j_1))) (k := 1) (f := 9) (v := (o_13.1.i 5 1 j_16) - (S.i 5 1 j_1)) (by decide) rfl hl_x0_1)).mp hP
        refine lv_aload_n hx hb d_cRd_readKey_61 rfl (lv_at hl 1 rfl) ?_
        refine lv_dup hx hb d_cRd_readKey_62 rfl ?_
        refine va_get (D := D) (ci := 1) (v := .int (o_13.1.i 1 4 x0)) (C := R_Rd) (T := F_Rd) (N := 10) hx hb hts i_Rd hown hK hP (cPos N 1 x0) (cw_obj (k := 1) (by decide) hl_x0_1) rfl 4 (by decide) (hts _ kw_349) (fun _ h9 => h9) rfl d_cRd_readKey_63 ?_
        refine lv_iconst (v := 1) hx hb d_cRd_readKey_66 (by decide) ?_
        refine lv_iadd hx hb d_cRd_readKey_67 ?_
        refine w_i (y := (o_13.1.i 1 4 x0) + 1) rfl ?_
        refine va_put (D := D) (ci := 1) (v := .int ((o_13.1.i 1 4 x0) + 1)) (ty := .int) (C := R_Rd) (T := F_Rd) (N := 10) hx hb hts i_Rd t_Rd t_Rd_ok n_Rd hown hK hP hD hS (cPos N 1 x0) (cw_obj (k := 1) (by decide) hl_x0_1) rfl 4 (by decide) (hts _ kw_349) (fun _ h9 => h9) rfl (by decide +kernel) rfl rfl (Nat.le_of_ble_eq_true rfl) d_cRd_readKey_68 (fun H locs hP hD hS => ?_)
        have hD := (congrArg (fun w9 => va_D A w9) (cw_setI (ad := ad) (cc := cc) (S := ((o_13.1.setI 1 8 x0 (S.i 5 1 j_1)).setI 1 9 x0 ((o_13.1.i 5 1 j_16) - (S.i 5 1 j_1)))) (k := 1) (f := 4) (v := (o_13.1.i 1 4 x0) + 1) (by decide) rfl hl_x0_1)).mp hD
        have hP := (congrArg (fun w9 => va_P D cls w9 H) (cw_setI (ad := ad) (cc := cc) (S := ((o_13.1.setI 1 8 x0 (S.i 5 1 j_1)).setI 1 9 x0 ((o_13.1.i 5 1 j_16) - (S.i 5 1 j_1)))) (k := 1) (f := 4) (v := (o_13.1.i 1 4 x0) + 1) (by decide) rfl hl_x0_1)).mp hP
        refine lv_aload_n hx hb d_cRd_readKey_71 rfl (lv_at hl 1 rfl) ?_
        obtain ⟨o_19, h_20, Heq⟩ := ob_some Heq
        have hFc := fr_all hD hS hA
        refine va_callv (va_runV (As := []) (rest := []) ⟨hx, hb, hml, hown, hts⟩ (g_cRd_skipBlanks l D H.size (ad := ad) (cc := cc) (sad := sad) (sav := sav) h_20) (cw_v 0 hts kw_870 kw_867 kw_868 kw_869 kw_7 rfl rfl (by decide +kernel) ⟨Nat.le_of_ble_eq_true rfl, Nat.le_of_ble_eq_true rfl⟩) ⟨c_blind, va_recv hK hP (ci := 1) (q0 := cPos N 1 x0) rfl (cw_obj (k := 1) (by decide) hl_x0_1), fun U hU hW => c_pre hU hW hP hK hD hev hE hN hNS hS hFc⟩ rfl rfl hl.1 rfl (lv_room (Nat.le_of_ble_eq_true rfl)) d_cRd_readKey_72 ⟨Nat.le_of_ble_eq_true rfl, Nat.le_of_ble_eq_true rfl⟩) hS (fun q _ h => hFc q h) hFc (fun u t H1 locs ht hvm hw hB hz1 hk1 hS => ?_)
        obtain ⟨hP, -, hD1⟩ := hB
        rw [ht] at hP
        have hD := hD1.weaken (fun _ q _ h => hFc q.1 h)
        generalize H1 = H at hP hS ⊢
        refine W.cs (cells' := 0) (slots' := 0) rfl rfl ?_
        refine lv_aload_n hx hb d_cRd_readKey_75 rfl (lv_at hl 1 rfl) ?_
        refine va_get (D := D) (ci := 1) (v := rv ad 5 (o_19.r 1 2 x0)) (C := R_Rd) (T := F_Rd) (N := 10) hx hb hts i_Rd hown hK hP (cPos N 1 x0) (cw_obj (k := 1) (by decide) hl_x0_1) rfl 2 (by decide) (hts _ kw_346) (fun _ h9 => h9) rfl d_cRd_readKey_76 ?_
        refine lv_aload_n hx hb d_cRd_readKey_79 rfl (lv_at hl 1 rfl) ?_
        refine va_get (D := D) (ci := 1) (v := .int (o_19.i 1 4 x0)) (C := R_Rd) (T := F_Rd) (N := 10) hx hb hts i_Rd hown hK hP (cPos N 1 x0) (cw_obj (k := 1) (by decide) hl_x0_1) rfl 4 (by decide) (hts _ kw_349) (fun _ h9 => h9) rfl d_cRd_readKey_80 ?_
        obtain ⟨j_21, hj_22, hl_23, Heq⟩ := gn_some Heq
        refine w_s (st' := [.int (o_19.i 1 4 x0), .ref (ad 5 j_21)]) (congrArg (fun z9 : Option Nat => [.int (o_19.i 1 4 x0), rv ad 5 z9]) hj_22) ?_
        obtain ⟨o_24, h_25, Heq⟩ := ob_some Heq
        have hFc := fr_all hD hS hA
        refine va_calli (va_runV (As := [.int (o_19.i 1 4 x0)]) (rest := []) ⟨hx, hb, hml, hown, hts⟩ (g_cRw_at l D H.size (ad := ad) (cc := cc) (sad := sad) (sav := sav) h_25) (cw_v 1 hts kw_689 kw_871 kw_687 kw_688 kw_4 rfl rfl (by decide +kernel) ⟨Nat.le_of_ble_eq_true rfl, Nat.le_of_ble_eq_true rfl⟩) ⟨c_blind, va_recv hK hP (ci := 5) (q0 := cPos N 5 j_21) rfl (cw_obj (k := 5) (by decide) hl_23), fun U hU hW => c_pre hU hW hP hK hD hev hE hN hNS hS hFc⟩ rfl rfl hl.1 rfl (lv_room (Nat.le_of_ble_eq_true rfl)) d_cRd_readKey_83 ⟨Nat.le_of_ble_eq_true rfl, Nat.le_of_ble_eq_true rfl⟩) hS (fun q _ h => hFc q h) hFc (fun rz u t H1 locs ht hvm hw hB hz1 hk1 hS => ?_)
        obtain ⟨hP, -, hD1⟩ := hB
        rw [ht] at hP
        have hD := hD1.weaken (fun _ q _ h => hFc q.1 h)
        generalize H1 = H at hP hS ⊢
        refine W.cs (cells' := 0) (slots' := 0) rfl rfl ?_
        subst hw
        refine lv_bipush (v := 58) hx hb d_cRd_readKey_86 (by decide) ?_
        refine lv_icmp_eq (tgt := 93) hx hb d_cRd_readKey_88 (by decide) (fun c_26 => ?_) (fun c_26 => ?_)
        · replace Heq := (if_pos c_26).symm.trans Heq
          refine lv_aload_n hx hb d_cRd_readKey_93 rfl (lv_at hl 1 rfl) ?_
          refine lv_dup hx hb d_cRd_readKey_94 rfl ?_
          refine va_get (D := D) (ci := 1) (v := .int (o_24.1.i 1 4 x0)) (C := R_Rd) (T := F_Rd) (N := 10) hx hb hts i_Rd hown hK hP (cPos N 1 x0) (cw_obj (k := 1) (by decide) hl_x0_1) rfl 4 (by decide) (hts _ kw_349) (fun _ h9 => h9) rfl d_cRd_readKey_95 ?_
          refine lv_iconst (v := 1) hx hb d_cRd_readKey_98 (by decide) ?_
          refine lv_iadd hx hb d_cRd_readKey_99 ?_
          refine w_i (y := (o_24.1.i 1 4 x0) + 1) rfl ?_
          refine va_put (D := D) (ci := 1) (v := .int ((o_24.1.i 1 4 x0) + 1)) (ty := .int) (C := R_Rd) (T := F_Rd) (N := 10) hx hb hts i_Rd t_Rd t_Rd_ok n_Rd hown hK hP hD hS (cPos N 1 x0) (cw_obj (k := 1) (by decide) hl_x0_1) rfl 4 (by decide) (hts _ kw_349) (fun _ h9 => h9) rfl (by decide +kernel) rfl rfl (Nat.le_of_ble_eq_true rfl) d_cRd_readKey_100 (fun H locs hP hD hS => ?_)
          have hD := (congrArg (fun w9 => va_D A w9) (cw_setI (ad := ad) (cc := cc) (S := o_24.1) (k := 1) (f := 4) (v := (o_24.1.i 1 4 x0) + 1) (by decide) rfl hl_x0_1)).mp hD
          have hP := (congrArg (fun w9 => va_P D cls w9 H) (cw_setI (ad := ad) (cc := cc) (S := o_24.1) (k := 1) (f := 4) (v := (o_24.1.i 1 4 x0) + 1) (by decide) rfl hl_x0_1)).mp hP
          refine lv_aload_n hx hb d_cRd_readKey_103 rfl (lv_at hl 1 rfl) ?_
          obtain ⟨o_27, h_28, Heq⟩ := ob_some Heq
          have hFc := fr_all hD hS hA
          refine va_callv (va_runV (As := []) (rest := []) ⟨hx, hb, hml, hown, hts⟩ (g_cRd_skipBlanks l D H.size (ad := ad) (cc := cc) (sad := sad) (sav := sav) h_28) (cw_v 0 hts kw_870 kw_867 kw_868 kw_869 kw_7 rfl rfl (by decide +kernel) ⟨Nat.le_of_ble_eq_true rfl, Nat.le_of_ble_eq_true rfl⟩) ⟨c_blind, va_recv hK hP (ci := 1) (q0 := cPos N 1 x0) rfl (cw_obj (k := 1) (by decide) hl_x0_1), fun U hU hW => c_pre hU hW hP hK hD hev hE hN hNS hS hFc⟩ rfl rfl hl.1 rfl (lv_room (Nat.le_of_ble_eq_true rfl)) d_cRd_readKey_104 ⟨Nat.le_of_ble_eq_true rfl, Nat.le_of_ble_eq_true rfl⟩) hS (fun q _ h => hFc q h) hFc (fun u t H1 locs ht hvm hw hB hz1 hk1 hS => ?_)
          obtain ⟨hP, -, hD1⟩ := hB
          rw [ht] at hP
          have hD := hD1.weaken (fun _ q _ h => hFc q.1 h)
          generalize H1 = H at hP hS ⊢
          refine W.cs (cells' := 0) (slots' := 0) rfl rfl ?_
          refine lv_iconst (v := 1) hx hb d_cRd_readKey_107 (by decide) ?_
          exact Kr _ (Option.some.inj Heq).symm 108 _ _ _ d_cRd_readKey_108 (Or.inr rfl) hP hD hS
        · replace Heq := (if_neg c_26).symm.trans Heq
          refine lv_iconst (v := 0) hx hb d_cRd_readKey_91 (by decide) ?_
          exact Kr _ (Option.some.inj Heq).symm 92 _ _ _ d_cRd_readKey_92 (Or.inl rfl) hP hD hS
      · replace Heq := (if_pos c_15).symm.trans Heq
        exact w_cRd_readKey_J41 hC Heq Kr _ _ _ hP hD hS (lv_sub hl [1] rfl)
def m_cRd_readKey (N : Nat → Nat) (x0 : Nat) (S : CS) : Option (CS × Int32) := m_cRd_readKey_J0 N x0 S
set_option maxHeartbeats 4000000 in
theorem g_cRd_readKey (l : Launch) (D : va_G) (sz : Nat) {ad : Nat → Nat → Nat} {cc : Nat → ClassId} {sad sav : Nat → Nat} {N : Nat → Nat} {x0 : Nat} {S : CS} {o : CS × Int32} (Heq : m_cRd_readKey N x0 S = some o) : Met l ⟨"JoinedTrees$JsonReader", "readKey", "()Z"⟩ (Cond.code ⟨"JoinedTrees$JsonReader", "readKey", "()Z"⟩ prog_3_method_6_code 2 (some .boolean) :: gb) ({ frames := 3, cells := 0, slots := 0, locals := 72 }) (cPc sad sav D (cw ad cc N S) (cty cc) sz [.ref (ad 1 x0)]) (va_Qi (fun (r : Int32) (_ : Unit) => r = o.2) (fun _ t => gO D (cw ad cc N o.1) (cty cc) (va_A (cw ad cc N S) sz) t) (va_A (cw ad cc N S) sz)) 0 0 (va_A (cw ad cc N S) sz) := by
  refine Met.ofW (cc := prog_3_method_6_code) (maxL := 2) (ret := (some .boolean)) (by decide) rfl ?_
  intro p e s m args below meth c s₁ B hml hv
  obtain ⟨rfl, hsz, hP, hK, hD0, hev, hE, hN⟩ := hv
  have hx := B.exec
  have hb := B.bytes
  have hr := B.returns
  have hts : ∀ w9 ∈ gb, w9.before [.ref (ad 1 x0)].toArray s = true := fun w9 h => atoms_spec (ws := Cond.code ⟨"JoinedTrees$JsonReader", "readKey", "()Z"⟩ prog_3_method_6_code 2 (some .boolean) :: gb) B.pre w9 (List.mem_cons_of_mem _ h)
  have hown : s.vm.findClass "JoinedTrees$JsonReader" = some m.cls := findClass_of_methodNamed B.named
  have hlocks := B.notSynchronized
  have hNS := ns_of hP
  subst hsz
  have hD := hD0.self (sz := s.heap.size)
  generalize hAe : va_A (cw ad cc N S) s.heap.size = A at hD hev hE hNS ⊢
  have hA : ∀ q : Nat, s.heap.size ≤ q → A q := fun q h => by rw [← hAe]; exact Or.inr h
  have hS : va_S A s.heap s.heap [] := va_S.rf
  obtain ⟨ls, hl, hle⟩ : ∃ ls : Array Slot, lv_has ls 2 [(0, .ref (ad 1 x0))] ∧ entryFrame m ([.ref (ad 1 x0)] : List Value).toArray 2 = F0 m 0 ls [] := by
    exact ⟨_, lv_entry (n := 2) _ (Nat.le_of_ble_eq_true rfl), lg_entry_eq ..⟩
  rw [hle]
  refine w_cRd_readKey_J0 ⟨hx, hb, hr, hml, hown, hts, hK, hA, hev, hE, hN, hNS⟩ Heq (fun r h pc H locs ls hd hz hP hD hS => ?_) _ _ _ hP hD hS (lv_sub hl [0] rfl)
  subst h
  exact W.zret (ty := .boolean) hx hb hr (by rcases hz with hz | hz <;> rw [hz] <;> rfl) (fun t ht hW => ⟨⟨_, (), rfl, rfl, by rw [ht]; exact hP, va_K.moved hW.alike hK, hD⟩, hS.F ht⟩) hS.2.2 hd
