def m_cJT_isDigit_J17 (N : Nat → Nat) (S : CS) (t0 : Int32) : Option (CS × Int32) := (if t0 = 0 ∨ t0 = 1 then some (S, t0) else none)
theorem d_cJT_isDigit_0 : decode prog_1_method_58_code 0 = .ok (.iload_n 0, 1) := by decide +kernel
theorem d_cJT_isDigit_1 : decode prog_1_method_58_code 1 = .ok (.bipush 48, 2) := by decide +kernel
theorem d_cJT_isDigit_3 : decode prog_1_method_58_code 3 = .ok (.if_icmp .lt 13, 3) := by decide +kernel
theorem d_cJT_isDigit_16 : decode prog_1_method_58_code 16 = .ok (.iconst 0, 1) := by decide +kernel
theorem d_cJT_isDigit_17 : decode prog_1_method_58_code 17 = .ok (.ireturn, 1) := by decide +kernel
set_option maxHeartbeats 4000000 in
set_option maxRecDepth 100000 in
theorem w_cJT_isDigit_J17 {p : Program} {l : Launch} {e : Env} {s : State} {m : MethodId} {args : Array Value} {below : List Frame} {meth : Method} {c : Code} {A : Nat → Prop} {D : va_G} {ad : Nat → Nat → Nat} {cc : Nat → ClassId} {sad sav : Nat → Nat} {Q : State → Prop} (hC : MCc sad sav "JoinedTrees" prog_1_method_58_code 1 (some .boolean) p s m args meth c A D cc) {N : Nat → Nat} {S : CS} {t0 : Int32} {o : CS × Int32} (Heq : m_cJT_isDigit_J17 N S t0 = some o) (Kr : ∀ r : CS × Int32, o = r → ∀ (pc : Nat) (H : Heap) (locs : List Loc) (ls : Array Slot), decode prog_1_method_58_code pc = .ok (.ireturn, 1) → (r.2 = 0 ∨ r.2 = 1) → va_P D cls (cw ad cc N r.1) H → va_D A (cw ad cc N r.1) → va_S A s.heap H locs → W p l e ({ frames := 0, cells := 0, slots := 0, locals := 0 }) s m args below meth c H locs 0 0 Q (F0 m pc ls [.int r.2])) : ∀ (H : Heap) (locs : List Loc) (ls : Array Slot), va_P D cls (cw ad cc N S) H → va_D A (cw ad cc N S) → va_S A s.heap H locs → lv_has ls 1 [] → W p l e ({ frames := 0, cells := 0, slots := 0, locals := 0 }) s m args below meth c H locs 0 0 Q (F0 m 17 ls [.int t0]) := by
  intro H locs ls hP hD hS hl
  obtain ⟨hx, hb, hr, hml, hown, hts, hK, hA, hev, hE, hN, hNS⟩ := id hC
  unfold m_cJT_isDigit_J17 at Heq
  by_cases hz_1 : t0 = 0 ∨ t0 = 1
  case neg => rw [if_neg hz_1] at Heq; cases Heq
  replace Heq := (if_pos hz_1).symm.trans Heq
  exact Kr _ (Option.some.inj Heq).symm 17 _ _ _ d_cJT_isDigit_17 hz_1 hP hD hS
def m_cJT_isDigit_J16 (N : Nat → Nat) (S : CS) : Option (CS × Int32) := m_cJT_isDigit_J17 N S 0
set_option maxHeartbeats 4000000 in
set_option maxRecDepth 100000 in
theorem w_cJT_isDigit_J16 {p : Program} {l : Launch} {e : Env} {s : State} {m : MethodId} {args : Array Value} {below : List Frame} {meth : Method} {c : Code} {A : Nat → Prop} {D : va_G} {ad : Nat → Nat → Nat} {cc : Nat → ClassId} {sad sav : Nat → Nat} {Q : State → Prop} (hC : MCc sad sav "JoinedTrees" prog_1_method_58_code 1 (some .boolean) p s m args meth c A D cc) {N : Nat → Nat} {S : CS} {o : CS × Int32} (Heq : m_cJT_isDigit_J16 N S = some o) (Kr : ∀ r : CS × Int32, o = r → ∀ (pc : Nat) (H : Heap) (locs : List Loc) (ls : Array Slot), decode prog_1_method_58_code pc = .ok (.ireturn, 1) → (r.2 = 0 ∨ r.2 = 1) → va_P D cls (cw ad cc N r.1) H → va_D A (cw ad cc N r.1) → va_S A s.heap H locs → W p l e ({ frames := 0, cells := 0, slots := 0, locals := 0 }) s m args below meth c H locs 0 0 Q (F0 m pc ls [.int r.2])) : ∀ (H : Heap) (locs : List Loc) (ls : Array Slot), va_P D cls (cw ad cc N S) H → va_D A (cw ad cc N S) → va_S A s.heap H locs → lv_has ls 1 [] → W p l e ({ frames := 0, cells := 0, slots := 0, locals := 0 }) s m args below meth c H locs 0 0 Q (F0 m 16 ls []) := by
  intro H locs ls hP hD hS hl
  obtain ⟨hx, hb, hr, hml, hown, hts, hK, hA, hev, hE, hN, hNS⟩ := id hC
  unfold m_cJT_isDigit_J16 at Heq
  refine lv_iconst (v := 0) hx hb d_cJT_isDigit_16 (by decide) ?_
  exact w_cJT_isDigit_J17 hC Heq Kr _ _ _ hP hD hS (lv_sub hl [] rfl)
def m_cJT_isDigit_J0 (N : Nat → Nat) (S : CS) (x0 : Int32) : Option (CS × Int32) := (if x0 < 48 then m_cJT_isDigit_J16 N S else (if 57 < x0 then m_cJT_isDigit_J16 N S else m_cJT_isDigit_J17 N S 1))
theorem d_cJT_isDigit_6 : decode prog_1_method_58_code 6 = .ok (.iload_n 0, 1) := by decide +kernel
theorem d_cJT_isDigit_7 : decode prog_1_method_58_code 7 = .ok (.bipush 57, 2) := by decide +kernel
theorem d_cJT_isDigit_9 : decode prog_1_method_58_code 9 = .ok (.if_icmp .gt 7, 3) := by decide +kernel
theorem d_cJT_isDigit_12 : decode prog_1_method_58_code 12 = .ok (.iconst 1, 1) := by decide +kernel
theorem d_cJT_isDigit_13 : decode prog_1_method_58_code 13 = .ok (.goto 4, 3) := by decide +kernel
set_option maxHeartbeats 4000000 in
set_option maxRecDepth 100000 in
theorem w_cJT_isDigit_J0 {p : Program} {l : Launch} {e : Env} {s : State} {m : MethodId} {args : Array Value} {below : List Frame} {meth : Method} {c : Code} {A : Nat → Prop} {D : va_G} {ad : Nat → Nat → Nat} {cc : Nat → ClassId} {sad sav : Nat → Nat} {Q : State → Prop} (hC : MCc sad sav "JoinedTrees" prog_1_method_58_code 1 (some .boolean) p s m args meth c A D cc) {N : Nat → Nat} {S : CS} {x0 : Int32} {o : CS × Int32} (Heq : m_cJT_isDigit_J0 N S x0 = some o) (Kr : ∀ r : CS × Int32, o = r → ∀ (pc : Nat) (H : Heap) (locs : List Loc) (ls : Array Slot), decode prog_1_method_58_code pc = .ok (.ireturn, 1) → (r.2 = 0 ∨ r.2 = 1) → va_P D cls (cw ad cc N r.1) H → va_D A (cw ad cc N r.1) → va_S A s.heap H locs → W p l e ({ frames := 0, cells := 0, slots := 0, locals := 0 }) s m args below meth c H locs 0 0 Q (F0 m pc ls [.int r.2])) : ∀ (H : Heap) (locs : List Loc) (ls : Array Slot), va_P D cls (cw ad cc N S) H → va_D A (cw ad cc N S) → va_S A s.heap H locs → lv_has ls 1 [(0, .int x0)] → W p l e ({ frames := 0, cells := 0, slots := 0, locals := 0 }) s m args below meth c H locs 0 0 Q (F0 m 0 ls []) := by
  intro H locs ls hP hD hS hl
  obtain ⟨hx, hb, hr, hml, hown, hts, hK, hA, hev, hE, hN, hNS⟩ := id hC
  unfold m_cJT_isDigit_J0 at Heq
  refine lv_iload_n hx hb d_cJT_isDigit_0 rfl (lv_at hl 0 rfl) ?_
  refine lv_bipush (v := 48) hx hb d_cJT_isDigit_1 (by decide) ?_
  refine lv_icmp_lt (tgt := 16) hx hb d_cJT_isDigit_3 (by decide) (fun c_1 => ?_) (fun c_1 => ?_)
  · replace Heq := (if_pos c_1).symm.trans Heq
    exact w_cJT_isDigit_J16 hC Heq Kr _ _ _ hP hD hS (lv_sub hl [] rfl)
  · replace Heq := (if_neg c_1).symm.trans Heq
    refine lv_iload_n hx hb d_cJT_isDigit_6 rfl (lv_at hl 0 rfl) ?_
    refine lv_bipush (v := 57) hx hb d_cJT_isDigit_7 (by decide) ?_
    refine lv_icmp_gt (tgt := 16) hx hb d_cJT_isDigit_9 (by decide) (fun c_2 => ?_) (fun c_2 => ?_)
    · replace Heq := (if_pos c_2).symm.trans Heq
      exact w_cJT_isDigit_J16 hC Heq Kr _ _ _ hP hD hS (lv_sub hl [] rfl)
    · replace Heq := (if_neg c_2).symm.trans Heq
      refine lv_iconst (v := 1) hx hb d_cJT_isDigit_12 (by decide) ?_
      refine lv_goto (tgt := 17) hx hb d_cJT_isDigit_13 (by decide) ?_
      exact w_cJT_isDigit_J17 hC Heq Kr _ _ _ hP hD hS (lv_sub hl [] rfl)
def m_cJT_isDigit (N : Nat → Nat) (S : CS) (x0 : Int32) : Option (CS × Int32) := m_cJT_isDigit_J0 N S x0
set_option maxHeartbeats 4000000 in
theorem g_cJT_isDigit (l : Launch) (D : va_G) (sz : Nat) {ad : Nat → Nat → Nat} {cc : Nat → ClassId} {sad sav : Nat → Nat} {N : Nat → Nat} {S : CS} {x0 : Int32} {o : CS × Int32} (Heq : m_cJT_isDigit N S x0 = some o) : Met l ⟨"JoinedTrees", "isDigit", "(I)Z"⟩ (Cond.code ⟨"JoinedTrees", "isDigit", "(I)Z"⟩ prog_1_method_58_code 1 (some .boolean) :: gb) ({ frames := 0, cells := 0, slots := 0, locals := 0 }) (cPc sad sav D (cw ad cc N S) (cty cc) sz [.int x0]) (va_Qi (fun (r : Int32) (_ : Unit) => r = o.2) (fun _ t => gO D (cw ad cc N o.1) (cty cc) (va_A (cw ad cc N S) sz) t) (va_A (cw ad cc N S) sz)) 0 0 (va_A (cw ad cc N S) sz) := by
  refine Met.ofW (cc := prog_1_method_58_code) (maxL := 1) (ret := (some .boolean)) (by decide) rfl ?_
  intro p e s m args below meth c s₁ B hml hv
  obtain ⟨rfl, hsz, hP, hK, hD0, hev, hE, hN⟩ := hv
  have hx := B.exec
  have hb := B.bytes
  have hr := B.returns
  have hts : ∀ w9 ∈ gb, w9.before [.int x0].toArray s = true := fun w9 h => atoms_spec (ws := Cond.code ⟨"JoinedTrees", "isDigit", "(I)Z"⟩ prog_1_method_58_code 1 (some .boolean) :: gb) B.pre w9 (List.mem_cons_of_mem _ h)
  have hown : s.vm.findClass "JoinedTrees" = some m.cls := findClass_of_methodNamed B.named
  have hlocks := B.notSynchronized
  have hNS := ns_of hP
  subst hsz
  have hD := hD0.self (sz := s.heap.size)
  generalize hAe : va_A (cw ad cc N S) s.heap.size = A at hD hev hE hNS ⊢
  have hA : ∀ q : Nat, s.heap.size ≤ q → A q := fun q h => by rw [← hAe]; exact Or.inr h
  have hS : va_S A s.heap s.heap [] := va_S.rf
  obtain ⟨ls, hl, hle⟩ : ∃ ls : Array Slot, lv_has ls 1 [(0, .int x0)] ∧ entryFrame m ([.int x0] : List Value).toArray 1 = F0 m 0 ls [] := by
    exact ⟨_, lv_entry (n := 1) _ (Nat.le_of_ble_eq_true rfl), lg_entry_eq ..⟩
  rw [hle]
  refine w_cJT_isDigit_J0 ⟨hx, hb, hr, hml, hown, hts, hK, hA, hev, hE, hN, hNS⟩ Heq (fun r h pc H locs ls hd hz hP hD hS => ?_) _ _ _ hP hD hS (lv_sub hl [0] rfl)
  subst h
  exact W.zret (ty := .boolean) hx hb hr (by rcases hz with hz | hz <;> rw [hz] <;> rfl) (fun t ht hW => ⟨⟨_, (), rfl, rfl, by rw [ht]; exact hP, va_K.moved hW.alike hK, hD⟩, hS.F ht⟩) hS.2.2 hd
def m_cRd_readNumber_B89 (N : Nat → Nat) (x0 : Nat) (S : CS) (x1 : Option Nat) (x2 : Int32) (x3 : Int32) (x4 : Int64) (x6 : Int32) : Option ((CS × Option Nat × Int32 × Int32 × Int64 × Int32) ⊕ (CS × Option Nat × Int32 × Int64)) := (if x3 ≤ x6 then some (.inr (S, x1, x2, x4)) else gl x0 (N 1) (gn (S.r 1 2 x0) (N 5) (fun j_2 => ob (m_cRw_at N j_2 S (S.i 1 4 x0)) (fun o_5 => ob (m_cJT_isDigit N o_5.1 o_5.2) (fun o_7 => (if o_7.2 = 0 then some (.inr (o_7.1, x1, x2, x4)) else gn (o_7.1.r 1 2 x0) (N 5) (fun j_10 => ob (m_cRw_at N j_10 o_7.1 (o_7.1.i 1 4 x0)) (fun o_13 => some (.inl ((o_13.1.setI 1 4 x0 ((o_13.1.i 1 4 x0) + 1)), x1, x2, x3, (((10 * x4) + o_13.2.toInt64) - 48), (x6 + 1)))))))))))
theorem d_cRd_readNumber_0 : decode prog_3_method_15_code 0 = .ok (.aload_n 1, 1) := by decide +kernel
theorem d_cRd_readNumber_1 : decode prog_3_method_15_code 1 = .ok (.iconst 3, 1) := by decide +kernel
theorem d_cRd_readNumber_2 : decode prog_3_method_15_code 2 = .ok (.putfield 77, 3) := by decide +kernel
theorem d_cRd_readNumber_5 : decode prog_3_method_15_code 5 = .ok (.aload_n 0, 1) := by decide +kernel
theorem d_cRd_readNumber_6 : decode prog_3_method_15_code 6 = .ok (.getfield 27, 3) := by decide +kernel
theorem d_cRd_readNumber_9 : decode prog_3_method_15_code 9 = .ok (.aload_n 0, 1) := by decide +kernel
theorem d_cRd_readNumber_10 : decode prog_3_method_15_code 10 = .ok (.getfield 34, 3) := by decide +kernel
theorem d_cRd_readNumber_13 : decode prog_3_method_15_code 13 = .ok (.invokevirtual 70, 3) := by decide +kernel
theorem d_cRd_readNumber_16 : decode prog_3_method_15_code 16 = .ok (.bipush 45, 2) := by decide +kernel
theorem d_cRd_readNumber_18 : decode prog_3_method_15_code 18 = .ok (.if_icmp .ne 7, 3) := by decide +kernel
theorem d_cRd_readNumber_25 : decode prog_3_method_15_code 25 = .ok (.iconst 0, 1) := by decide +kernel
theorem d_cRd_readNumber_26 : decode prog_3_method_15_code 26 = .ok (.istore_n 2, 1) := by decide +kernel
theorem d_cRd_readNumber_27 : decode prog_3_method_15_code 27 = .ok (.iload_n 2, 1) := by decide +kernel
theorem d_cRd_readNumber_28 : decode prog_3_method_15_code 28 = .ok (.ifCond .eq 13, 3) := by decide +kernel
theorem d_cRd_readNumber_41 : decode prog_3_method_15_code 41 = .ok (.aload_n 0, 1) := by decide +kernel
theorem d_cRd_readNumber_42 : decode prog_3_method_15_code 42 = .ok (.getfield 27, 3) := by decide +kernel
theorem d_cRd_readNumber_45 : decode prog_3_method_15_code 45 = .ok (.aload_n 0, 1) := by decide +kernel
theorem d_cRd_readNumber_46 : decode prog_3_method_15_code 46 = .ok (.getfield 34, 3) := by decide +kernel
theorem d_cRd_readNumber_49 : decode prog_3_method_15_code 49 = .ok (.invokevirtual 70, 3) := by decide +kernel
theorem d_cRd_readNumber_52 : decode prog_3_method_15_code 52 = .ok (.invokestatic 148, 3) := by decide +kernel
theorem d_cRd_readNumber_55 : decode prog_3_method_15_code 55 = .ok (.ifCond .ne 5, 3) := by decide +kernel
theorem d_cRd_readNumber_60 : decode prog_3_method_15_code 60 = .ok (.aload_n 0, 1) := by decide +kernel
theorem d_cRd_readNumber_61 : decode prog_3_method_15_code 61 = .ok (.getfield 27, 3) := by decide +kernel
theorem d_cRd_readNumber_64 : decode prog_3_method_15_code 64 = .ok (.aload_n 0, 1) := by decide +kernel
theorem d_cRd_readNumber_65 : decode prog_3_method_15_code 65 = .ok (.getfield 34, 3) := by decide +kernel
theorem d_cRd_readNumber_68 : decode prog_3_method_15_code 68 = .ok (.invokevirtual 70, 3) := by decide +kernel
theorem d_cRd_readNumber_71 : decode prog_3_method_15_code 71 = .ok (.bipush 48, 2) := by decide +kernel
theorem d_cRd_readNumber_73 : decode prog_3_method_15_code 73 = .ok (.if_icmp .ne 7, 3) := by decide +kernel
theorem d_cRd_readNumber_80 : decode prog_3_method_15_code 80 = .ok (.bipush 18, 2) := by decide +kernel
theorem d_cRd_readNumber_82 : decode prog_3_method_15_code 82 = .ok (.istore_n 3, 1) := by decide +kernel
theorem d_cRd_readNumber_83 : decode prog_3_method_15_code 83 = .ok (.lconst 0, 1) := by decide +kernel
theorem d_cRd_readNumber_84 : decode prog_3_method_15_code 84 = .ok (.lstore 4, 2) := by decide +kernel
theorem d_cRd_readNumber_86 : decode prog_3_method_15_code 86 = .ok (.iconst 0, 1) := by decide +kernel
theorem d_cRd_readNumber_87 : decode prog_3_method_15_code 87 = .ok (.istore 6, 2) := by decide +kernel
theorem d_cRd_readNumber_89 : decode prog_3_method_15_code 89 = .ok (.iload 6, 2) := by decide +kernel
theorem d_cRd_readNumber_91 : decode prog_3_method_15_code 91 = .ok (.iload_n 3, 1) := by decide +kernel
theorem d_cRd_readNumber_92 : decode prog_3_method_15_code 92 = .ok (.if_icmp .ge 61, 3) := by decide +kernel
theorem d_cRd_readNumber_95 : decode prog_3_method_15_code 95 = .ok (.aload_n 0, 1) := by decide +kernel
theorem d_cRd_readNumber_96 : decode prog_3_method_15_code 96 = .ok (.getfield 27, 3) := by decide +kernel
theorem d_cRd_readNumber_99 : decode prog_3_method_15_code 99 = .ok (.aload_n 0, 1) := by decide +kernel
theorem d_cRd_readNumber_100 : decode prog_3_method_15_code 100 = .ok (.getfield 34, 3) := by decide +kernel
theorem d_cRd_readNumber_103 : decode prog_3_method_15_code 103 = .ok (.invokevirtual 70, 3) := by decide +kernel
theorem d_cRd_readNumber_106 : decode prog_3_method_15_code 106 = .ok (.invokestatic 148, 3) := by decide +kernel
theorem d_cRd_readNumber_109 : decode prog_3_method_15_code 109 = .ok (.ifCond .eq 44, 3) := by decide +kernel
theorem d_cRd_readNumber_112 : decode prog_3_method_15_code 112 = .ok (.ldc2_w 151, 3) := by decide +kernel
theorem d_cRd_readNumber_115 : decode prog_3_method_15_code 115 = .ok (.lload 4, 2) := by decide +kernel
theorem d_cRd_readNumber_117 : decode prog_3_method_15_code 117 = .ok (.lmul, 1) := by decide +kernel
theorem d_cRd_readNumber_118 : decode prog_3_method_15_code 118 = .ok (.aload_n 0, 1) := by decide +kernel
theorem d_cRd_readNumber_119 : decode prog_3_method_15_code 119 = .ok (.getfield 27, 3) := by decide +kernel
theorem d_cRd_readNumber_122 : decode prog_3_method_15_code 122 = .ok (.aload_n 0, 1) := by decide +kernel
theorem d_cRd_readNumber_123 : decode prog_3_method_15_code 123 = .ok (.getfield 34, 3) := by decide +kernel
theorem d_cRd_readNumber_126 : decode prog_3_method_15_code 126 = .ok (.invokevirtual 70, 3) := by decide +kernel
theorem d_cRd_readNumber_129 : decode prog_3_method_15_code 129 = .ok (.i2l, 1) := by decide +kernel
theorem d_cRd_readNumber_130 : decode prog_3_method_15_code 130 = .ok (.ladd, 1) := by decide +kernel
theorem d_cRd_readNumber_131 : decode prog_3_method_15_code 131 = .ok (.ldc2_w 153, 3) := by decide +kernel
theorem d_cRd_readNumber_134 : decode prog_3_method_15_code 134 = .ok (.lsub, 1) := by decide +kernel
theorem d_cRd_readNumber_135 : decode prog_3_method_15_code 135 = .ok (.lstore 4, 2) := by decide +kernel
theorem d_cRd_readNumber_137 : decode prog_3_method_15_code 137 = .ok (.aload_n 0, 1) := by decide +kernel
theorem d_cRd_readNumber_138 : decode prog_3_method_15_code 138 = .ok (.dup, 1) := by decide +kernel
theorem d_cRd_readNumber_139 : decode prog_3_method_15_code 139 = .ok (.getfield 34, 3) := by decide +kernel
theorem d_cRd_readNumber_142 : decode prog_3_method_15_code 142 = .ok (.iconst 1, 1) := by decide +kernel
theorem d_cRd_readNumber_143 : decode prog_3_method_15_code 143 = .ok (.iadd, 1) := by decide +kernel
theorem d_cRd_readNumber_144 : decode prog_3_method_15_code 144 = .ok (.putfield 34, 3) := by decide +kernel
theorem d_cRd_readNumber_147 : decode prog_3_method_15_code 147 = .ok (.iinc 6 1, 3) := by decide +kernel
theorem d_cRd_readNumber_150 : decode prog_3_method_15_code 150 = .ok (.goto (-61), 3) := by decide +kernel
set_option maxHeartbeats 4000000 in
set_option maxRecDepth 100000 in
theorem w_cRd_readNumber_B89 {p : Program} {l : Launch} {e : Env} {s : State} {m : MethodId} {args : Array Value} {below : List Frame} {meth : Method} {c : Code} {A : Nat → Prop} {D : va_G} {ad : Nat → Nat → Nat} {cc : Nat → ClassId} {sad sav : Nat → Nat} {Q : State → Prop} (hC : MCc sad sav "JoinedTrees$JsonReader" prog_3_method_15_code 7 (some .boolean) p s m args meth c A D cc) {N : Nat → Nat} {x0 : Nat} {S : CS} {x1 : Option Nat} {x2 : Int32} {x3 : Int32} {x4 : Int64} {x6 : Int32} {o : ((CS × Option Nat × Int32 × Int32 × Int64 × Int32) ⊕ (CS × Option Nat × Int32 × Int64))} (Heq : m_cRd_readNumber_B89 N x0 S x1 x2 x3 x4 x6 = some o) (Ka : ∀ b : CS × Option Nat × Int32 × Int32 × Int64 × Int32, o = .inl b → ∀ (H : Heap) (locs : List Loc) (ls : Array Slot), va_P D cls (cw ad cc N b.1) H → va_D A (cw ad cc N b.1) → va_S A s.heap H locs → lv_has ls 7 [(0, .ref (ad 1 x0)), (1, rv ad 9 b.2.1), (2, .int b.2.2.1), (3, .int b.2.2.2.1), (4, .long b.2.2.2.2.1), (6, .int b.2.2.2.2.2)] → W p l e ({ frames := 1, cells := 0, slots := 0, locals := 21 }) s m args below meth c H locs 0 0 Q (F0 m 89 ls [])) (K0 : ∀ b : CS × Option Nat × Int32 × Int64, o = .inr b → ∀ (H : Heap) (locs : List Loc) (ls : Array Slot), va_P D cls (cw ad cc N b.1) H → va_D A (cw ad cc N b.1) → va_S A s.heap H locs → lv_has ls 7 [(0, .ref (ad 1 x0)), (1, rv ad 9 b.2.1), (2, .int b.2.2.1), (4, .long b.2.2.2)] → W p l e ({ frames := 1, cells := 0, slots := 0, locals := 21 }) s m args below meth c H locs 0 0 Q (F0 m 153 ls [])) : ∀ (H : Heap) (locs : List Loc) (ls : Array Slot), va_P D cls (cw ad cc N S) H → va_D A (cw ad cc N S) → va_S A s.heap H locs → lv_has ls 7 [(0, .ref (ad 1 x0)), (1, rv ad 9 x1), (2, .int x2), (3, .int x3), (4, .long x4), (6, .int x6)] → W p l e ({ frames := 1, cells := 0, slots := 0, locals := 21 }) s m args below meth c H locs 0 0 Q (F0 m 89 ls []) := by
  intro H locs ls hP hD hS hl
  obtain ⟨hx, hb, hr, hml, hown, hts, hK, hA, hev, hE, hN, hNS⟩ := id hC
  unfold m_cRd_readNumber_B89 at Heq
  refine lv_iload hx hb d_cRd_readNumber_89 (lv_at hl 5 rfl) ?_
  refine lv_iload_n hx hb d_cRd_readNumber_91 rfl (lv_at hl 3 rfl) ?_
  refine lv_icmp_ge (tgt := 153) hx hb d_cRd_readNumber_92 (by decide) (fun c_1 => ?_) (fun c_1 => ?_)
  · replace Heq := (if_pos c_1).symm.trans Heq
    exact K0 _ (Option.some.inj Heq).symm _ _ _ hP hD hS (lv_sub hl [0, 1, 2, 4] rfl)
  · replace Heq := (if_neg c_1).symm.trans Heq
    refine lv_aload_n hx hb d_cRd_readNumber_95 rfl (lv_at hl 0 rfl) ?_
    obtain ⟨hl_x0_1, Heq⟩ := gl_some Heq
    refine va_get (D := D) (ci := 1) (v := rv ad 5 (S.r 1 2 x0)) (C := R_Rd) (T := F_Rd) (N := 10) hx hb hts i_Rd hown hK hP (cPos N 1 x0) (cw_obj (k := 1) (by decide) hl_x0_1) rfl 2 (by decide) (hts _ kw_346) (fun _ h9 => h9) rfl d_cRd_readNumber_96 ?_
    refine lv_aload_n hx hb d_cRd_readNumber_99 rfl (lv_at hl 0 rfl) ?_
    refine va_get (D := D) (ci := 1) (v := .int (S.i 1 4 x0)) (C := R_Rd) (T := F_Rd) (N := 10) hx hb hts i_Rd hown hK hP (cPos N 1 x0) (cw_obj (k := 1) (by decide) hl_x0_1) rfl 4 (by decide) (hts _ kw_349) (fun _ h9 => h9) rfl d_cRd_readNumber_100 ?_
    obtain ⟨j_2, hj_3, hl_4, Heq⟩ := gn_some Heq
    refine w_s (st' := [.int (S.i 1 4 x0), .ref (ad 5 j_2)]) (congrArg (fun z9 : Option Nat => [.int (S.i 1 4 x0), rv ad 5 z9]) hj_3) ?_
    obtain ⟨o_5, h_6, Heq⟩ := ob_some Heq
    have hFc := fr_all hD hS hA
    refine va_calli (va_runV (As := [.int (S.i 1 4 x0)]) (rest := []) ⟨hx, hb, hml, hown, hts⟩ (g_cRw_at l D H.size (ad := ad) (cc := cc) (sad := sad) (sav := sav) h_6) (cw_v 1 hts kw_689 kw_871 kw_687 kw_688 kw_4 rfl rfl (by decide +kernel) ⟨Nat.le_of_ble_eq_true rfl, Nat.le_of_ble_eq_true rfl⟩) ⟨c_blind, va_recv hK hP (ci := 5) (q0 := cPos N 5 j_2) rfl (cw_obj (k := 5) (by decide) hl_4), fun U hU hW => c_pre hU hW hP hK hD hev hE hN hNS hS hFc⟩ rfl rfl hl.1 rfl (lv_room (Nat.le_of_ble_eq_true rfl)) d_cRd_readNumber_103 ⟨Nat.le_of_ble_eq_true rfl, Nat.le_of_ble_eq_true rfl⟩) hS (fun q _ h => hFc q h) hFc (fun rz u t H1 locs ht hvm hw hB hz1 hk1 hS => ?_)
    obtain ⟨hP, -, hD1⟩ := hB
    rw [ht] at hP
    have hD := hD1.weaken (fun _ q _ h => hFc q.1 h)
    generalize H1 = H at hP hS ⊢
    refine W.cs (cells' := 0) (slots' := 0) rfl rfl ?_
    subst hw
    obtain ⟨o_7, h_8, Heq⟩ := ob_some Heq
    have hFc := fr_all hD hS hA
    refine va_calli (va_runSN (As := [.int o_5.2]) (rest := []) ⟨hx, hb, hml, hown, hts⟩ (g_cJT_isDigit l D H.size (ad := ad) (cc := cc) (sad := sad) (sav := sav) h_8) ⟨cw_n 1 hts kw_964 hN kw_1 rfl rfl (by decide +kernel) ⟨Nat.le_of_ble_eq_true rfl, Nat.le_of_ble_eq_true rfl⟩, hts _ kw_963, trivial⟩ ⟨c_blind, fun U hU hW => c_pre hU hW hP hK hD hev hE hN hNS hS hFc⟩ rfl rfl hl.1 rfl (lv_room (Nat.le_of_ble_eq_true rfl)) d_cRd_readNumber_106 ⟨Nat.le_of_ble_eq_true rfl, Nat.le_of_ble_eq_true rfl⟩) hS (fun q _ h => hFc q h) hFc (fun rz u t H1 locs ht hvm hw hB hz1 hk1 hS => ?_)
    obtain ⟨hP, -, hD1⟩ := hB
    rw [ht] at hP
    have hD := hD1.weaken (fun _ q _ h => hFc q.1 h)
    generalize H1 = H at hP hS ⊢
    refine W.cs (cells' := 0) (slots' := 0) rfl rfl ?_
    subst hw
    refine lv_if_eq (tgt := 153) hx hb d_cRd_readNumber_109 (by decide) (fun c_9 => ?_) (fun c_9 => ?_)
    · replace Heq := (if_pos c_9).symm.trans Heq
      exact K0 _ (Option.some.inj Heq).symm _ _ _ hP hD hS (lv_sub hl [0, 1, 2, 4] rfl)
    · replace Heq := (if_neg c_9).symm.trans Heq
      refine lv_ldc2 (v := 10) hx hb hown (hts _ kw_965) d_cRd_readNumber_112 ?_
      refine lv_lload hx hb d_cRd_readNumber_115 (lv_at hl 4 rfl) ?_
      refine lv_lmul hx hb d_cRd_readNumber_117 ?_
      refine w_l (y := 10 * x4) rfl ?_
      refine lv_aload_n hx hb d_cRd_readNumber_118 rfl (lv_at hl 0 rfl) ?_
      refine va_get (D := D) (ci := 1) (v := rv ad 5 (o_7.1.r 1 2 x0)) (C := R_Rd) (T := F_Rd) (N := 10) hx hb hts i_Rd hown hK hP (cPos N 1 x0) (cw_obj (k := 1) (by decide) hl_x0_1) rfl 2 (by decide) (hts _ kw_346) (fun _ h9 => h9) rfl d_cRd_readNumber_119 ?_
      refine lv_aload_n hx hb d_cRd_readNumber_122 rfl (lv_at hl 0 rfl) ?_
      refine va_get (D := D) (ci := 1) (v := .int (o_7.1.i 1 4 x0)) (C := R_Rd) (T := F_Rd) (N := 10) hx hb hts i_Rd hown hK hP (cPos N 1 x0) (cw_obj (k := 1) (by decide) hl_x0_1) rfl 4 (by decide) (hts _ kw_349) (fun _ h9 => h9) rfl d_cRd_readNumber_123 ?_
      obtain ⟨j_10, hj_11, hl_12, Heq⟩ := gn_some Heq
      refine w_s (st' := [.int (o_7.1.i 1 4 x0), .ref (ad 5 j_10), .long (10 * x4)]) (congrArg (fun z9 : Option Nat => [.int (o_7.1.i 1 4 x0), rv ad 5 z9, .long (10 * x4)]) hj_11) ?_
      obtain ⟨o_13, h_14, Heq⟩ := ob_some Heq
      have hFc := fr_all hD hS hA
      refine va_calli (va_runV (As := [.int (o_7.1.i 1 4 x0)]) (rest := [.long (10 * x4)]) ⟨hx, hb, hml, hown, hts⟩ (g_cRw_at l D H.size (ad := ad) (cc := cc) (sad := sad) (sav := sav) h_14) (cw_v 1 hts kw_689 kw_871 kw_687 kw_688 kw_4 rfl rfl (by decide +kernel) ⟨Nat.le_of_ble_eq_true rfl, Nat.le_of_ble_eq_true rfl⟩) ⟨c_blind, va_recv hK hP (ci := 5) (q0 := cPos N 5 j_10) rfl (cw_obj (k := 5) (by decide) hl_12), fun U hU hW => c_pre hU hW hP hK hD hev hE hN hNS hS hFc⟩ rfl rfl hl.1 rfl (lv_room (Nat.le_of_ble_eq_true rfl)) d_cRd_readNumber_126 ⟨Nat.le_of_ble_eq_true rfl, Nat.le_of_ble_eq_true rfl⟩) hS (fun q _ h => hFc q h) hFc (fun rz u t H1 locs ht hvm hw hB hz1 hk1 hS => ?_)
      obtain ⟨hP, -, hD1⟩ := hB
      rw [ht] at hP
      have hD := hD1.weaken (fun _ q _ h => hFc q.1 h)
      generalize H1 = H at hP hS ⊢
      refine W.cs (cells' := 0) (slots' := 0) rfl rfl ?_
      subst hw
      refine lv_i2l hx hb d_cRd_readNumber_129 rfl ?_
      refine w_l (y := o_13.2.toInt64) rfl ?_
      refine lv_ladd hx hb d_cRd_readNumber_130 ?_
      refine w_l (y := (10 * x4) + o_13.2.toInt64) rfl ?_
      refine lv_ldc2 (v := 48) hx hb hown (hts _ kw_966) d_cRd_readNumber_131 ?_
      refine lv_lsub hx hb d_cRd_readNumber_134 ?_
      refine w_l (y := ((10 * x4) + o_13.2.toInt64) - 48) rfl ?_
      refine lv_lstore (lv' := [(4, .long (((10 * x4) + o_13.2.toInt64) - 48)), (0, .ref (ad 1 x0)), (1, rv ad 9 x1), (2, .int x2), (3, .int x3), (6, .int x6)]) hx hb d_cRd_readNumber_135 hl (by decide) rfl (fun ls hl => ?_)
      refine lv_aload_n hx hb d_cRd_readNumber_137 rfl (lv_at hl 1 rfl) ?_
      refine lv_dup hx hb d_cRd_readNumber_138 (by first | rfl | exact rv_cat) ?_
      refine va_get (D := D) (ci := 1) (v := .int (o_13.1.i 1 4 x0)) (C := R_Rd) (T := F_Rd) (N := 10) hx hb hts i_Rd hown hK hP (cPos N 1 x0) (cw_obj (k := 1) (by decide) hl_x0_1) rfl 4 (by decide) (hts _ kw_349) (fun _ h9 => h9) rfl d_cRd_readNumber_139 ?_
      refine lv_iconst (v := 1) hx hb d_cRd_readNumber_142 (by decide) ?_
      refine lv_iadd hx hb d_cRd_readNumber_143 ?_
      refine w_i (y := (o_13.1.i 1 4 x0) + 1) rfl ?_
      refine va_put (D := D) (ci := 1) (v := .int ((o_13.1.i 1 4 x0) + 1)) (ty := .int) (C := R_Rd) (T := F_Rd) (N := 10) hx hb hts i_Rd t_Rd t_Rd_ok n_Rd hown hK hP hD hS (cPos N 1 x0) (cw_obj (k := 1) (by decide) hl_x0_1) rfl 4 (by decide) (hts _ kw_349) (fun _ h9 => h9) rfl (by decide +kernel) rfl rfl (Nat.le_of_ble_eq_true rfl) d_cRd_readNumber_144 (fun H locs hP hD hS => ?_)
      have hD := (congrArg (fun w9 => va_D A w9) (cw_setI (ad := ad) (cc := cc) (S := o_13.1) (k := 1) (f := 4) (v := (o_13.1.i 1 4 x0) + 1) (by decide) rfl hl_x0_1)).mp hD
      have hP := (congrArg (fun w9 => va_P D cls w9 H) (cw_setI (ad := ad) (cc := cc) (S := o_13.1) (k := 1) (f := 4) (v := (o_13.1.i 1 4 x0) + 1) (by decide) rfl hl_x0_1)).mp hP
      refine lv_iinc (v := x6 + 1) (lv' := [(6, .int (x6 + 1)), (4, .long (((10 * x4) + o_13.2.toInt64) - 48)), (0, .ref (ad 1 x0)), (1, rv ad 9 x1), (2, .int x2), (3, .int x3)]) hx hb d_cRd_readNumber_147 hl (k := 5) rfl rfl (by decide) rfl (fun ls hl => ?_)
      refine lv_goto (tgt := 89) hx hb d_cRd_readNumber_150 (by decide) ?_
      exact Ka _ (Option.some.inj Heq).symm _ _ _ hP hD hS (lv_sub hl [2, 3, 4, 5, 1, 0] rfl)
def m_cRd_readNumber_L89 (N : Nat → Nat) (x0 : Nat) (S : CS) (x1 : Option Nat) (x2 : Int32) (x3 : Int32) (x4 : Int64) (x6 : Int32) : Option (CS × Option Nat × Int32 × Int64) := lp (fun a : CS × Option Nat × Int32 × Int32 × Int64 × Int32 => m_cRd_readNumber_B89 N x0 a.1 a.2.1 a.2.2.1 a.2.2.2.1 a.2.2.2.2.1 a.2.2.2.2.2) FU (S, x1, x2, x3, x4, x6)
theorem w_cRd_readNumber_L89 {p : Program} {l : Launch} {e : Env} {s : State} {m : MethodId} {args : Array Value} {below : List Frame} {meth : Method} {c : Code} {A : Nat → Prop} {D : va_G} {ad : Nat → Nat → Nat} {cc : Nat → ClassId} {sad sav : Nat → Nat} {Q : State → Prop} (hC : MCc sad sav "JoinedTrees$JsonReader" prog_3_method_15_code 7 (some .boolean) p s m args meth c A D cc) {N : Nat → Nat} {x0 : Nat} {S : CS} {x1 : Option Nat} {x2 : Int32} {x3 : Int32} {x4 : Int64} {x6 : Int32} {o : CS × Option Nat × Int32 × Int64} (Heq : m_cRd_readNumber_L89 N x0 S x1 x2 x3 x4 x6 = some o) (K0 : ∀ b : CS × Option Nat × Int32 × Int64, o = b → ∀ (H : Heap) (locs : List Loc) (ls : Array Slot), va_P D cls (cw ad cc N b.1) H → va_D A (cw ad cc N b.1) → va_S A s.heap H locs → lv_has ls 7 [(0, .ref (ad 1 x0)), (1, rv ad 9 b.2.1), (2, .int b.2.2.1), (4, .long b.2.2.2)] → W p l e ({ frames := 1, cells := 0, slots := 0, locals := 21 }) s m args below meth c H locs 0 0 Q (F0 m 153 ls [])) : ∀ (H : Heap) (locs : List Loc) (ls : Array Slot), va_P D cls (cw ad cc N S) H → va_D A (cw ad cc N S) → va_S A s.heap H locs → lv_has ls 7 [(0, .ref (ad 1 x0)), (1, rv ad 9 x1), (2, .int x2), (3, .int x3), (4, .long x4), (6, .int x6)] → W p l e ({ frames := 1, cells := 0, slots := 0, locals := 21 }) s m args below meth c H locs 0 0 Q (F0 m 89 ls []) := by
  refine lp_w (G := fun a : CS × Option Nat × Int32 × Int32 × Int64 × Int32 => ∀ (H : Heap) (locs : List Loc) (ls : Array Slot), va_P D cls (cw ad cc N a.1) H → va_D A (cw ad cc N a.1) → va_S A s.heap H locs → lv_has ls 7 [(0, .ref (ad 1 x0)), (1, rv ad 9 a.2.1), (2, .int a.2.2.1), (3, .int a.2.2.2.1), (4, .long a.2.2.2.2.1), (6, .int a.2.2.2.2.2)] → W p l e ({ frames := 1, cells := 0, slots := 0, locals := 21 }) s m args below meth c H locs 0 0 Q (F0 m 89 ls [])) ?_ FU (S, x1, x2, x3, x4, x6) Heq
  intro a o1 ho Ka Ke
  exact w_cRd_readNumber_B89 hC ho (fun b h => Ka b h) (fun b h => K0 b (Ke _ h).symm)
def m_cRd_readNumber_J166 (N : Nat → Nat) (x0 : Nat) (S : CS) (t0 : Int64) (t1 : Option Nat) : Option (CS × Int32) := gn t1 (N 9) (fun j_1 => some ((S.setL 9 1 j_1 t0), 1))
theorem d_cRd_readNumber_153 : decode prog_3_method_15_code 153 = .ok (.aload_n 1, 1) := by decide +kernel
theorem d_cRd_readNumber_154 : decode prog_3_method_15_code 154 = .ok (.iload_n 2, 1) := by decide +kernel
theorem d_cRd_readNumber_155 : decode prog_3_method_15_code 155 = .ok (.ifCond .eq 9, 3) := by decide +kernel
theorem d_cRd_readNumber_164 : decode prog_3_method_15_code 164 = .ok (.lload 4, 2) := by decide +kernel
theorem d_cRd_readNumber_166 : decode prog_3_method_15_code 166 = .ok (.putfield 155, 3) := by decide +kernel
theorem d_cRd_readNumber_169 : decode prog_3_method_15_code 169 = .ok (.iconst 1, 1) := by decide +kernel
theorem d_cRd_readNumber_170 : decode prog_3_method_15_code 170 = .ok (.ireturn, 1) := by decide +kernel
set_option maxHeartbeats 4000000 in
set_option maxRecDepth 100000 in
theorem w_cRd_readNumber_J166 {p : Program} {l : Launch} {e : Env} {s : State} {m : MethodId} {args : Array Value} {below : List Frame} {meth : Method} {c : Code} {A : Nat → Prop} {D : va_G} {ad : Nat → Nat → Nat} {cc : Nat → ClassId} {sad sav : Nat → Nat} {Q : State → Prop} (hC : MCc sad sav "JoinedTrees$JsonReader" prog_3_method_15_code 7 (some .boolean) p s m args meth c A D cc) {N : Nat → Nat} {x0 : Nat} {S : CS} {t0 : Int64} {t1 : Option Nat} {o : CS × Int32} (Heq : m_cRd_readNumber_J166 N x0 S t0 t1 = some o) (Kr : ∀ r : CS × Int32, o = r → ∀ (pc : Nat) (H : Heap) (locs : List Loc) (ls : Array Slot), decode prog_3_method_15_code pc = .ok (.ireturn, 1) → (r.2 = 0 ∨ r.2 = 1) → va_P D cls (cw ad cc N r.1) H → va_D A (cw ad cc N r.1) → va_S A s.heap H locs → W p l e ({ frames := 1, cells := 0, slots := 0, locals := 21 }) s m args below meth c H locs 0 0 Q (F0 m pc ls [.int r.2])) : ∀ (H : Heap) (locs : List Loc) (ls : Array Slot), va_P D cls (cw ad cc N S) H → va_D A (cw ad cc N S) → va_S A s.heap H locs → lv_has ls 7 [(0, .ref (ad 1 x0))] → W p l e ({ frames := 1, cells := 0, slots := 0, locals := 21 }) s m args below meth c H locs 0 0 Q (F0 m 166 ls [.long t0, rv ad 9 t1]) := by
  intro H locs ls hP hD hS hl
  obtain ⟨hx, hb, hr, hml, hown, hts, hK, hA, hev, hE, hN, hNS⟩ := id hC
  unfold m_cRd_readNumber_J166 at Heq
  obtain ⟨j_1, hj_2, hl_3, Heq⟩ := gn_some Heq
  refine w_s (st' := [.long t0, .ref (ad 9 j_1)]) (congrArg (fun z9 : Option Nat => [.long t0, rv ad 9 z9]) hj_2) ?_
  refine va_put (D := D) (ci := 9) (v := .long t0) (ty := .long) (C := R_Va) (T := F_Va) (N := 10) hx hb hts i_Va t_Va t_Va_ok n_Va hown hK hP hD hS (cPos N 9 j_1) (cw_obj (k := 9) (by decide) hl_3) rfl 1 (by decide) (hts _ kw_298) (fun _ h9 => h9) rfl (by decide +kernel) rfl rfl (Nat.le_of_ble_eq_true rfl) d_cRd_readNumber_166 (fun H locs hP hD hS => ?_)
  have hD := (congrArg (fun w9 => va_D A w9) (cw_setL (ad := ad) (cc := cc) (S := S) (k := 9) (f := 1) (v := t0) (by decide) rfl hl_3)).mp hD
  have hP := (congrArg (fun w9 => va_P D cls w9 H) (cw_setL (ad := ad) (cc := cc) (S := S) (k := 9) (f := 1) (v := t0) (by decide) rfl hl_3)).mp hP
  refine lv_iconst (v := 1) hx hb d_cRd_readNumber_169 (by decide) ?_
  exact Kr _ (Option.some.inj Heq).symm 170 _ _ _ d_cRd_readNumber_170 (Or.inr rfl) hP hD hS
def m_cRd_readNumber_J153 (N : Nat → Nat) (x0 : Nat) (S : CS) (x1 : Option Nat) (x2 : Int32) (x4 : Int64) : Option (CS × Int32) := (if x2 = 0 then m_cRd_readNumber_J166 N x0 S x4 x1 else m_cRd_readNumber_J166 N x0 S (-x4) x1)
theorem d_cRd_readNumber_158 : decode prog_3_method_15_code 158 = .ok (.lload 4, 2) := by decide +kernel
theorem d_cRd_readNumber_160 : decode prog_3_method_15_code 160 = .ok (.lneg, 1) := by decide +kernel
theorem d_cRd_readNumber_161 : decode prog_3_method_15_code 161 = .ok (.goto 5, 3) := by decide +kernel
set_option maxHeartbeats 4000000 in
set_option maxRecDepth 100000 in
theorem w_cRd_readNumber_J153 {p : Program} {l : Launch} {e : Env} {s : State} {m : MethodId} {args : Array Value} {below : List Frame} {meth : Method} {c : Code} {A : Nat → Prop} {D : va_G} {ad : Nat → Nat → Nat} {cc : Nat → ClassId} {sad sav : Nat → Nat} {Q : State → Prop} (hC : MCc sad sav "JoinedTrees$JsonReader" prog_3_method_15_code 7 (some .boolean) p s m args meth c A D cc) {N : Nat → Nat} {x0 : Nat} {S : CS} {x1 : Option Nat} {x2 : Int32} {x4 : Int64} {o : CS × Int32} (Heq : m_cRd_readNumber_J153 N x0 S x1 x2 x4 = some o) (Kr : ∀ r : CS × Int32, o = r → ∀ (pc : Nat) (H : Heap) (locs : List Loc) (ls : Array Slot), decode prog_3_method_15_code pc = .ok (.ireturn, 1) → (r.2 = 0 ∨ r.2 = 1) → va_P D cls (cw ad cc N r.1) H → va_D A (cw ad cc N r.1) → va_S A s.heap H locs → W p l e ({ frames := 1, cells := 0, slots := 0, locals := 21 }) s m args below meth c H locs 0 0 Q (F0 m pc ls [.int r.2])) : ∀ (H : Heap) (locs : List Loc) (ls : Array Slot), va_P D cls (cw ad cc N S) H → va_D A (cw ad cc N S) → va_S A s.heap H locs → lv_has ls 7 [(0, .ref (ad 1 x0)), (1, rv ad 9 x1), (2, .int x2), (4, .long x4)] → W p l e ({ frames := 1, cells := 0, slots := 0, locals := 21 }) s m args below meth c H locs 0 0 Q (F0 m 153 ls []) := by
  intro H locs ls hP hD hS hl
  obtain ⟨hx, hb, hr, hml, hown, hts, hK, hA, hev, hE, hN, hNS⟩ := id hC
  unfold m_cRd_readNumber_J153 at Heq
  refine tx_aload_n (x := x1.map (ad 9)) hx hb d_cRd_readNumber_153 rfl (lv_at hl 1 rfl) ?_
  refine w_v (y := rv ad 9 x1) rfl ?_
  refine lv_iload_n hx hb d_cRd_readNumber_154 rfl (lv_at hl 2 rfl) ?_
  refine lv_if_eq (tgt := 164) hx hb d_cRd_readNumber_155 (by decide) (fun c_1 => ?_) (fun c_1 => ?_)
  · replace Heq := (if_pos c_1).symm.trans Heq
    refine lv_lload hx hb d_cRd_readNumber_164 (lv_at hl 3 rfl) ?_
    exact w_cRd_readNumber_J166 hC Heq Kr _ _ _ hP hD hS (lv_sub hl [0] rfl)
  · replace Heq := (if_neg c_1).symm.trans Heq
    refine lv_lload hx hb d_cRd_readNumber_158 (lv_at hl 3 rfl) ?_
    refine lv_lneg hx hb d_cRd_readNumber_160 ?_
    refine w_l (y := -x4) rfl ?_
    refine lv_goto (tgt := 166) hx hb d_cRd_readNumber_161 (by decide) ?_
    exact w_cRd_readNumber_J166 hC Heq Kr _ _ _ hP hD hS (lv_sub hl [0] rfl)
def m_cRd_readNumber_J82 (N : Nat → Nat) (x0 : Nat) (S : CS) (x1 : Option Nat) (x2 : Int32) (t0 : Int32) : Option (CS × Int32) := ob (m_cRd_readNumber_L89 N x0 S x1 x2 t0 0 0) (fun b_1 => m_cRd_readNumber_J153 N x0 b_1.1 b_1.2.1 b_1.2.2.1 b_1.2.2.2)
set_option maxHeartbeats 4000000 in
set_option maxRecDepth 100000 in
theorem w_cRd_readNumber_J82 {p : Program} {l : Launch} {e : Env} {s : State} {m : MethodId} {args : Array Value} {below : List Frame} {meth : Method} {c : Code} {A : Nat → Prop} {D : va_G} {ad : Nat → Nat → Nat} {cc : Nat → ClassId} {sad sav : Nat → Nat} {Q : State → Prop} (hC : MCc sad sav "JoinedTrees$JsonReader" prog_3_method_15_code 7 (some .boolean) p s m args meth c A D cc) {N : Nat → Nat} {x0 : Nat} {S : CS} {x1 : Option Nat} {x2 : Int32} {t0 : Int32} {o : CS × Int32} (Heq : m_cRd_readNumber_J82 N x0 S x1 x2 t0 = some o) (Kr : ∀ r : CS × Int32, o = r → ∀ (pc : Nat) (H : Heap) (locs : List Loc) (ls : Array Slot), decode prog_3_method_15_code pc = .ok (.ireturn, 1) → (r.2 = 0 ∨ r.2 = 1) → va_P D cls (cw ad cc N r.1) H → va_D A (cw ad cc N r.1) → va_S A s.heap H locs → W p l e ({ frames := 1, cells := 0, slots := 0, locals := 21 }) s m args below meth c H locs 0 0 Q (F0 m pc ls [.int r.2])) : ∀ (H : Heap) (locs : List Loc) (ls : Array Slot), va_P D cls (cw ad cc N S) H → va_D A (cw ad cc N S) → va_S A s.heap H locs → lv_has ls 7 [(0, .ref (ad 1 x0)), (1, rv ad 9 x1), (2, .int x2)] → W p l e ({ frames := 1, cells := 0, slots := 0, locals := 21 }) s m args below meth c H locs 0 0 Q (F0 m 82 ls [.int t0]) := by
  intro H locs ls hP hD hS hl
  obtain ⟨hx, hb, hr, hml, hown, hts, hK, hA, hev, hE, hN, hNS⟩ := id hC
  unfold m_cRd_readNumber_J82 at Heq
  refine lv_istore_n (lv' := [(3, .int t0), (0, .ref (ad 1 x0)), (1, rv ad 9 x1), (2, .int x2)]) hx hb d_cRd_readNumber_82 rfl hl (by decide) rfl (fun ls hl => ?_)
  refine lv_lconst (v := 0) hx hb d_cRd_readNumber_83 (by decide) ?_
  refine lv_lstore (lv' := [(4, .long 0), (3, .int t0), (0, .ref (ad 1 x0)), (1, rv ad 9 x1), (2, .int x2)]) hx hb d_cRd_readNumber_84 hl (by decide) rfl (fun ls hl => ?_)
  refine lv_iconst (v := 0) hx hb d_cRd_readNumber_86 (by decide) ?_
  refine lv_istore (lv' := [(6, .int 0), (4, .long 0), (3, .int t0), (0, .ref (ad 1 x0)), (1, rv ad 9 x1), (2, .int x2)]) hx hb d_cRd_readNumber_87 hl (by decide) rfl (fun ls hl => ?_)
  obtain ⟨b_1, h_2, Heq⟩ := ob_some Heq
  refine w_cRd_readNumber_L89 hC h_2 (fun b h => ?_) _ _ _ hP hD hS (lv_sub hl [3, 4, 5, 2, 1, 0] rfl)
  subst h
  intro H locs ls hP hD hS hl
  exact w_cRd_readNumber_J153 hC Heq Kr _ _ _ hP hD hS (lv_sub hl [0, 1, 2, 3] rfl)
def m_cRd_readNumber_J41 (N : Nat → Nat) (x0 : Nat) (S : CS) (x1 : Option Nat) (x2 : Int32) : Option (CS × Int32) := gl x0 (N 1) (gn (S.r 1 2 x0) (N 5) (fun j_1 => ob (m_cRw_at N j_1 S (S.i 1 4 x0)) (fun o_4 => ob (m_cJT_isDigit N o_4.1 o_4.2) (fun o_6 => (if o_6.2 = 0 then some (o_6.1, 0) else gn (o_6.1.r 1 2 x0) (N 5) (fun j_9 => ob (m_cRw_at N j_9 o_6.1 (o_6.1.i 1 4 x0)) (fun o_12 => (if o_12.2 = 48 then m_cRd_readNumber_J82 N x0 o_12.1 x1 x2 1 else m_cRd_readNumber_J82 N x0 o_12.1 x1 x2 18))))))))
theorem d_cRd_readNumber_76 : decode prog_3_method_15_code 76 = .ok (.iconst 1, 1) := by decide +kernel
theorem d_cRd_readNumber_77 : decode prog_3_method_15_code 77 = .ok (.goto 5, 3) := by decide +kernel
theorem d_cRd_readNumber_58 : decode prog_3_method_15_code 58 = .ok (.iconst 0, 1) := by decide +kernel
theorem d_cRd_readNumber_59 : decode prog_3_method_15_code 59 = .ok (.ireturn, 1) := by decide +kernel
set_option maxHeartbeats 4000000 in
set_option maxRecDepth 100000 in
theorem w_cRd_readNumber_J41 {p : Program} {l : Launch} {e : Env} {s : State} {m : MethodId} {args : Array Value} {below : List Frame} {meth : Method} {c : Code} {A : Nat → Prop} {D : va_G} {ad : Nat → Nat → Nat} {cc : Nat → ClassId} {sad sav : Nat → Nat} {Q : State → Prop} (hC : MCc sad sav "JoinedTrees$JsonReader" prog_3_method_15_code 7 (some .boolean) p s m args meth c A D cc) {N : Nat → Nat} {x0 : Nat} {S : CS} {x1 : Option Nat} {x2 : Int32} {o : CS × Int32} (Heq : m_cRd_readNumber_J41 N x0 S x1 x2 = some o) (Kr : ∀ r : CS × Int32, o = r → ∀ (pc : Nat) (H : Heap) (locs : List Loc) (ls : Array Slot), decode prog_3_method_15_code pc = .ok (.ireturn, 1) → (r.2 = 0 ∨ r.2 = 1) → va_P D cls (cw ad cc N r.1) H → va_D A (cw ad cc N r.1) → va_S A s.heap H locs → W p l e ({ frames := 1, cells := 0, slots := 0, locals := 21 }) s m args below meth c H locs 0 0 Q (F0 m pc ls [.int r.2])) : ∀ (H : Heap) (locs : List Loc) (ls : Array Slot), va_P D cls (cw ad cc N S) H → va_D A (cw ad cc N S) → va_S A s.heap H locs → lv_has ls 7 [(0, .ref (ad 1 x0)), (1, rv ad 9 x1), (2, .int x2)] → W p l e ({ frames := 1, cells := 0, slots := 0, locals := 21 }) s m args below meth c H locs 0 0 Q (F0 m 41 ls []) := by
  intro H locs ls hP hD hS hl
  obtain ⟨hx, hb, hr, hml, hown, hts, hK, hA, hev, hE, hN, hNS⟩ := id hC
  unfold m_cRd_readNumber_J41 at Heq
  refine lv_aload_n hx hb d_cRd_readNumber_41 rfl (lv_at hl 0 rfl) ?_
  obtain ⟨hl_x0_1, Heq⟩ := gl_some Heq
  refine va_get (D := D) (ci := 1) (v := rv ad 5 (S.r 1 2 x0)) (C := R_Rd) (T := F_Rd) (N := 10) hx hb hts i_Rd hown hK hP (cPos N 1 x0) (cw_obj (k := 1) (by decide) hl_x0_1) rfl 2 (by decide) (hts _ kw_346) (fun _ h9 => h9) rfl d_cRd_readNumber_42 ?_
  refine lv_aload_n hx hb d_cRd_readNumber_45 rfl (lv_at hl 0 rfl) ?_
  refine va_get (D := D) (ci := 1) (v := .int (S.i 1 4 x0)) (C := R_Rd) (T := F_Rd) (N := 10) hx hb hts i_Rd hown hK hP (cPos N 1 x0) (cw_obj (k := 1) (by decide) hl_x0_1) rfl 4 (by decide) (hts _ kw_349) (fun _ h9 => h9) rfl d_cRd_readNumber_46 ?_
  obtain ⟨j_1, hj_2, hl_3, Heq⟩ := gn_some Heq
  refine w_s (st' := [.int (S.i 1 4 x0), .ref (ad 5 j_1)]) (congrArg (fun z9 : Option Nat => [.int (S.i 1 4 x0), rv ad 5 z9]) hj_2) ?_
  obtain ⟨o_4, h_5, Heq⟩ := ob_some Heq
  have hFc := fr_all hD hS hA
  refine va_calli (va_runV (As := [.int (S.i 1 4 x0)]) (rest := []) ⟨hx, hb, hml, hown, hts⟩ (g_cRw_at l D H.size (ad := ad) (cc := cc) (sad := sad) (sav := sav) h_5) (cw_v 1 hts kw_689 kw_871 kw_687 kw_688 kw_4 rfl rfl (by decide +kernel) ⟨Nat.le_of_ble_eq_true rfl, Nat.le_of_ble_eq_true rfl⟩) ⟨c_blind, va_recv hK hP (ci := 5) (q0 := cPos N 5 j_1) rfl (cw_obj (k := 5) (by decide) hl_3), fun U hU hW => c_pre hU hW hP hK hD hev hE hN hNS hS hFc⟩ rfl rfl hl.1 rfl (lv_room (Nat.le_of_ble_eq_true rfl)) d_cRd_readNumber_49 ⟨Nat.le_of_ble_eq_true rfl, Nat.le_of_ble_eq_true rfl⟩) hS (fun q _ h => hFc q h) hFc (fun rz u t H1 locs ht hvm hw hB hz1 hk1 hS => ?_)
  obtain ⟨hP, -, hD1⟩ := hB
  rw [ht] at hP
  have hD := hD1.weaken (fun _ q _ h => hFc q.1 h)
  generalize H1 = H at hP hS ⊢
  refine W.cs (cells' := 0) (slots' := 0) rfl rfl ?_
  subst hw
  obtain ⟨o_6, h_7, Heq⟩ := ob_some Heq
  have hFc := fr_all hD hS hA
  refine va_calli (va_runSN (As := [.int o_4.2]) (rest := []) ⟨hx, hb, hml, hown, hts⟩ (g_cJT_isDigit l D H.size (ad := ad) (cc := cc) (sad := sad) (sav := sav) h_7) ⟨cw_n 1 hts kw_964 hN kw_1 rfl rfl (by decide +kernel) ⟨Nat.le_of_ble_eq_true rfl, Nat.le_of_ble_eq_true rfl⟩, hts _ kw_963, trivial⟩ ⟨c_blind, fun U hU hW => c_pre hU hW hP hK hD hev hE hN hNS hS hFc⟩ rfl rfl hl.1 rfl (lv_room (Nat.le_of_ble_eq_true rfl)) d_cRd_readNumber_52 ⟨Nat.le_of_ble_eq_true rfl, Nat.le_of_ble_eq_true rfl⟩) hS (fun q _ h => hFc q h) hFc (fun rz u t H1 locs ht hvm hw hB hz1 hk1 hS => ?_)
  obtain ⟨hP, -, hD1⟩ := hB
  rw [ht] at hP
  have hD := hD1.weaken (fun _ q _ h => hFc q.1 h)
  generalize H1 = H at hP hS ⊢
  refine W.cs (cells' := 0) (slots' := 0) rfl rfl ?_
  subst hw
  refine lv_if_ne (tgt := 60) hx hb d_cRd_readNumber_55 (by decide) (fun c_8 => ?_) (fun c_8 => ?_)
  · replace Heq := (if_neg c_8).symm.trans Heq
    refine lv_aload_n hx hb d_cRd_readNumber_60 rfl (lv_at hl 0 rfl) ?_
    refine va_get (D := D) (ci := 1) (v := rv ad 5 (o_6.1.r 1 2 x0)) (C := R_Rd) (T := F_Rd) (N := 10) hx hb hts i_Rd hown hK hP (cPos N 1 x0) (cw_obj (k := 1) (by decide) hl_x0_1) rfl 2 (by decide) (hts _ kw_346) (fun _ h9 => h9) rfl d_cRd_readNumber_61 ?_
    refine lv_aload_n hx hb d_cRd_readNumber_64 rfl (lv_at hl 0 rfl) ?_
    refine va_get (D := D) (ci := 1) (v := .int (o_6.1.i 1 4 x0)) (C := R_Rd) (T := F_Rd) (N := 10) hx hb hts i_Rd hown hK hP (cPos N 1 x0) (cw_obj (k := 1) (by decide) hl_x0_1) rfl 4 (by decide) (hts _ kw_349) (fun _ h9 => h9) rfl d_cRd_readNumber_65 ?_
    obtain ⟨j_9, hj_10, hl_11, Heq⟩ := gn_some Heq
    refine w_s (st' := [.int (o_6.1.i 1 4 x0), .ref (ad 5 j_9)]) (congrArg (fun z9 : Option Nat => [.int (o_6.1.i 1 4 x0), rv ad 5 z9]) hj_10) ?_
    obtain ⟨o_12, h_13, Heq⟩ := ob_some Heq
    have hFc := fr_all hD hS hA
    refine va_calli (va_runV (As := [.int (o_6.1.i 1 4 x0)]) (rest := []) ⟨hx, hb, hml, hown, hts⟩ (g_cRw_at l D H.size (ad := ad) (cc := cc) (sad := sad) (sav := sav) h_13) (cw_v 1 hts kw_689 kw_871 kw_687 kw_688 kw_4 rfl rfl (by decide +kernel) ⟨Nat.le_of_ble_eq_true rfl, Nat.le_of_ble_eq_true rfl⟩) ⟨c_blind, va_recv hK hP (ci := 5) (q0 := cPos N 5 j_9) rfl (cw_obj (k := 5) (by decide) hl_11), fun U hU hW => c_pre hU hW hP hK hD hev hE hN hNS hS hFc⟩ rfl rfl hl.1 rfl (lv_room (Nat.le_of_ble_eq_true rfl)) d_cRd_readNumber_68 ⟨Nat.le_of_ble_eq_true rfl, Nat.le_of_ble_eq_true rfl⟩) hS (fun q _ h => hFc q h) hFc (fun rz u t H1 locs ht hvm hw hB hz1 hk1 hS => ?_)
    obtain ⟨hP, -, hD1⟩ := hB
    rw [ht] at hP
    have hD := hD1.weaken (fun _ q _ h => hFc q.1 h)
    generalize H1 = H at hP hS ⊢
    refine W.cs (cells' := 0) (slots' := 0) rfl rfl ?_
    subst hw
    refine lv_bipush (v := 48) hx hb d_cRd_readNumber_71 (by decide) ?_
    refine lv_icmp_ne (tgt := 80) hx hb d_cRd_readNumber_73 (by decide) (fun c_14 => ?_) (fun c_14 => ?_)
    · replace Heq := (if_neg c_14).symm.trans Heq
      refine lv_bipush (v := 18) hx hb d_cRd_readNumber_80 (by decide) ?_
      exact w_cRd_readNumber_J82 hC Heq Kr _ _ _ hP hD hS (lv_sub hl [0, 1, 2] rfl)
    · replace Heq := (if_pos c_14).symm.trans Heq
      refine lv_iconst (v := 1) hx hb d_cRd_readNumber_76 (by decide) ?_
      refine lv_goto (tgt := 82) hx hb d_cRd_readNumber_77 (by decide) ?_
      exact w_cRd_readNumber_J82 hC Heq Kr _ _ _ hP hD hS (lv_sub hl [0, 1, 2] rfl)
  · replace Heq := (if_pos c_8).symm.trans Heq
    refine lv_iconst (v := 0) hx hb d_cRd_readNumber_58 (by decide) ?_
    exact Kr _ (Option.some.inj Heq).symm 59 _ _ _ d_cRd_readNumber_59 (Or.inl rfl) hP hD hS
def m_cRd_readNumber_J26 (N : Nat → Nat) (x0 : Nat) (S : CS) (x1 : Option Nat) (t0 : Int32) : Option (CS × Int32) := (if t0 = 0 then m_cRd_readNumber_J41 N x0 S x1 t0 else gl x0 (N 1) (m_cRd_readNumber_J41 N x0 (S.setI 1 4 x0 ((S.i 1 4 x0) + 1)) x1 t0))
theorem d_cRd_readNumber_31 : decode prog_3_method_15_code 31 = .ok (.aload_n 0, 1) := by decide +kernel
theorem d_cRd_readNumber_32 : decode prog_3_method_15_code 32 = .ok (.dup, 1) := by decide +kernel
theorem d_cRd_readNumber_33 : decode prog_3_method_15_code 33 = .ok (.getfield 34, 3) := by decide +kernel
theorem d_cRd_readNumber_36 : decode prog_3_method_15_code 36 = .ok (.iconst 1, 1) := by decide +kernel
theorem d_cRd_readNumber_37 : decode prog_3_method_15_code 37 = .ok (.iadd, 1) := by decide +kernel
theorem d_cRd_readNumber_38 : decode prog_3_method_15_code 38 = .ok (.putfield 34, 3) := by decide +kernel
set_option maxHeartbeats 4000000 in
set_option maxRecDepth 100000 in
theorem w_cRd_readNumber_J26 {p : Program} {l : Launch} {e : Env} {s : State} {m : MethodId} {args : Array Value} {below : List Frame} {meth : Method} {c : Code} {A : Nat → Prop} {D : va_G} {ad : Nat → Nat → Nat} {cc : Nat → ClassId} {sad sav : Nat → Nat} {Q : State → Prop} (hC : MCc sad sav "JoinedTrees$JsonReader" prog_3_method_15_code 7 (some .boolean) p s m args meth c A D cc) {N : Nat → Nat} {x0 : Nat} {S : CS} {x1 : Option Nat} {t0 : Int32} {o : CS × Int32} (Heq : m_cRd_readNumber_J26 N x0 S x1 t0 = some o) (Kr : ∀ r : CS × Int32, o = r → ∀ (pc : Nat) (H : Heap) (locs : List Loc) (ls : Array Slot), decode prog_3_method_15_code pc = .ok (.ireturn, 1) → (r.2 = 0 ∨ r.2 = 1) → va_P D cls (cw ad cc N r.1) H → va_D A (cw ad cc N r.1) → va_S A s.heap H locs → W p l e ({ frames := 1, cells := 0, slots := 0, locals := 21 }) s m args below meth c H locs 0 0 Q (F0 m pc ls [.int r.2])) : ∀ (H : Heap) (locs : List Loc) (ls : Array Slot), va_P D cls (cw ad cc N S) H → va_D A (cw ad cc N S) → va_S A s.heap H locs → lv_has ls 7 [(0, .ref (ad 1 x0)), (1, rv ad 9 x1)] → W p l e ({ frames := 1, cells := 0, slots := 0, locals := 21 }) s m args below meth c H locs 0 0 Q (F0 m 26 ls [.int t0]) := by
  intro H locs ls hP hD hS hl
  obtain ⟨hx, hb, hr, hml, hown, hts, hK, hA, hev, hE, hN, hNS⟩ := id hC
  unfold m_cRd_readNumber_J26 at Heq
  refine lv_istore_n (i := 2) (lv' := [(2, .int t0), (0, .ref (ad 1 x0)), (1, rv ad 9 x1)]) hx hb d_cRd_readNumber_26 rfl hl (by decide) (by simp [rv, rf_cat]) (fun ls hl => ?_)
  refine lv_iload_n hx hb d_cRd_readNumber_27 rfl (lv_at hl 0 rfl) ?_
  refine lv_if_eq (tgt := 41) hx hb d_cRd_readNumber_28 (by decide) (fun c_1 => ?_) (fun c_1 => ?_)
  · replace Heq := (if_pos c_1).symm.trans Heq
    exact w_cRd_readNumber_J41 hC Heq Kr _ _ _ hP hD hS (lv_sub hl [1, 2, 0] rfl)
  · replace Heq := (if_neg c_1).symm.trans Heq
    refine lv_aload_n hx hb d_cRd_readNumber_31 rfl (lv_at hl 1 rfl) ?_
    refine lv_dup hx hb d_cRd_readNumber_32 (by first | rfl | exact rv_cat) ?_
    obtain ⟨hl_x0_1, Heq⟩ := gl_some Heq
    refine va_get (D := D) (ci := 1) (v := .int (S.i 1 4 x0)) (C := R_Rd) (T := F_Rd) (N := 10) hx hb hts i_Rd hown hK hP (cPos N 1 x0) (cw_obj (k := 1) (by decide) hl_x0_1) rfl 4 (by decide) (hts _ kw_349) (fun _ h9 => h9) rfl d_cRd_readNumber_33 ?_
    refine lv_iconst (v := 1) hx hb d_cRd_readNumber_36 (by decide) ?_
    refine lv_iadd hx hb d_cRd_readNumber_37 ?_
    refine w_i (y := (S.i 1 4 x0) + 1) rfl ?_
    refine va_put (D := D) (ci := 1) (v := .int ((S.i 1 4 x0) + 1)) (ty := .int) (C := R_Rd) (T := F_Rd) (N := 10) hx hb hts i_Rd t_Rd t_Rd_ok n_Rd hown hK hP hD hS (cPos N 1 x0) (cw_obj (k := 1) (by decide) hl_x0_1) rfl 4 (by decide) (hts _ kw_349) (fun _ h9 => h9) rfl (by decide +kernel) rfl rfl (Nat.le_of_ble_eq_true rfl) d_cRd_readNumber_38 (fun H locs hP hD hS => ?_)
    have hD := (congrArg (fun w9 => va_D A w9) (cw_setI (ad := ad) (cc := cc) (S := S) (k := 1) (f := 4) (v := (S.i 1 4 x0) + 1) (by decide) rfl hl_x0_1)).mp hD
    have hP := (congrArg (fun w9 => va_P D cls w9 H) (cw_setI (ad := ad) (cc := cc) (S := S) (k := 1) (f := 4) (v := (S.i 1 4 x0) + 1) (by decide) rfl hl_x0_1)).mp hP
    exact w_cRd_readNumber_J41 hC Heq Kr _ _ _ hP hD hS (lv_sub hl [1, 2, 0] rfl)
def m_cRd_readNumber_J0 (N : Nat → Nat) (x0 : Nat) (S : CS) (x1 : Nat) : Option (CS × Int32) := gl x1 (N 9) (gl x0 (N 1) (gn (S.r 1 2 x0) (N 5) (fun j_1 => ob (m_cRw_at N j_1 (S.setI 9 0 x1 3) (S.i 1 4 x0)) (fun o_4 => (if o_4.2 = 45 then m_cRd_readNumber_J26 N x0 o_4.1 (some x1) 1 else m_cRd_readNumber_J26 N x0 o_4.1 (some x1) 0)))))
theorem d_cRd_readNumber_21 : decode prog_3_method_15_code 21 = .ok (.iconst 1, 1) := by decide +kernel
theorem d_cRd_readNumber_22 : decode prog_3_method_15_code 22 = .ok (.goto 4, 3) := by decide +kernel
set_option maxHeartbeats 4000000 in
set_option maxRecDepth 100000 in
theorem w_cRd_readNumber_J0 {p : Program} {l : Launch} {e : Env} {s : State} {m : MethodId} {args : Array Value} {below : List Frame} {meth : Method} {c : Code} {A : Nat → Prop} {D : va_G} {ad : Nat → Nat → Nat} {cc : Nat → ClassId} {sad sav : Nat → Nat} {Q : State → Prop} (hC : MCc sad sav "JoinedTrees$JsonReader" prog_3_method_15_code 7 (some .boolean) p s m args meth c A D cc) {N : Nat → Nat} {x0 : Nat} {S : CS} {x1 : Nat} {o : CS × Int32} (Heq : m_cRd_readNumber_J0 N x0 S x1 = some o) (Kr : ∀ r : CS × Int32, o = r → ∀ (pc : Nat) (H : Heap) (locs : List Loc) (ls : Array Slot), decode prog_3_method_15_code pc = .ok (.ireturn, 1) → (r.2 = 0 ∨ r.2 = 1) → va_P D cls (cw ad cc N r.1) H → va_D A (cw ad cc N r.1) → va_S A s.heap H locs → W p l e ({ frames := 1, cells := 0, slots := 0, locals := 21 }) s m args below meth c H locs 0 0 Q (F0 m pc ls [.int r.2])) : ∀ (H : Heap) (locs : List Loc) (ls : Array Slot), va_P D cls (cw ad cc N S) H → va_D A (cw ad cc N S) → va_S A s.heap H locs → lv_has ls 7 [(0, .ref (ad 1 x0)), (1, .ref (ad 9 x1))] → W p l e ({ frames := 1, cells := 0, slots := 0, locals := 21 }) s m args below meth c H locs 0 0 Q (F0 m 0 ls []) := by
  intro H locs ls hP hD hS hl
  obtain ⟨hx, hb, hr, hml, hown, hts, hK, hA, hev, hE, hN, hNS⟩ := id hC
  unfold m_cRd_readNumber_J0 at Heq
  refine lv_aload_n hx hb d_cRd_readNumber_0 rfl (lv_at hl 1 rfl) ?_
  refine lv_iconst (v := 3) hx hb d_cRd_readNumber_1 (by decide) ?_
  obtain ⟨hl_x1_9, Heq⟩ := gl_some Heq
  refine va_put (D := D) (ci := 9) (v := .int 3) (ty := .int) (C := R_Va) (T := F_Va) (N := 10) hx hb hts i_Va t_Va t_Va_ok n_Va hown hK hP hD hS (cPos N 9 x1) (cw_obj (k := 9) (by decide) hl_x1_9) rfl 0 (by decide) (hts _ kw_295) (fun _ h9 => h9) rfl (by decide +kernel) rfl rfl (Nat.le_of_ble_eq_true rfl) d_cRd_readNumber_2 (fun H locs hP hD hS => ?_)
  have hD := (congrArg (fun w9 => va_D A w9) (cw_setI (ad := ad) (cc := cc) (S := S) (k := 9) (f := 0) (v := 3) (by decide) rfl hl_x1_9)).mp hD
  have hP := (congrArg (fun w9 => va_P D cls w9 H) (cw_setI (ad := ad) (cc := cc) (S := S) (k := 9) (f := 0) (v := 3) (by decide) rfl hl_x1_9)).mp hP
  refine lv_aload_n hx hb d_cRd_readNumber_5 rfl (lv_at hl 0 rfl) ?_
  obtain ⟨hl_x0_1, Heq⟩ := gl_some Heq
  refine va_get (D := D) (ci := 1) (v := rv ad 5 ((S.setI 9 0 x1 3).r 1 2 x0)) (C := R_Rd) (T := F_Rd) (N := 10) hx hb hts i_Rd hown hK hP (cPos N 1 x0) (cw_obj (k := 1) (by decide) hl_x0_1) rfl 2 (by decide) (hts _ kw_346) (fun _ h9 => h9) rfl d_cRd_readNumber_6 ?_
  refine w_v (y := rv ad 5 (S.r 1 2 x0)) (congrArg (rv ad 5) rfl) ?_
  refine lv_aload_n hx hb d_cRd_readNumber_9 rfl (lv_at hl 0 rfl) ?_
  refine va_get (D := D) (ci := 1) (v := .int ((S.setI 9 0 x1 3).i 1 4 x0)) (C := R_Rd) (T := F_Rd) (N := 10) hx hb hts i_Rd hown hK hP (cPos N 1 x0) (cw_obj (k := 1) (by decide) hl_x0_1) rfl 4 (by decide) (hts _ kw_349) (fun _ h9 => h9) rfl d_cRd_readNumber_10 ?_
  refine w_i (y := S.i 1 4 x0) rfl ?_
  obtain ⟨j_1, hj_2, hl_3, Heq⟩ := gn_some Heq
  refine w_s (st' := [.int (S.i 1 4 x0), .ref (ad 5 j_1)]) (congrArg (fun z9 : Option Nat => [.int (S.i 1 4 x0), rv ad 5 z9]) hj_2) ?_
  obtain ⟨o_4, h_5, Heq⟩ := ob_some Heq
  have hFc := fr_all hD hS hA
  refine va_calli (va_runV (As := [.int (S.i 1 4 x0)]) (rest := []) ⟨hx, hb, hml, hown, hts⟩ (g_cRw_at l D H.size (ad := ad) (cc := cc) (sad := sad) (sav := sav) h_5) (cw_v 1 hts kw_689 kw_871 kw_687 kw_688 kw_4 rfl rfl (by decide +kernel) ⟨Nat.le_of_ble_eq_true rfl, Nat.le_of_ble_eq_true rfl⟩) ⟨c_blind, va_recv hK hP (ci := 5) (q0 := cPos N 5 j_1) rfl (cw_obj (k := 5) (by decide) hl_3), fun U hU hW => c_pre hU hW hP hK hD hev hE hN hNS hS hFc⟩ rfl rfl hl.1 rfl (lv_room (Nat.le_of_ble_eq_true rfl)) d_cRd_readNumber_13 ⟨Nat.le_of_ble_eq_true rfl, Nat.le_of_ble_eq_true rfl⟩) hS (fun q _ h => hFc q h) hFc (fun rz u t H1 locs ht hvm hw hB hz1 hk1 hS => ?_)
  obtain ⟨hP, -, hD1⟩ := hB
  rw [ht] at hP
  have hD := hD1.weaken (fun _ q _ h => hFc q.1 h)
  generalize H1 = H at hP hS ⊢
  refine W.cs (cells' := 0) (slots' := 0) rfl rfl ?_
  subst hw
  refine lv_bipush (v := 45) hx hb d_cRd_readNumber_16 (by decide) ?_
  refine lv_icmp_ne (tgt := 25) hx hb d_cRd_readNumber_18 (by decide) (fun c_6 => ?_) (fun c_6 => ?_)
  · replace Heq := (if_neg c_6).symm.trans Heq
    refine lv_iconst (v := 0) hx hb d_cRd_readNumber_25 (by decide) ?_
    exact w_cRd_readNumber_J26 hC Heq Kr _ _ _ hP hD hS (lv_sub hl [0, 1] rfl)
  · replace Heq := (if_pos c_6).symm.trans Heq
    refine lv_iconst (v := 1) hx hb d_cRd_readNumber_21 (by decide) ?_
    refine lv_goto (tgt := 26) hx hb d_cRd_readNumber_22 (by decide) ?_
    exact w_cRd_readNumber_J26 hC Heq Kr _ _ _ hP hD hS (lv_sub hl [0, 1] rfl)
def m_cRd_readNumber (N : Nat → Nat) (x0 : Nat) (S : CS) (x1 : Nat) : Option (CS × Int32) := m_cRd_readNumber_J0 N x0 S x1
set_option maxHeartbeats 4000000 in
theorem g_cRd_readNumber (l : Launch) (D : va_G) (sz : Nat) {ad : Nat → Nat → Nat} {cc : Nat → ClassId} {sad sav : Nat → Nat} {N : Nat → Nat} {x0 : Nat} {S : CS} {x1 : Nat} {o : CS × Int32} (Heq : m_cRd_readNumber N x0 S x1 = some o) : Met l ⟨"JoinedTrees$JsonReader", "readNumber", "(LJoinedTrees$Value;)Z"⟩ (Cond.code ⟨"JoinedTrees$JsonReader", "readNumber", "(LJoinedTrees$Value;)Z"⟩ prog_3_method_15_code 7 (some .boolean) :: gb) ({ frames := 1, cells := 0, slots := 0, locals := 21 }) (cPc sad sav D (cw ad cc N S) (cty cc) sz [.ref (ad 1 x0), .ref (ad 9 x1)]) (va_Qi (fun (r : Int32) (_ : Unit) => r = o.2) (fun _ t => gO D (cw ad cc N o.1) (cty cc) (va_A (cw ad cc N S) sz) t) (va_A (cw ad cc N S) sz)) 0 0 (va_A (cw ad cc N S) sz) := by
  refine Met.ofW (cc := prog_3_method_15_code) (maxL := 7) (ret := (some .boolean)) (by decide) rfl ?_
  intro p e s m args below meth c s₁ B hml hv
  obtain ⟨rfl, hsz, hP, hK, hD0, hev, hE, hN⟩ := hv
  have hx := B.exec
  have hb := B.bytes
  have hr := B.returns
  have hts : ∀ w9 ∈ gb, w9.before [.ref (ad 1 x0), .ref (ad 9 x1)].toArray s = true := fun w9 h => atoms_spec (ws := Cond.code ⟨"JoinedTrees$JsonReader", "readNumber", "(LJoinedTrees$Value;)Z"⟩ prog_3_method_15_code 7 (some .boolean) :: gb) B.pre w9 (List.mem_cons_of_mem _ h)
  have hown : s.vm.findClass "JoinedTrees$JsonReader" = some m.cls := findClass_of_methodNamed B.named
  have hlocks := B.notSynchronized
  have hNS := ns_of hP
  subst hsz
  have hD := hD0.self (sz := s.heap.size)
  generalize hAe : va_A (cw ad cc N S) s.heap.size = A at hD hev hE hNS ⊢
  have hA : ∀ q : Nat, s.heap.size ≤ q → A q := fun q h => by rw [← hAe]; exact Or.inr h
  have hS : va_S A s.heap s.heap [] := va_S.rf
  obtain ⟨ls, hl, hle⟩ : ∃ ls : Array Slot, lv_has ls 7 [(0, .ref (ad 1 x0)), (1, .ref (ad 9 x1))] ∧ entryFrame m ([.ref (ad 1 x0), .ref (ad 9 x1)] : List Value).toArray 7 = F0 m 0 ls [] := by
    exact ⟨_, lv_entry (n := 7) _ (Nat.le_of_ble_eq_true rfl), lg_entry_eq ..⟩
  rw [hle]
  refine w_cRd_readNumber_J0 ⟨hx, hb, hr, hml, hown, hts, hK, hA, hev, hE, hN, hNS⟩ Heq (fun r h pc H locs ls hd hz hP hD hS => ?_) _ _ _ hP hD hS (lv_sub hl [0, 1] rfl)
  subst h
  exact W.zret (ty := .boolean) hx hb hr (by rcases hz with hz | hz <;> rw [hz] <;> rfl) (fun t ht hW => ⟨⟨_, (), rfl, rfl, by rw [ht]; exact hP, va_K.moved hW.alike hK, hD⟩, hS.F ht⟩) hS.2.2 hd
def m_cRd_readValue_J0 (N : Nat → Nat) (x0 : Nat) (S : CS) : Option (CS × Int32) := gl x0 (N 1) ((if S.i 1 3 x0 = 500 then some ((S.setI 1 7 x0 0), 0) else gn (S.r 1 0 x0) (N 18) (fun j_2 => gd (S.i 1 3 x0) (S.z 18 j_2) (gn (S.q 18 j_2 ((S.i 1 3 x0).toNatClampNeg)) (N 9) (fun j_6 => ob (m_cVa_begin N j_6 (S.setI 1 7 x0 0) (S.r 1 6 x0) (S.i 1 8 x0) (S.i 1 9 x0)) (fun o_9 => gn (o_9.r 1 2 x0) (N 5) (fun j_11 => ob (m_cRw_at N j_11 (o_9.setI 1 3 x0 ((o_9.i 1 3 x0) + 1)) (o_9.i 1 4 x0)) (fun o_14 => (if o_14.2 = 34 then ob (m_cRd_readStringValue N x0 o_14.1 j_6) (fun o_17 => (if o_17.2 = 0 ∨ o_17.2 = 1 then some (o_17.1, o_17.2) else none)) else (if o_14.2 = 91 then ob (m_cRd_openInside N x0 o_14.1 j_6 7) (fun o_21 => (if o_21.2 = 0 ∨ o_21.2 = 1 then some (o_21.1, o_21.2) else none)) else (if o_14.2 = 102 then ob (m_cRd_readWord N x0 o_14.1 j_6 1 4) (fun o_25 => (if o_25.2 = 0 ∨ o_25.2 = 1 then some (o_25.1, o_25.2) else none)) else (if o_14.2 = 110 then ob (m_cRd_readWord N x0 o_14.1 j_6 0 3) (fun o_29 => (if o_29.2 = 0 ∨ o_29.2 = 1 then some (o_29.1, o_29.2) else none)) else (if o_14.2 = 116 then ob (m_cRd_readWord N x0 o_14.1 j_6 2 5) (fun o_33 => (if o_33.2 = 0 ∨ o_33.2 = 1 then some (o_33.1, o_33.2) else none)) else (if o_14.2 = 123 then ob (m_cRd_openInside N x0 o_14.1 j_6 6) (fun o_37 => (if o_37.2 = 0 ∨ o_37.2 = 1 then some (o_37.1, o_37.2) else none)) else ob (m_cRd_readNumber N x0 o_14.1 j_6) (fun o_40 => (if o_40.2 = 0 ∨ o_40.2 = 1 then some (o_40.1, o_40.2) else none))))))))))))))))
theorem d_cRd_readValue_0 : decode prog_3_method_8_code 0 = .ok (.aload_n 0, 1) := by decide +kernel
theorem d_cRd_readValue_1 : decode prog_3_method_8_code 1 = .ok (.iconst 0, 1) := by decide +kernel
theorem d_cRd_readValue_2 : decode prog_3_method_8_code 2 = .ok (.putfield 63, 3) := by decide +kernel
theorem d_cRd_readValue_5 : decode prog_3_method_8_code 5 = .ok (.aload_n 0, 1) := by decide +kernel
theorem d_cRd_readValue_6 : decode prog_3_method_8_code 6 = .ok (.getfield 30, 3) := by decide +kernel
theorem d_cRd_readValue_9 : decode prog_3_method_8_code 9 = .ok (.sipush 500, 3) := by decide +kernel
theorem d_cRd_readValue_12 : decode prog_3_method_8_code 12 = .ok (.if_icmp .ne 5, 3) := by decide +kernel
theorem d_cRd_readValue_17 : decode prog_3_method_8_code 17 = .ok (.aload_n 0, 1) := by decide +kernel
theorem d_cRd_readValue_18 : decode prog_3_method_8_code 18 = .ok (.getfield 11, 3) := by decide +kernel
theorem d_cRd_readValue_21 : decode prog_3_method_8_code 21 = .ok (.aload_n 0, 1) := by decide +kernel
theorem d_cRd_readValue_22 : decode prog_3_method_8_code 22 = .ok (.getfield 30, 3) := by decide +kernel
theorem d_cRd_readValue_25 : decode prog_3_method_8_code 25 = .ok (.aaload, 1) := by decide +kernel
theorem d_cRd_readValue_26 : decode prog_3_method_8_code 26 = .ok (.astore_n 1, 1) := by decide +kernel
theorem d_cRd_readValue_27 : decode prog_3_method_8_code 27 = .ok (.aload_n 1, 1) := by decide +kernel
theorem d_cRd_readValue_28 : decode prog_3_method_8_code 28 = .ok (.aload_n 0, 1) := by decide +kernel
theorem d_cRd_readValue_29 : decode prog_3_method_8_code 29 = .ok (.getfield 40, 3) := by decide +kernel
theorem d_cRd_readValue_32 : decode prog_3_method_8_code 32 = .ok (.aload_n 0, 1) := by decide +kernel
theorem d_cRd_readValue_33 : decode prog_3_method_8_code 33 = .ok (.getfield 44, 3) := by decide +kernel
theorem d_cRd_readValue_36 : decode prog_3_method_8_code 36 = .ok (.aload_n 0, 1) := by decide +kernel
theorem d_cRd_readValue_37 : decode prog_3_method_8_code 37 = .ok (.getfield 47, 3) := by decide +kernel
theorem d_cRd_readValue_40 : decode prog_3_method_8_code 40 = .ok (.invokevirtual 101, 3) := by decide +kernel
theorem d_cRd_readValue_43 : decode prog_3_method_8_code 43 = .ok (.aload_n 0, 1) := by decide +kernel
theorem d_cRd_readValue_44 : decode prog_3_method_8_code 44 = .ok (.dup, 1) := by decide +kernel
theorem d_cRd_readValue_45 : decode prog_3_method_8_code 45 = .ok (.getfield 30, 3) := by decide +kernel
theorem d_cRd_readValue_48 : decode prog_3_method_8_code 48 = .ok (.iconst 1, 1) := by decide +kernel
theorem d_cRd_readValue_49 : decode prog_3_method_8_code 49 = .ok (.iadd, 1) := by decide +kernel
theorem d_cRd_readValue_50 : decode prog_3_method_8_code 50 = .ok (.putfield 30, 3) := by decide +kernel
theorem d_cRd_readValue_53 : decode prog_3_method_8_code 53 = .ok (.aload_n 0, 1) := by decide +kernel
theorem d_cRd_readValue_54 : decode prog_3_method_8_code 54 = .ok (.getfield 27, 3) := by decide +kernel
theorem d_cRd_readValue_57 : decode prog_3_method_8_code 57 = .ok (.aload_n 0, 1) := by decide +kernel
theorem d_cRd_readValue_58 : decode prog_3_method_8_code 58 = .ok (.getfield 34, 3) := by decide +kernel
theorem d_cRd_readValue_61 : decode prog_3_method_8_code 61 = .ok (.invokevirtual 70, 3) := by decide +kernel
theorem d_cRd_readValue_64 : decode prog_3_method_8_code 64 = .ok (.lookupswitch 109 #[(34, 76), (91, 68), (102, 91), (110, 82), (116, 100), (123, 60)], 60) := by decide +kernel
theorem d_cRd_readValue_140 : decode prog_3_method_8_code 140 = .ok (.aload_n 0, 1) := by decide +kernel
theorem d_cRd_readValue_141 : decode prog_3_method_8_code 141 = .ok (.aload_n 1, 1) := by decide +kernel
theorem d_cRd_readValue_142 : decode prog_3_method_8_code 142 = .ok (.invokevirtual 109, 3) := by decide +kernel
theorem d_cRd_readValue_145 : decode prog_3_method_8_code 145 = .ok (.ireturn, 1) := by decide +kernel
theorem d_cRd_readValue_132 : decode prog_3_method_8_code 132 = .ok (.aload_n 0, 1) := by decide +kernel
theorem d_cRd_readValue_133 : decode prog_3_method_8_code 133 = .ok (.aload_n 1, 1) := by decide +kernel
theorem d_cRd_readValue_134 : decode prog_3_method_8_code 134 = .ok (.bipush 7, 2) := by decide +kernel
theorem d_cRd_readValue_136 : decode prog_3_method_8_code 136 = .ok (.invokevirtual 105, 3) := by decide +kernel
theorem d_cRd_readValue_139 : decode prog_3_method_8_code 139 = .ok (.ireturn, 1) := by decide +kernel
theorem d_cRd_readValue_155 : decode prog_3_method_8_code 155 = .ok (.aload_n 0, 1) := by decide +kernel
theorem d_cRd_readValue_156 : decode prog_3_method_8_code 156 = .ok (.aload_n 1, 1) := by decide +kernel
theorem d_cRd_readValue_157 : decode prog_3_method_8_code 157 = .ok (.iconst 1, 1) := by decide +kernel
theorem d_cRd_readValue_158 : decode prog_3_method_8_code 158 = .ok (.ldc 119, 2) := by decide +kernel
theorem d_cRd_readValue_160 : decode prog_3_method_8_code 160 = .ok (.invokevirtual 115, 3) := by decide +kernel
theorem d_cRd_readValue_163 : decode prog_3_method_8_code 163 = .ok (.ireturn, 1) := by decide +kernel
theorem d_cRd_readValue_146 : decode prog_3_method_8_code 146 = .ok (.aload_n 0, 1) := by decide +kernel
theorem d_cRd_readValue_147 : decode prog_3_method_8_code 147 = .ok (.aload_n 1, 1) := by decide +kernel
theorem d_cRd_readValue_148 : decode prog_3_method_8_code 148 = .ok (.iconst 0, 1) := by decide +kernel
theorem d_cRd_readValue_149 : decode prog_3_method_8_code 149 = .ok (.ldc 113, 2) := by decide +kernel
theorem d_cRd_readValue_151 : decode prog_3_method_8_code 151 = .ok (.invokevirtual 115, 3) := by decide +kernel
theorem d_cRd_readValue_154 : decode prog_3_method_8_code 154 = .ok (.ireturn, 1) := by decide +kernel
theorem d_cRd_readValue_164 : decode prog_3_method_8_code 164 = .ok (.aload_n 0, 1) := by decide +kernel
theorem d_cRd_readValue_165 : decode prog_3_method_8_code 165 = .ok (.aload_n 1, 1) := by decide +kernel
theorem d_cRd_readValue_166 : decode prog_3_method_8_code 166 = .ok (.iconst 2, 1) := by decide +kernel
theorem d_cRd_readValue_167 : decode prog_3_method_8_code 167 = .ok (.ldc 121, 2) := by decide +kernel
theorem d_cRd_readValue_169 : decode prog_3_method_8_code 169 = .ok (.invokevirtual 115, 3) := by decide +kernel
theorem d_cRd_readValue_172 : decode prog_3_method_8_code 172 = .ok (.ireturn, 1) := by decide +kernel
theorem d_cRd_readValue_124 : decode prog_3_method_8_code 124 = .ok (.aload_n 0, 1) := by decide +kernel
theorem d_cRd_readValue_125 : decode prog_3_method_8_code 125 = .ok (.aload_n 1, 1) := by decide +kernel
theorem d_cRd_readValue_126 : decode prog_3_method_8_code 126 = .ok (.bipush 6, 2) := by decide +kernel
theorem d_cRd_readValue_128 : decode prog_3_method_8_code 128 = .ok (.invokevirtual 105, 3) := by decide +kernel
theorem d_cRd_readValue_131 : decode prog_3_method_8_code 131 = .ok (.ireturn, 1) := by decide +kernel
theorem d_cRd_readValue_173 : decode prog_3_method_8_code 173 = .ok (.aload_n 0, 1) := by decide +kernel
theorem d_cRd_readValue_174 : decode prog_3_method_8_code 174 = .ok (.aload_n 1, 1) := by decide +kernel
theorem d_cRd_readValue_175 : decode prog_3_method_8_code 175 = .ok (.invokevirtual 123, 3) := by decide +kernel
theorem d_cRd_readValue_178 : decode prog_3_method_8_code 178 = .ok (.ireturn, 1) := by decide +kernel
theorem d_cRd_readValue_15 : decode prog_3_method_8_code 15 = .ok (.iconst 0, 1) := by decide +kernel
theorem d_cRd_readValue_16 : decode prog_3_method_8_code 16 = .ok (.ireturn, 1) := by decide +kernel
set_option maxHeartbeats 4000000 in
set_option maxRecDepth 100000 in
theorem w_cRd_readValue_J0 {p : Program} {l : Launch} {e : Env} {s : State} {m : MethodId} {args : Array Value} {below : List Frame} {meth : Method} {c : Code} {A : Nat → Prop} {D : va_G} {ad : Nat → Nat → Nat} {cc : Nat → ClassId} {sad sav : Nat → Nat} {Q : State → Prop} (hC : MCc sad sav "JoinedTrees$JsonReader" prog_3_method_8_code 2 (some .boolean) p s m args meth c A D cc) {N : Nat → Nat} {x0 : Nat} {S : CS} {o : CS × Int32} (Heq : m_cRd_readValue_J0 N x0 S = some o) (Kr : ∀ r : CS × Int32, o = r → ∀ (pc : Nat) (H : Heap) (locs : List Loc) (ls : Array Slot), decode prog_3_method_8_code pc = .ok (.ireturn, 1) → (r.2 = 0 ∨ r.2 = 1) → va_P D cls (cw ad cc N r.1) H → va_D A (cw ad cc N r.1) → va_S A s.heap H locs → W p l e ({ frames := 5, cells := 0, slots := 0, locals := 135 }) s m args below meth c H locs 0 0 Q (F0 m pc ls [.int r.2])) : ∀ (H : Heap) (locs : List Loc) (ls : Array Slot), va_P D cls (cw ad cc N S) H → va_D A (cw ad cc N S) → va_S A s.heap H locs → lv_has ls 2 [(0, .ref (ad 1 x0))] → W p l e ({ frames := 5, cells := 0, slots := 0, locals := 135 }) s m args below meth c H locs 0 0 Q (F0 m 0 ls []) := by
  intro H locs ls hP hD hS hl
  obtain ⟨hx, hb, hr, hml, hown, hts, hK, hA, hev, hE, hN, hNS⟩ := id hC
  unfold m_cRd_readValue_J0 at Heq
  refine lv_aload_n hx hb d_cRd_readValue_0 rfl (lv_at hl 0 rfl) ?_
  refine lv_iconst (v := 0) hx hb d_cRd_readValue_1 (by decide) ?_
  obtain ⟨hl_x0_1, Heq⟩ := gl_some Heq
  refine va_put (D := D) (ci := 1) (v := .int 0) (ty := .boolean) (C := R_Rd) (T := F_Rd) (N := 10) hx hb hts i_Rd t_Rd t_Rd_ok n_Rd hown hK hP hD hS (cPos N 1 x0) (cw_obj (k := 1) (by decide) hl_x0_1) rfl 7 (by decide) (hts _ kw_353) (fun _ h9 => h9) rfl (by decide +kernel) (by decide) (by decide) (Nat.le_of_ble_eq_true rfl) d_cRd_readValue_2 (fun H locs hP hD hS => ?_)
  have hD := (congrArg (fun w9 => va_D A w9) (cw_setI (ad := ad) (cc := cc) (S := S) (k := 1) (f := 7) (v := 0) (by decide) rfl hl_x0_1)).mp hD
  have hP := (congrArg (fun w9 => va_P D cls w9 H) (cw_setI (ad := ad) (cc := cc) (S := S) (k := 1) (f := 7) (v := 0) (by decide) rfl hl_x0_1)).mp hP
  refine lv_aload_n hx hb d_cRd_readValue_5 rfl (lv_at hl 0 rfl) ?_
  refine va_get (D := D) (ci := 1) (v := .int ((S.setI 1 7 x0 0).i 1 3 x0)) (C := R_Rd) (T := F_Rd) (N := 10) hx hb hts i_Rd hown hK hP (cPos N 1 x0) (cw_obj (k := 1) (by decide) hl_x0_1) rfl 3 (by decide) (hts _ kw_347) (fun _ h9 => h9) rfl d_cRd_readValue_6 ?_
  refine w_i (y := S.i 1 3 x0) rfl ?_
  refine lv_sipush (v := 500) hx hb d_cRd_readValue_9 (by decide) ?_
  refine lv_icmp_ne (tgt := 17) hx hb d_cRd_readValue_12 (by decide) (fun c_1 => ?_) (fun c_1 => ?_)
  · replace Heq := (if_neg c_1).symm.trans Heq
    refine lv_aload_n hx hb d_cRd_readValue_17 rfl (lv_at hl 0 rfl) ?_
    refine va_get (D := D) (ci := 1) (v := rv ad 18 ((S.setI 1 7 x0 0).r 1 0 x0)) (C := R_Rd) (T := F_Rd) (N := 10) hx hb hts i_Rd hown hK hP (cPos N 1 x0) (cw_obj (k := 1) (by decide) hl_x0_1) rfl 0 (by decide) (hts _ kw_342) (fun _ h9 => h9) rfl d_cRd_readValue_18 ?_
    refine w_v (y := rv ad 18 (S.r 1 0 x0)) (congrArg (rv ad 18) rfl) ?_
    refine lv_aload_n hx hb d_cRd_readValue_21 rfl (lv_at hl 0 rfl) ?_
    refine va_get (D := D) (ci := 1) (v := .int ((S.setI 1 7 x0 0).i 1 3 x0)) (C := R_Rd) (T := F_Rd) (N := 10) hx hb hts i_Rd hown hK hP (cPos N 1 x0) (cw_obj (k := 1) (by decide) hl_x0_1) rfl 3 (by decide) (hts _ kw_347) (fun _ h9 => h9) rfl d_cRd_readValue_22 ?_
    refine w_i (y := S.i 1 3 x0) rfl ?_
    obtain ⟨j_2, hj_3, hl_4, Heq⟩ := gn_some Heq
    refine w_s (st' := [.int (S.i 1 3 x0), .ref (ad 18 j_2)]) (congrArg (fun z9 : Option Nat => [.int (S.i 1 3 x0), rv ad 18 z9]) hj_3) ?_
    obtain ⟨hi_5, Heq⟩ := gd_some Heq
    refine va_aldq hx hb hK hP (cPos N 18 j_2) 6 (cw_refs (k := 18) (by decide) hl_4) rfl (i := S.i 1 3 x0) hi_5 d_cRd_readValue_25 ?_
    refine w_v (y := rv ad 9 (S.q 18 j_2 ((S.i 1 3 x0).toNatClampNeg))) (congrArg (rv ad 9) rfl) ?_
    refine tx_astore_n (x := (S.q 18 j_2 ((S.i 1 3 x0).toNatClampNeg)).map (ad 9)) (lv' := [(1, rv ad 9 (S.q 18 j_2 ((S.i 1 3 x0).toNatClampNeg))), (0, .ref (ad 1 x0))]) hx hb d_cRd_readValue_26 rfl hl (by decide) rfl (fun ls hl => ?_)
    refine tx_aload_n (x := (S.q 18 j_2 ((S.i 1 3 x0).toNatClampNeg)).map (ad 9)) hx hb d_cRd_readValue_27 rfl (lv_at hl 0 rfl) ?_
    refine w_v (y := rv ad 9 (S.q 18 j_2 ((S.i 1 3 x0).toNatClampNeg))) rfl ?_
    refine lv_aload_n hx hb d_cRd_readValue_28 rfl (lv_at hl 1 rfl) ?_
    refine va_get (D := D) (ci := 1) (v := rv ad 9 ((S.setI 1 7 x0 0).r 1 6 x0)) (C := R_Rd) (T := F_Rd) (N := 10) hx hb hts i_Rd hown hK hP (cPos N 1 x0) (cw_obj (k := 1) (by decide) hl_x0_1) rfl 6 (by decide) (hts _ kw_352) (fun _ h9 => h9) rfl d_cRd_readValue_29 ?_
    refine w_v (y := rv ad 9 (S.r 1 6 x0)) (congrArg (rv ad 9) rfl) ?_
    refine lv_aload_n hx hb d_cRd_readValue_32 rfl (lv_at hl 1 rfl) ?_
    refine va_get (D := D) (ci := 1) (v := .int ((S.setI 1 7 x0 0).i 1 8 x0)) (C := R_Rd) (T := F_Rd) (N := 10) hx hb hts i_Rd hown hK hP (cPos N 1 x0) (cw_obj (k := 1) (by decide) hl_x0_1) rfl 8 (by decide) (hts _ kw_354) (fun _ h9 => h9) rfl d_cRd_readValue_33 ?_
    refine w_i (y := S.i 1 8 x0) rfl ?_
    refine lv_aload_n hx hb d_cRd_readValue_36 rfl (lv_at hl 1 rfl) ?_
    refine va_get (D := D) (ci := 1) (v := .int ((S.setI 1 7 x0 0).i 1 9 x0)) (C := R_Rd) (T := F_Rd) (N := 10) hx hb hts i_Rd hown hK hP (cPos N 1 x0) (cw_obj (k := 1) (by decide) hl_x0_1) rfl 9 (by decide) (hts _ kw_355) (fun _ h9 => h9) rfl d_cRd_readValue_37 ?_
    refine w_i (y := S.i 1 9 x0) rfl ?_
    obtain ⟨j_6, hj_7, hl_8, Heq⟩ := gn_some Heq
    refine w_s (st' := [.int (S.i 1 9 x0), .int (S.i 1 8 x0), rv ad 9 (S.r 1 6 x0), .ref (ad 9 j_6)]) (congrArg (fun z9 : Option Nat => [.int (S.i 1 9 x0), .int (S.i 1 8 x0), rv ad 9 (S.r 1 6 x0), rv ad 9 z9]) hj_7) ?_
    obtain ⟨o_9, h_10, Heq⟩ := ob_some Heq
    refine w_s (st' := [.int (S.i 1 9 x0), .int (S.i 1 8 x0), rv ad 9 (S.r 1 6 x0), .ref (ad 9 j_6)]) rfl ?_
    have hFc := fr_all hD hS hA
    refine va_callv (va_runV (As := [rv ad 9 (S.r 1 6 x0), .int (S.i 1 8 x0), .int (S.i 1 9 x0)]) (rest := []) ⟨hx, hb, hml, hown, hts⟩ (g_cVa_begin l D H.size (ad := ad) (cc := cc) (sad := sad) (sav := sav) h_10) (cw_v 3 hts kw_882 kw_879 kw_880 kw_881 kw_8 rfl rfl (by decide +kernel) ⟨Nat.le_of_ble_eq_true rfl, Nat.le_of_ble_eq_true rfl⟩) ⟨c_blind, va_recv hK hP (ci := 9) (q0 := cPos N 9 j_6) rfl (cw_obj (k := 9) (by decide) hl_8), fun U hU hW => c_pre hU hW hP hK hD hev hE hN hNS hS hFc⟩ rfl rfl hl.1 rfl (lv_room (Nat.le_of_ble_eq_true rfl)) d_cRd_readValue_40 ⟨Nat.le_of_ble_eq_true rfl, Nat.le_of_ble_eq_true rfl⟩) hS (fun q _ h => hFc q h) hFc (fun u t H1 locs ht hvm hw hB hz1 hk1 hS => ?_)
    obtain ⟨hP, -, hD1⟩ := hB
    rw [ht] at hP
    have hD := hD1.weaken (fun _ q _ h => hFc q.1 h)
    generalize H1 = H at hP hS ⊢
    refine W.cs (cells' := 0) (slots' := 0) rfl rfl ?_
    refine lv_aload_n hx hb d_cRd_readValue_43 rfl (lv_at hl 1 rfl) ?_
    refine lv_dup hx hb d_cRd_readValue_44 (by first | rfl | exact rv_cat) ?_
    refine va_get (D := D) (ci := 1) (v := .int (o_9.i 1 3 x0)) (C := R_Rd) (T := F_Rd) (N := 10) hx hb hts i_Rd hown hK hP (cPos N 1 x0) (cw_obj (k := 1) (by decide) hl_x0_1) rfl 3 (by decide) (hts _ kw_347) (fun _ h9 => h9) rfl d_cRd_readValue_45 ?_
    refine lv_iconst (v := 1) hx hb d_cRd_readValue_48 (by decide) ?_
    refine lv_iadd hx hb d_cRd_readValue_49 ?_
    refine w_i (y := (o_9.i 1 3 x0) + 1) rfl ?_
    refine va_put (D := D) (ci := 1) (v := .int ((o_9.i 1 3 x0) + 1)) (ty := .int) (C := R_Rd) (T := F_Rd) (N := 10) hx hb hts i_Rd t_Rd t_Rd_ok n_Rd hown hK hP hD hS (cPos N 1 x0) (cw_obj (k := 1) (by decide) hl_x0_1) rfl 3 (by decide) (hts _ kw_347) (fun _ h9 => h9) rfl (by decide +kernel) rfl rfl (Nat.le_of_ble_eq_true rfl) d_cRd_readValue_50 (fun H locs hP hD hS => ?_)
    have hD := (congrArg (fun w9 => va_D A w9) (cw_setI (ad := ad) (cc := cc) (S := o_9) (k := 1) (f := 3) (v := (o_9.i 1 3 x0) + 1) (by decide) rfl hl_x0_1)).mp hD
    have hP := (congrArg (fun w9 => va_P D cls w9 H) (cw_setI (ad := ad) (cc := cc) (S := o_9) (k := 1) (f := 3) (v := (o_9.i 1 3 x0) + 1) (by decide) rfl hl_x0_1)).mp hP
    refine lv_aload_n hx hb d_cRd_readValue_53 rfl (lv_at hl 1 rfl) ?_
    refine va_get (D := D) (ci := 1) (v := rv ad 5 ((o_9.setI 1 3 x0 ((o_9.i 1 3 x0) + 1)).r 1 2 x0)) (C := R_Rd) (T := F_Rd) (N := 10) hx hb hts i_Rd hown hK hP (cPos N 1 x0) (cw_obj (k := 1) (by decide) hl_x0_1) rfl 2 (by decide) (hts _ kw_346) (fun _ h9 => h9) rfl d_cRd_readValue_54 ?_
    refine w_v (y := rv ad 5 (o_9.r 1 2 x0)) (congrArg (rv ad 5) rfl) ?_
    refine lv_aload_n hx hb d_cRd_readValue_57 rfl (lv_at hl 1 rfl) ?_
    refine va_get (D := D) (ci := 1) (v := .int ((o_9.setI 1 3 x0 ((o_9.i 1 3 x0) + 1)).i 1 4 x0)) (C := R_Rd) (T := F_Rd) (N := 10) hx hb hts i_Rd hown hK hP (cPos N 1 x0) (cw_obj (k := 1) (by decide) hl_x0_1) rfl 4 (by decide) (hts _ kw_349) (fun _ h9 => h9) rfl d_cRd_readValue_58 ?_
    refine w_i (y := o_9.i 1 4 x0) rfl ?_
    obtain ⟨j_11, hj_12, hl_13, Heq⟩ := gn_some Heq
    refine w_s (st' := [.int (o_9.i 1 4 x0), .ref (ad 5 j_11)]) (congrArg (fun z9 : Option Nat => [.int (o_9.i 1 4 x0), rv ad 5 z9]) hj_12) ?_
    obtain ⟨o_14, h_15, Heq⟩ := ob_some Heq
    have hFc := fr_all hD hS hA
    refine va_calli (va_runV (As := [.int (o_9.i 1 4 x0)]) (rest := []) ⟨hx, hb, hml, hown, hts⟩ (g_cRw_at l D H.size (ad := ad) (cc := cc) (sad := sad) (sav := sav) h_15) (cw_v 1 hts kw_689 kw_871 kw_687 kw_688 kw_4 rfl rfl (by decide +kernel) ⟨Nat.le_of_ble_eq_true rfl, Nat.le_of_ble_eq_true rfl⟩) ⟨c_blind, va_recv hK hP (ci := 5) (q0 := cPos N 5 j_11) rfl (cw_obj (k := 5) (by decide) hl_13), fun U hU hW => c_pre hU hW hP hK hD hev hE hN hNS hS hFc⟩ rfl rfl hl.1 rfl (lv_room (Nat.le_of_ble_eq_true rfl)) d_cRd_readValue_61 ⟨Nat.le_of_ble_eq_true rfl, Nat.le_of_ble_eq_true rfl⟩) hS (fun q _ h => hFc q h) hFc (fun rz u t H1 locs ht hvm hw hB hz1 hk1 hS => ?_)
    obtain ⟨hP, -, hD1⟩ := hB
    rw [ht] at hP
    have hD := hD1.weaken (fun _ q _ h => hFc q.1 h)
    generalize H1 = H at hP hS ⊢
    refine W.cs (cells' := 0) (slots' := 0) rfl rfl ?_
    subst hw
    by_cases c_16 : o_14.2 = 34
    · replace Heq := (if_pos c_16).symm.trans Heq
      refine w_i (y := 34) c_16 ?_
      refine lv_lookup (tgt := 140) hx hb d_cRd_readValue_64 (by decide) rfl (by decide) ?_
      refine lv_aload_n hx hb d_cRd_readValue_140 rfl (lv_at hl 1 rfl) ?_
      refine tx_aload_n (x := (S.q 18 j_2 ((S.i 1 3 x0).toNatClampNeg)).map (ad 9)) hx hb d_cRd_readValue_141 rfl (lv_at hl 0 rfl) ?_
      refine w_v (y := rv ad 9 (S.q 18 j_2 ((S.i 1 3 x0).toNatClampNeg))) rfl ?_
      refine w_s (st' := [.ref (ad 9 j_6), .ref (ad 1 x0)]) (congrArg (fun z9 : Option Nat => [rv ad 9 z9, .ref (ad 1 x0)]) hj_7) ?_
      obtain ⟨o_17, h_18, Heq⟩ := ob_some Heq
      have hFc := fr_all hD hS hA
      refine va_calli (va_runV (As := [.ref (ad 9 j_6)]) (rest := []) ⟨hx, hb, hml, hown, hts⟩ (g_cRd_readStringValue l D H.size (ad := ad) (cc := cc) (sad := sad) (sav := sav) h_18) (cw_v 1 hts kw_890 kw_887 kw_888 kw_889 kw_7 rfl rfl (by decide +kernel) ⟨Nat.le_of_ble_eq_true rfl, Nat.le_of_ble_eq_true rfl⟩) ⟨c_blind, va_recv hK hP (ci := 1) (q0 := cPos N 1 x0) rfl (cw_obj (k := 1) (by decide) hl_x0_1), fun U hU hW => c_pre hU hW hP hK hD hev hE hN hNS hS hFc⟩ rfl rfl hl.1 rfl (lv_room (Nat.le_of_ble_eq_true rfl)) d_cRd_readValue_142 ⟨Nat.le_of_ble_eq_true rfl, Nat.le_of_ble_eq_true rfl⟩) hS (fun q _ h => hFc q h) hFc (fun rz u t H1 locs ht hvm hw hB hz1 hk1 hS => ?_)
      obtain ⟨hP, -, hD1⟩ := hB
      rw [ht] at hP
      have hD := hD1.weaken (fun _ q _ h => hFc q.1 h)
      generalize H1 = H at hP hS ⊢
      refine W.cs (cells' := 0) (slots' := 0) rfl rfl ?_
      subst hw
      by_cases hz_19 : o_17.2 = 0 ∨ o_17.2 = 1
      case neg => rw [if_neg hz_19] at Heq; cases Heq
      replace Heq := (if_pos hz_19).symm.trans Heq
      exact Kr _ (Option.some.inj Heq).symm 145 _ _ _ d_cRd_readValue_145 hz_19 hP hD hS
    replace Heq := (if_neg c_16).symm.trans Heq
    by_cases c_20 : o_14.2 = 91
    · replace Heq := (if_pos c_20).symm.trans Heq
      refine w_i (y := 91) c_20 ?_
      refine lv_lookup (tgt := 132) hx hb d_cRd_readValue_64 (by decide) rfl (by decide) ?_
      refine lv_aload_n hx hb d_cRd_readValue_132 rfl (lv_at hl 1 rfl) ?_
      refine tx_aload_n (x := (S.q 18 j_2 ((S.i 1 3 x0).toNatClampNeg)).map (ad 9)) hx hb d_cRd_readValue_133 rfl (lv_at hl 0 rfl) ?_
      refine w_v (y := rv ad 9 (S.q 18 j_2 ((S.i 1 3 x0).toNatClampNeg))) rfl ?_
      refine lv_bipush (v := 7) hx hb d_cRd_readValue_134 (by decide) ?_
      refine w_s (st' := [.int 7, .ref (ad 9 j_6), .ref (ad 1 x0)]) (congrArg (fun z9 : Option Nat => [.int 7, rv ad 9 z9, .ref (ad 1 x0)]) hj_7) ?_
      obtain ⟨o_21, h_22, Heq⟩ := ob_some Heq
      have hFc := fr_all hD hS hA
      refine va_calli (va_runV (As := [.ref (ad 9 j_6), .int 7]) (rest := []) ⟨hx, hb, hml, hown, hts⟩ (g_cRd_openInside l D H.size (ad := ad) (cc := cc) (sad := sad) (sav := sav) h_22) (cw_v 2 hts kw_886 kw_883 kw_884 kw_885 kw_7 rfl rfl (by decide +kernel) ⟨Nat.le_of_ble_eq_true rfl, Nat.le_of_ble_eq_true rfl⟩) ⟨c_blind, va_recv hK hP (ci := 1) (q0 := cPos N 1 x0) rfl (cw_obj (k := 1) (by decide) hl_x0_1), fun U hU hW => c_pre hU hW hP hK hD hev hE hN hNS hS hFc⟩ rfl rfl hl.1 rfl (lv_room (Nat.le_of_ble_eq_true rfl)) d_cRd_readValue_136 ⟨Nat.le_of_ble_eq_true rfl, Nat.le_of_ble_eq_true rfl⟩) hS (fun q _ h => hFc q h) hFc (fun rz u t H1 locs ht hvm hw hB hz1 hk1 hS => ?_)
      obtain ⟨hP, -, hD1⟩ := hB
      rw [ht] at hP
      have hD := hD1.weaken (fun _ q _ h => hFc q.1 h)
      generalize H1 = H at hP hS ⊢
      refine W.cs (cells' := 0) (slots' := 0) rfl rfl ?_
      subst hw
      by_cases hz_23 : o_21.2 = 0 ∨ o_21.2 = 1
      case neg => rw [if_neg hz_23] at Heq; cases Heq
      replace Heq := (if_pos hz_23).symm.trans Heq
      exact Kr _ (Option.some.inj Heq).symm 139 _ _ _ d_cRd_readValue_139 hz_23 hP hD hS
    replace Heq := (if_neg c_20).symm.trans Heq
    by_cases c_24 : o_14.2 = 102
    · replace Heq := (if_pos c_24).symm.trans Heq
      refine w_i (y := 102) c_24 ?_
      refine lv_lookup (tgt := 155) hx hb d_cRd_readValue_64 (by decide) rfl (by decide) ?_
      refine lv_aload_n hx hb d_cRd_readValue_155 rfl (lv_at hl 1 rfl) ?_
      refine tx_aload_n (x := (S.q 18 j_2 ((S.i 1 3 x0).toNatClampNeg)).map (ad 9)) hx hb d_cRd_readValue_156 rfl (lv_at hl 0 rfl) ?_
      refine w_v (y := rv ad 9 (S.q 18 j_2 ((S.i 1 3 x0).toNatClampNeg))) rfl ?_
      refine lv_iconst (v := 1) hx hb d_cRd_readValue_157 (by decide) ?_
      refine va_ldcS (own := "JoinedTrees$JsonReader") (tx := "false") (q := sad 4) hx hb hown (hE.1 4 (by decide)).1 d_cRd_readValue_158 ?_
      refine w_s (st' := [.ref (sad 4), .int 1, .ref (ad 9 j_6), .ref (ad 1 x0)]) (congrArg (fun z9 : Option Nat => [.ref (sad 4), .int 1, rv ad 9 z9, .ref (ad 1 x0)]) hj_7) ?_
      obtain ⟨o_25, h_26, Heq⟩ := ob_some Heq
      have hFc := fr_all hD hS hA
      refine va_calli (va_runV (As := [.ref (ad 9 j_6), .int 1, .ref (sad 4)]) (rest := []) ⟨hx, hb, hml, hown, hts⟩ (g_cRd_readWord l D H.size (ad := ad) (cc := cc) (sad := sad) (sav := sav) h_26) (cw_v 3 hts kw_907 kw_904 kw_905 kw_906 kw_7 rfl rfl (by decide +kernel) ⟨Nat.le_of_ble_eq_true rfl, Nat.le_of_ble_eq_true rfl⟩) ⟨c_blind, va_recv hK hP (ci := 1) (q0 := cPos N 1 x0) rfl (cw_obj (k := 1) (by decide) hl_x0_1), fun U hU hW => c_pre hU hW hP hK hD hev hE hN hNS hS hFc⟩ rfl rfl hl.1 rfl (lv_room (Nat.le_of_ble_eq_true rfl)) d_cRd_readValue_160 ⟨Nat.le_of_ble_eq_true rfl, Nat.le_of_ble_eq_true rfl⟩) hS (fun q _ h => hFc q h) hFc (fun rz u t H1 locs ht hvm hw hB hz1 hk1 hS => ?_)
      obtain ⟨hP, -, hD1⟩ := hB
      rw [ht] at hP
      have hD := hD1.weaken (fun _ q _ h => hFc q.1 h)
      generalize H1 = H at hP hS ⊢
      refine W.cs (cells' := 0) (slots' := 0) rfl rfl ?_
      subst hw
      by_cases hz_27 : o_25.2 = 0 ∨ o_25.2 = 1
      case neg => rw [if_neg hz_27] at Heq; cases Heq
      replace Heq := (if_pos hz_27).symm.trans Heq
      exact Kr _ (Option.some.inj Heq).symm 163 _ _ _ d_cRd_readValue_163 hz_27 hP hD hS
    replace Heq := (if_neg c_24).symm.trans Heq
    by_cases c_28 : o_14.2 = 110
    · replace Heq := (if_pos c_28).symm.trans Heq
      refine w_i (y := 110) c_28 ?_
      refine lv_lookup (tgt := 146) hx hb d_cRd_readValue_64 (by decide) rfl (by decide) ?_
      refine lv_aload_n hx hb d_cRd_readValue_146 rfl (lv_at hl 1 rfl) ?_
      refine tx_aload_n (x := (S.q 18 j_2 ((S.i 1 3 x0).toNatClampNeg)).map (ad 9)) hx hb d_cRd_readValue_147 rfl (lv_at hl 0 rfl) ?_
      refine w_v (y := rv ad 9 (S.q 18 j_2 ((S.i 1 3 x0).toNatClampNeg))) rfl ?_
      refine lv_iconst (v := 0) hx hb d_cRd_readValue_148 (by decide) ?_
      refine va_ldcS (own := "JoinedTrees$JsonReader") (tx := "null") (q := sad 3) hx hb hown (hE.1 3 (by decide)).1 d_cRd_readValue_149 ?_
      refine w_s (st' := [.ref (sad 3), .int 0, .ref (ad 9 j_6), .ref (ad 1 x0)]) (congrArg (fun z9 : Option Nat => [.ref (sad 3), .int 0, rv ad 9 z9, .ref (ad 1 x0)]) hj_7) ?_
      obtain ⟨o_29, h_30, Heq⟩ := ob_some Heq
      have hFc := fr_all hD hS hA
      refine va_calli (va_runV (As := [.ref (ad 9 j_6), .int 0, .ref (sad 3)]) (rest := []) ⟨hx, hb, hml, hown, hts⟩ (g_cRd_readWord l D H.size (ad := ad) (cc := cc) (sad := sad) (sav := sav) h_30) (cw_v 3 hts kw_907 kw_904 kw_905 kw_906 kw_7 rfl rfl (by decide +kernel) ⟨Nat.le_of_ble_eq_true rfl, Nat.le_of_ble_eq_true rfl⟩) ⟨c_blind, va_recv hK hP (ci := 1) (q0 := cPos N 1 x0) rfl (cw_obj (k := 1) (by decide) hl_x0_1), fun U hU hW => c_pre hU hW hP hK hD hev hE hN hNS hS hFc⟩ rfl rfl hl.1 rfl (lv_room (Nat.le_of_ble_eq_true rfl)) d_cRd_readValue_151 ⟨Nat.le_of_ble_eq_true rfl, Nat.le_of_ble_eq_true rfl⟩) hS (fun q _ h => hFc q h) hFc (fun rz u t H1 locs ht hvm hw hB hz1 hk1 hS => ?_)
      obtain ⟨hP, -, hD1⟩ := hB
      rw [ht] at hP
      have hD := hD1.weaken (fun _ q _ h => hFc q.1 h)
      generalize H1 = H at hP hS ⊢
      refine W.cs (cells' := 0) (slots' := 0) rfl rfl ?_
      subst hw
      by_cases hz_31 : o_29.2 = 0 ∨ o_29.2 = 1
      case neg => rw [if_neg hz_31] at Heq; cases Heq
      replace Heq := (if_pos hz_31).symm.trans Heq
      exact Kr _ (Option.some.inj Heq).symm 154 _ _ _ d_cRd_readValue_154 hz_31 hP hD hS
    replace Heq := (if_neg c_28).symm.trans Heq
    by_cases c_32 : o_14.2 = 116
    · replace Heq := (if_pos c_32).symm.trans Heq
      refine w_i (y := 116) c_32 ?_
      refine lv_lookup (tgt := 164) hx hb d_cRd_readValue_64 (by decide) rfl (by decide) ?_
      refine lv_aload_n hx hb d_cRd_readValue_164 rfl (lv_at hl 1 rfl) ?_
      refine tx_aload_n (x := (S.q 18 j_2 ((S.i 1 3 x0).toNatClampNeg)).map (ad 9)) hx hb d_cRd_readValue_165 rfl (lv_at hl 0 rfl) ?_
      refine w_v (y := rv ad 9 (S.q 18 j_2 ((S.i 1 3 x0).toNatClampNeg))) rfl ?_
      refine lv_iconst (v := 2) hx hb d_cRd_readValue_166 (by decide) ?_
      refine va_ldcS (own := "JoinedTrees$JsonReader") (tx := "true") (q := sad 5) hx hb hown (hE.1 5 (by decide)).1 d_cRd_readValue_167 ?_
      refine w_s (st' := [.ref (sad 5), .int 2, .ref (ad 9 j_6), .ref (ad 1 x0)]) (congrArg (fun z9 : Option Nat => [.ref (sad 5), .int 2, rv ad 9 z9, .ref (ad 1 x0)]) hj_7) ?_
      obtain ⟨o_33, h_34, Heq⟩ := ob_some Heq
      have hFc := fr_all hD hS hA
      refine va_calli (va_runV (As := [.ref (ad 9 j_6), .int 2, .ref (sad 5)]) (rest := []) ⟨hx, hb, hml, hown, hts⟩ (g_cRd_readWord l D H.size (ad := ad) (cc := cc) (sad := sad) (sav := sav) h_34) (cw_v 3 hts kw_907 kw_904 kw_905 kw_906 kw_7 rfl rfl (by decide +kernel) ⟨Nat.le_of_ble_eq_true rfl, Nat.le_of_ble_eq_true rfl⟩) ⟨c_blind, va_recv hK hP (ci := 1) (q0 := cPos N 1 x0) rfl (cw_obj (k := 1) (by decide) hl_x0_1), fun U hU hW => c_pre hU hW hP hK hD hev hE hN hNS hS hFc⟩ rfl rfl hl.1 rfl (lv_room (Nat.le_of_ble_eq_true rfl)) d_cRd_readValue_169 ⟨Nat.le_of_ble_eq_true rfl, Nat.le_of_ble_eq_true rfl⟩) hS (fun q _ h => hFc q h) hFc (fun rz u t H1 locs ht hvm hw hB hz1 hk1 hS => ?_)
      obtain ⟨hP, -, hD1⟩ := hB
      rw [ht] at hP
      have hD := hD1.weaken (fun _ q _ h => hFc q.1 h)
      generalize H1 = H at hP hS ⊢
      refine W.cs (cells' := 0) (slots' := 0) rfl rfl ?_
      subst hw
      by_cases hz_35 : o_33.2 = 0 ∨ o_33.2 = 1
      case neg => rw [if_neg hz_35] at Heq; cases Heq
      replace Heq := (if_pos hz_35).symm.trans Heq
      exact Kr _ (Option.some.inj Heq).symm 172 _ _ _ d_cRd_readValue_172 hz_35 hP hD hS
    replace Heq := (if_neg c_32).symm.trans Heq
    by_cases c_36 : o_14.2 = 123
    · replace Heq := (if_pos c_36).symm.trans Heq
      refine w_i (y := 123) c_36 ?_
      refine lv_lookup (tgt := 124) hx hb d_cRd_readValue_64 (by decide) rfl (by decide) ?_
      refine lv_aload_n hx hb d_cRd_readValue_124 rfl (lv_at hl 1 rfl) ?_
      refine tx_aload_n (x := (S.q 18 j_2 ((S.i 1 3 x0).toNatClampNeg)).map (ad 9)) hx hb d_cRd_readValue_125 rfl (lv_at hl 0 rfl) ?_
      refine w_v (y := rv ad 9 (S.q 18 j_2 ((S.i 1 3 x0).toNatClampNeg))) rfl ?_
      refine lv_bipush (v := 6) hx hb d_cRd_readValue_126 (by decide) ?_
      refine w_s (st' := [.int 6, .ref (ad 9 j_6), .ref (ad 1 x0)]) (congrArg (fun z9 : Option Nat => [.int 6, rv ad 9 z9, .ref (ad 1 x0)]) hj_7) ?_
      obtain ⟨o_37, h_38, Heq⟩ := ob_some Heq
      have hFc := fr_all hD hS hA
      refine va_calli (va_runV (As := [.ref (ad 9 j_6), .int 6]) (rest := []) ⟨hx, hb, hml, hown, hts⟩ (g_cRd_openInside l D H.size (ad := ad) (cc := cc) (sad := sad) (sav := sav) h_38) (cw_v 2 hts kw_886 kw_883 kw_884 kw_885 kw_7 rfl rfl (by decide +kernel) ⟨Nat.le_of_ble_eq_true rfl, Nat.le_of_ble_eq_true rfl⟩) ⟨c_blind, va_recv hK hP (ci := 1) (q0 := cPos N 1 x0) rfl (cw_obj (k := 1) (by decide) hl_x0_1), fun U hU hW => c_pre hU hW hP hK hD hev hE hN hNS hS hFc⟩ rfl rfl hl.1 rfl (lv_room (Nat.le_of_ble_eq_true rfl)) d_cRd_readValue_128 ⟨Nat.le_of_ble_eq_true rfl, Nat.le_of_ble_eq_true rfl⟩) hS (fun q _ h => hFc q h) hFc (fun rz u t H1 locs ht hvm hw hB hz1 hk1 hS => ?_)
      obtain ⟨hP, -, hD1⟩ := hB
      rw [ht] at hP
      have hD := hD1.weaken (fun _ q _ h => hFc q.1 h)
      generalize H1 = H at hP hS ⊢
      refine W.cs (cells' := 0) (slots' := 0) rfl rfl ?_
      subst hw
      by_cases hz_39 : o_37.2 = 0 ∨ o_37.2 = 1
      case neg => rw [if_neg hz_39] at Heq; cases Heq
      replace Heq := (if_pos hz_39).symm.trans Heq
      exact Kr _ (Option.some.inj Heq).symm 131 _ _ _ d_cRd_readValue_131 hz_39 hP hD hS
    replace Heq := (if_neg c_36).symm.trans Heq
    refine lv_lookup (tgt := 173) (off := 109) hx hb d_cRd_readValue_64 (by decide) (by have q0 : (o_14.2).toInt ≠ 34 := fun h => c_16 (Int32.toInt_inj.mp (h.trans (by decide))); have q1 : (o_14.2).toInt ≠ 91 := fun h => c_20 (Int32.toInt_inj.mp (h.trans (by decide))); have q2 : (o_14.2).toInt ≠ 102 := fun h => c_24 (Int32.toInt_inj.mp (h.trans (by decide))); have q3 : (o_14.2).toInt ≠ 110 := fun h => c_28 (Int32.toInt_inj.mp (h.trans (by decide))); have q4 : (o_14.2).toInt ≠ 116 := fun h => c_32 (Int32.toInt_inj.mp (h.trans (by decide))); have q5 : (o_14.2).toInt ≠ 123 := fun h => c_36 (Int32.toInt_inj.mp (h.trans (by decide))); exact lk_out (by simp [q0, q1, q2, q3, q4, q5, Ne.symm q0, Ne.symm q1, Ne.symm q2, Ne.symm q3, Ne.symm q4, Ne.symm q5])) (by decide) ?_
    refine lv_aload_n hx hb d_cRd_readValue_173 rfl (lv_at hl 1 rfl) ?_
    refine tx_aload_n (x := (S.q 18 j_2 ((S.i 1 3 x0).toNatClampNeg)).map (ad 9)) hx hb d_cRd_readValue_174 rfl (lv_at hl 0 rfl) ?_
    refine w_v (y := rv ad 9 (S.q 18 j_2 ((S.i 1 3 x0).toNatClampNeg))) rfl ?_
    refine w_s (st' := [.ref (ad 9 j_6), .ref (ad 1 x0)]) (congrArg (fun z9 : Option Nat => [rv ad 9 z9, .ref (ad 1 x0)]) hj_7) ?_
    obtain ⟨o_40, h_41, Heq⟩ := ob_some Heq
    have hFc := fr_all hD hS hA
    refine va_calli (va_runV (As := [.ref (ad 9 j_6)]) (rest := []) ⟨hx, hb, hml, hown, hts⟩ (g_cRd_readNumber l D H.size (ad := ad) (cc := cc) (sad := sad) (sav := sav) h_41) (cw_v 1 hts kw_961 kw_958 kw_959 kw_960 kw_7 rfl rfl (by decide +kernel) ⟨Nat.le_of_ble_eq_true rfl, Nat.le_of_ble_eq_true rfl⟩) ⟨c_blind, va_recv hK hP (ci := 1) (q0 := cPos N 1 x0) rfl (cw_obj (k := 1) (by decide) hl_x0_1), fun U hU hW => c_pre hU hW hP hK hD hev hE hN hNS hS hFc⟩ rfl rfl hl.1 rfl (lv_room (Nat.le_of_ble_eq_true rfl)) d_cRd_readValue_175 ⟨Nat.le_of_ble_eq_true rfl, Nat.le_of_ble_eq_true rfl⟩) hS (fun q _ h => hFc q h) hFc (fun rz u t H1 locs ht hvm hw hB hz1 hk1 hS => ?_)
    obtain ⟨hP, -, hD1⟩ := hB
    rw [ht] at hP
    have hD := hD1.weaken (fun _ q _ h => hFc q.1 h)
    generalize H1 = H at hP hS ⊢
    refine W.cs (cells' := 0) (slots' := 0) rfl rfl ?_
    subst hw
    by_cases hz_42 : o_40.2 = 0 ∨ o_40.2 = 1
    case neg => rw [if_neg hz_42] at Heq; cases Heq
    replace Heq := (if_pos hz_42).symm.trans Heq
    exact Kr _ (Option.some.inj Heq).symm 178 _ _ _ d_cRd_readValue_178 hz_42 hP hD hS
  · replace Heq := (if_pos c_1).symm.trans Heq
    refine lv_iconst (v := 0) hx hb d_cRd_readValue_15 (by decide) ?_
    exact Kr _ (Option.some.inj Heq).symm 16 _ _ _ d_cRd_readValue_16 (Or.inl rfl) hP hD hS
def m_cRd_readValue (N : Nat → Nat) (x0 : Nat) (S : CS) : Option (CS × Int32) := m_cRd_readValue_J0 N x0 S
set_option maxHeartbeats 4000000 in
theorem g_cRd_readValue (l : Launch) (D : va_G) (sz : Nat) {ad : Nat → Nat → Nat} {cc : Nat → ClassId} {sad sav : Nat → Nat} {N : Nat → Nat} {x0 : Nat} {S : CS} {o : CS × Int32} (Heq : m_cRd_readValue N x0 S = some o) : Met l ⟨"JoinedTrees$JsonReader", "readValue", "()Z"⟩ (Cond.code ⟨"JoinedTrees$JsonReader", "readValue", "()Z"⟩ prog_3_method_8_code 2 (some .boolean) :: gb) ({ frames := 5, cells := 0, slots := 0, locals := 135 }) (cPc sad sav D (cw ad cc N S) (cty cc) sz [.ref (ad 1 x0)]) (va_Qi (fun (r : Int32) (_ : Unit) => r = o.2) (fun _ t => gO D (cw ad cc N o.1) (cty cc) (va_A (cw ad cc N S) sz) t) (va_A (cw ad cc N S) sz)) 0 0 (va_A (cw ad cc N S) sz) := by
  refine Met.ofW (cc := prog_3_method_8_code) (maxL := 2) (ret := (some .boolean)) (by decide) rfl ?_
  intro p e s m args below meth c s₁ B hml hv
  obtain ⟨rfl, hsz, hP, hK, hD0, hev, hE, hN⟩ := hv
  have hx := B.exec
  have hb := B.bytes
  have hr := B.returns
  have hts : ∀ w9 ∈ gb, w9.before [.ref (ad 1 x0)].toArray s = true := fun w9 h => atoms_spec (ws := Cond.code ⟨"JoinedTrees$JsonReader", "readValue", "()Z"⟩ prog_3_method_8_code 2 (some .boolean) :: gb) B.pre w9 (List.mem_cons_of_mem _ h)
  have hown : s.vm.findClass "JoinedTrees$JsonReader" = some m.cls := findClass_of_methodNamed B.named
  have hlocks := B.notSynchronized
  have hNS := ns_of hP
  subst hsz
  have hD := hD0.self (sz := s.heap.size)
  generalize hAe : va_A (cw ad cc N S) s.heap.size = A at hD hev hE hNS ⊢
  have hA : ∀ q : Nat, s.heap.size ≤ q → A q := fun q h => by rw [← hAe]; exact Or.inr h
  have hS : va_S A s.heap s.heap [] := va_S.rf
  obtain ⟨ls, hl, hle⟩ : ∃ ls : Array Slot, lv_has ls 2 [(0, .ref (ad 1 x0))] ∧ entryFrame m ([.ref (ad 1 x0)] : List Value).toArray 2 = F0 m 0 ls [] := by
    exact ⟨_, lv_entry (n := 2) _ (Nat.le_of_ble_eq_true rfl), lg_entry_eq ..⟩
  rw [hle]
  refine w_cRd_readValue_J0 ⟨hx, hb, hr, hml, hown, hts, hK, hA, hev, hE, hN, hNS⟩ Heq (fun r h pc H locs ls hd hz hP hD hS => ?_) _ _ _ hP hD hS (lv_sub hl [0] rfl)
  subst h
  exact W.zret (ty := .boolean) hx hb hr (by rcases hz with hz | hz <;> rw [hz] <;> rfl) (fun t ht hW => ⟨⟨_, (), rfl, rfl, by rw [ht]; exact hP, va_K.moved hW.alike hK, hD⟩, hS.F ht⟩) hS.2.2 hd
def m_cRd_isNewKey_J68 (N : Nat → Nat) (x0 : Nat) (S : CS) (x1 : Int32) (x2 : Int32) (x3 : Int32) : Option ((CS × Int32 × Int32 × Int32) ⊕ ((CS × Int32) ⊕ (CS × Int32))) := some (.inl (S, x1, x2, (x3 + 1)))
theorem d_cRd_isNewKey_0 : decode prog_3_method_7_code 0 = .ok (.aload_n 0, 1) := by decide +kernel
theorem d_cRd_isNewKey_1 : decode prog_3_method_7_code 1 = .ok (.getfield 22, 3) := by decide +kernel
theorem d_cRd_isNewKey_4 : decode prog_3_method_7_code 4 = .ok (.getfield 67, 3) := by decide +kernel
theorem d_cRd_isNewKey_7 : decode prog_3_method_7_code 7 = .ok (.iload_n 1, 1) := by decide +kernel
theorem d_cRd_isNewKey_8 : decode prog_3_method_7_code 8 = .ok (.isub, 1) := by decide +kernel
theorem d_cRd_isNewKey_9 : decode prog_3_method_7_code 9 = .ok (.istore_n 2, 1) := by decide +kernel
theorem d_cRd_isNewKey_10 : decode prog_3_method_7_code 10 = .ok (.iconst 0, 1) := by decide +kernel
theorem d_cRd_isNewKey_11 : decode prog_3_method_7_code 11 = .ok (.istore_n 3, 1) := by decide +kernel
theorem d_cRd_isNewKey_12 : decode prog_3_method_7_code 12 = .ok (.iload_n 3, 1) := by decide +kernel
theorem d_cRd_isNewKey_13 : decode prog_3_method_7_code 13 = .ok (.aload_n 0, 1) := by decide +kernel
theorem d_cRd_isNewKey_14 : decode prog_3_method_7_code 14 = .ok (.getfield 30, 3) := by decide +kernel
theorem d_cRd_isNewKey_17 : decode prog_3_method_7_code 17 = .ok (.if_icmp .ge 57, 3) := by decide +kernel
theorem d_cRd_isNewKey_20 : decode prog_3_method_7_code 20 = .ok (.aload_n 0, 1) := by decide +kernel
theorem d_cRd_isNewKey_21 : decode prog_3_method_7_code 21 = .ok (.getfield 11, 3) := by decide +kernel
theorem d_cRd_isNewKey_24 : decode prog_3_method_7_code 24 = .ok (.iload_n 3, 1) := by decide +kernel
theorem d_cRd_isNewKey_25 : decode prog_3_method_7_code 25 = .ok (.aaload, 1) := by decide +kernel
theorem d_cRd_isNewKey_26 : decode prog_3_method_7_code 26 = .ok (.astore 4, 2) := by decide +kernel
theorem d_cRd_isNewKey_28 : decode prog_3_method_7_code 28 = .ok (.aload 4, 2) := by decide +kernel
theorem d_cRd_isNewKey_30 : decode prog_3_method_7_code 30 = .ok (.getfield 80, 3) := by decide +kernel
theorem d_cRd_isNewKey_33 : decode prog_3_method_7_code 33 = .ok (.aload_n 0, 1) := by decide +kernel
theorem d_cRd_isNewKey_34 : decode prog_3_method_7_code 34 = .ok (.getfield 40, 3) := by decide +kernel
theorem d_cRd_isNewKey_37 : decode prog_3_method_7_code 37 = .ok (.if_acmp .ne 31, 3) := by decide +kernel
theorem d_cRd_isNewKey_68 : decode prog_3_method_7_code 68 = .ok (.iinc 3 1, 3) := by decide +kernel
theorem d_cRd_isNewKey_71 : decode prog_3_method_7_code 71 = .ok (.goto (-59), 3) := by decide +kernel
set_option maxHeartbeats 4000000 in
set_option maxRecDepth 100000 in
theorem w_cRd_isNewKey_J68 {p : Program} {l : Launch} {e : Env} {s : State} {m : MethodId} {args : Array Value} {below : List Frame} {meth : Method} {c : Code} {A : Nat → Prop} {D : va_G} {ad : Nat → Nat → Nat} {cc : Nat → ClassId} {sad sav : Nat → Nat} {Q : State → Prop} (hC : MCc sad sav "JoinedTrees$JsonReader" prog_3_method_7_code 5 (some .boolean) p s m args meth c A D cc) {N : Nat → Nat} {x0 : Nat} {S : CS} {x1 : Int32} {x2 : Int32} {x3 : Int32} {o : ((CS × Int32 × Int32 × Int32) ⊕ ((CS × Int32) ⊕ (CS × Int32)))} (Heq : m_cRd_isNewKey_J68 N x0 S x1 x2 x3 = some o) (Ka : ∀ b : CS × Int32 × Int32 × Int32, o = .inl b → ∀ (H : Heap) (locs : List Loc) (ls : Array Slot), va_P D cls (cw ad cc N b.1) H → va_D A (cw ad cc N b.1) → va_S A s.heap H locs → lv_has ls 5 [(0, .ref (ad 1 x0)), (1, .int b.2.1), (2, .int b.2.2.1), (3, .int b.2.2.2)] → W p l e ({ frames := 2, cells := 0, slots := 0, locals := 48 }) s m args below meth c H locs 0 0 Q (F0 m 12 ls [])) (K0 : ∀ b : CS × Int32, o = .inr (.inl b) → ∀ (H : Heap) (locs : List Loc) (ls : Array Slot), va_P D cls (cw ad cc N b.1) H → va_D A (cw ad cc N b.1) → va_S A s.heap H locs → lv_has ls 5 [(0, .ref (ad 1 x0)), (2, .int b.2)] → W p l e ({ frames := 2, cells := 0, slots := 0, locals := 48 }) s m args below meth c H locs 0 0 Q (F0 m 74 ls [])) (Kr : ∀ r : CS × Int32, o = .inr (.inr r) → ∀ (pc : Nat) (H : Heap) (locs : List Loc) (ls : Array Slot), decode prog_3_method_7_code pc = .ok (.ireturn, 1) → (r.2 = 0 ∨ r.2 = 1) → va_P D cls (cw ad cc N r.1) H → va_D A (cw ad cc N r.1) → va_S A s.heap H locs → W p l e ({ frames := 2, cells := 0, slots := 0, locals := 48 }) s m args below meth c H locs 0 0 Q (F0 m pc ls [.int r.2])) : ∀ (H : Heap) (locs : List Loc) (ls : Array Slot), va_P D cls (cw ad cc N S) H → va_D A (cw ad cc N S) → va_S A s.heap H locs → lv_has ls 5 [(0, .ref (ad 1 x0)), (1, .int x1), (2, .int x2), (3, .int x3)] → W p l e ({ frames := 2, cells := 0, slots := 0, locals := 48 }) s m args below meth c H locs 0 0 Q (F0 m 68 ls []) := by
  intro H locs ls hP hD hS hl
  obtain ⟨hx, hb, hr, hml, hown, hts, hK, hA, hev, hE, hN, hNS⟩ := id hC
  unfold m_cRd_isNewKey_J68 at Heq
  refine lv_iinc (v := x3 + 1) (lv' := [(3, .int (x3 + 1)), (0, .ref (ad 1 x0)), (1, .int x1), (2, .int x2)]) hx hb d_cRd_isNewKey_68 hl (k := 3) rfl rfl (by decide) rfl (fun ls hl => ?_)
  refine lv_goto (tgt := 12) hx hb d_cRd_isNewKey_71 (by decide) ?_
  exact Ka _ (Option.some.inj Heq).symm _ _ _ hP hD hS (lv_sub hl [1, 2, 3, 0] rfl)
def m_cRd_isNewKey_B12 (N : Nat → Nat) (x0 : Nat) (S : CS) (x1 : Int32) (x2 : Int32) (x3 : Int32) : Option ((CS × Int32 × Int32 × Int32) ⊕ ((CS × Int32) ⊕ (CS × Int32))) := gl x0 (N 1) ((if S.i 1 3 x0 ≤ x3 then some (.inr (.inl (S, x2))) else gn (S.r 1 0 x0) (N 18) (fun j_2 => gd x3 (S.z 18 j_2) (gn (S.q 18 j_2 x3.toNatClampNeg) (N 9) (fun j_6 => gv (S.r 9 2 j_6) (N 9) (gv (S.r 1 6 x0) (N 9) ((if (S.r 9 2 j_6) = (S.r 1 6 x0) then gn (S.r 1 1 x0) (N 5) (fun j_12 => ob (m_cRw_compareWith N j_12 S (S.i 9 3 j_6) (S.i 9 4 j_6) j_12 x1 x2) (fun o_15 => (if o_15.2 = 0 then some (.inr (.inr (o_15.1, 0))) else m_cRd_isNewKey_J68 N x0 o_15.1 x1 x2 x3))) else m_cRd_isNewKey_J68 N x0 S x1 x2 x3))))))))
theorem d_cRd_isNewKey_40 : decode prog_3_method_7_code 40 = .ok (.aload_n 0, 1) := by decide +kernel
theorem d_cRd_isNewKey_41 : decode prog_3_method_7_code 41 = .ok (.getfield 22, 3) := by decide +kernel
theorem d_cRd_isNewKey_44 : decode prog_3_method_7_code 44 = .ok (.aload 4, 2) := by decide +kernel
theorem d_cRd_isNewKey_46 : decode prog_3_method_7_code 46 = .ok (.getfield 95, 3) := by decide +kernel
theorem d_cRd_isNewKey_49 : decode prog_3_method_7_code 49 = .ok (.aload 4, 2) := by decide +kernel
theorem d_cRd_isNewKey_51 : decode prog_3_method_7_code 51 = .ok (.getfield 96, 3) := by decide +kernel
theorem d_cRd_isNewKey_54 : decode prog_3_method_7_code 54 = .ok (.aload_n 0, 1) := by decide +kernel
theorem d_cRd_isNewKey_55 : decode prog_3_method_7_code 55 = .ok (.getfield 22, 3) := by decide +kernel
theorem d_cRd_isNewKey_58 : decode prog_3_method_7_code 58 = .ok (.iload_n 1, 1) := by decide +kernel
theorem d_cRd_isNewKey_59 : decode prog_3_method_7_code 59 = .ok (.iload_n 2, 1) := by decide +kernel
theorem d_cRd_isNewKey_60 : decode prog_3_method_7_code 60 = .ok (.invokevirtual 97, 3) := by decide +kernel
theorem d_cRd_isNewKey_63 : decode prog_3_method_7_code 63 = .ok (.ifCond .ne 5, 3) := by decide +kernel
theorem d_cRd_isNewKey_66 : decode prog_3_method_7_code 66 = .ok (.iconst 0, 1) := by decide +kernel
theorem d_cRd_isNewKey_67 : decode prog_3_method_7_code 67 = .ok (.ireturn, 1) := by decide +kernel
set_option maxHeartbeats 4000000 in
set_option maxRecDepth 100000 in
theorem w_cRd_isNewKey_B12 {p : Program} {l : Launch} {e : Env} {s : State} {m : MethodId} {args : Array Value} {below : List Frame} {meth : Method} {c : Code} {A : Nat → Prop} {D : va_G} {ad : Nat → Nat → Nat} {cc : Nat → ClassId} {sad sav : Nat → Nat} {Q : State → Prop} (hC : MCc sad sav "JoinedTrees$JsonReader" prog_3_method_7_code 5 (some .boolean) p s m args meth c A D cc) {N : Nat → Nat} {x0 : Nat} {S : CS} {x1 : Int32} {x2 : Int32} {x3 : Int32} {o : ((CS × Int32 × Int32 × Int32) ⊕ ((CS × Int32) ⊕ (CS × Int32)))} (Heq : m_cRd_isNewKey_B12 N x0 S x1 x2 x3 = some o) (Ka : ∀ b : CS × Int32 × Int32 × Int32, o = .inl b → ∀ (H : Heap) (locs : List Loc) (ls : Array Slot), va_P D cls (cw ad cc N b.1) H → va_D A (cw ad cc N b.1) → va_S A s.heap H locs → lv_has ls 5 [(0, .ref (ad 1 x0)), (1, .int b.2.1), (2, .int b.2.2.1), (3, .int b.2.2.2)] → W p l e ({ frames := 2, cells := 0, slots := 0, locals := 48 }) s m args below meth c H locs 0 0 Q (F0 m 12 ls [])) (K0 : ∀ b : CS × Int32, o = .inr (.inl b) → ∀ (H : Heap) (locs : List Loc) (ls : Array Slot), va_P D cls (cw ad cc N b.1) H → va_D A (cw ad cc N b.1) → va_S A s.heap H locs → lv_has ls 5 [(0, .ref (ad 1 x0)), (2, .int b.2)] → W p l e ({ frames := 2, cells := 0, slots := 0, locals := 48 }) s m args below meth c H locs 0 0 Q (F0 m 74 ls [])) (Kr : ∀ r : CS × Int32, o = .inr (.inr r) → ∀ (pc : Nat) (H : Heap) (locs : List Loc) (ls : Array Slot), decode prog_3_method_7_code pc = .ok (.ireturn, 1) → (r.2 = 0 ∨ r.2 = 1) → va_P D cls (cw ad cc N r.1) H → va_D A (cw ad cc N r.1) → va_S A s.heap H locs → W p l e ({ frames := 2, cells := 0, slots := 0, locals := 48 }) s m args below meth c H locs 0 0 Q (F0 m pc ls [.int r.2])) : ∀ (H : Heap) (locs : List Loc) (ls : Array Slot), va_P D cls (cw ad cc N S) H → va_D A (cw ad cc N S) → va_S A s.heap H locs → lv_has ls 5 [(0, .ref (ad 1 x0)), (1, .int x1), (2, .int x2), (3, .int x3)] → W p l e ({ frames := 2, cells := 0, slots := 0, locals := 48 }) s m args below meth c H locs 0 0 Q (F0 m 12 ls []) := by
  intro H locs ls hP hD hS hl
  obtain ⟨hx, hb, hr, hml, hown, hts, hK, hA, hev, hE, hN, hNS⟩ := id hC
  unfold m_cRd_isNewKey_B12 at Heq
  refine lv_iload_n hx hb d_cRd_isNewKey_12 rfl (lv_at hl 3 rfl) ?_
  refine lv_aload_n hx hb d_cRd_isNewKey_13 rfl (lv_at hl 0 rfl) ?_
  obtain ⟨hl_x0_1, Heq⟩ := gl_some Heq
  refine va_get (D := D) (ci := 1) (v := .int (S.i 1 3 x0)) (C := R_Rd) (T := F_Rd) (N := 10) hx hb hts i_Rd hown hK hP (cPos N 1 x0) (cw_obj (k := 1) (by decide) hl_x0_1) rfl 3 (by decide) (hts _ kw_347) (fun _ h9 => h9) rfl d_cRd_isNewKey_14 ?_
  refine lv_icmp_ge (tgt := 74) hx hb d_cRd_isNewKey_17 (by decide) (fun c_1 => ?_) (fun c_1 => ?_)
  · replace Heq := (if_pos c_1).symm.trans Heq
    exact K0 _ (Option.some.inj Heq).symm _ _ _ hP hD hS (lv_sub hl [0, 2] rfl)
  · replace Heq := (if_neg c_1).symm.trans Heq
    refine lv_aload_n hx hb d_cRd_isNewKey_20 rfl (lv_at hl 0 rfl) ?_
    refine va_get (D := D) (ci := 1) (v := rv ad 18 (S.r 1 0 x0)) (C := R_Rd) (T := F_Rd) (N := 10) hx hb hts i_Rd hown hK hP (cPos N 1 x0) (cw_obj (k := 1) (by decide) hl_x0_1) rfl 0 (by decide) (hts _ kw_342) (fun _ h9 => h9) rfl d_cRd_isNewKey_21 ?_
    refine lv_iload_n hx hb d_cRd_isNewKey_24 rfl (lv_at hl 3 rfl) ?_
    obtain ⟨j_2, hj_3, hl_4, Heq⟩ := gn_some Heq
    refine w_s (st' := [.int x3, .ref (ad 18 j_2)]) (congrArg (fun z9 : Option Nat => [.int x3, rv ad 18 z9]) hj_3) ?_
    obtain ⟨hi_5, Heq⟩ := gd_some Heq
    refine va_aldq hx hb hK hP (cPos N 18 j_2) 6 (cw_refs (k := 18) (by decide) hl_4) rfl (i := x3) hi_5 d_cRd_isNewKey_25 ?_
    refine w_v (y := rv ad 9 (S.q 18 j_2 x3.toNatClampNeg)) (congrArg (rv ad 9) rfl) ?_
    refine tx_astore (x := (S.q 18 j_2 x3.toNatClampNeg).map (ad 9)) (lv' := [(4, rv ad 9 (S.q 18 j_2 x3.toNatClampNeg)), (0, .ref (ad 1 x0)), (1, .int x1), (2, .int x2), (3, .int x3)]) hx hb d_cRd_isNewKey_26 hl (by decide) rfl (fun ls hl => ?_)
    refine tx_aload (x := (S.q 18 j_2 x3.toNatClampNeg).map (ad 9)) hx hb d_cRd_isNewKey_28 (lv_at hl 0 rfl) ?_
    refine w_v (y := rv ad 9 (S.q 18 j_2 x3.toNatClampNeg)) rfl ?_
    obtain ⟨j_6, hj_7, hl_8, Heq⟩ := gn_some Heq
    refine w_s (st' := [.ref (ad 9 j_6)]) (congrArg (fun z9 : Option Nat => [rv ad 9 z9]) hj_7) ?_
    refine va_get (D := D) (ci := 9) (v := rv ad 9 (S.r 9 2 j_6)) (C := R_Va) (T := F_Va) (N := 10) hx hb hts i_Va hown hK hP (cPos N 9 j_6) (cw_obj (k := 9) (by decide) hl_8) rfl 2 (by decide) (hts _ kw_301) (fun _ h9 => h9) rfl d_cRd_isNewKey_30 ?_
    refine lv_aload_n hx hb d_cRd_isNewKey_33 rfl (lv_at hl 1 rfl) ?_
    refine va_get (D := D) (ci := 1) (v := rv ad 9 (S.r 1 6 x0)) (C := R_Rd) (T := F_Rd) (N := 10) hx hb hts i_Rd hown hK hP (cPos N 1 x0) (cw_obj (k := 1) (by decide) hl_x0_1) rfl 6 (by decide) (hts _ kw_352) (fun _ h9 => h9) rfl d_cRd_isNewKey_34 ?_
    obtain ⟨hv_9, Heq⟩ := gv_some Heq
    obtain ⟨hv_10, Heq⟩ := gv_some Heq
    have ec_11 := rv_eq hD (k := 9) (by decide) (x := (S.r 9 2 j_6)) (y := (S.r 1 6 x0)) hv_9 hv_10
    refine lv_acmp_ne (rx := (S.r 9 2 j_6).map (ad 9)) (ry := (S.r 1 6 x0).map (ad 9)) (tgt := 68) hx hb d_cRd_isNewKey_37 (by decide) (fun c_11 => ?_) (fun c_11 => ?_)
    · replace Heq := (if_neg (fun q9 => c_11 (ec_11.mpr q9))).symm.trans Heq
      exact w_cRd_isNewKey_J68 hC Heq Ka K0 Kr _ _ _ hP hD hS (lv_sub hl [1, 2, 3, 4] rfl)
    · replace Heq := (if_pos (ec_11.mp c_11)).symm.trans Heq
      refine lv_aload_n hx hb d_cRd_isNewKey_40 rfl (lv_at hl 1 rfl) ?_
      refine va_get (D := D) (ci := 1) (v := rv ad 5 (S.r 1 1 x0)) (C := R_Rd) (T := F_Rd) (N := 10) hx hb hts i_Rd hown hK hP (cPos N 1 x0) (cw_obj (k := 1) (by decide) hl_x0_1) rfl 1 (by decide) (hts _ kw_344) (fun _ h9 => h9) rfl d_cRd_isNewKey_41 ?_
      refine tx_aload (x := (S.q 18 j_2 x3.toNatClampNeg).map (ad 9)) hx hb d_cRd_isNewKey_44 (lv_at hl 0 rfl) ?_
      refine w_v (y := rv ad 9 (S.q 18 j_2 x3.toNatClampNeg)) rfl ?_
      refine w_s (st' := [.ref (ad 9 j_6), rv ad 5 (S.r 1 1 x0)]) (congrArg (fun z9 : Option Nat => [rv ad 9 z9, rv ad 5 (S.r 1 1 x0)]) hj_7) ?_
      refine va_get (D := D) (ci := 9) (v := .int (S.i 9 3 j_6)) (C := R_Va) (T := F_Va) (N := 10) hx hb hts i_Va hown hK hP (cPos N 9 j_6) (cw_obj (k := 9) (by decide) hl_8) rfl 3 (by decide) (hts _ kw_304) (fun _ h9 => h9) rfl d_cRd_isNewKey_46 ?_
      refine tx_aload (x := (S.q 18 j_2 x3.toNatClampNeg).map (ad 9)) hx hb d_cRd_isNewKey_49 (lv_at hl 0 rfl) ?_
      refine w_v (y := rv ad 9 (S.q 18 j_2 x3.toNatClampNeg)) rfl ?_
      refine w_s (st' := [.ref (ad 9 j_6), .int (S.i 9 3 j_6), rv ad 5 (S.r 1 1 x0)]) (congrArg (fun z9 : Option Nat => [rv ad 9 z9, .int (S.i 9 3 j_6), rv ad 5 (S.r 1 1 x0)]) hj_7) ?_
      refine va_get (D := D) (ci := 9) (v := .int (S.i 9 4 j_6)) (C := R_Va) (T := F_Va) (N := 10) hx hb hts i_Va hown hK hP (cPos N 9 j_6) (cw_obj (k := 9) (by decide) hl_8) rfl 4 (by decide) (hts _ kw_307) (fun _ h9 => h9) rfl d_cRd_isNewKey_51 ?_
      refine lv_aload_n hx hb d_cRd_isNewKey_54 rfl (lv_at hl 1 rfl) ?_
      refine va_get (D := D) (ci := 1) (v := rv ad 5 (S.r 1 1 x0)) (C := R_Rd) (T := F_Rd) (N := 10) hx hb hts i_Rd hown hK hP (cPos N 1 x0) (cw_obj (k := 1) (by decide) hl_x0_1) rfl 1 (by decide) (hts _ kw_344) (fun _ h9 => h9) rfl d_cRd_isNewKey_55 ?_
      refine lv_iload_n hx hb d_cRd_isNewKey_58 rfl (lv_at hl 2 rfl) ?_
      refine lv_iload_n hx hb d_cRd_isNewKey_59 rfl (lv_at hl 3 rfl) ?_
      obtain ⟨j_12, hj_13, hl_14, Heq⟩ := gn_some Heq
      refine w_s (st' := [.int x2, .int x1, .ref (ad 5 j_12), .int (S.i 9 4 j_6), .int (S.i 9 3 j_6), rv ad 5 (S.r 1 1 x0)]) (congrArg (fun z9 : Option Nat => [.int x2, .int x1, rv ad 5 z9, .int (S.i 9 4 j_6), .int (S.i 9 3 j_6), rv ad 5 (S.r 1 1 x0)]) hj_13) ?_
      refine w_s (st' := [.int x2, .int x1, .ref (ad 5 j_12), .int (S.i 9 4 j_6), .int (S.i 9 3 j_6), .ref (ad 5 j_12)]) (congrArg (fun z9 : Option Nat => [.int x2, .int x1, .ref (ad 5 j_12), .int (S.i 9 4 j_6), .int (S.i 9 3 j_6), rv ad 5 z9]) hj_13) ?_
      obtain ⟨o_15, h_16, Heq⟩ := ob_some Heq
      have hFc := fr_all hD hS hA
      refine va_calli (va_runV (As := [.int (S.i 9 3 j_6), .int (S.i 9 4 j_6), .ref (ad 5 j_12), .int x1, .int x2]) (rest := []) ⟨hx, hb, hml, hown, hts⟩ (g_cRw_compareWith l D H.size (ad := ad) (cc := cc) (sad := sad) (sav := sav) h_16) (cw_v 5 hts kw_685 kw_979 kw_683 kw_684 kw_4 rfl rfl (by decide +kernel) ⟨Nat.le_of_ble_eq_true rfl, Nat.le_of_ble_eq_true rfl⟩) ⟨c_blind, va_recv hK hP (ci := 5) (q0 := cPos N 5 j_12) rfl (cw_obj (k := 5) (by decide) hl_14), fun U hU hW => c_pre hU hW hP hK hD hev hE hN hNS hS hFc⟩ rfl rfl hl.1 rfl (lv_room (Nat.le_of_ble_eq_true rfl)) d_cRd_isNewKey_60 ⟨Nat.le_of_ble_eq_true rfl, Nat.le_of_ble_eq_true rfl⟩) hS (fun q _ h => hFc q h) hFc (fun rz u t H1 locs ht hvm hw hB hz1 hk1 hS => ?_)
      obtain ⟨hP, -, hD1⟩ := hB
      rw [ht] at hP
      have hD := hD1.weaken (fun _ q _ h => hFc q.1 h)
      generalize H1 = H at hP hS ⊢
      refine W.cs (cells' := 0) (slots' := 0) rfl rfl ?_
      subst hw
      refine lv_if_ne (tgt := 68) hx hb d_cRd_isNewKey_63 (by decide) (fun c_17 => ?_) (fun c_17 => ?_)
      · replace Heq := (if_neg c_17).symm.trans Heq
        exact w_cRd_isNewKey_J68 hC Heq Ka K0 Kr _ _ _ hP hD hS (lv_sub hl [1, 2, 3, 4] rfl)
      · replace Heq := (if_pos c_17).symm.trans Heq
        refine lv_iconst (v := 0) hx hb d_cRd_isNewKey_66 (by decide) ?_
        exact Kr _ (Option.some.inj Heq).symm 67 _ _ _ d_cRd_isNewKey_67 (Or.inl rfl) hP hD hS
def m_cRd_isNewKey_L12 (N : Nat → Nat) (x0 : Nat) (S : CS) (x1 : Int32) (x2 : Int32) (x3 : Int32) : Option ((CS × Int32) ⊕ (CS × Int32)) := lp (fun a : CS × Int32 × Int32 × Int32 => m_cRd_isNewKey_B12 N x0 a.1 a.2.1 a.2.2.1 a.2.2.2) FU (S, x1, x2, x3)
theorem w_cRd_isNewKey_L12 {p : Program} {l : Launch} {e : Env} {s : State} {m : MethodId} {args : Array Value} {below : List Frame} {meth : Method} {c : Code} {A : Nat → Prop} {D : va_G} {ad : Nat → Nat → Nat} {cc : Nat → ClassId} {sad sav : Nat → Nat} {Q : State → Prop} (hC : MCc sad sav "JoinedTrees$JsonReader" prog_3_method_7_code 5 (some .boolean) p s m args meth c A D cc) {N : Nat → Nat} {x0 : Nat} {S : CS} {x1 : Int32} {x2 : Int32} {x3 : Int32} {o : ((CS × Int32) ⊕ (CS × Int32))} (Heq : m_cRd_isNewKey_L12 N x0 S x1 x2 x3 = some o) (K0 : ∀ b : CS × Int32, o = (.inl b) → ∀ (H : Heap) (locs : List Loc) (ls : Array Slot), va_P D cls (cw ad cc N b.1) H → va_D A (cw ad cc N b.1) → va_S A s.heap H locs → lv_has ls 5 [(0, .ref (ad 1 x0)), (2, .int b.2)] → W p l e ({ frames := 2, cells := 0, slots := 0, locals := 48 }) s m args below meth c H locs 0 0 Q (F0 m 74 ls [])) (Kr : ∀ r : CS × Int32, o = (.inr r) → ∀ (pc : Nat) (H : Heap) (locs : List Loc) (ls : Array Slot), decode prog_3_method_7_code pc = .ok (.ireturn, 1) → (r.2 = 0 ∨ r.2 = 1) → va_P D cls (cw ad cc N r.1) H → va_D A (cw ad cc N r.1) → va_S A s.heap H locs → W p l e ({ frames := 2, cells := 0, slots := 0, locals := 48 }) s m args below meth c H locs 0 0 Q (F0 m pc ls [.int r.2])) : ∀ (H : Heap) (locs : List Loc) (ls : Array Slot), va_P D cls (cw ad cc N S) H → va_D A (cw ad cc N S) → va_S A s.heap H locs → lv_has ls 5 [(0, .ref (ad 1 x0)), (1, .int x1), (2, .int x2), (3, .int x3)] → W p l e ({ frames := 2, cells := 0, slots := 0, locals := 48 }) s m args below meth c H locs 0 0 Q (F0 m 12 ls []) := by
  refine lp_w (G := fun a : CS × Int32 × Int32 × Int32 => ∀ (H : Heap) (locs : List Loc) (ls : Array Slot), va_P D cls (cw ad cc N a.1) H → va_D A (cw ad cc N a.1) → va_S A s.heap H locs → lv_has ls 5 [(0, .ref (ad 1 x0)), (1, .int a.2.1), (2, .int a.2.2.1), (3, .int a.2.2.2)] → W p l e ({ frames := 2, cells := 0, slots := 0, locals := 48 }) s m args below meth c H locs 0 0 Q (F0 m 12 ls [])) ?_ FU (S, x1, x2, x3) Heq
  intro a o1 ho Ka Ke
  exact w_cRd_isNewKey_B12 hC ho (fun b h => Ka b h) (fun b h => K0 b (Ke _ h).symm) (fun r h => Kr r (Ke _ h).symm)
def m_cRd_isNewKey_J83 (N : Nat → Nat) (x0 : Nat) (S : CS) (t0 : Int32) : Option (CS × Int32) := (if t0 = 0 ∨ t0 = 1 then some (S, t0) else none)
theorem d_cRd_isNewKey_74 : decode prog_3_method_7_code 74 = .ok (.iload_n 2, 1) := by decide +kernel
theorem d_cRd_isNewKey_75 : decode prog_3_method_7_code 75 = .ok (.ifCond .le 7, 3) := by decide +kernel
theorem d_cRd_isNewKey_82 : decode prog_3_method_7_code 82 = .ok (.iconst 0, 1) := by decide +kernel
theorem d_cRd_isNewKey_83 : decode prog_3_method_7_code 83 = .ok (.ireturn, 1) := by decide +kernel
set_option maxHeartbeats 4000000 in
set_option maxRecDepth 100000 in
theorem w_cRd_isNewKey_J83 {p : Program} {l : Launch} {e : Env} {s : State} {m : MethodId} {args : Array Value} {below : List Frame} {meth : Method} {c : Code} {A : Nat → Prop} {D : va_G} {ad : Nat → Nat → Nat} {cc : Nat → ClassId} {sad sav : Nat → Nat} {Q : State → Prop} (hC : MCc sad sav "JoinedTrees$JsonReader" prog_3_method_7_code 5 (some .boolean) p s m args meth c A D cc) {N : Nat → Nat} {x0 : Nat} {S : CS} {t0 : Int32} {o : CS × Int32} (Heq : m_cRd_isNewKey_J83 N x0 S t0 = some o) (Kr : ∀ r : CS × Int32, o = r → ∀ (pc : Nat) (H : Heap) (locs : List Loc) (ls : Array Slot), decode prog_3_method_7_code pc = .ok (.ireturn, 1) → (r.2 = 0 ∨ r.2 = 1) → va_P D cls (cw ad cc N r.1) H → va_D A (cw ad cc N r.1) → va_S A s.heap H locs → W p l e ({ frames := 2, cells := 0, slots := 0, locals := 48 }) s m args below meth c H locs 0 0 Q (F0 m pc ls [.int r.2])) : ∀ (H : Heap) (locs : List Loc) (ls : Array Slot), va_P D cls (cw ad cc N S) H → va_D A (cw ad cc N S) → va_S A s.heap H locs → lv_has ls 5 [(0, .ref (ad 1 x0))] → W p l e ({ frames := 2, cells := 0, slots := 0, locals := 48 }) s m args below meth c H locs 0 0 Q (F0 m 83 ls [.int t0]) := by
  intro H locs ls hP hD hS hl
  obtain ⟨hx, hb, hr, hml, hown, hts, hK, hA, hev, hE, hN, hNS⟩ := id hC
  unfold m_cRd_isNewKey_J83 at Heq
  by_cases hz_1 : t0 = 0 ∨ t0 = 1
  case neg => rw [if_neg hz_1] at Heq; cases Heq
  replace Heq := (if_pos hz_1).symm.trans Heq
  exact Kr _ (Option.some.inj Heq).symm 83 _ _ _ d_cRd_isNewKey_83 hz_1 hP hD hS
def m_cRd_isNewKey_J0 (N : Nat → Nat) (x0 : Nat) (S : CS) (x1 : Int32) : Option (CS × Int32) := gl x0 (N 1) (gn (S.r 1 1 x0) (N 5) (fun j_1 => oe (m_cRd_isNewKey_L12 N x0 S x1 ((S.i 5 1 j_1) - x1) 0) (fun b_4 => (if b_4.2 ≤ 0 then m_cRd_isNewKey_J83 N x0 b_4.1 0 else m_cRd_isNewKey_J83 N x0 b_4.1 1)) (fun r_6 => some r_6)))
theorem d_cRd_isNewKey_78 : decode prog_3_method_7_code 78 = .ok (.iconst 1, 1) := by decide +kernel
theorem d_cRd_isNewKey_79 : decode prog_3_method_7_code 79 = .ok (.goto 4, 3) := by decide +kernel
set_option maxHeartbeats 4000000 in
set_option maxRecDepth 100000 in
theorem w_cRd_isNewKey_J0 {p : Program} {l : Launch} {e : Env} {s : State} {m : MethodId} {args : Array Value} {below : List Frame} {meth : Method} {c : Code} {A : Nat → Prop} {D : va_G} {ad : Nat → Nat → Nat} {cc : Nat → ClassId} {sad sav : Nat → Nat} {Q : State → Prop} (hC : MCc sad sav "JoinedTrees$JsonReader" prog_3_method_7_code 5 (some .boolean) p s m args meth c A D cc) {N : Nat → Nat} {x0 : Nat} {S : CS} {x1 : Int32} {o : CS × Int32} (Heq : m_cRd_isNewKey_J0 N x0 S x1 = some o) (Kr : ∀ r : CS × Int32, o = r → ∀ (pc : Nat) (H : Heap) (locs : List Loc) (ls : Array Slot), decode prog_3_method_7_code pc = .ok (.ireturn, 1) → (r.2 = 0 ∨ r.2 = 1) → va_P D cls (cw ad cc N r.1) H → va_D A (cw ad cc N r.1) → va_S A s.heap H locs → W p l e ({ frames := 2, cells := 0, slots := 0, locals := 48 }) s m args below meth c H locs 0 0 Q (F0 m pc ls [.int r.2])) : ∀ (H : Heap) (locs : List Loc) (ls : Array Slot), va_P D cls (cw ad cc N S) H → va_D A (cw ad cc N S) → va_S A s.heap H locs → lv_has ls 5 [(0, .ref (ad 1 x0)), (1, .int x1)] → W p l e ({ frames := 2, cells := 0, slots := 0, locals := 48 }) s m args below meth c H locs 0 0 Q (F0 m 0 ls []) := by
  intro H locs ls hP hD hS hl
  obtain ⟨hx, hb, hr, hml, hown, hts, hK, hA, hev, hE, hN, hNS⟩ := id hC
  unfold m_cRd_isNewKey_J0 at Heq
  refine lv_aload_n hx hb d_cRd_isNewKey_0 rfl (lv_at hl 0 rfl) ?_
  obtain ⟨hl_x0_1, Heq⟩ := gl_some Heq
  refine va_get (D := D) (ci := 1) (v := rv ad 5 (S.r 1 1 x0)) (C := R_Rd) (T := F_Rd) (N := 10) hx hb hts i_Rd hown hK hP (cPos N 1 x0) (cw_obj (k := 1) (by decide) hl_x0_1) rfl 1 (by decide) (hts _ kw_344) (fun _ h9 => h9) rfl d_cRd_isNewKey_1 ?_
  obtain ⟨j_1, hj_2, hl_3, Heq⟩ := gn_some Heq
  refine w_s (st' := [.ref (ad 5 j_1)]) (congrArg (fun z9 : Option Nat => [rv ad 5 z9]) hj_2) ?_
  refine va_get (D := D) (ci := 5) (v := .int (S.i 5 1 j_1)) (C := R_Rw) (T := F_Rw) (N := 3) hx hb hts i_Rw hown hK hP (cPos N 5 j_1) (cw_obj (k := 5) (by decide) hl_3) rfl 1 (by decide) (hts _ kw_146) (fun _ h9 => h9) rfl d_cRd_isNewKey_4 ?_
  refine lv_iload_n hx hb d_cRd_isNewKey_7 rfl (lv_at hl 1 rfl) ?_
  refine lv_isub hx hb d_cRd_isNewKey_8 ?_
  refine w_i (y := (S.i 5 1 j_1) - x1) rfl ?_
  refine lv_istore_n (lv' := [(2, .int ((S.i 5 1 j_1) - x1)), (0, .ref (ad 1 x0)), (1, .int x1)]) hx hb d_cRd_isNewKey_9 rfl hl (by decide) rfl (fun ls hl => ?_)
  refine lv_iconst (v := 0) hx hb d_cRd_isNewKey_10 (by decide) ?_
  refine lv_istore_n (lv' := [(3, .int 0), (2, .int ((S.i 5 1 j_1) - x1)), (0, .ref (ad 1 x0)), (1, .int x1)]) hx hb d_cRd_isNewKey_11 rfl hl (by decide) rfl (fun ls hl => ?_)
  rcases oe_some Heq with ⟨b_4, h_5, Heq⟩ | ⟨r_6, h_5, Heq⟩
  · refine w_cRd_isNewKey_L12 hC h_5 (fun b h => ?_) (fun r h => by cases h) _ _ _ hP hD hS (lv_sub hl [2, 3, 1, 0] rfl)
    cases h
    intro H locs ls hP hD hS hl
    refine lv_iload_n hx hb d_cRd_isNewKey_74 rfl (lv_at hl 1 rfl) ?_
    refine lv_if_le (tgt := 82) hx hb d_cRd_isNewKey_75 (by decide) (fun c_7 => ?_) (fun c_7 => ?_)
    · replace Heq := (if_pos c_7).symm.trans Heq
      refine lv_iconst (v := 0) hx hb d_cRd_isNewKey_82 (by decide) ?_
      exact w_cRd_isNewKey_J83 hC Heq Kr _ _ _ hP hD hS (lv_sub hl [0] rfl)
    · replace Heq := (if_neg c_7).symm.trans Heq
      refine lv_iconst (v := 1) hx hb d_cRd_isNewKey_78 (by decide) ?_
      refine lv_goto (tgt := 83) hx hb d_cRd_isNewKey_79 (by decide) ?_
      exact w_cRd_isNewKey_J83 hC Heq Kr _ _ _ hP hD hS (lv_sub hl [0] rfl)
  · refine w_cRd_isNewKey_L12 hC h_5 (fun b h => by cases h) (fun r h => ?_) _ _ _ hP hD hS (lv_sub hl [2, 3, 1, 0] rfl)
    cases h
    exact Kr _ (Option.some.inj Heq).symm
def m_cRd_isNewKey (N : Nat → Nat) (x0 : Nat) (S : CS) (x1 : Int32) : Option (CS × Int32) := m_cRd_isNewKey_J0 N x0 S x1
set_option maxHeartbeats 4000000 in
theorem g_cRd_isNewKey (l : Launch) (D : va_G) (sz : Nat) {ad : Nat → Nat → Nat} {cc : Nat → ClassId} {sad sav : Nat → Nat} {N : Nat → Nat} {x0 : Nat} {S : CS} {x1 : Int32} {o : CS × Int32} (Heq : m_cRd_isNewKey N x0 S x1 = some o) : Met l ⟨"JoinedTrees$JsonReader", "isNewKey", "(I)Z"⟩ (Cond.code ⟨"JoinedTrees$JsonReader", "isNewKey", "(I)Z"⟩ prog_3_method_7_code 5 (some .boolean) :: gb) ({ frames := 2, cells := 0, slots := 0, locals := 48 }) (cPc sad sav D (cw ad cc N S) (cty cc) sz [.ref (ad 1 x0), .int x1]) (va_Qi (fun (r : Int32) (_ : Unit) => r = o.2) (fun _ t => gO D (cw ad cc N o.1) (cty cc) (va_A (cw ad cc N S) sz) t) (va_A (cw ad cc N S) sz)) 0 0 (va_A (cw ad cc N S) sz) := by
  refine Met.ofW (cc := prog_3_method_7_code) (maxL := 5) (ret := (some .boolean)) (by decide) rfl ?_
  intro p e s m args below meth c s₁ B hml hv
  obtain ⟨rfl, hsz, hP, hK, hD0, hev, hE, hN⟩ := hv
  have hx := B.exec
  have hb := B.bytes
  have hr := B.returns
  have hts : ∀ w9 ∈ gb, w9.before [.ref (ad 1 x0), .int x1].toArray s = true := fun w9 h => atoms_spec (ws := Cond.code ⟨"JoinedTrees$JsonReader", "isNewKey", "(I)Z"⟩ prog_3_method_7_code 5 (some .boolean) :: gb) B.pre w9 (List.mem_cons_of_mem _ h)
  have hown : s.vm.findClass "JoinedTrees$JsonReader" = some m.cls := findClass_of_methodNamed B.named
  have hlocks := B.notSynchronized
  have hNS := ns_of hP
  subst hsz
  have hD := hD0.self (sz := s.heap.size)
  generalize hAe : va_A (cw ad cc N S) s.heap.size = A at hD hev hE hNS ⊢
  have hA : ∀ q : Nat, s.heap.size ≤ q → A q := fun q h => by rw [← hAe]; exact Or.inr h
  have hS : va_S A s.heap s.heap [] := va_S.rf
  obtain ⟨ls, hl, hle⟩ : ∃ ls : Array Slot, lv_has ls 5 [(0, .ref (ad 1 x0)), (1, .int x1)] ∧ entryFrame m ([.ref (ad 1 x0), .int x1] : List Value).toArray 5 = F0 m 0 ls [] := by
    exact ⟨_, lv_entry (n := 5) _ (Nat.le_of_ble_eq_true rfl), lg_entry_eq ..⟩
  rw [hle]
  refine w_cRd_isNewKey_J0 ⟨hx, hb, hr, hml, hown, hts, hK, hA, hev, hE, hN, hNS⟩ Heq (fun r h pc H locs ls hd hz hP hD hS => ?_) _ _ _ hP hD hS (lv_sub hl [0, 1] rfl)
  subst h
  exact W.zret (ty := .boolean) hx hb hr (by rcases hz with hz | hz <;> rw [hz] <;> rfl) (fun t ht hW => ⟨⟨_, (), rfl, rfl, by rw [ht]; exact hP, va_K.moved hW.alike hK, hD⟩, hS.F ht⟩) hS.2.2 hd
