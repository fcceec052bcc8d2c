/-! THE REFERENCE ON A FRESH OBJECT: feed, end, look, text, save, harm, out, count, told, thrown. Printed by wip/gen/m3.py -/
theorem gt7 (a : Int32) : a < 8 ↔ ¬ 7 < a := by rw [Int32.not_lt]; exact (le7 a).symm
theorem gt19 (a : Int32) : 20 ≤ a ↔ 19 < a := by rw [Int32.le_iff_toInt_le, Int32.lt_iff_toInt_lt]; show (20 : Int) ≤ a.toInt ↔ (19 : Int) < a.toInt; omega
theorem lt8192 (a : Int32) : a < 8192 ↔ a ≤ 8191 := (le8191 a).symm
theorem of0 {n : Int32} (h1 : ¬ n < 0) (h2 : n ≤ 0) : n = 0 := Int32.le_antisymm h2 (Int32.not_lt.mp h1)
theorem o8 (n : Nat) : 8 * nI n = nI (8 * n) := (Int32.ofNat_mul 8 n).symm
theorem o8s (n : Nat) : 8 * nI n + 8 = nI (8 * n + 8) := by rw [o8]; exact nI_add (8 * n) 8
theorem o8c (n j : Nat) (hn : n ≤ 8191) (hj : j < 8) : ¬ (8 * nI n + 8 ≤ nI (8 * n + j)) := by rw [o8s]; exact nI_ge (by omega) (by omega)
theorem o8d (n : Nat) : 8 * nI n + 8 ≤ nI (8 * n + 8) := by rw [o8s]; exact Int32.le_refl _
theorem o8e (n j : Nat) (hn : n ≤ 8191) (hj : j < 8) : (0 : Int32) ≤ nI (8 * n + j) := nI_pos' (by omega)
theorem in8x {x : Int32} (h1 : ¬ x < 0) (h2 : x < 8) : vp_in x 8 := by
  obtain ⟨r, hr, rfl⟩ := of8 h1 h2
  exact in8 r hr
theorem d_mthr_0 : decode prog_14_method_2_code 0 = .ok (.aload_n 0, 1) := by decide +kernel
theorem d_mthr_1 : decode prog_14_method_2_code 1 = .ok (.getfield 176, 3) := by decide +kernel
theorem d_mthr_4 : decode prog_14_method_2_code 4 = .ok (.ireturn, 1) := by decide +kernel
set_option maxHeartbeats 4000000 in
set_option maxRecDepth 100000 in
theorem g_thr (l : Launch) (D : va_G) (sz : Nat) (md : Nat → Nat) (mc : Nat → ClassId) (k : Int32) (us : List Value) : Met l ⟨"JoinedTreesModel", "thrown", "()I"⟩ (Cond.code ⟨"JoinedTreesModel", "thrown", "()I"⟩ prog_14_method_2_code 1 (some .int) :: gb) ({ frames := 0, cells := 0, slots := 0, locals := 0 }) (gPc D [(md 100, .inr (12, .int k :: us))] [] sz [.ref (md 100)]) (va_Qi (fun (r : Int32) (u : Unit) => r = k) (fun _ t => gO D [(md 100, .inr (12, .int k :: us))] [] (va_A [(md 100, .inr (12, .int k :: us))] sz) t) (va_A [(md 100, .inr (12, .int k :: us))] sz)) 0 0 (va_A [(md 100, .inr (12, .int k :: us))] sz) := by
  refine Met.ofW (cc := prog_14_method_2_code) (maxL := 1) (ret := (some .int)) (by decide) rfl ?_
  intro p e s m args below meth c s₁ B hml hv
  obtain ⟨rfl, hsz, hP, hK, hD0⟩ := hv
  have hx := B.exec
  have hb := B.bytes
  have hr := B.returns
  have hts : ∀ w9 ∈ gb, w9.before [.ref (md 100)].toArray s = true := fun w9 h => atoms_spec (ws := Cond.code ⟨"JoinedTreesModel", "thrown", "()I"⟩ prog_14_method_2_code 1 (some .int) :: gb) B.pre w9 (List.mem_cons_of_mem _ h)
  have hown : s.vm.findClass "JoinedTreesModel" = some m.cls := findClass_of_methodNamed B.named
  have hlocks := B.notSynchronized
  subst hsz
  have hD := hD0.self (sz := s.heap.size)
  generalize hAe : va_A [(md 100, .inr (12, .int k :: us))] s.heap.size = A at hD ⊢
  have hA : ∀ q : Nat, s.heap.size ≤ q → A q := fun q h => by rw [← hAe]; exact Or.inr h
  have hS : va_S A s.heap s.heap [] := va_S.rf
  have hP : va_P D cls [(md 100, .inr (12, .int k :: us))] s.heap := hP
  have hl := lv_entry ([.ref (md 100)]) (n := 1) (Nat.le_of_ble_eq_true rfl)
  rw [lg_entry_eq]
  generalize (lg_sl ([.ref (md 100)]) ++ List.replicate (1 - (lg_sl ([.ref (md 100)])).length) Slot.unset).toArray = ls at hl ⊢
  have hl : lv_has ls 1 [(0, .ref (md 100))] := hl
  refine lv_aload_n hx hb d_mthr_0 rfl (lv_at hl 0 rfl) ?_
  refine va_get (D := D) (ci := 12) (v := .int k) (C := R_MM) (T := F_MM) (N := 77) hx hb hts i_MM hown hK hP 0 rfl rfl 0 (by decide) (hts _ kw_1382) (fun _ h9 => h9) rfl d_mthr_1 ?_
  exact W.iret (v := k) hx hb hr (fun t ht hW => ⟨⟨k, (), rfl, rfl, by rw [ht]; exact hP, va_K.moved hW.alike hK, hD⟩, hS.F ht⟩) hS.2.2 d_mthr_4
theorem d_mfeed_0 : decode prog_14_method_4_code 0 = .ok (.aload_n 0, 1) := by decide +kernel
theorem d_mfeed_1 : decode prog_14_method_4_code 1 = .ok (.getfield 179, 3) := by decide +kernel
theorem d_mfeed_4 : decode prog_14_method_4_code 4 = .ok (.bipush 20, 2) := by decide +kernel
theorem d_mfeed_6 : decode prog_14_method_4_code 6 = .ok (.iadd, 1) := by decide +kernel
theorem d_mfeed_7 : decode prog_14_method_4_code 7 = .ok (.aload_n 0, 1) := by decide +kernel
theorem d_mfeed_8 : decode prog_14_method_4_code 8 = .ok (.getfield 182, 3) := by decide +kernel
theorem d_mfeed_11 : decode prog_14_method_4_code 11 = .ok (.ifCond .le 10, 3) := by decide +kernel
theorem d_mfeed_21 : decode prog_14_method_4_code 21 = .ok (.iconst 0, 1) := by decide +kernel
theorem d_mfeed_22 : decode prog_14_method_4_code 22 = .ok (.iadd, 1) := by decide +kernel
theorem d_mfeed_23 : decode prog_14_method_4_code 23 = .ok (.aload_n 0, 1) := by decide +kernel
theorem d_mfeed_24 : decode prog_14_method_4_code 24 = .ok (.getfield 182, 3) := by decide +kernel
theorem d_mfeed_27 : decode prog_14_method_4_code 27 = .ok (.iconst 1, 1) := by decide +kernel
theorem d_mfeed_28 : decode prog_14_method_4_code 28 = .ok (.if_icmp .le 10, 3) := by decide +kernel
theorem d_mfeed_38 : decode prog_14_method_4_code 38 = .ok (.iconst 0, 1) := by decide +kernel
theorem d_mfeed_39 : decode prog_14_method_4_code 39 = .ok (.iadd, 1) := by decide +kernel
theorem d_mfeed_40 : decode prog_14_method_4_code 40 = .ok (.sipush 8192, 3) := by decide +kernel
theorem d_mfeed_43 : decode prog_14_method_4_code 43 = .ok (.if_icmp .le 9, 3) := by decide +kernel
theorem d_mfeed_52 : decode prog_14_method_4_code 52 = .ok (.aload_n 0, 1) := by decide +kernel
theorem d_mfeed_53 : decode prog_14_method_4_code 53 = .ok (.iconst 0, 1) := by decide +kernel
theorem d_mfeed_54 : decode prog_14_method_4_code 54 = .ok (.putfield 176, 3) := by decide +kernel
theorem d_mfeed_57 : decode prog_14_method_4_code 57 = .ok (.iconst 0, 1) := by decide +kernel
theorem d_mfeed_58 : decode prog_14_method_4_code 58 = .ok (.istore 6, 2) := by decide +kernel
theorem d_mfeed_60 : decode prog_14_method_4_code 60 = .ok (.iload 6, 2) := by decide +kernel
theorem d_mfeed_62 : decode prog_14_method_4_code 62 = .ok (.bipush 20, 2) := by decide +kernel
theorem d_mfeed_64 : decode prog_14_method_4_code 64 = .ok (.if_icmp .ge 79, 3) := by decide +kernel
theorem d_mfeed_67 : decode prog_14_method_4_code 67 = .ok (.aload_n 0, 1) := by decide +kernel
theorem d_mfeed_68 : decode prog_14_method_4_code 68 = .ok (.getfield 7, 3) := by decide +kernel
theorem d_mfeed_71 : decode prog_14_method_4_code 71 = .ok (.aload_n 0, 1) := by decide +kernel
theorem d_mfeed_72 : decode prog_14_method_4_code 72 = .ok (.getfield 179, 3) := by decide +kernel
theorem d_mfeed_75 : decode prog_14_method_4_code 75 = .ok (.iload 6, 2) := by decide +kernel
theorem d_mfeed_77 : decode prog_14_method_4_code 77 = .ok (.iadd, 1) := by decide +kernel
theorem d_mfeed_78 : decode prog_14_method_4_code 78 = .ok (.iload 6, 2) := by decide +kernel
theorem d_mfeed_80 : decode prog_14_method_4_code 80 = .ok (.iconst 4, 1) := by decide +kernel
theorem d_mfeed_81 : decode prog_14_method_4_code 81 = .ok (.if_icmp .ge 7, 3) := by decide +kernel
theorem d_mfeed_84 : decode prog_14_method_4_code 84 = .ok (.iload_n 1, 1) := by decide +kernel
theorem d_mfeed_85 : decode prog_14_method_4_code 85 = .ok (.goto 39, 3) := by decide +kernel
theorem d_mfeed_124 : decode prog_14_method_4_code 124 = .ok (.bipush 24, 2) := by decide +kernel
theorem d_mfeed_126 : decode prog_14_method_4_code 126 = .ok (.iload 6, 2) := by decide +kernel
theorem d_mfeed_128 : decode prog_14_method_4_code 128 = .ok (.iconst 4, 1) := by decide +kernel
theorem d_mfeed_129 : decode prog_14_method_4_code 129 = .ok (.irem, 1) := by decide +kernel
theorem d_mfeed_130 : decode prog_14_method_4_code 130 = .ok (.bipush 8, 2) := by decide +kernel
theorem d_mfeed_132 : decode prog_14_method_4_code 132 = .ok (.imul, 1) := by decide +kernel
theorem d_mfeed_133 : decode prog_14_method_4_code 133 = .ok (.isub, 1) := by decide +kernel
theorem d_mfeed_134 : decode prog_14_method_4_code 134 = .ok (.iushr, 1) := by decide +kernel
theorem d_mfeed_135 : decode prog_14_method_4_code 135 = .ok (.i2b, 1) := by decide +kernel
theorem d_mfeed_136 : decode prog_14_method_4_code 136 = .ok (.bastore, 1) := by decide +kernel
theorem d_mfeed_137 : decode prog_14_method_4_code 137 = .ok (.iinc 6 1, 3) := by decide +kernel
theorem d_mfeed_140 : decode prog_14_method_4_code 140 = .ok (.goto (-80), 3) := by decide +kernel
theorem d_mfeed_88 : decode prog_14_method_4_code 88 = .ok (.iload 6, 2) := by decide +kernel
theorem d_mfeed_90 : decode prog_14_method_4_code 90 = .ok (.bipush 8, 2) := by decide +kernel
theorem d_mfeed_92 : decode prog_14_method_4_code 92 = .ok (.if_icmp .ge 7, 3) := by decide +kernel
theorem d_mfeed_95 : decode prog_14_method_4_code 95 = .ok (.iload_n 2, 1) := by decide +kernel
theorem d_mfeed_96 : decode prog_14_method_4_code 96 = .ok (.goto 28, 3) := by decide +kernel
theorem d_mfeed_99 : decode prog_14_method_4_code 99 = .ok (.iload 6, 2) := by decide +kernel
theorem d_mfeed_101 : decode prog_14_method_4_code 101 = .ok (.bipush 12, 2) := by decide +kernel
theorem d_mfeed_103 : decode prog_14_method_4_code 103 = .ok (.if_icmp .ge 7, 3) := by decide +kernel
theorem d_mfeed_106 : decode prog_14_method_4_code 106 = .ok (.iload_n 3, 1) := by decide +kernel
theorem d_mfeed_107 : decode prog_14_method_4_code 107 = .ok (.goto 17, 3) := by decide +kernel
theorem d_mfeed_110 : decode prog_14_method_4_code 110 = .ok (.iload 6, 2) := by decide +kernel
theorem d_mfeed_112 : decode prog_14_method_4_code 112 = .ok (.bipush 16, 2) := by decide +kernel
theorem d_mfeed_114 : decode prog_14_method_4_code 114 = .ok (.if_icmp .ge 8, 3) := by decide +kernel
theorem d_mfeed_117 : decode prog_14_method_4_code 117 = .ok (.iload 4, 2) := by decide +kernel
theorem d_mfeed_119 : decode prog_14_method_4_code 119 = .ok (.goto 5, 3) := by decide +kernel
theorem d_mfeed_122 : decode prog_14_method_4_code 122 = .ok (.iload 5, 2) := by decide +kernel
theorem d_mfeed_143 : decode prog_14_method_4_code 143 = .ok (.aload_n 0, 1) := by decide +kernel
theorem d_mfeed_144 : decode prog_14_method_4_code 144 = .ok (.dup, 1) := by decide +kernel
theorem d_mfeed_145 : decode prog_14_method_4_code 145 = .ok (.getfield 179, 3) := by decide +kernel
theorem d_mfeed_148 : decode prog_14_method_4_code 148 = .ok (.bipush 20, 2) := by decide +kernel
theorem d_mfeed_150 : decode prog_14_method_4_code 150 = .ok (.iadd, 1) := by decide +kernel
theorem d_mfeed_151 : decode prog_14_method_4_code 151 = .ok (.putfield 179, 3) := by decide +kernel
theorem d_mfeed_154 : decode prog_14_method_4_code 154 = .ok (.aload_n 0, 1) := by decide +kernel
theorem d_mfeed_155 : decode prog_14_method_4_code 155 = .ok (.getfield 179, 3) := by decide +kernel
theorem d_mfeed_158 : decode prog_14_method_4_code 158 = .ok (.ireturn, 1) := by decide +kernel
set_option maxHeartbeats 4000000 in
set_option maxRecDepth 100000 in
theorem g_p_feed (l : Launch) (D : va_G) (sz : Nat) (md : Nat → Nat) (mc : Nat → ClassId) (a0 a1 a2 a3 a4 : Int32) : Met l ⟨"JoinedTreesModel", "feed", "(IIIII)I"⟩ (Cond.code ⟨"JoinedTreesModel", "feed", "(IIIII)I"⟩ prog_14_method_4_code 7 (some .int) :: gb) ({ frames := 0, cells := 0, slots := 0, locals := 0 }) (gPc D [(md 100, .inr (12, [.int 0, .ref (md 1), .ref (md 2), .ref (md 3), .int 0, .int 0, .int 0, .int 0, .ref (md 8), .ref (md 9), .ref (md 10), .ref (md 11), .ref (md 12), .ref (md 13), .ref (md 14), .ref (md 15), .ref (md 16), .ref (md 17), .ref (md 18), .ref (md 19), .ref (md 20), .ref (md 21), .ref (md 22), .int 0, .ref (md 24), .int 0, .ref (md 26), .int 0, .ref (md 28), .ref (md 29), .ref (md 30), .ref (md 31), .ref (md 32), .ref (md 33), .int 0, .int 0, .ref (md 36), .ref (md 37), .ref (md 38), .ref (md 39), .ref (md 40), .int 0, .int (-1), .int 0, .ref (md 44), .ref (md 45), .ref (md 46), .int 0, .ref (md 48), .ref (md 49), .int 0, .ref (md 51), .int 0, .ref (md 53), .ref (md 54), .ref (md 55), .ref (md 56), .ref (md 57), .ref (md 58), .ref (md 59), .ref (md 60), .ref (md 61), .ref (md 62), .ref (md 63), .int 0, .int 0, .int 0, .int 0, .int 0, .int 0, .ref (md 70), .int 0, .ref (md 72), .int 0, .int 400000, .int 0, .int 0])), (md 1, .inl (mc 1, 8300, .inl (fun _ => 0)))] [(mc 1, .byte)] sz [.ref (md 100), .int a0, .int a1, .int a2, .int a3, .int a4]) (va_Qi (fun (r : Int32) (u : List Value) => 0 = 0 → r = 20) (fun u t => gO D [(md 100, .inr (12, .int 0 :: u))] [] (va_A [(md 100, .inr (12, [.int 0, .ref (md 1), .ref (md 2), .ref (md 3), .int 0, .int 0, .int 0, .int 0, .ref (md 8), .ref (md 9), .ref (md 10), .ref (md 11), .ref (md 12), .ref (md 13), .ref (md 14), .ref (md 15), .ref (md 16), .ref (md 17), .ref (md 18), .ref (md 19), .ref (md 20), .ref (md 21), .ref (md 22), .int 0, .ref (md 24), .int 0, .ref (md 26), .int 0, .ref (md 28), .ref (md 29), .ref (md 30), .ref (md 31), .ref (md 32), .ref (md 33), .int 0, .int 0, .ref (md 36), .ref (md 37), .ref (md 38), .ref (md 39), .ref (md 40), .int 0, .int (-1), .int 0, .ref (md 44), .ref (md 45), .ref (md 46), .int 0, .ref (md 48), .ref (md 49), .int 0, .ref (md 51), .int 0, .ref (md 53), .ref (md 54), .ref (md 55), .ref (md 56), .ref (md 57), .ref (md 58), .ref (md 59), .ref (md 60), .ref (md 61), .ref (md 62), .ref (md 63), .int 0, .int 0, .int 0, .int 0, .int 0, .int 0, .ref (md 70), .int 0, .ref (md 72), .int 0, .int 400000, .int 0, .int 0])), (md 1, .inl (mc 1, 8300, .inl (fun _ => 0)))] sz) t) (va_A [(md 100, .inr (12, [.int 0, .ref (md 1), .ref (md 2), .ref (md 3), .int 0, .int 0, .int 0, .int 0, .ref (md 8), .ref (md 9), .ref (md 10), .ref (md 11), .ref (md 12), .ref (md 13), .ref (md 14), .ref (md 15), .ref (md 16), .ref (md 17), .ref (md 18), .ref (md 19), .ref (md 20), .ref (md 21), .ref (md 22), .int 0, .ref (md 24), .int 0, .ref (md 26), .int 0, .ref (md 28), .ref (md 29), .ref (md 30), .ref (md 31), .ref (md 32), .ref (md 33), .int 0, .int 0, .ref (md 36), .ref (md 37), .ref (md 38), .ref (md 39), .ref (md 40), .int 0, .int (-1), .int 0, .ref (md 44), .ref (md 45), .ref (md 46), .int 0, .ref (md 48), .ref (md 49), .int 0, .ref (md 51), .int 0, .ref (md 53), .ref (md 54), .ref (md 55), .ref (md 56), .ref (md 57), .ref (md 58), .ref (md 59), .ref (md 60), .ref (md 61), .ref (md 62), .ref (md 63), .int 0, .int 0, .int 0, .int 0, .int 0, .int 0, .ref (md 70), .int 0, .ref (md 72), .int 0, .int 400000, .int 0, .int 0])), (md 1, .inl (mc 1, 8300, .inl (fun _ => 0)))] sz)) 0 0 (va_A [(md 100, .inr (12, [.int 0, .ref (md 1), .ref (md 2), .ref (md 3), .int 0, .int 0, .int 0, .int 0, .ref (md 8), .ref (md 9), .ref (md 10), .ref (md 11), .ref (md 12), .ref (md 13), .ref (md 14), .ref (md 15), .ref (md 16), .ref (md 17), .ref (md 18), .ref (md 19), .ref (md 20), .ref (md 21), .ref (md 22), .int 0, .ref (md 24), .int 0, .ref (md 26), .int 0, .ref (md 28), .ref (md 29), .ref (md 30), .ref (md 31), .ref (md 32), .ref (md 33), .int 0, .int 0, .ref (md 36), .ref (md 37), .ref (md 38), .ref (md 39), .ref (md 40), .int 0, .int (-1), .int 0, .ref (md 44), .ref (md 45), .ref (md 46), .int 0, .ref (md 48), .ref (md 49), .int 0, .ref (md 51), .int 0, .ref (md 53), .ref (md 54), .ref (md 55), .ref (md 56), .ref (md 57), .ref (md 58), .ref (md 59), .ref (md 60), .ref (md 61), .ref (md 62), .ref (md 63), .int 0, .int 0, .int 0, .int 0, .int 0, .int 0, .ref (md 70), .int 0, .ref (md 72), .int 0, .int 400000, .int 0, .int 0])), (md 1, .inl (mc 1, 8300, .inl (fun _ => 0)))] sz) := by
  refine Met.ofW (cc := prog_14_method_4_code) (maxL := 7) (ret := (some .int)) (by decide) rfl ?_
  intro p e s m args below meth c s₁ B hml hv
  obtain ⟨rfl, hsz, hP, hK, hD0⟩ := hv
  have hx := B.exec
  have hb := B.bytes
  have hr := B.returns
  have hts : ∀ w9 ∈ gb, w9.before [.ref (md 100), .int a0, .int a1, .int a2, .int a3, .int a4].toArray s = true := fun w9 h => atoms_spec (ws := Cond.code ⟨"JoinedTreesModel", "feed", "(IIIII)I"⟩ prog_14_method_4_code 7 (some .int) :: gb) B.pre w9 (List.mem_cons_of_mem _ h)
  have hown : s.vm.findClass "JoinedTreesModel" = some m.cls := findClass_of_methodNamed B.named
  have hlocks := B.notSynchronized
  subst hsz
  have hD := hD0.self (sz := s.heap.size)
  generalize hAe : va_A [(md 100, .inr (12, [.int 0, .ref (md 1), .ref (md 2), .ref (md 3), .int 0, .int 0, .int 0, .int 0, .ref (md 8), .ref (md 9), .ref (md 10), .ref (md 11), .ref (md 12), .ref (md 13), .ref (md 14), .ref (md 15), .ref (md 16), .ref (md 17), .ref (md 18), .ref (md 19), .ref (md 20), .ref (md 21), .ref (md 22), .int 0, .ref (md 24), .int 0, .ref (md 26), .int 0, .ref (md 28), .ref (md 29), .ref (md 30), .ref (md 31), .ref (md 32), .ref (md 33), .int 0, .int 0, .ref (md 36), .ref (md 37), .ref (md 38), .ref (md 39), .ref (md 40), .int 0, .int (-1), .int 0, .ref (md 44), .ref (md 45), .ref (md 46), .int 0, .ref (md 48), .ref (md 49), .int 0, .ref (md 51), .int 0, .ref (md 53), .ref (md 54), .ref (md 55), .ref (md 56), .ref (md 57), .ref (md 58), .ref (md 59), .ref (md 60), .ref (md 61), .ref (md 62), .ref (md 63), .int 0, .int 0, .int 0, .int 0, .int 0, .int 0, .ref (md 70), .int 0, .ref (md 72), .int 0, .int 400000, .int 0, .int 0])), (md 1, .inl (mc 1, 8300, .inl (fun _ => 0)))] s.heap.size = A at hD ⊢
  have hA : ∀ q : Nat, s.heap.size ≤ q → A q := fun q h => by rw [← hAe]; exact Or.inr h
  have hS : va_S A s.heap s.heap [] := va_S.rf
  have hP : va_P D cls [(md 100, .inr (12, [.int 0, .ref (md 1), .ref (md 2), .ref (md 3), .int 0, .int 0, .int 0, .int 0, .ref (md 8), .ref (md 9), .ref (md 10), .ref (md 11), .ref (md 12), .ref (md 13), .ref (md 14), .ref (md 15), .ref (md 16), .ref (md 17), .ref (md 18), .ref (md 19), .ref (md 20), .ref (md 21), .ref (md 22), .int 0, .ref (md 24), .int 0, .ref (md 26), .int 0, .ref (md 28), .ref (md 29), .ref (md 30), .ref (md 31), .ref (md 32), .ref (md 33), .int 0, .int 0, .ref (md 36), .ref (md 37), .ref (md 38), .ref (md 39), .ref (md 40), .int 0, .int (-1), .int 0, .ref (md 44), .ref (md 45), .ref (md 46), .int 0, .ref (md 48), .ref (md 49), .int 0, .ref (md 51), .int 0, .ref (md 53), .ref (md 54), .ref (md 55), .ref (md 56), .ref (md 57), .ref (md 58), .ref (md 59), .ref (md 60), .ref (md 61), .ref (md 62), .ref (md 63), .int 0, .int 0, .int 0, .int 0, .int 0, .int 0, .ref (md 70), .int 0, .ref (md 72), .int 0, .int 400000, .int 0, .int 0])), (md 1, .inl (mc 1, 8300, .inl (fun _ => 0)))] s.heap := hP
  have hl := lv_entry ([.ref (md 100), .int a0, .int a1, .int a2, .int a3, .int a4]) (n := 7) (Nat.le_of_ble_eq_true rfl)
  rw [lg_entry_eq]
  generalize (lg_sl ([.ref (md 100), .int a0, .int a1, .int a2, .int a3, .int a4]) ++ List.replicate (7 - (lg_sl ([.ref (md 100), .int a0, .int a1, .int a2, .int a3, .int a4])).length) Slot.unset).toArray = ls at hl ⊢
  have hl : lv_has ls 7 [(0, .ref (md 100)), (1, .int a0), (2, .int a1), (3, .int a2), (4, .int a3), (5, .int a4)] := hl
  refine lv_aload_n hx hb d_mfeed_0 rfl (lv_at hl 0 rfl) ?_
  refine va_get (D := D) (ci := 12) (v := .int 0) (C := R_MM) (T := F_MM) (N := 77) hx hb hts i_MM hown hK hP 0 rfl rfl 4 (by decide) (hts _ kw_1386) (fun _ h9 => h9) rfl d_mfeed_1 ?_
  refine lv_bipush (v := 20) hx hb d_mfeed_4 (by decide) ?_
  refine lv_iadd hx hb d_mfeed_6 ?_
  refine w_i (y := 20) (by decide) ?_
  refine lv_aload_n hx hb d_mfeed_7 rfl (lv_at hl 0 rfl) ?_
  refine va_get (D := D) (ci := 12) (v := .int 0) (C := R_MM) (T := F_MM) (N := 77) hx hb hts i_MM hown hK hP 0 rfl rfl 7 (by decide) (hts _ kw_1389) (fun _ h9 => h9) rfl d_mfeed_8 ?_
  refine lv_if_le (tgt := 21) hx hb d_mfeed_11 (by decide) (fun _ => ?_) (fun h => absurd h (by decide))
  refine lv_iconst (v := 0) hx hb d_mfeed_21 (by decide) ?_
  refine lv_iadd hx hb d_mfeed_22 ?_
  refine w_i (y := 20) (by decide) ?_
  refine lv_aload_n hx hb d_mfeed_23 rfl (lv_at hl 0 rfl) ?_
  refine va_get (D := D) (ci := 12) (v := .int 0) (C := R_MM) (T := F_MM) (N := 77) hx hb hts i_MM hown hK hP 0 rfl rfl 7 (by decide) (hts _ kw_1389) (fun _ h9 => h9) rfl d_mfeed_24 ?_
  refine lv_iconst (v := 1) hx hb d_mfeed_27 (by decide) ?_
  refine lv_icmp_le (tgt := 38) hx hb d_mfeed_28 (by decide) (fun _ => ?_) (fun h => absurd h (by decide))
  refine lv_iconst (v := 0) hx hb d_mfeed_38 (by decide) ?_
  refine lv_iadd hx hb d_mfeed_39 ?_
  refine w_i (y := 20) (by decide) ?_
  refine lv_sipush (v := 8192) hx hb d_mfeed_40 (by decide) ?_
  refine lv_icmp_le (tgt := 52) hx hb d_mfeed_43 (by decide) (fun _ => ?_) (fun h => absurd h (by decide))
  refine lv_aload_n hx hb d_mfeed_52 rfl (lv_at hl 0 rfl) ?_
  refine lv_iconst (v := 0) hx hb d_mfeed_53 (by decide) ?_
  refine w_putS (D := D) (ci := 12) (v := .int 0) (ty := .int) (C := R_MM) (T := F_MM) (N := 77) hx hb hts i_MM t_MM t_MM_ok n_MM hown hK hP hD hS 0 rfl rfl 0 (by decide) (hts _ kw_1382) (fun _ h9 => h9) rfl (by decide +kernel) rfl rfl (Nat.le_of_ble_eq_true rfl) rfl d_mfeed_54 (fun H locs hP hD hS => ?_)
  refine lv_iconst (v := 0) hx hb d_mfeed_57 (by decide) ?_
  refine lv_istore (lv' := [(6, .int 0), (0, .ref (md 100)), (1, .int a0), (2, .int a1), (3, .int a2), (4, .int a3), (5, .int a4)]) hx hb d_mfeed_58 hl (by decide) rfl (fun ls hl => ?_)
  refine lv_iload hx hb d_mfeed_60 (lv_at hl 0 rfl) ?_
  refine lv_bipush (v := 20) hx hb d_mfeed_62 (by decide) ?_
  refine lv_icmp_ge (tgt := 143) hx hb d_mfeed_64 (by decide) (fun h => absurd h (by decide)) (fun _ => ?_)
  refine lv_aload_n hx hb d_mfeed_67 rfl (lv_at hl 1 rfl) ?_
  refine va_get (D := D) (ci := 12) (v := .ref (md 1)) (C := R_MM) (T := F_MM) (N := 77) hx hb hts i_MM hown hK hP 0 rfl rfl 1 (by decide) (hts _ kw_1383) (fun _ h9 => h9) rfl d_mfeed_68 ?_
  refine lv_aload_n hx hb d_mfeed_71 rfl (lv_at hl 1 rfl) ?_
  refine va_get (D := D) (ci := 12) (v := .int 0) (C := R_MM) (T := F_MM) (N := 77) hx hb hts i_MM hown hK hP 0 rfl rfl 4 (by decide) (hts _ kw_1386) (fun _ h9 => h9) rfl d_mfeed_72 ?_
  refine lv_iload hx hb d_mfeed_75 (lv_at hl 0 rfl) ?_
  refine lv_iadd hx hb d_mfeed_77 ?_
  refine w_i (y := 0) (by decide) ?_
  refine lv_iload hx hb d_mfeed_78 (lv_at hl 0 rfl) ?_
  refine lv_iconst (v := 4) hx hb d_mfeed_80 (by decide) ?_
  refine lv_icmp_ge (tgt := 88) hx hb d_mfeed_81 (by decide) (fun h => absurd h (by decide)) (fun _ => ?_)
  refine lv_iload_n hx hb d_mfeed_84 rfl (lv_at hl 2 rfl) ?_
  refine lv_goto (tgt := 124) hx hb d_mfeed_85 (by decide) ?_
  refine lv_bipush (v := 24) hx hb d_mfeed_124 (by decide) ?_
  refine lv_iload hx hb d_mfeed_126 (lv_at hl 0 rfl) ?_
  refine lv_iconst (v := 4) hx hb d_mfeed_128 (by decide) ?_
  refine lv_irem hx hb d_mfeed_129 (by decide) ?_
  refine w_i (y := 0) (by decide) ?_
  refine lv_bipush (v := 8) hx hb d_mfeed_130 (by decide) ?_
  refine lv_imul hx hb d_mfeed_132 ?_
  refine w_i (y := 0) (by decide) ?_
  refine lv_isub hx hb d_mfeed_133 ?_
  refine w_i (y := 24) (by decide) ?_
  refine lv_iushr hx hb d_mfeed_134 rfl ?_
  refine lv_topi (fun x_1 ex_1 => ?_)
  refine lv_i2b hx hb d_mfeed_135 rfl ?_
  refine lv_topi (fun x_2 ex_2 => ?_)
  refine va_bast hx hb hK hP hD hS 1 0 rfl rfl (i := 0) (x := x_2) (vp_in_nI (n := 0) (N := 8300) (by decide) (by decide)) d_mfeed_136 (fun H locs hP hD hS => ?_)
  have hP : va_P D cls [(md 100, .inr (12, [.int 0, .ref (md 1), .ref (md 2), .ref (md 3), .int 0, .int 0, .int 0, .int 0, .ref (md 8), .ref (md 9), .ref (md 10), .ref (md 11), .ref (md 12), .ref (md 13), .ref (md 14), .ref (md 15), .ref (md 16), .ref (md 17), .ref (md 18), .ref (md 19), .ref (md 20), .ref (md 21), .ref (md 22), .int 0, .ref (md 24), .int 0, .ref (md 26), .int 0, .ref (md 28), .ref (md 29), .ref (md 30), .ref (md 31), .ref (md 32), .ref (md 33), .int 0, .int 0, .ref (md 36), .ref (md 37), .ref (md 38), .ref (md 39), .ref (md 40), .int 0, .int (-1), .int 0, .ref (md 44), .ref (md 45), .ref (md 46), .int 0, .ref (md 48), .ref (md 49), .int 0, .ref (md 51), .int 0, .ref (md 53), .ref (md 54), .ref (md 55), .ref (md 56), .ref (md 57), .ref (md 58), .ref (md 59), .ref (md 60), .ref (md 61), .ref (md 62), .ref (md 63), .int 0, .int 0, .int 0, .int 0, .int 0, .int 0, .ref (md 70), .int 0, .ref (md 72), .int 0, .int 400000, .int 0, .int 0])), (md 1, .inl (mc 1, 8300, .inl (upd (fun _ => 0) (0 : Int32).toNatClampNeg (vp_nar .byte x_2))))] H := hP
  have hD : va_D A [(md 100, .inr (12, [.int 0, .ref (md 1), .ref (md 2), .ref (md 3), .int 0, .int 0, .int 0, .int 0, .ref (md 8), .ref (md 9), .ref (md 10), .ref (md 11), .ref (md 12), .ref (md 13), .ref (md 14), .ref (md 15), .ref (md 16), .ref (md 17), .ref (md 18), .ref (md 19), .ref (md 20), .ref (md 21), .ref (md 22), .int 0, .ref (md 24), .int 0, .ref (md 26), .int 0, .ref (md 28), .ref (md 29), .ref (md 30), .ref (md 31), .ref (md 32), .ref (md 33), .int 0, .int 0, .ref (md 36), .ref (md 37), .ref (md 38), .ref (md 39), .ref (md 40), .int 0, .int (-1), .int 0, .ref (md 44), .ref (md 45), .ref (md 46), .int 0, .ref (md 48), .ref (md 49), .int 0, .ref (md 51), .int 0, .ref (md 53), .ref (md 54), .ref (md 55), .ref (md 56), .ref (md 57), .ref (md 58), .ref (md 59), .ref (md 60), .ref (md 61), .ref (md 62), .ref (md 63), .int 0, .int 0, .int 0, .int 0, .int 0, .int 0, .ref (md 70), .int 0, .ref (md 72), .int 0, .int 400000, .int 0, .int 0])), (md 1, .inl (mc 1, 8300, .inl (upd (fun _ => 0) (0 : Int32).toNatClampNeg (vp_nar .byte x_2))))] := hD
  generalize upd (fun _ => 0) (0 : Int32).toNatClampNeg (vp_nar .byte x_2) = f_3 at hP hD
  refine lv_iinc (v := 1) (lv' := [(6, .int 1), (0, .ref (md 100)), (1, .int a0), (2, .int a1), (3, .int a2), (4, .int a3), (5, .int a4)]) hx hb d_mfeed_137 hl (k := 0) rfl (by decide) (by decide) rfl (fun ls hl => ?_)
  refine lv_goto (tgt := 60) hx hb d_mfeed_140 (by decide) ?_
  refine lv_iload hx hb d_mfeed_60 (lv_at hl 0 rfl) ?_
  refine lv_bipush (v := 20) hx hb d_mfeed_62 (by decide) ?_
  refine lv_icmp_ge (tgt := 143) hx hb d_mfeed_64 (by decide) (fun h => absurd h (by decide)) (fun _ => ?_)
  refine lv_aload_n hx hb d_mfeed_67 rfl (lv_at hl 1 rfl) ?_
  refine va_get (D := D) (ci := 12) (v := .ref (md 1)) (C := R_MM) (T := F_MM) (N := 77) hx hb hts i_MM hown hK hP 0 rfl rfl 1 (by decide) (hts _ kw_1383) (fun _ h9 => h9) rfl d_mfeed_68 ?_
  refine lv_aload_n hx hb d_mfeed_71 rfl (lv_at hl 1 rfl) ?_
  refine va_get (D := D) (ci := 12) (v := .int 0) (C := R_MM) (T := F_MM) (N := 77) hx hb hts i_MM hown hK hP 0 rfl rfl 4 (by decide) (hts _ kw_1386) (fun _ h9 => h9) rfl d_mfeed_72 ?_
  refine lv_iload hx hb d_mfeed_75 (lv_at hl 0 rfl) ?_
  refine lv_iadd hx hb d_mfeed_77 ?_
  refine w_i (y := 1) (by decide) ?_
  refine lv_iload hx hb d_mfeed_78 (lv_at hl 0 rfl) ?_
  refine lv_iconst (v := 4) hx hb d_mfeed_80 (by decide) ?_
  refine lv_icmp_ge (tgt := 88) hx hb d_mfeed_81 (by decide) (fun h => absurd h (by decide)) (fun _ => ?_)
  refine lv_iload_n hx hb d_mfeed_84 rfl (lv_at hl 2 rfl) ?_
  refine lv_goto (tgt := 124) hx hb d_mfeed_85 (by decide) ?_
  refine lv_bipush (v := 24) hx hb d_mfeed_124 (by decide) ?_
  refine lv_iload hx hb d_mfeed_126 (lv_at hl 0 rfl) ?_
  refine lv_iconst (v := 4) hx hb d_mfeed_128 (by decide) ?_
  refine lv_irem hx hb d_mfeed_129 (by decide) ?_
  refine w_i (y := 1) (by decide) ?_
  refine lv_bipush (v := 8) hx hb d_mfeed_130 (by decide) ?_
  refine lv_imul hx hb d_mfeed_132 ?_
  refine w_i (y := 8) (by decide) ?_
  refine lv_isub hx hb d_mfeed_133 ?_
  refine w_i (y := 16) (by decide) ?_
  refine lv_iushr hx hb d_mfeed_134 rfl ?_
  refine lv_topi (fun x_4 ex_4 => ?_)
  refine lv_i2b hx hb d_mfeed_135 rfl ?_
  refine lv_topi (fun x_5 ex_5 => ?_)
  refine va_bast hx hb hK hP hD hS 1 0 rfl rfl (i := 1) (x := x_5) (vp_in_nI (n := 1) (N := 8300) (by decide) (by decide)) d_mfeed_136 (fun H locs hP hD hS => ?_)
  have hP : va_P D cls [(md 100, .inr (12, [.int 0, .ref (md 1), .ref (md 2), .ref (md 3), .int 0, .int 0, .int 0, .int 0, .ref (md 8), .ref (md 9), .ref (md 10), .ref (md 11), .ref (md 12), .ref (md 13), .ref (md 14), .ref (md 15), .ref (md 16), .ref (md 17), .ref (md 18), .ref (md 19), .ref (md 20), .ref (md 21), .ref (md 22), .int 0, .ref (md 24), .int 0, .ref (md 26), .int 0, .ref (md 28), .ref (md 29), .ref (md 30), .ref (md 31), .ref (md 32), .ref (md 33), .int 0, .int 0, .ref (md 36), .ref (md 37), .ref (md 38), .ref (md 39), .ref (md 40), .int 0, .int (-1), .int 0, .ref (md 44), .ref (md 45), .ref (md 46), .int 0, .ref (md 48), .ref (md 49), .int 0, .ref (md 51), .int 0, .ref (md 53), .ref (md 54), .ref (md 55), .ref (md 56), .ref (md 57), .ref (md 58), .ref (md 59), .ref (md 60), .ref (md 61), .ref (md 62), .ref (md 63), .int 0, .int 0, .int 0, .int 0, .int 0, .int 0, .ref (md 70), .int 0, .ref (md 72), .int 0, .int 400000, .int 0, .int 0])), (md 1, .inl (mc 1, 8300, .inl (upd f_3 (1 : Int32).toNatClampNeg (vp_nar .byte x_5))))] H := hP
  have hD : va_D A [(md 100, .inr (12, [.int 0, .ref (md 1), .ref (md 2), .ref (md 3), .int 0, .int 0, .int 0, .int 0, .ref (md 8), .ref (md 9), .ref (md 10), .ref (md 11), .ref (md 12), .ref (md 13), .ref (md 14), .ref (md 15), .ref (md 16), .ref (md 17), .ref (md 18), .ref (md 19), .ref (md 20), .ref (md 21), .ref (md 22), .int 0, .ref (md 24), .int 0, .ref (md 26), .int 0, .ref (md 28), .ref (md 29), .ref (md 30), .ref (md 31), .ref (md 32), .ref (md 33), .int 0, .int 0, .ref (md 36), .ref (md 37), .ref (md 38), .ref (md 39), .ref (md 40), .int 0, .int (-1), .int 0, .ref (md 44), .ref (md 45), .ref (md 46), .int 0, .ref (md 48), .ref (md 49), .int 0, .ref (md 51), .int 0, .ref (md 53), .ref (md 54), .ref (md 55), .ref (md 56), .ref (md 57), .ref (md 58), .ref (md 59), .ref (md 60), .ref (md 61), .ref (md 62), .ref (md 63), .int 0, .int 0, .int 0, .int 0, .int 0, .int 0, .ref (md 70), .int 0, .ref (md 72), .int 0, .int 400000, .int 0, .int 0])), (md 1, .inl (mc 1, 8300, .inl (upd f_3 (1 : Int32).toNatClampNeg (vp_nar .byte x_5))))] := hD
  generalize upd f_3 (1 : Int32).toNatClampNeg (vp_nar .byte x_5) = f_6 at hP hD
  refine lv_iinc (v := 2) (lv' := [(6, .int 2), (0, .ref (md 100)), (1, .int a0), (2, .int a1), (3, .int a2), (4, .int a3), (5, .int a4)]) hx hb d_mfeed_137 hl (k := 0) rfl (by decide) (by decide) rfl (fun ls hl => ?_)
  refine lv_goto (tgt := 60) hx hb d_mfeed_140 (by decide) ?_
  refine lv_iload hx hb d_mfeed_60 (lv_at hl 0 rfl) ?_
  refine lv_bipush (v := 20) hx hb d_mfeed_62 (by decide) ?_
  refine lv_icmp_ge (tgt := 143) hx hb d_mfeed_64 (by decide) (fun h => absurd h (by decide)) (fun _ => ?_)
  refine lv_aload_n hx hb d_mfeed_67 rfl (lv_at hl 1 rfl) ?_
  refine va_get (D := D) (ci := 12) (v := .ref (md 1)) (C := R_MM) (T := F_MM) (N := 77) hx hb hts i_MM hown hK hP 0 rfl rfl 1 (by decide) (hts _ kw_1383) (fun _ h9 => h9) rfl d_mfeed_68 ?_
  refine lv_aload_n hx hb d_mfeed_71 rfl (lv_at hl 1 rfl) ?_
  refine va_get (D := D) (ci := 12) (v := .int 0) (C := R_MM) (T := F_MM) (N := 77) hx hb hts i_MM hown hK hP 0 rfl rfl 4 (by decide) (hts _ kw_1386) (fun _ h9 => h9) rfl d_mfeed_72 ?_
  refine lv_iload hx hb d_mfeed_75 (lv_at hl 0 rfl) ?_
  refine lv_iadd hx hb d_mfeed_77 ?_
  refine w_i (y := 2) (by decide) ?_
  refine lv_iload hx hb d_mfeed_78 (lv_at hl 0 rfl) ?_
  refine lv_iconst (v := 4) hx hb d_mfeed_80 (by decide) ?_
  refine lv_icmp_ge (tgt := 88) hx hb d_mfeed_81 (by decide) (fun h => absurd h (by decide)) (fun _ => ?_)
  refine lv_iload_n hx hb d_mfeed_84 rfl (lv_at hl 2 rfl) ?_
  refine lv_goto (tgt := 124) hx hb d_mfeed_85 (by decide) ?_
  refine lv_bipush (v := 24) hx hb d_mfeed_124 (by decide) ?_
  refine lv_iload hx hb d_mfeed_126 (lv_at hl 0 rfl) ?_
  refine lv_iconst (v := 4) hx hb d_mfeed_128 (by decide) ?_
  refine lv_irem hx hb d_mfeed_129 (by decide) ?_
  refine w_i (y := 2) (by decide) ?_
  refine lv_bipush (v := 8) hx hb d_mfeed_130 (by decide) ?_
  refine lv_imul hx hb d_mfeed_132 ?_
  refine w_i (y := 16) (by decide) ?_
  refine lv_isub hx hb d_mfeed_133 ?_
  refine w_i (y := 8) (by decide) ?_
  refine lv_iushr hx hb d_mfeed_134 rfl ?_
  refine lv_topi (fun x_7 ex_7 => ?_)
  refine lv_i2b hx hb d_mfeed_135 rfl ?_
  refine lv_topi (fun x_8 ex_8 => ?_)
  refine va_bast hx hb hK hP hD hS 1 0 rfl rfl (i := 2) (x := x_8) (vp_in_nI (n := 2) (N := 8300) (by decide) (by decide)) d_mfeed_136 (fun H locs hP hD hS => ?_)
  have hP : va_P D cls [(md 100, .inr (12, [.int 0, .ref (md 1), .ref (md 2), .ref (md 3), .int 0, .int 0, .int 0, .int 0, .ref (md 8), .ref (md 9), .ref (md 10), .ref (md 11), .ref (md 12), .ref (md 13), .ref (md 14), .ref (md 15), .ref (md 16), .ref (md 17), .ref (md 18), .ref (md 19), .ref (md 20), .ref (md 21), .ref (md 22), .int 0, .ref (md 24), .int 0, .ref (md 26), .int 0, .ref (md 28), .ref (md 29), .ref (md 30), .ref (md 31), .ref (md 32), .ref (md 33), .int 0, .int 0, .ref (md 36), .ref (md 37), .ref (md 38), .ref (md 39), .ref (md 40), .int 0, .int (-1), .int 0, .ref (md 44), .ref (md 45), .ref (md 46), .int 0, .ref (md 48), .ref (md 49), .int 0, .ref (md 51), .int 0, .ref (md 53), .ref (md 54), .ref (md 55), .ref (md 56), .ref (md 57), .ref (md 58), .ref (md 59), .ref (md 60), .ref (md 61), .ref (md 62), .ref (md 63), .int 0, .int 0, .int 0, .int 0, .int 0, .int 0, .ref (md 70), .int 0, .ref (md 72), .int 0, .int 400000, .int 0, .int 0])), (md 1, .inl (mc 1, 8300, .inl (upd f_6 (2 : Int32).toNatClampNeg (vp_nar .byte x_8))))] H := hP
  have hD : va_D A [(md 100, .inr (12, [.int 0, .ref (md 1), .ref (md 2), .ref (md 3), .int 0, .int 0, .int 0, .int 0, .ref (md 8), .ref (md 9), .ref (md 10), .ref (md 11), .ref (md 12), .ref (md 13), .ref (md 14), .ref (md 15), .ref (md 16), .ref (md 17), .ref (md 18), .ref (md 19), .ref (md 20), .ref (md 21), .ref (md 22), .int 0, .ref (md 24), .int 0, .ref (md 26), .int 0, .ref (md 28), .ref (md 29), .ref (md 30), .ref (md 31), .ref (md 32), .ref (md 33), .int 0, .int 0, .ref (md 36), .ref (md 37), .ref (md 38), .ref (md 39), .ref (md 40), .int 0, .int (-1), .int 0, .ref (md 44), .ref (md 45), .ref (md 46), .int 0, .ref (md 48), .ref (md 49), .int 0, .ref (md 51), .int 0, .ref (md 53), .ref (md 54), .ref (md 55), .ref (md 56), .ref (md 57), .ref (md 58), .ref (md 59), .ref (md 60), .ref (md 61), .ref (md 62), .ref (md 63), .int 0, .int 0, .int 0, .int 0, .int 0, .int 0, .ref (md 70), .int 0, .ref (md 72), .int 0, .int 400000, .int 0, .int 0])), (md 1, .inl (mc 1, 8300, .inl (upd f_6 (2 : Int32).toNatClampNeg (vp_nar .byte x_8))))] := hD
  generalize upd f_6 (2 : Int32).toNatClampNeg (vp_nar .byte x_8) = f_9 at hP hD
  refine lv_iinc (v := 3) (lv' := [(6, .int 3), (0, .ref (md 100)), (1, .int a0), (2, .int a1), (3, .int a2), (4, .int a3), (5, .int a4)]) hx hb d_mfeed_137 hl (k := 0) rfl (by decide) (by decide) rfl (fun ls hl => ?_)
  refine lv_goto (tgt := 60) hx hb d_mfeed_140 (by decide) ?_
  refine lv_iload hx hb d_mfeed_60 (lv_at hl 0 rfl) ?_
  refine lv_bipush (v := 20) hx hb d_mfeed_62 (by decide) ?_
  refine lv_icmp_ge (tgt := 143) hx hb d_mfeed_64 (by decide) (fun h => absurd h (by decide)) (fun _ => ?_)
  refine lv_aload_n hx hb d_mfeed_67 rfl (lv_at hl 1 rfl) ?_
  refine va_get (D := D) (ci := 12) (v := .ref (md 1)) (C := R_MM) (T := F_MM) (N := 77) hx hb hts i_MM hown hK hP 0 rfl rfl 1 (by decide) (hts _ kw_1383) (fun _ h9 => h9) rfl d_mfeed_68 ?_
  refine lv_aload_n hx hb d_mfeed_71 rfl (lv_at hl 1 rfl) ?_
  refine va_get (D := D) (ci := 12) (v := .int 0) (C := R_MM) (T := F_MM) (N := 77) hx hb hts i_MM hown hK hP 0 rfl rfl 4 (by decide) (hts _ kw_1386) (fun _ h9 => h9) rfl d_mfeed_72 ?_
  refine lv_iload hx hb d_mfeed_75 (lv_at hl 0 rfl) ?_
  refine lv_iadd hx hb d_mfeed_77 ?_
  refine w_i (y := 3) (by decide) ?_
  refine lv_iload hx hb d_mfeed_78 (lv_at hl 0 rfl) ?_
  refine lv_iconst (v := 4) hx hb d_mfeed_80 (by decide) ?_
  refine lv_icmp_ge (tgt := 88) hx hb d_mfeed_81 (by decide) (fun h => absurd h (by decide)) (fun _ => ?_)
  refine lv_iload_n hx hb d_mfeed_84 rfl (lv_at hl 2 rfl) ?_
  refine lv_goto (tgt := 124) hx hb d_mfeed_85 (by decide) ?_
  refine lv_bipush (v := 24) hx hb d_mfeed_124 (by decide) ?_
  refine lv_iload hx hb d_mfeed_126 (lv_at hl 0 rfl) ?_
  refine lv_iconst (v := 4) hx hb d_mfeed_128 (by decide) ?_
  refine lv_irem hx hb d_mfeed_129 (by decide) ?_
  refine w_i (y := 3) (by decide) ?_
  refine lv_bipush (v := 8) hx hb d_mfeed_130 (by decide) ?_
  refine lv_imul hx hb d_mfeed_132 ?_
  refine w_i (y := 24) (by decide) ?_
  refine lv_isub hx hb d_mfeed_133 ?_
  refine w_i (y := 0) (by decide) ?_
  refine lv_iushr hx hb d_mfeed_134 rfl ?_
  refine lv_topi (fun x_10 ex_10 => ?_)
  refine lv_i2b hx hb d_mfeed_135 rfl ?_
  refine lv_topi (fun x_11 ex_11 => ?_)
  refine va_bast hx hb hK hP hD hS 1 0 rfl rfl (i := 3) (x := x_11) (vp_in_nI (n := 3) (N := 8300) (by decide) (by decide)) d_mfeed_136 (fun H locs hP hD hS => ?_)
  have hP : va_P D cls [(md 100, .inr (12, [.int 0, .ref (md 1), .ref (md 2), .ref (md 3), .int 0, .int 0, .int 0, .int 0, .ref (md 8), .ref (md 9), .ref (md 10), .ref (md 11), .ref (md 12), .ref (md 13), .ref (md 14), .ref (md 15), .ref (md 16), .ref (md 17), .ref (md 18), .ref (md 19), .ref (md 20), .ref (md 21), .ref (md 22), .int 0, .ref (md 24), .int 0, .ref (md 26), .int 0, .ref (md 28), .ref (md 29), .ref (md 30), .ref (md 31), .ref (md 32), .ref (md 33), .int 0, .int 0, .ref (md 36), .ref (md 37), .ref (md 38), .ref (md 39), .ref (md 40), .int 0, .int (-1), .int 0, .ref (md 44), .ref (md 45), .ref (md 46), .int 0, .ref (md 48), .ref (md 49), .int 0, .ref (md 51), .int 0, .ref (md 53), .ref (md 54), .ref (md 55), .ref (md 56), .ref (md 57), .ref (md 58), .ref (md 59), .ref (md 60), .ref (md 61), .ref (md 62), .ref (md 63), .int 0, .int 0, .int 0, .int 0, .int 0, .int 0, .ref (md 70), .int 0, .ref (md 72), .int 0, .int 400000, .int 0, .int 0])), (md 1, .inl (mc 1, 8300, .inl (upd f_9 (3 : Int32).toNatClampNeg (vp_nar .byte x_11))))] H := hP
  have hD : va_D A [(md 100, .inr (12, [.int 0, .ref (md 1), .ref (md 2), .ref (md 3), .int 0, .int 0, .int 0, .int 0, .ref (md 8), .ref (md 9), .ref (md 10), .ref (md 11), .ref (md 12), .ref (md 13), .ref (md 14), .ref (md 15), .ref (md 16), .ref (md 17), .ref (md 18), .ref (md 19), .ref (md 20), .ref (md 21), .ref (md 22), .int 0, .ref (md 24), .int 0, .ref (md 26), .int 0, .ref (md 28), .ref (md 29), .ref (md 30), .ref (md 31), .ref (md 32), .ref (md 33), .int 0, .int 0, .ref (md 36), .ref (md 37), .ref (md 38), .ref (md 39), .ref (md 40), .int 0, .int (-1), .int 0, .ref (md 44), .ref (md 45), .ref (md 46), .int 0, .ref (md 48), .ref (md 49), .int 0, .ref (md 51), .int 0, .ref (md 53), .ref (md 54), .ref (md 55), .ref (md 56), .ref (md 57), .ref (md 58), .ref (md 59), .ref (md 60), .ref (md 61), .ref (md 62), .ref (md 63), .int 0, .int 0, .int 0, .int 0, .int 0, .int 0, .ref (md 70), .int 0, .ref (md 72), .int 0, .int 400000, .int 0, .int 0])), (md 1, .inl (mc 1, 8300, .inl (upd f_9 (3 : Int32).toNatClampNeg (vp_nar .byte x_11))))] := hD
  generalize upd f_9 (3 : Int32).toNatClampNeg (vp_nar .byte x_11) = f_12 at hP hD
  refine lv_iinc (v := 4) (lv' := [(6, .int 4), (0, .ref (md 100)), (1, .int a0), (2, .int a1), (3, .int a2), (4, .int a3), (5, .int a4)]) hx hb d_mfeed_137 hl (k := 0) rfl (by decide) (by decide) rfl (fun ls hl => ?_)
  refine lv_goto (tgt := 60) hx hb d_mfeed_140 (by decide) ?_
  refine lv_iload hx hb d_mfeed_60 (lv_at hl 0 rfl) ?_
  refine lv_bipush (v := 20) hx hb d_mfeed_62 (by decide) ?_
  refine lv_icmp_ge (tgt := 143) hx hb d_mfeed_64 (by decide) (fun h => absurd h (by decide)) (fun _ => ?_)
  refine lv_aload_n hx hb d_mfeed_67 rfl (lv_at hl 1 rfl) ?_
  refine va_get (D := D) (ci := 12) (v := .ref (md 1)) (C := R_MM) (T := F_MM) (N := 77) hx hb hts i_MM hown hK hP 0 rfl rfl 1 (by decide) (hts _ kw_1383) (fun _ h9 => h9) rfl d_mfeed_68 ?_
  refine lv_aload_n hx hb d_mfeed_71 rfl (lv_at hl 1 rfl) ?_
  refine va_get (D := D) (ci := 12) (v := .int 0) (C := R_MM) (T := F_MM) (N := 77) hx hb hts i_MM hown hK hP 0 rfl rfl 4 (by decide) (hts _ kw_1386) (fun _ h9 => h9) rfl d_mfeed_72 ?_
  refine lv_iload hx hb d_mfeed_75 (lv_at hl 0 rfl) ?_
  refine lv_iadd hx hb d_mfeed_77 ?_
  refine w_i (y := 4) (by decide) ?_
  refine lv_iload hx hb d_mfeed_78 (lv_at hl 0 rfl) ?_
  refine lv_iconst (v := 4) hx hb d_mfeed_80 (by decide) ?_
  refine lv_icmp_ge (tgt := 88) hx hb d_mfeed_81 (by decide) (fun _ => ?_) (fun h => absurd h (by decide))
  refine lv_iload hx hb d_mfeed_88 (lv_at hl 0 rfl) ?_
  refine lv_bipush (v := 8) hx hb d_mfeed_90 (by decide) ?_
  refine lv_icmp_ge (tgt := 99) hx hb d_mfeed_92 (by decide) (fun h => absurd h (by decide)) (fun _ => ?_)
  refine lv_iload_n hx hb d_mfeed_95 rfl (lv_at hl 3 rfl) ?_
  refine lv_goto (tgt := 124) hx hb d_mfeed_96 (by decide) ?_
  refine lv_bipush (v := 24) hx hb d_mfeed_124 (by decide) ?_
  refine lv_iload hx hb d_mfeed_126 (lv_at hl 0 rfl) ?_
  refine lv_iconst (v := 4) hx hb d_mfeed_128 (by decide) ?_
  refine lv_irem hx hb d_mfeed_129 (by decide) ?_
  refine w_i (y := 0) (by decide) ?_
  refine lv_bipush (v := 8) hx hb d_mfeed_130 (by decide) ?_
  refine lv_imul hx hb d_mfeed_132 ?_
  refine w_i (y := 0) (by decide) ?_
  refine lv_isub hx hb d_mfeed_133 ?_
  refine w_i (y := 24) (by decide) ?_
  refine lv_iushr hx hb d_mfeed_134 rfl ?_
  refine lv_topi (fun x_13 ex_13 => ?_)
  refine lv_i2b hx hb d_mfeed_135 rfl ?_
  refine lv_topi (fun x_14 ex_14 => ?_)
  refine va_bast hx hb hK hP hD hS 1 0 rfl rfl (i := 4) (x := x_14) (vp_in_nI (n := 4) (N := 8300) (by decide) (by decide)) d_mfeed_136 (fun H locs hP hD hS => ?_)
  have hP : va_P D cls [(md 100, .inr (12, [.int 0, .ref (md 1), .ref (md 2), .ref (md 3), .int 0, .int 0, .int 0, .int 0, .ref (md 8), .ref (md 9), .ref (md 10), .ref (md 11), .ref (md 12), .ref (md 13), .ref (md 14), .ref (md 15), .ref (md 16), .ref (md 17), .ref (md 18), .ref (md 19), .ref (md 20), .ref (md 21), .ref (md 22), .int 0, .ref (md 24), .int 0, .ref (md 26), .int 0, .ref (md 28), .ref (md 29), .ref (md 30), .ref (md 31), .ref (md 32), .ref (md 33), .int 0, .int 0, .ref (md 36), .ref (md 37), .ref (md 38), .ref (md 39), .ref (md 40), .int 0, .int (-1), .int 0, .ref (md 44), .ref (md 45), .ref (md 46), .int 0, .ref (md 48), .ref (md 49), .int 0, .ref (md 51), .int 0, .ref (md 53), .ref (md 54), .ref (md 55), .ref (md 56), .ref (md 57), .ref (md 58), .ref (md 59), .ref (md 60), .ref (md 61), .ref (md 62), .ref (md 63), .int 0, .int 0, .int 0, .int 0, .int 0, .int 0, .ref (md 70), .int 0, .ref (md 72), .int 0, .int 400000, .int 0, .int 0])), (md 1, .inl (mc 1, 8300, .inl (upd f_12 (4 : Int32).toNatClampNeg (vp_nar .byte x_14))))] H := hP
  have hD : va_D A [(md 100, .inr (12, [.int 0, .ref (md 1), .ref (md 2), .ref (md 3), .int 0, .int 0, .int 0, .int 0, .ref (md 8), .ref (md 9), .ref (md 10), .ref (md 11), .ref (md 12), .ref (md 13), .ref (md 14), .ref (md 15), .ref (md 16), .ref (md 17), .ref (md 18), .ref (md 19), .ref (md 20), .ref (md 21), .ref (md 22), .int 0, .ref (md 24), .int 0, .ref (md 26), .int 0, .ref (md 28), .ref (md 29), .ref (md 30), .ref (md 31), .ref (md 32), .ref (md 33), .int 0, .int 0, .ref (md 36), .ref (md 37), .ref (md 38), .ref (md 39), .ref (md 40), .int 0, .int (-1), .int 0, .ref (md 44), .ref (md 45), .ref (md 46), .int 0, .ref (md 48), .ref (md 49), .int 0, .ref (md 51), .int 0, .ref (md 53), .ref (md 54), .ref (md 55), .ref (md 56), .ref (md 57), .ref (md 58), .ref (md 59), .ref (md 60), .ref (md 61), .ref (md 62), .ref (md 63), .int 0, .int 0, .int 0, .int 0, .int 0, .int 0, .ref (md 70), .int 0, .ref (md 72), .int 0, .int 400000, .int 0, .int 0])), (md 1, .inl (mc 1, 8300, .inl (upd f_12 (4 : Int32).toNatClampNeg (vp_nar .byte x_14))))] := hD
  generalize upd f_12 (4 : Int32).toNatClampNeg (vp_nar .byte x_14) = f_15 at hP hD
  refine lv_iinc (v := 5) (lv' := [(6, .int 5), (0, .ref (md 100)), (1, .int a0), (2, .int a1), (3, .int a2), (4, .int a3), (5, .int a4)]) hx hb d_mfeed_137 hl (k := 0) rfl (by decide) (by decide) rfl (fun ls hl => ?_)
  refine lv_goto (tgt := 60) hx hb d_mfeed_140 (by decide) ?_
  refine lv_iload hx hb d_mfeed_60 (lv_at hl 0 rfl) ?_
  refine lv_bipush (v := 20) hx hb d_mfeed_62 (by decide) ?_
  refine lv_icmp_ge (tgt := 143) hx hb d_mfeed_64 (by decide) (fun h => absurd h (by decide)) (fun _ => ?_)
  refine lv_aload_n hx hb d_mfeed_67 rfl (lv_at hl 1 rfl) ?_
  refine va_get (D := D) (ci := 12) (v := .ref (md 1)) (C := R_MM) (T := F_MM) (N := 77) hx hb hts i_MM hown hK hP 0 rfl rfl 1 (by decide) (hts _ kw_1383) (fun _ h9 => h9) rfl d_mfeed_68 ?_
  refine lv_aload_n hx hb d_mfeed_71 rfl (lv_at hl 1 rfl) ?_
  refine va_get (D := D) (ci := 12) (v := .int 0) (C := R_MM) (T := F_MM) (N := 77) hx hb hts i_MM hown hK hP 0 rfl rfl 4 (by decide) (hts _ kw_1386) (fun _ h9 => h9) rfl d_mfeed_72 ?_
  refine lv_iload hx hb d_mfeed_75 (lv_at hl 0 rfl) ?_
  refine lv_iadd hx hb d_mfeed_77 ?_
  refine w_i (y := 5) (by decide) ?_
  refine lv_iload hx hb d_mfeed_78 (lv_at hl 0 rfl) ?_
  refine lv_iconst (v := 4) hx hb d_mfeed_80 (by decide) ?_
  refine lv_icmp_ge (tgt := 88) hx hb d_mfeed_81 (by decide) (fun _ => ?_) (fun h => absurd h (by decide))
  refine lv_iload hx hb d_mfeed_88 (lv_at hl 0 rfl) ?_
  refine lv_bipush (v := 8) hx hb d_mfeed_90 (by decide) ?_
  refine lv_icmp_ge (tgt := 99) hx hb d_mfeed_92 (by decide) (fun h => absurd h (by decide)) (fun _ => ?_)
  refine lv_iload_n hx hb d_mfeed_95 rfl (lv_at hl 3 rfl) ?_
  refine lv_goto (tgt := 124) hx hb d_mfeed_96 (by decide) ?_
  refine lv_bipush (v := 24) hx hb d_mfeed_124 (by decide) ?_
  refine lv_iload hx hb d_mfeed_126 (lv_at hl 0 rfl) ?_
  refine lv_iconst (v := 4) hx hb d_mfeed_128 (by decide) ?_
  refine lv_irem hx hb d_mfeed_129 (by decide) ?_
  refine w_i (y := 1) (by decide) ?_
  refine lv_bipush (v := 8) hx hb d_mfeed_130 (by decide) ?_
  refine lv_imul hx hb d_mfeed_132 ?_
  refine w_i (y := 8) (by decide) ?_
  refine lv_isub hx hb d_mfeed_133 ?_
  refine w_i (y := 16) (by decide) ?_
  refine lv_iushr hx hb d_mfeed_134 rfl ?_
  refine lv_topi (fun x_16 ex_16 => ?_)
  refine lv_i2b hx hb d_mfeed_135 rfl ?_
  refine lv_topi (fun x_17 ex_17 => ?_)
  refine va_bast hx hb hK hP hD hS 1 0 rfl rfl (i := 5) (x := x_17) (vp_in_nI (n := 5) (N := 8300) (by decide) (by decide)) d_mfeed_136 (fun H locs hP hD hS => ?_)
  have hP : va_P D cls [(md 100, .inr (12, [.int 0, .ref (md 1), .ref (md 2), .ref (md 3), .int 0, .int 0, .int 0, .int 0, .ref (md 8), .ref (md 9), .ref (md 10), .ref (md 11), .ref (md 12), .ref (md 13), .ref (md 14), .ref (md 15), .ref (md 16), .ref (md 17), .ref (md 18), .ref (md 19), .ref (md 20), .ref (md 21), .ref (md 22), .int 0, .ref (md 24), .int 0, .ref (md 26), .int 0, .ref (md 28), .ref (md 29), .ref (md 30), .ref (md 31), .ref (md 32), .ref (md 33), .int 0, .int 0, .ref (md 36), .ref (md 37), .ref (md 38), .ref (md 39), .ref (md 40), .int 0, .int (-1), .int 0, .ref (md 44), .ref (md 45), .ref (md 46), .int 0, .ref (md 48), .ref (md 49), .int 0, .ref (md 51), .int 0, .ref (md 53), .ref (md 54), .ref (md 55), .ref (md 56), .ref (md 57), .ref (md 58), .ref (md 59), .ref (md 60), .ref (md 61), .ref (md 62), .ref (md 63), .int 0, .int 0, .int 0, .int 0, .int 0, .int 0, .ref (md 70), .int 0, .ref (md 72), .int 0, .int 400000, .int 0, .int 0])), (md 1, .inl (mc 1, 8300, .inl (upd f_15 (5 : Int32).toNatClampNeg (vp_nar .byte x_17))))] H := hP
  have hD : va_D A [(md 100, .inr (12, [.int 0, .ref (md 1), .ref (md 2), .ref (md 3), .int 0, .int 0, .int 0, .int 0, .ref (md 8), .ref (md 9), .ref (md 10), .ref (md 11), .ref (md 12), .ref (md 13), .ref (md 14), .ref (md 15), .ref (md 16), .ref (md 17), .ref (md 18), .ref (md 19), .ref (md 20), .ref (md 21), .ref (md 22), .int 0, .ref (md 24), .int 0, .ref (md 26), .int 0, .ref (md 28), .ref (md 29), .ref (md 30), .ref (md 31), .ref (md 32), .ref (md 33), .int 0, .int 0, .ref (md 36), .ref (md 37), .ref (md 38), .ref (md 39), .ref (md 40), .int 0, .int (-1), .int 0, .ref (md 44), .ref (md 45), .ref (md 46), .int 0, .ref (md 48), .ref (md 49), .int 0, .ref (md 51), .int 0, .ref (md 53), .ref (md 54), .ref (md 55), .ref (md 56), .ref (md 57), .ref (md 58), .ref (md 59), .ref (md 60), .ref (md 61), .ref (md 62), .ref (md 63), .int 0, .int 0, .int 0, .int 0, .int 0, .int 0, .ref (md 70), .int 0, .ref (md 72), .int 0, .int 400000, .int 0, .int 0])), (md 1, .inl (mc 1, 8300, .inl (upd f_15 (5 : Int32).toNatClampNeg (vp_nar .byte x_17))))] := hD
  generalize upd f_15 (5 : Int32).toNatClampNeg (vp_nar .byte x_17) = f_18 at hP hD
  refine lv_iinc (v := 6) (lv' := [(6, .int 6), (0, .ref (md 100)), (1, .int a0), (2, .int a1), (3, .int a2), (4, .int a3), (5, .int a4)]) hx hb d_mfeed_137 hl (k := 0) rfl (by decide) (by decide) rfl (fun ls hl => ?_)
  refine lv_goto (tgt := 60) hx hb d_mfeed_140 (by decide) ?_
  refine lv_iload hx hb d_mfeed_60 (lv_at hl 0 rfl) ?_
  refine lv_bipush (v := 20) hx hb d_mfeed_62 (by decide) ?_
  refine lv_icmp_ge (tgt := 143) hx hb d_mfeed_64 (by decide) (fun h => absurd h (by decide)) (fun _ => ?_)
  refine lv_aload_n hx hb d_mfeed_67 rfl (lv_at hl 1 rfl) ?_
  refine va_get (D := D) (ci := 12) (v := .ref (md 1)) (C := R_MM) (T := F_MM) (N := 77) hx hb hts i_MM hown hK hP 0 rfl rfl 1 (by decide) (hts _ kw_1383) (fun _ h9 => h9) rfl d_mfeed_68 ?_
  refine lv_aload_n hx hb d_mfeed_71 rfl (lv_at hl 1 rfl) ?_
  refine va_get (D := D) (ci := 12) (v := .int 0) (C := R_MM) (T := F_MM) (N := 77) hx hb hts i_MM hown hK hP 0 rfl rfl 4 (by decide) (hts _ kw_1386) (fun _ h9 => h9) rfl d_mfeed_72 ?_
  refine lv_iload hx hb d_mfeed_75 (lv_at hl 0 rfl) ?_
  refine lv_iadd hx hb d_mfeed_77 ?_
  refine w_i (y := 6) (by decide) ?_
  refine lv_iload hx hb d_mfeed_78 (lv_at hl 0 rfl) ?_
  refine lv_iconst (v := 4) hx hb d_mfeed_80 (by decide) ?_
  refine lv_icmp_ge (tgt := 88) hx hb d_mfeed_81 (by decide) (fun _ => ?_) (fun h => absurd h (by decide))
  refine lv_iload hx hb d_mfeed_88 (lv_at hl 0 rfl) ?_
  refine lv_bipush (v := 8) hx hb d_mfeed_90 (by decide) ?_
  refine lv_icmp_ge (tgt := 99) hx hb d_mfeed_92 (by decide) (fun h => absurd h (by decide)) (fun _ => ?_)
  refine lv_iload_n hx hb d_mfeed_95 rfl (lv_at hl 3 rfl) ?_
  refine lv_goto (tgt := 124) hx hb d_mfeed_96 (by decide) ?_
  refine lv_bipush (v := 24) hx hb d_mfeed_124 (by decide) ?_
  refine lv_iload hx hb d_mfeed_126 (lv_at hl 0 rfl) ?_
  refine lv_iconst (v := 4) hx hb d_mfeed_128 (by decide) ?_
  refine lv_irem hx hb d_mfeed_129 (by decide) ?_
  refine w_i (y := 2) (by decide) ?_
  refine lv_bipush (v := 8) hx hb d_mfeed_130 (by decide) ?_
  refine lv_imul hx hb d_mfeed_132 ?_
  refine w_i (y := 16) (by decide) ?_
  refine lv_isub hx hb d_mfeed_133 ?_
  refine w_i (y := 8) (by decide) ?_
  refine lv_iushr hx hb d_mfeed_134 rfl ?_
  refine lv_topi (fun x_19 ex_19 => ?_)
  refine lv_i2b hx hb d_mfeed_135 rfl ?_
  refine lv_topi (fun x_20 ex_20 => ?_)
  refine va_bast hx hb hK hP hD hS 1 0 rfl rfl (i := 6) (x := x_20) (vp_in_nI (n := 6) (N := 8300) (by decide) (by decide)) d_mfeed_136 (fun H locs hP hD hS => ?_)
  have hP : va_P D cls [(md 100, .inr (12, [.int 0, .ref (md 1), .ref (md 2), .ref (md 3), .int 0, .int 0, .int 0, .int 0, .ref (md 8), .ref (md 9), .ref (md 10), .ref (md 11), .ref (md 12), .ref (md 13), .ref (md 14), .ref (md 15), .ref (md 16), .ref (md 17), .ref (md 18), .ref (md 19), .ref (md 20), .ref (md 21), .ref (md 22), .int 0, .ref (md 24), .int 0, .ref (md 26), .int 0, .ref (md 28), .ref (md 29), .ref (md 30), .ref (md 31), .ref (md 32), .ref (md 33), .int 0, .int 0, .ref (md 36), .ref (md 37), .ref (md 38), .ref (md 39), .ref (md 40), .int 0, .int (-1), .int 0, .ref (md 44), .ref (md 45), .ref (md 46), .int 0, .ref (md 48), .ref (md 49), .int 0, .ref (md 51), .int 0, .ref (md 53), .ref (md 54), .ref (md 55), .ref (md 56), .ref (md 57), .ref (md 58), .ref (md 59), .ref (md 60), .ref (md 61), .ref (md 62), .ref (md 63), .int 0, .int 0, .int 0, .int 0, .int 0, .int 0, .ref (md 70), .int 0, .ref (md 72), .int 0, .int 400000, .int 0, .int 0])), (md 1, .inl (mc 1, 8300, .inl (upd f_18 (6 : Int32).toNatClampNeg (vp_nar .byte x_20))))] H := hP
  have hD : va_D A [(md 100, .inr (12, [.int 0, .ref (md 1), .ref (md 2), .ref (md 3), .int 0, .int 0, .int 0, .int 0, .ref (md 8), .ref (md 9), .ref (md 10), .ref (md 11), .ref (md 12), .ref (md 13), .ref (md 14), .ref (md 15), .ref (md 16), .ref (md 17), .ref (md 18), .ref (md 19), .ref (md 20), .ref (md 21), .ref (md 22), .int 0, .ref (md 24), .int 0, .ref (md 26), .int 0, .ref (md 28), .ref (md 29), .ref (md 30), .ref (md 31), .ref (md 32), .ref (md 33), .int 0, .int 0, .ref (md 36), .ref (md 37), .ref (md 38), .ref (md 39), .ref (md 40), .int 0, .int (-1), .int 0, .ref (md 44), .ref (md 45), .ref (md 46), .int 0, .ref (md 48), .ref (md 49), .int 0, .ref (md 51), .int 0, .ref (md 53), .ref (md 54), .ref (md 55), .ref (md 56), .ref (md 57), .ref (md 58), .ref (md 59), .ref (md 60), .ref (md 61), .ref (md 62), .ref (md 63), .int 0, .int 0, .int 0, .int 0, .int 0, .int 0, .ref (md 70), .int 0, .ref (md 72), .int 0, .int 400000, .int 0, .int 0])), (md 1, .inl (mc 1, 8300, .inl (upd f_18 (6 : Int32).toNatClampNeg (vp_nar .byte x_20))))] := hD
  generalize upd f_18 (6 : Int32).toNatClampNeg (vp_nar .byte x_20) = f_21 at hP hD
  refine lv_iinc (v := 7) (lv' := [(6, .int 7), (0, .ref (md 100)), (1, .int a0), (2, .int a1), (3, .int a2), (4, .int a3), (5, .int a4)]) hx hb d_mfeed_137 hl (k := 0) rfl (by decide) (by decide) rfl (fun ls hl => ?_)
  refine lv_goto (tgt := 60) hx hb d_mfeed_140 (by decide) ?_
  refine lv_iload hx hb d_mfeed_60 (lv_at hl 0 rfl) ?_
  refine lv_bipush (v := 20) hx hb d_mfeed_62 (by decide) ?_
  refine lv_icmp_ge (tgt := 143) hx hb d_mfeed_64 (by decide) (fun h => absurd h (by decide)) (fun _ => ?_)
  refine lv_aload_n hx hb d_mfeed_67 rfl (lv_at hl 1 rfl) ?_
  refine va_get (D := D) (ci := 12) (v := .ref (md 1)) (C := R_MM) (T := F_MM) (N := 77) hx hb hts i_MM hown hK hP 0 rfl rfl 1 (by decide) (hts _ kw_1383) (fun _ h9 => h9) rfl d_mfeed_68 ?_
  refine lv_aload_n hx hb d_mfeed_71 rfl (lv_at hl 1 rfl) ?_
  refine va_get (D := D) (ci := 12) (v := .int 0) (C := R_MM) (T := F_MM) (N := 77) hx hb hts i_MM hown hK hP 0 rfl rfl 4 (by decide) (hts _ kw_1386) (fun _ h9 => h9) rfl d_mfeed_72 ?_
  refine lv_iload hx hb d_mfeed_75 (lv_at hl 0 rfl) ?_
  refine lv_iadd hx hb d_mfeed_77 ?_
  refine w_i (y := 7) (by decide) ?_
  refine lv_iload hx hb d_mfeed_78 (lv_at hl 0 rfl) ?_
  refine lv_iconst (v := 4) hx hb d_mfeed_80 (by decide) ?_
  refine lv_icmp_ge (tgt := 88) hx hb d_mfeed_81 (by decide) (fun _ => ?_) (fun h => absurd h (by decide))
  refine lv_iload hx hb d_mfeed_88 (lv_at hl 0 rfl) ?_
  refine lv_bipush (v := 8) hx hb d_mfeed_90 (by decide) ?_
  refine lv_icmp_ge (tgt := 99) hx hb d_mfeed_92 (by decide) (fun h => absurd h (by decide)) (fun _ => ?_)
  refine lv_iload_n hx hb d_mfeed_95 rfl (lv_at hl 3 rfl) ?_
  refine lv_goto (tgt := 124) hx hb d_mfeed_96 (by decide) ?_
  refine lv_bipush (v := 24) hx hb d_mfeed_124 (by decide) ?_
  refine lv_iload hx hb d_mfeed_126 (lv_at hl 0 rfl) ?_
  refine lv_iconst (v := 4) hx hb d_mfeed_128 (by decide) ?_
  refine lv_irem hx hb d_mfeed_129 (by decide) ?_
  refine w_i (y := 3) (by decide) ?_
  refine lv_bipush (v := 8) hx hb d_mfeed_130 (by decide) ?_
  refine lv_imul hx hb d_mfeed_132 ?_
  refine w_i (y := 24) (by decide) ?_
  refine lv_isub hx hb d_mfeed_133 ?_
  refine w_i (y := 0) (by decide) ?_
  refine lv_iushr hx hb d_mfeed_134 rfl ?_
  refine lv_topi (fun x_22 ex_22 => ?_)
  refine lv_i2b hx hb d_mfeed_135 rfl ?_
  refine lv_topi (fun x_23 ex_23 => ?_)
  refine va_bast hx hb hK hP hD hS 1 0 rfl rfl (i := 7) (x := x_23) (vp_in_nI (n := 7) (N := 8300) (by decide) (by decide)) d_mfeed_136 (fun H locs hP hD hS => ?_)
  have hP : va_P D cls [(md 100, .inr (12, [.int 0, .ref (md 1), .ref (md 2), .ref (md 3), .int 0, .int 0, .int 0, .int 0, .ref (md 8), .ref (md 9), .ref (md 10), .ref (md 11), .ref (md 12), .ref (md 13), .ref (md 14), .ref (md 15), .ref (md 16), .ref (md 17), .ref (md 18), .ref (md 19), .ref (md 20), .ref (md 21), .ref (md 22), .int 0, .ref (md 24), .int 0, .ref (md 26), .int 0, .ref (md 28), .ref (md 29), .ref (md 30), .ref (md 31), .ref (md 32), .ref (md 33), .int 0, .int 0, .ref (md 36), .ref (md 37), .ref (md 38), .ref (md 39), .ref (md 40), .int 0, .int (-1), .int 0, .ref (md 44), .ref (md 45), .ref (md 46), .int 0, .ref (md 48), .ref (md 49), .int 0, .ref (md 51), .int 0, .ref (md 53), .ref (md 54), .ref (md 55), .ref (md 56), .ref (md 57), .ref (md 58), .ref (md 59), .ref (md 60), .ref (md 61), .ref (md 62), .ref (md 63), .int 0, .int 0, .int 0, .int 0, .int 0, .int 0, .ref (md 70), .int 0, .ref (md 72), .int 0, .int 400000, .int 0, .int 0])), (md 1, .inl (mc 1, 8300, .inl (upd f_21 (7 : Int32).toNatClampNeg (vp_nar .byte x_23))))] H := hP
  have hD : va_D A [(md 100, .inr (12, [.int 0, .ref (md 1), .ref (md 2), .ref (md 3), .int 0, .int 0, .int 0, .int 0, .ref (md 8), .ref (md 9), .ref (md 10), .ref (md 11), .ref (md 12), .ref (md 13), .ref (md 14), .ref (md 15), .ref (md 16), .ref (md 17), .ref (md 18), .ref (md 19), .ref (md 20), .ref (md 21), .ref (md 22), .int 0, .ref (md 24), .int 0, .ref (md 26), .int 0, .ref (md 28), .ref (md 29), .ref (md 30), .ref (md 31), .ref (md 32), .ref (md 33), .int 0, .int 0, .ref (md 36), .ref (md 37), .ref (md 38), .ref (md 39), .ref (md 40), .int 0, .int (-1), .int 0, .ref (md 44), .ref (md 45), .ref (md 46), .int 0, .ref (md 48), .ref (md 49), .int 0, .ref (md 51), .int 0, .ref (md 53), .ref (md 54), .ref (md 55), .ref (md 56), .ref (md 57), .ref (md 58), .ref (md 59), .ref (md 60), .ref (md 61), .ref (md 62), .ref (md 63), .int 0, .int 0, .int 0, .int 0, .int 0, .int 0, .ref (md 70), .int 0, .ref (md 72), .int 0, .int 400000, .int 0, .int 0])), (md 1, .inl (mc 1, 8300, .inl (upd f_21 (7 : Int32).toNatClampNeg (vp_nar .byte x_23))))] := hD
  generalize upd f_21 (7 : Int32).toNatClampNeg (vp_nar .byte x_23) = f_24 at hP hD
  refine lv_iinc (v := 8) (lv' := [(6, .int 8), (0, .ref (md 100)), (1, .int a0), (2, .int a1), (3, .int a2), (4, .int a3), (5, .int a4)]) hx hb d_mfeed_137 hl (k := 0) rfl (by decide) (by decide) rfl (fun ls hl => ?_)
  refine lv_goto (tgt := 60) hx hb d_mfeed_140 (by decide) ?_
  refine lv_iload hx hb d_mfeed_60 (lv_at hl 0 rfl) ?_
  refine lv_bipush (v := 20) hx hb d_mfeed_62 (by decide) ?_
  refine lv_icmp_ge (tgt := 143) hx hb d_mfeed_64 (by decide) (fun h => absurd h (by decide)) (fun _ => ?_)
  refine lv_aload_n hx hb d_mfeed_67 rfl (lv_at hl 1 rfl) ?_
  refine va_get (D := D) (ci := 12) (v := .ref (md 1)) (C := R_MM) (T := F_MM) (N := 77) hx hb hts i_MM hown hK hP 0 rfl rfl 1 (by decide) (hts _ kw_1383) (fun _ h9 => h9) rfl d_mfeed_68 ?_
  refine lv_aload_n hx hb d_mfeed_71 rfl (lv_at hl 1 rfl) ?_
  refine va_get (D := D) (ci := 12) (v := .int 0) (C := R_MM) (T := F_MM) (N := 77) hx hb hts i_MM hown hK hP 0 rfl rfl 4 (by decide) (hts _ kw_1386) (fun _ h9 => h9) rfl d_mfeed_72 ?_
  refine lv_iload hx hb d_mfeed_75 (lv_at hl 0 rfl) ?_
  refine lv_iadd hx hb d_mfeed_77 ?_
  refine w_i (y := 8) (by decide) ?_
  refine lv_iload hx hb d_mfeed_78 (lv_at hl 0 rfl) ?_
  refine lv_iconst (v := 4) hx hb d_mfeed_80 (by decide) ?_
  refine lv_icmp_ge (tgt := 88) hx hb d_mfeed_81 (by decide) (fun _ => ?_) (fun h => absurd h (by decide))
  refine lv_iload hx hb d_mfeed_88 (lv_at hl 0 rfl) ?_
  refine lv_bipush (v := 8) hx hb d_mfeed_90 (by decide) ?_
  refine lv_icmp_ge (tgt := 99) hx hb d_mfeed_92 (by decide) (fun _ => ?_) (fun h => absurd h (by decide))
  refine lv_iload hx hb d_mfeed_99 (lv_at hl 0 rfl) ?_
  refine lv_bipush (v := 12) hx hb d_mfeed_101 (by decide) ?_
  refine lv_icmp_ge (tgt := 110) hx hb d_mfeed_103 (by decide) (fun h => absurd h (by decide)) (fun _ => ?_)
  refine lv_iload_n hx hb d_mfeed_106 rfl (lv_at hl 4 rfl) ?_
  refine lv_goto (tgt := 124) hx hb d_mfeed_107 (by decide) ?_
  refine lv_bipush (v := 24) hx hb d_mfeed_124 (by decide) ?_
  refine lv_iload hx hb d_mfeed_126 (lv_at hl 0 rfl) ?_
  refine lv_iconst (v := 4) hx hb d_mfeed_128 (by decide) ?_
  refine lv_irem hx hb d_mfeed_129 (by decide) ?_
  refine w_i (y := 0) (by decide) ?_
  refine lv_bipush (v := 8) hx hb d_mfeed_130 (by decide) ?_
  refine lv_imul hx hb d_mfeed_132 ?_
  refine w_i (y := 0) (by decide) ?_
  refine lv_isub hx hb d_mfeed_133 ?_
  refine w_i (y := 24) (by decide) ?_
  refine lv_iushr hx hb d_mfeed_134 rfl ?_
  refine lv_topi (fun x_25 ex_25 => ?_)
  refine lv_i2b hx hb d_mfeed_135 rfl ?_
  refine lv_topi (fun x_26 ex_26 => ?_)
  refine va_bast hx hb hK hP hD hS 1 0 rfl rfl (i := 8) (x := x_26) (vp_in_nI (n := 8) (N := 8300) (by decide) (by decide)) d_mfeed_136 (fun H locs hP hD hS => ?_)
  have hP : va_P D cls [(md 100, .inr (12, [.int 0, .ref (md 1), .ref (md 2), .ref (md 3), .int 0, .int 0, .int 0, .int 0, .ref (md 8), .ref (md 9), .ref (md 10), .ref (md 11), .ref (md 12), .ref (md 13), .ref (md 14), .ref (md 15), .ref (md 16), .ref (md 17), .ref (md 18), .ref (md 19), .ref (md 20), .ref (md 21), .ref (md 22), .int 0, .ref (md 24), .int 0, .ref (md 26), .int 0, .ref (md 28), .ref (md 29), .ref (md 30), .ref (md 31), .ref (md 32), .ref (md 33), .int 0, .int 0, .ref (md 36), .ref (md 37), .ref (md 38), .ref (md 39), .ref (md 40), .int 0, .int (-1), .int 0, .ref (md 44), .ref (md 45), .ref (md 46), .int 0, .ref (md 48), .ref (md 49), .int 0, .ref (md 51), .int 0, .ref (md 53), .ref (md 54), .ref (md 55), .ref (md 56), .ref (md 57), .ref (md 58), .ref (md 59), .ref (md 60), .ref (md 61), .ref (md 62), .ref (md 63), .int 0, .int 0, .int 0, .int 0, .int 0, .int 0, .ref (md 70), .int 0, .ref (md 72), .int 0, .int 400000, .int 0, .int 0])), (md 1, .inl (mc 1, 8300, .inl (upd f_24 (8 : Int32).toNatClampNeg (vp_nar .byte x_26))))] H := hP
  have hD : va_D A [(md 100, .inr (12, [.int 0, .ref (md 1), .ref (md 2), .ref (md 3), .int 0, .int 0, .int 0, .int 0, .ref (md 8), .ref (md 9), .ref (md 10), .ref (md 11), .ref (md 12), .ref (md 13), .ref (md 14), .ref (md 15), .ref (md 16), .ref (md 17), .ref (md 18), .ref (md 19), .ref (md 20), .ref (md 21), .ref (md 22), .int 0, .ref (md 24), .int 0, .ref (md 26), .int 0, .ref (md 28), .ref (md 29), .ref (md 30), .ref (md 31), .ref (md 32), .ref (md 33), .int 0, .int 0, .ref (md 36), .ref (md 37), .ref (md 38), .ref (md 39), .ref (md 40), .int 0, .int (-1), .int 0, .ref (md 44), .ref (md 45), .ref (md 46), .int 0, .ref (md 48), .ref (md 49), .int 0, .ref (md 51), .int 0, .ref (md 53), .ref (md 54), .ref (md 55), .ref (md 56), .ref (md 57), .ref (md 58), .ref (md 59), .ref (md 60), .ref (md 61), .ref (md 62), .ref (md 63), .int 0, .int 0, .int 0, .int 0, .int 0, .int 0, .ref (md 70), .int 0, .ref (md 72), .int 0, .int 400000, .int 0, .int 0])), (md 1, .inl (mc 1, 8300, .inl (upd f_24 (8 : Int32).toNatClampNeg (vp_nar .byte x_26))))] := hD
  generalize upd f_24 (8 : Int32).toNatClampNeg (vp_nar .byte x_26) = f_27 at hP hD
  refine lv_iinc (v := 9) (lv' := [(6, .int 9), (0, .ref (md 100)), (1, .int a0), (2, .int a1), (3, .int a2), (4, .int a3), (5, .int a4)]) hx hb d_mfeed_137 hl (k := 0) rfl (by decide) (by decide) rfl (fun ls hl => ?_)
  refine lv_goto (tgt := 60) hx hb d_mfeed_140 (by decide) ?_
  refine lv_iload hx hb d_mfeed_60 (lv_at hl 0 rfl) ?_
  refine lv_bipush (v := 20) hx hb d_mfeed_62 (by decide) ?_
  refine lv_icmp_ge (tgt := 143) hx hb d_mfeed_64 (by decide) (fun h => absurd h (by decide)) (fun _ => ?_)
  refine lv_aload_n hx hb d_mfeed_67 rfl (lv_at hl 1 rfl) ?_
  refine va_get (D := D) (ci := 12) (v := .ref (md 1)) (C := R_MM) (T := F_MM) (N := 77) hx hb hts i_MM hown hK hP 0 rfl rfl 1 (by decide) (hts _ kw_1383) (fun _ h9 => h9) rfl d_mfeed_68 ?_
  refine lv_aload_n hx hb d_mfeed_71 rfl (lv_at hl 1 rfl) ?_
  refine va_get (D := D) (ci := 12) (v := .int 0) (C := R_MM) (T := F_MM) (N := 77) hx hb hts i_MM hown hK hP 0 rfl rfl 4 (by decide) (hts _ kw_1386) (fun _ h9 => h9) rfl d_mfeed_72 ?_
  refine lv_iload hx hb d_mfeed_75 (lv_at hl 0 rfl) ?_
  refine lv_iadd hx hb d_mfeed_77 ?_
  refine w_i (y := 9) (by decide) ?_
  refine lv_iload hx hb d_mfeed_78 (lv_at hl 0 rfl) ?_
  refine lv_iconst (v := 4) hx hb d_mfeed_80 (by decide) ?_
  refine lv_icmp_ge (tgt := 88) hx hb d_mfeed_81 (by decide) (fun _ => ?_) (fun h => absurd h (by decide))
  refine lv_iload hx hb d_mfeed_88 (lv_at hl 0 rfl) ?_
  refine lv_bipush (v := 8) hx hb d_mfeed_90 (by decide) ?_
  refine lv_icmp_ge (tgt := 99) hx hb d_mfeed_92 (by decide) (fun _ => ?_) (fun h => absurd h (by decide))
  refine lv_iload hx hb d_mfeed_99 (lv_at hl 0 rfl) ?_
  refine lv_bipush (v := 12) hx hb d_mfeed_101 (by decide) ?_
  refine lv_icmp_ge (tgt := 110) hx hb d_mfeed_103 (by decide) (fun h => absurd h (by decide)) (fun _ => ?_)
  refine lv_iload_n hx hb d_mfeed_106 rfl (lv_at hl 4 rfl) ?_
  refine lv_goto (tgt := 124) hx hb d_mfeed_107 (by decide) ?_
  refine lv_bipush (v := 24) hx hb d_mfeed_124 (by decide) ?_
  refine lv_iload hx hb d_mfeed_126 (lv_at hl 0 rfl) ?_
  refine lv_iconst (v := 4) hx hb d_mfeed_128 (by decide) ?_
  refine lv_irem hx hb d_mfeed_129 (by decide) ?_
  refine w_i (y := 1) (by decide) ?_
  refine lv_bipush (v := 8) hx hb d_mfeed_130 (by decide) ?_
  refine lv_imul hx hb d_mfeed_132 ?_
  refine w_i (y := 8) (by decide) ?_
  refine lv_isub hx hb d_mfeed_133 ?_
  refine w_i (y := 16) (by decide) ?_
  refine lv_iushr hx hb d_mfeed_134 rfl ?_
  refine lv_topi (fun x_28 ex_28 => ?_)
  refine lv_i2b hx hb d_mfeed_135 rfl ?_
  refine lv_topi (fun x_29 ex_29 => ?_)
  refine va_bast hx hb hK hP hD hS 1 0 rfl rfl (i := 9) (x := x_29) (vp_in_nI (n := 9) (N := 8300) (by decide) (by decide)) d_mfeed_136 (fun H locs hP hD hS => ?_)
  have hP : va_P D cls [(md 100, .inr (12, [.int 0, .ref (md 1), .ref (md 2), .ref (md 3), .int 0, .int 0, .int 0, .int 0, .ref (md 8), .ref (md 9), .ref (md 10), .ref (md 11), .ref (md 12), .ref (md 13), .ref (md 14), .ref (md 15), .ref (md 16), .ref (md 17), .ref (md 18), .ref (md 19), .ref (md 20), .ref (md 21), .ref (md 22), .int 0, .ref (md 24), .int 0, .ref (md 26), .int 0, .ref (md 28), .ref (md 29), .ref (md 30), .ref (md 31), .ref (md 32), .ref (md 33), .int 0, .int 0, .ref (md 36), .ref (md 37), .ref (md 38), .ref (md 39), .ref (md 40), .int 0, .int (-1), .int 0, .ref (md 44), .ref (md 45), .ref (md 46), .int 0, .ref (md 48), .ref (md 49), .int 0, .ref (md 51), .int 0, .ref (md 53), .ref (md 54), .ref (md 55), .ref (md 56), .ref (md 57), .ref (md 58), .ref (md 59), .ref (md 60), .ref (md 61), .ref (md 62), .ref (md 63), .int 0, .int 0, .int 0, .int 0, .int 0, .int 0, .ref (md 70), .int 0, .ref (md 72), .int 0, .int 400000, .int 0, .int 0])), (md 1, .inl (mc 1, 8300, .inl (upd f_27 (9 : Int32).toNatClampNeg (vp_nar .byte x_29))))] H := hP
  have hD : va_D A [(md 100, .inr (12, [.int 0, .ref (md 1), .ref (md 2), .ref (md 3), .int 0, .int 0, .int 0, .int 0, .ref (md 8), .ref (md 9), .ref (md 10), .ref (md 11), .ref (md 12), .ref (md 13), .ref (md 14), .ref (md 15), .ref (md 16), .ref (md 17), .ref (md 18), .ref (md 19), .ref (md 20), .ref (md 21), .ref (md 22), .int 0, .ref (md 24), .int 0, .ref (md 26), .int 0, .ref (md 28), .ref (md 29), .ref (md 30), .ref (md 31), .ref (md 32), .ref (md 33), .int 0, .int 0, .ref (md 36), .ref (md 37), .ref (md 38), .ref (md 39), .ref (md 40), .int 0, .int (-1), .int 0, .ref (md 44), .ref (md 45), .ref (md 46), .int 0, .ref (md 48), .ref (md 49), .int 0, .ref (md 51), .int 0, .ref (md 53), .ref (md 54), .ref (md 55), .ref (md 56), .ref (md 57), .ref (md 58), .ref (md 59), .ref (md 60), .ref (md 61), .ref (md 62), .ref (md 63), .int 0, .int 0, .int 0, .int 0, .int 0, .int 0, .ref (md 70), .int 0, .ref (md 72), .int 0, .int 400000, .int 0, .int 0])), (md 1, .inl (mc 1, 8300, .inl (upd f_27 (9 : Int32).toNatClampNeg (vp_nar .byte x_29))))] := hD
  generalize upd f_27 (9 : Int32).toNatClampNeg (vp_nar .byte x_29) = f_30 at hP hD
  refine lv_iinc (v := 10) (lv' := [(6, .int 10), (0, .ref (md 100)), (1, .int a0), (2, .int a1), (3, .int a2), (4, .int a3), (5, .int a4)]) hx hb d_mfeed_137 hl (k := 0) rfl (by decide) (by decide) rfl (fun ls hl => ?_)
  refine lv_goto (tgt := 60) hx hb d_mfeed_140 (by decide) ?_
  refine lv_iload hx hb d_mfeed_60 (lv_at hl 0 rfl) ?_
  refine lv_bipush (v := 20) hx hb d_mfeed_62 (by decide) ?_
  refine lv_icmp_ge (tgt := 143) hx hb d_mfeed_64 (by decide) (fun h => absurd h (by decide)) (fun _ => ?_)
  refine lv_aload_n hx hb d_mfeed_67 rfl (lv_at hl 1 rfl) ?_
  refine va_get (D := D) (ci := 12) (v := .ref (md 1)) (C := R_MM) (T := F_MM) (N := 77) hx hb hts i_MM hown hK hP 0 rfl rfl 1 (by decide) (hts _ kw_1383) (fun _ h9 => h9) rfl d_mfeed_68 ?_
  refine lv_aload_n hx hb d_mfeed_71 rfl (lv_at hl 1 rfl) ?_
  refine va_get (D := D) (ci := 12) (v := .int 0) (C := R_MM) (T := F_MM) (N := 77) hx hb hts i_MM hown hK hP 0 rfl rfl 4 (by decide) (hts _ kw_1386) (fun _ h9 => h9) rfl d_mfeed_72 ?_
  refine lv_iload hx hb d_mfeed_75 (lv_at hl 0 rfl) ?_
  refine lv_iadd hx hb d_mfeed_77 ?_
  refine w_i (y := 10) (by decide) ?_
  refine lv_iload hx hb d_mfeed_78 (lv_at hl 0 rfl) ?_
  refine lv_iconst (v := 4) hx hb d_mfeed_80 (by decide) ?_
  refine lv_icmp_ge (tgt := 88) hx hb d_mfeed_81 (by decide) (fun _ => ?_) (fun h => absurd h (by decide))
  refine lv_iload hx hb d_mfeed_88 (lv_at hl 0 rfl) ?_
  refine lv_bipush (v := 8) hx hb d_mfeed_90 (by decide) ?_
  refine lv_icmp_ge (tgt := 99) hx hb d_mfeed_92 (by decide) (fun _ => ?_) (fun h => absurd h (by decide))
  refine lv_iload hx hb d_mfeed_99 (lv_at hl 0 rfl) ?_
  refine lv_bipush (v := 12) hx hb d_mfeed_101 (by decide) ?_
  refine lv_icmp_ge (tgt := 110) hx hb d_mfeed_103 (by decide) (fun h => absurd h (by decide)) (fun _ => ?_)
  refine lv_iload_n hx hb d_mfeed_106 rfl (lv_at hl 4 rfl) ?_
  refine lv_goto (tgt := 124) hx hb d_mfeed_107 (by decide) ?_
  refine lv_bipush (v := 24) hx hb d_mfeed_124 (by decide) ?_
  refine lv_iload hx hb d_mfeed_126 (lv_at hl 0 rfl) ?_
  refine lv_iconst (v := 4) hx hb d_mfeed_128 (by decide) ?_
  refine lv_irem hx hb d_mfeed_129 (by decide) ?_
  refine w_i (y := 2) (by decide) ?_
  refine lv_bipush (v := 8) hx hb d_mfeed_130 (by decide) ?_
  refine lv_imul hx hb d_mfeed_132 ?_
  refine w_i (y := 16) (by decide) ?_
  refine lv_isub hx hb d_mfeed_133 ?_
  refine w_i (y := 8) (by decide) ?_
  refine lv_iushr hx hb d_mfeed_134 rfl ?_
  refine lv_topi (fun x_31 ex_31 => ?_)
  refine lv_i2b hx hb d_mfeed_135 rfl ?_
  refine lv_topi (fun x_32 ex_32 => ?_)
  refine va_bast hx hb hK hP hD hS 1 0 rfl rfl (i := 10) (x := x_32) (vp_in_nI (n := 10) (N := 8300) (by decide) (by decide)) d_mfeed_136 (fun H locs hP hD hS => ?_)
  have hP : va_P D cls [(md 100, .inr (12, [.int 0, .ref (md 1), .ref (md 2), .ref (md 3), .int 0, .int 0, .int 0, .int 0, .ref (md 8), .ref (md 9), .ref (md 10), .ref (md 11), .ref (md 12), .ref (md 13), .ref (md 14), .ref (md 15), .ref (md 16), .ref (md 17), .ref (md 18), .ref (md 19), .ref (md 20), .ref (md 21), .ref (md 22), .int 0, .ref (md 24), .int 0, .ref (md 26), .int 0, .ref (md 28), .ref (md 29), .ref (md 30), .ref (md 31), .ref (md 32), .ref (md 33), .int 0, .int 0, .ref (md 36), .ref (md 37), .ref (md 38), .ref (md 39), .ref (md 40), .int 0, .int (-1), .int 0, .ref (md 44), .ref (md 45), .ref (md 46), .int 0, .ref (md 48), .ref (md 49), .int 0, .ref (md 51), .int 0, .ref (md 53), .ref (md 54), .ref (md 55), .ref (md 56), .ref (md 57), .ref (md 58), .ref (md 59), .ref (md 60), .ref (md 61), .ref (md 62), .ref (md 63), .int 0, .int 0, .int 0, .int 0, .int 0, .int 0, .ref (md 70), .int 0, .ref (md 72), .int 0, .int 400000, .int 0, .int 0])), (md 1, .inl (mc 1, 8300, .inl (upd f_30 (10 : Int32).toNatClampNeg (vp_nar .byte x_32))))] H := hP
  have hD : va_D A [(md 100, .inr (12, [.int 0, .ref (md 1), .ref (md 2), .ref (md 3), .int 0, .int 0, .int 0, .int 0, .ref (md 8), .ref (md 9), .ref (md 10), .ref (md 11), .ref (md 12), .ref (md 13), .ref (md 14), .ref (md 15), .ref (md 16), .ref (md 17), .ref (md 18), .ref (md 19), .ref (md 20), .ref (md 21), .ref (md 22), .int 0, .ref (md 24), .int 0, .ref (md 26), .int 0, .ref (md 28), .ref (md 29), .ref (md 30), .ref (md 31), .ref (md 32), .ref (md 33), .int 0, .int 0, .ref (md 36), .ref (md 37), .ref (md 38), .ref (md 39), .ref (md 40), .int 0, .int (-1), .int 0, .ref (md 44), .ref (md 45), .ref (md 46), .int 0, .ref (md 48), .ref (md 49), .int 0, .ref (md 51), .int 0, .ref (md 53), .ref (md 54), .ref (md 55), .ref (md 56), .ref (md 57), .ref (md 58), .ref (md 59), .ref (md 60), .ref (md 61), .ref (md 62), .ref (md 63), .int 0, .int 0, .int 0, .int 0, .int 0, .int 0, .ref (md 70), .int 0, .ref (md 72), .int 0, .int 400000, .int 0, .int 0])), (md 1, .inl (mc 1, 8300, .inl (upd f_30 (10 : Int32).toNatClampNeg (vp_nar .byte x_32))))] := hD
  generalize upd f_30 (10 : Int32).toNatClampNeg (vp_nar .byte x_32) = f_33 at hP hD
  refine lv_iinc (v := 11) (lv' := [(6, .int 11), (0, .ref (md 100)), (1, .int a0), (2, .int a1), (3, .int a2), (4, .int a3), (5, .int a4)]) hx hb d_mfeed_137 hl (k := 0) rfl (by decide) (by decide) rfl (fun ls hl => ?_)
  refine lv_goto (tgt := 60) hx hb d_mfeed_140 (by decide) ?_
  refine lv_iload hx hb d_mfeed_60 (lv_at hl 0 rfl) ?_
  refine lv_bipush (v := 20) hx hb d_mfeed_62 (by decide) ?_
  refine lv_icmp_ge (tgt := 143) hx hb d_mfeed_64 (by decide) (fun h => absurd h (by decide)) (fun _ => ?_)
  refine lv_aload_n hx hb d_mfeed_67 rfl (lv_at hl 1 rfl) ?_
  refine va_get (D := D) (ci := 12) (v := .ref (md 1)) (C := R_MM) (T := F_MM) (N := 77) hx hb hts i_MM hown hK hP 0 rfl rfl 1 (by decide) (hts _ kw_1383) (fun _ h9 => h9) rfl d_mfeed_68 ?_
  refine lv_aload_n hx hb d_mfeed_71 rfl (lv_at hl 1 rfl) ?_
  refine va_get (D := D) (ci := 12) (v := .int 0) (C := R_MM) (T := F_MM) (N := 77) hx hb hts i_MM hown hK hP 0 rfl rfl 4 (by decide) (hts _ kw_1386) (fun _ h9 => h9) rfl d_mfeed_72 ?_
  refine lv_iload hx hb d_mfeed_75 (lv_at hl 0 rfl) ?_
  refine lv_iadd hx hb d_mfeed_77 ?_
  refine w_i (y := 11) (by decide) ?_
  refine lv_iload hx hb d_mfeed_78 (lv_at hl 0 rfl) ?_
  refine lv_iconst (v := 4) hx hb d_mfeed_80 (by decide) ?_
  refine lv_icmp_ge (tgt := 88) hx hb d_mfeed_81 (by decide) (fun _ => ?_) (fun h => absurd h (by decide))
  refine lv_iload hx hb d_mfeed_88 (lv_at hl 0 rfl) ?_
  refine lv_bipush (v := 8) hx hb d_mfeed_90 (by decide) ?_
  refine lv_icmp_ge (tgt := 99) hx hb d_mfeed_92 (by decide) (fun _ => ?_) (fun h => absurd h (by decide))
  refine lv_iload hx hb d_mfeed_99 (lv_at hl 0 rfl) ?_
  refine lv_bipush (v := 12) hx hb d_mfeed_101 (by decide) ?_
  refine lv_icmp_ge (tgt := 110) hx hb d_mfeed_103 (by decide) (fun h => absurd h (by decide)) (fun _ => ?_)
  refine lv_iload_n hx hb d_mfeed_106 rfl (lv_at hl 4 rfl) ?_
  refine lv_goto (tgt := 124) hx hb d_mfeed_107 (by decide) ?_
  refine lv_bipush (v := 24) hx hb d_mfeed_124 (by decide) ?_
  refine lv_iload hx hb d_mfeed_126 (lv_at hl 0 rfl) ?_
  refine lv_iconst (v := 4) hx hb d_mfeed_128 (by decide) ?_
  refine lv_irem hx hb d_mfeed_129 (by decide) ?_
  refine w_i (y := 3) (by decide) ?_
  refine lv_bipush (v := 8) hx hb d_mfeed_130 (by decide) ?_
  refine lv_imul hx hb d_mfeed_132 ?_
  refine w_i (y := 24) (by decide) ?_
  refine lv_isub hx hb d_mfeed_133 ?_
  refine w_i (y := 0) (by decide) ?_
  refine lv_iushr hx hb d_mfeed_134 rfl ?_
  refine lv_topi (fun x_34 ex_34 => ?_)
  refine lv_i2b hx hb d_mfeed_135 rfl ?_
  refine lv_topi (fun x_35 ex_35 => ?_)
  refine va_bast hx hb hK hP hD hS 1 0 rfl rfl (i := 11) (x := x_35) (vp_in_nI (n := 11) (N := 8300) (by decide) (by decide)) d_mfeed_136 (fun H locs hP hD hS => ?_)
  have hP : va_P D cls [(md 100, .inr (12, [.int 0, .ref (md 1), .ref (md 2), .ref (md 3), .int 0, .int 0, .int 0, .int 0, .ref (md 8), .ref (md 9), .ref (md 10), .ref (md 11), .ref (md 12), .ref (md 13), .ref (md 14), .ref (md 15), .ref (md 16), .ref (md 17), .ref (md 18), .ref (md 19), .ref (md 20), .ref (md 21), .ref (md 22), .int 0, .ref (md 24), .int 0, .ref (md 26), .int 0, .ref (md 28), .ref (md 29), .ref (md 30), .ref (md 31), .ref (md 32), .ref (md 33), .int 0, .int 0, .ref (md 36), .ref (md 37), .ref (md 38), .ref (md 39), .ref (md 40), .int 0, .int (-1), .int 0, .ref (md 44), .ref (md 45), .ref (md 46), .int 0, .ref (md 48), .ref (md 49), .int 0, .ref (md 51), .int 0, .ref (md 53), .ref (md 54), .ref (md 55), .ref (md 56), .ref (md 57), .ref (md 58), .ref (md 59), .ref (md 60), .ref (md 61), .ref (md 62), .ref (md 63), .int 0, .int 0, .int 0, .int 0, .int 0, .int 0, .ref (md 70), .int 0, .ref (md 72), .int 0, .int 400000, .int 0, .int 0])), (md 1, .inl (mc 1, 8300, .inl (upd f_33 (11 : Int32).toNatClampNeg (vp_nar .byte x_35))))] H := hP
  have hD : va_D A [(md 100, .inr (12, [.int 0, .ref (md 1), .ref (md 2), .ref (md 3), .int 0, .int 0, .int 0, .int 0, .ref (md 8), .ref (md 9), .ref (md 10), .ref (md 11), .ref (md 12), .ref (md 13), .ref (md 14), .ref (md 15), .ref (md 16), .ref (md 17), .ref (md 18), .ref (md 19), .ref (md 20), .ref (md 21), .ref (md 22), .int 0, .ref (md 24), .int 0, .ref (md 26), .int 0, .ref (md 28), .ref (md 29), .ref (md 30), .ref (md 31), .ref (md 32), .ref (md 33), .int 0, .int 0, .ref (md 36), .ref (md 37), .ref (md 38), .ref (md 39), .ref (md 40), .int 0, .int (-1), .int 0, .ref (md 44), .ref (md 45), .ref (md 46), .int 0, .ref (md 48), .ref (md 49), .int 0, .ref (md 51), .int 0, .ref (md 53), .ref (md 54), .ref (md 55), .ref (md 56), .ref (md 57), .ref (md 58), .ref (md 59), .ref (md 60), .ref (md 61), .ref (md 62), .ref (md 63), .int 0, .int 0, .int 0, .int 0, .int 0, .int 0, .ref (md 70), .int 0, .ref (md 72), .int 0, .int 400000, .int 0, .int 0])), (md 1, .inl (mc 1, 8300, .inl (upd f_33 (11 : Int32).toNatClampNeg (vp_nar .byte x_35))))] := hD
  generalize upd f_33 (11 : Int32).toNatClampNeg (vp_nar .byte x_35) = f_36 at hP hD
  refine lv_iinc (v := 12) (lv' := [(6, .int 12), (0, .ref (md 100)), (1, .int a0), (2, .int a1), (3, .int a2), (4, .int a3), (5, .int a4)]) hx hb d_mfeed_137 hl (k := 0) rfl (by decide) (by decide) rfl (fun ls hl => ?_)
  refine lv_goto (tgt := 60) hx hb d_mfeed_140 (by decide) ?_
  refine lv_iload hx hb d_mfeed_60 (lv_at hl 0 rfl) ?_
  refine lv_bipush (v := 20) hx hb d_mfeed_62 (by decide) ?_
  refine lv_icmp_ge (tgt := 143) hx hb d_mfeed_64 (by decide) (fun h => absurd h (by decide)) (fun _ => ?_)
  refine lv_aload_n hx hb d_mfeed_67 rfl (lv_at hl 1 rfl) ?_
  refine va_get (D := D) (ci := 12) (v := .ref (md 1)) (C := R_MM) (T := F_MM) (N := 77) hx hb hts i_MM hown hK hP 0 rfl rfl 1 (by decide) (hts _ kw_1383) (fun _ h9 => h9) rfl d_mfeed_68 ?_
  refine lv_aload_n hx hb d_mfeed_71 rfl (lv_at hl 1 rfl) ?_
  refine va_get (D := D) (ci := 12) (v := .int 0) (C := R_MM) (T := F_MM) (N := 77) hx hb hts i_MM hown hK hP 0 rfl rfl 4 (by decide) (hts _ kw_1386) (fun _ h9 => h9) rfl d_mfeed_72 ?_
  refine lv_iload hx hb d_mfeed_75 (lv_at hl 0 rfl) ?_
  refine lv_iadd hx hb d_mfeed_77 ?_
  refine w_i (y := 12) (by decide) ?_
  refine lv_iload hx hb d_mfeed_78 (lv_at hl 0 rfl) ?_
  refine lv_iconst (v := 4) hx hb d_mfeed_80 (by decide) ?_
  refine lv_icmp_ge (tgt := 88) hx hb d_mfeed_81 (by decide) (fun _ => ?_) (fun h => absurd h (by decide))
  refine lv_iload hx hb d_mfeed_88 (lv_at hl 0 rfl) ?_
  refine lv_bipush (v := 8) hx hb d_mfeed_90 (by decide) ?_
  refine lv_icmp_ge (tgt := 99) hx hb d_mfeed_92 (by decide) (fun _ => ?_) (fun h => absurd h (by decide))
  refine lv_iload hx hb d_mfeed_99 (lv_at hl 0 rfl) ?_
  refine lv_bipush (v := 12) hx hb d_mfeed_101 (by decide) ?_
  refine lv_icmp_ge (tgt := 110) hx hb d_mfeed_103 (by decide) (fun _ => ?_) (fun h => absurd h (by decide))
  refine lv_iload hx hb d_mfeed_110 (lv_at hl 0 rfl) ?_
  refine lv_bipush (v := 16) hx hb d_mfeed_112 (by decide) ?_
  refine lv_icmp_ge (tgt := 122) hx hb d_mfeed_114 (by decide) (fun h => absurd h (by decide)) (fun _ => ?_)
  refine lv_iload hx hb d_mfeed_117 (lv_at hl 5 rfl) ?_
  refine lv_goto (tgt := 124) hx hb d_mfeed_119 (by decide) ?_
  refine lv_bipush (v := 24) hx hb d_mfeed_124 (by decide) ?_
  refine lv_iload hx hb d_mfeed_126 (lv_at hl 0 rfl) ?_
  refine lv_iconst (v := 4) hx hb d_mfeed_128 (by decide) ?_
  refine lv_irem hx hb d_mfeed_129 (by decide) ?_
  refine w_i (y := 0) (by decide) ?_
  refine lv_bipush (v := 8) hx hb d_mfeed_130 (by decide) ?_
  refine lv_imul hx hb d_mfeed_132 ?_
  refine w_i (y := 0) (by decide) ?_
  refine lv_isub hx hb d_mfeed_133 ?_
  refine w_i (y := 24) (by decide) ?_
  refine lv_iushr hx hb d_mfeed_134 rfl ?_
  refine lv_topi (fun x_37 ex_37 => ?_)
  refine lv_i2b hx hb d_mfeed_135 rfl ?_
  refine lv_topi (fun x_38 ex_38 => ?_)
  refine va_bast hx hb hK hP hD hS 1 0 rfl rfl (i := 12) (x := x_38) (vp_in_nI (n := 12) (N := 8300) (by decide) (by decide)) d_mfeed_136 (fun H locs hP hD hS => ?_)
  have hP : va_P D cls [(md 100, .inr (12, [.int 0, .ref (md 1), .ref (md 2), .ref (md 3), .int 0, .int 0, .int 0, .int 0, .ref (md 8), .ref (md 9), .ref (md 10), .ref (md 11), .ref (md 12), .ref (md 13), .ref (md 14), .ref (md 15), .ref (md 16), .ref (md 17), .ref (md 18), .ref (md 19), .ref (md 20), .ref (md 21), .ref (md 22), .int 0, .ref (md 24), .int 0, .ref (md 26), .int 0, .ref (md 28), .ref (md 29), .ref (md 30), .ref (md 31), .ref (md 32), .ref (md 33), .int 0, .int 0, .ref (md 36), .ref (md 37), .ref (md 38), .ref (md 39), .ref (md 40), .int 0, .int (-1), .int 0, .ref (md 44), .ref (md 45), .ref (md 46), .int 0, .ref (md 48), .ref (md 49), .int 0, .ref (md 51), .int 0, .ref (md 53), .ref (md 54), .ref (md 55), .ref (md 56), .ref (md 57), .ref (md 58), .ref (md 59), .ref (md 60), .ref (md 61), .ref (md 62), .ref (md 63), .int 0, .int 0, .int 0, .int 0, .int 0, .int 0, .ref (md 70), .int 0, .ref (md 72), .int 0, .int 400000, .int 0, .int 0])), (md 1, .inl (mc 1, 8300, .inl (upd f_36 (12 : Int32).toNatClampNeg (vp_nar .byte x_38))))] H := hP
  have hD : va_D A [(md 100, .inr (12, [.int 0, .ref (md 1), .ref (md 2), .ref (md 3), .int 0, .int 0, .int 0, .int 0, .ref (md 8), .ref (md 9), .ref (md 10), .ref (md 11), .ref (md 12), .ref (md 13), .ref (md 14), .ref (md 15), .ref (md 16), .ref (md 17), .ref (md 18), .ref (md 19), .ref (md 20), .ref (md 21), .ref (md 22), .int 0, .ref (md 24), .int 0, .ref (md 26), .int 0, .ref (md 28), .ref (md 29), .ref (md 30), .ref (md 31), .ref (md 32), .ref (md 33), .int 0, .int 0, .ref (md 36), .ref (md 37), .ref (md 38), .ref (md 39), .ref (md 40), .int 0, .int (-1), .int 0, .ref (md 44), .ref (md 45), .ref (md 46), .int 0, .ref (md 48), .ref (md 49), .int 0, .ref (md 51), .int 0, .ref (md 53), .ref (md 54), .ref (md 55), .ref (md 56), .ref (md 57), .ref (md 58), .ref (md 59), .ref (md 60), .ref (md 61), .ref (md 62), .ref (md 63), .int 0, .int 0, .int 0, .int 0, .int 0, .int 0, .ref (md 70), .int 0, .ref (md 72), .int 0, .int 400000, .int 0, .int 0])), (md 1, .inl (mc 1, 8300, .inl (upd f_36 (12 : Int32).toNatClampNeg (vp_nar .byte x_38))))] := hD
  generalize upd f_36 (12 : Int32).toNatClampNeg (vp_nar .byte x_38) = f_39 at hP hD
  refine lv_iinc (v := 13) (lv' := [(6, .int 13), (0, .ref (md 100)), (1, .int a0), (2, .int a1), (3, .int a2), (4, .int a3), (5, .int a4)]) hx hb d_mfeed_137 hl (k := 0) rfl (by decide) (by decide) rfl (fun ls hl => ?_)
  refine lv_goto (tgt := 60) hx hb d_mfeed_140 (by decide) ?_
  refine lv_iload hx hb d_mfeed_60 (lv_at hl 0 rfl) ?_
  refine lv_bipush (v := 20) hx hb d_mfeed_62 (by decide) ?_
  refine lv_icmp_ge (tgt := 143) hx hb d_mfeed_64 (by decide) (fun h => absurd h (by decide)) (fun _ => ?_)
  refine lv_aload_n hx hb d_mfeed_67 rfl (lv_at hl 1 rfl) ?_
  refine va_get (D := D) (ci := 12) (v := .ref (md 1)) (C := R_MM) (T := F_MM) (N := 77) hx hb hts i_MM hown hK hP 0 rfl rfl 1 (by decide) (hts _ kw_1383) (fun _ h9 => h9) rfl d_mfeed_68 ?_
  refine lv_aload_n hx hb d_mfeed_71 rfl (lv_at hl 1 rfl) ?_
  refine va_get (D := D) (ci := 12) (v := .int 0) (C := R_MM) (T := F_MM) (N := 77) hx hb hts i_MM hown hK hP 0 rfl rfl 4 (by decide) (hts _ kw_1386) (fun _ h9 => h9) rfl d_mfeed_72 ?_
  refine lv_iload hx hb d_mfeed_75 (lv_at hl 0 rfl) ?_
  refine lv_iadd hx hb d_mfeed_77 ?_
  refine w_i (y := 13) (by decide) ?_
  refine lv_iload hx hb d_mfeed_78 (lv_at hl 0 rfl) ?_
  refine lv_iconst (v := 4) hx hb d_mfeed_80 (by decide) ?_
  refine lv_icmp_ge (tgt := 88) hx hb d_mfeed_81 (by decide) (fun _ => ?_) (fun h => absurd h (by decide))
  refine lv_iload hx hb d_mfeed_88 (lv_at hl 0 rfl) ?_
  refine lv_bipush (v := 8) hx hb d_mfeed_90 (by decide) ?_
  refine lv_icmp_ge (tgt := 99) hx hb d_mfeed_92 (by decide) (fun _ => ?_) (fun h => absurd h (by decide))
  refine lv_iload hx hb d_mfeed_99 (lv_at hl 0 rfl) ?_
  refine lv_bipush (v := 12) hx hb d_mfeed_101 (by decide) ?_
  refine lv_icmp_ge (tgt := 110) hx hb d_mfeed_103 (by decide) (fun _ => ?_) (fun h => absurd h (by decide))
  refine lv_iload hx hb d_mfeed_110 (lv_at hl 0 rfl) ?_
  refine lv_bipush (v := 16) hx hb d_mfeed_112 (by decide) ?_
  refine lv_icmp_ge (tgt := 122) hx hb d_mfeed_114 (by decide) (fun h => absurd h (by decide)) (fun _ => ?_)
  refine lv_iload hx hb d_mfeed_117 (lv_at hl 5 rfl) ?_
  refine lv_goto (tgt := 124) hx hb d_mfeed_119 (by decide) ?_
  refine lv_bipush (v := 24) hx hb d_mfeed_124 (by decide) ?_
  refine lv_iload hx hb d_mfeed_126 (lv_at hl 0 rfl) ?_
  refine lv_iconst (v := 4) hx hb d_mfeed_128 (by decide) ?_
  refine lv_irem hx hb d_mfeed_129 (by decide) ?_
  refine w_i (y := 1) (by decide) ?_
  refine lv_bipush (v := 8) hx hb d_mfeed_130 (by decide) ?_
  refine lv_imul hx hb d_mfeed_132 ?_
  refine w_i (y := 8) (by decide) ?_
  refine lv_isub hx hb d_mfeed_133 ?_
  refine w_i (y := 16) (by decide) ?_
  refine lv_iushr hx hb d_mfeed_134 rfl ?_
  refine lv_topi (fun x_40 ex_40 => ?_)
  refine lv_i2b hx hb d_mfeed_135 rfl ?_
  refine lv_topi (fun x_41 ex_41 => ?_)
  refine va_bast hx hb hK hP hD hS 1 0 rfl rfl (i := 13) (x := x_41) (vp_in_nI (n := 13) (N := 8300) (by decide) (by decide)) d_mfeed_136 (fun H locs hP hD hS => ?_)
  have hP : va_P D cls [(md 100, .inr (12, [.int 0, .ref (md 1), .ref (md 2), .ref (md 3), .int 0, .int 0, .int 0, .int 0, .ref (md 8), .ref (md 9), .ref (md 10), .ref (md 11), .ref (md 12), .ref (md 13), .ref (md 14), .ref (md 15), .ref (md 16), .ref (md 17), .ref (md 18), .ref (md 19), .ref (md 20), .ref (md 21), .ref (md 22), .int 0, .ref (md 24), .int 0, .ref (md 26), .int 0, .ref (md 28), .ref (md 29), .ref (md 30), .ref (md 31), .ref (md 32), .ref (md 33), .int 0, .int 0, .ref (md 36), .ref (md 37), .ref (md 38), .ref (md 39), .ref (md 40), .int 0, .int (-1), .int 0, .ref (md 44), .ref (md 45), .ref (md 46), .int 0, .ref (md 48), .ref (md 49), .int 0, .ref (md 51), .int 0, .ref (md 53), .ref (md 54), .ref (md 55), .ref (md 56), .ref (md 57), .ref (md 58), .ref (md 59), .ref (md 60), .ref (md 61), .ref (md 62), .ref (md 63), .int 0, .int 0, .int 0, .int 0, .int 0, .int 0, .ref (md 70), .int 0, .ref (md 72), .int 0, .int 400000, .int 0, .int 0])), (md 1, .inl (mc 1, 8300, .inl (upd f_39 (13 : Int32).toNatClampNeg (vp_nar .byte x_41))))] H := hP
  have hD : va_D A [(md 100, .inr (12, [.int 0, .ref (md 1), .ref (md 2), .ref (md 3), .int 0, .int 0, .int 0, .int 0, .ref (md 8), .ref (md 9), .ref (md 10), .ref (md 11), .ref (md 12), .ref (md 13), .ref (md 14), .ref (md 15), .ref (md 16), .ref (md 17), .ref (md 18), .ref (md 19), .ref (md 20), .ref (md 21), .ref (md 22), .int 0, .ref (md 24), .int 0, .ref (md 26), .int 0, .ref (md 28), .ref (md 29), .ref (md 30), .ref (md 31), .ref (md 32), .ref (md 33), .int 0, .int 0, .ref (md 36), .ref (md 37), .ref (md 38), .ref (md 39), .ref (md 40), .int 0, .int (-1), .int 0, .ref (md 44), .ref (md 45), .ref (md 46), .int 0, .ref (md 48), .ref (md 49), .int 0, .ref (md 51), .int 0, .ref (md 53), .ref (md 54), .ref (md 55), .ref (md 56), .ref (md 57), .ref (md 58), .ref (md 59), .ref (md 60), .ref (md 61), .ref (md 62), .ref (md 63), .int 0, .int 0, .int 0, .int 0, .int 0, .int 0, .ref (md 70), .int 0, .ref (md 72), .int 0, .int 400000, .int 0, .int 0])), (md 1, .inl (mc 1, 8300, .inl (upd f_39 (13 : Int32).toNatClampNeg (vp_nar .byte x_41))))] := hD
  generalize upd f_39 (13 : Int32).toNatClampNeg (vp_nar .byte x_41) = f_42 at hP hD
  refine lv_iinc (v := 14) (lv' := [(6, .int 14), (0, .ref (md 100)), (1, .int a0), (2, .int a1), (3, .int a2), (4, .int a3), (5, .int a4)]) hx hb d_mfeed_137 hl (k := 0) rfl (by decide) (by decide) rfl (fun ls hl => ?_)
  refine lv_goto (tgt := 60) hx hb d_mfeed_140 (by decide) ?_
  refine lv_iload hx hb d_mfeed_60 (lv_at hl 0 rfl) ?_
  refine lv_bipush (v := 20) hx hb d_mfeed_62 (by decide) ?_
  refine lv_icmp_ge (tgt := 143) hx hb d_mfeed_64 (by decide) (fun h => absurd h (by decide)) (fun _ => ?_)
  refine lv_aload_n hx hb d_mfeed_67 rfl (lv_at hl 1 rfl) ?_
  refine va_get (D := D) (ci := 12) (v := .ref (md 1)) (C := R_MM) (T := F_MM) (N := 77) hx hb hts i_MM hown hK hP 0 rfl rfl 1 (by decide) (hts _ kw_1383) (fun _ h9 => h9) rfl d_mfeed_68 ?_
  refine lv_aload_n hx hb d_mfeed_71 rfl (lv_at hl 1 rfl) ?_
  refine va_get (D := D) (ci := 12) (v := .int 0) (C := R_MM) (T := F_MM) (N := 77) hx hb hts i_MM hown hK hP 0 rfl rfl 4 (by decide) (hts _ kw_1386) (fun _ h9 => h9) rfl d_mfeed_72 ?_
  refine lv_iload hx hb d_mfeed_75 (lv_at hl 0 rfl) ?_
  refine lv_iadd hx hb d_mfeed_77 ?_
  refine w_i (y := 14) (by decide) ?_
  refine lv_iload hx hb d_mfeed_78 (lv_at hl 0 rfl) ?_
  refine lv_iconst (v := 4) hx hb d_mfeed_80 (by decide) ?_
  refine lv_icmp_ge (tgt := 88) hx hb d_mfeed_81 (by decide) (fun _ => ?_) (fun h => absurd h (by decide))
  refine lv_iload hx hb d_mfeed_88 (lv_at hl 0 rfl) ?_
  refine lv_bipush (v := 8) hx hb d_mfeed_90 (by decide) ?_
  refine lv_icmp_ge (tgt := 99) hx hb d_mfeed_92 (by decide) (fun _ => ?_) (fun h => absurd h (by decide))
  refine lv_iload hx hb d_mfeed_99 (lv_at hl 0 rfl) ?_
  refine lv_bipush (v := 12) hx hb d_mfeed_101 (by decide) ?_
  refine lv_icmp_ge (tgt := 110) hx hb d_mfeed_103 (by decide) (fun _ => ?_) (fun h => absurd h (by decide))
  refine lv_iload hx hb d_mfeed_110 (lv_at hl 0 rfl) ?_
  refine lv_bipush (v := 16) hx hb d_mfeed_112 (by decide) ?_
  refine lv_icmp_ge (tgt := 122) hx hb d_mfeed_114 (by decide) (fun h => absurd h (by decide)) (fun _ => ?_)
  refine lv_iload hx hb d_mfeed_117 (lv_at hl 5 rfl) ?_
  refine lv_goto (tgt := 124) hx hb d_mfeed_119 (by decide) ?_
  refine lv_bipush (v := 24) hx hb d_mfeed_124 (by decide) ?_
  refine lv_iload hx hb d_mfeed_126 (lv_at hl 0 rfl) ?_
  refine lv_iconst (v := 4) hx hb d_mfeed_128 (by decide) ?_
  refine lv_irem hx hb d_mfeed_129 (by decide) ?_
  refine w_i (y := 2) (by decide) ?_
  refine lv_bipush (v := 8) hx hb d_mfeed_130 (by decide) ?_
  refine lv_imul hx hb d_mfeed_132 ?_
  refine w_i (y := 16) (by decide) ?_
  refine lv_isub hx hb d_mfeed_133 ?_
  refine w_i (y := 8) (by decide) ?_
  refine lv_iushr hx hb d_mfeed_134 rfl ?_
  refine lv_topi (fun x_43 ex_43 => ?_)
  refine lv_i2b hx hb d_mfeed_135 rfl ?_
  refine lv_topi (fun x_44 ex_44 => ?_)
  refine va_bast hx hb hK hP hD hS 1 0 rfl rfl (i := 14) (x := x_44) (vp_in_nI (n := 14) (N := 8300) (by decide) (by decide)) d_mfeed_136 (fun H locs hP hD hS => ?_)
  have hP : va_P D cls [(md 100, .inr (12, [.int 0, .ref (md 1), .ref (md 2), .ref (md 3), .int 0, .int 0, .int 0, .int 0, .ref (md 8), .ref (md 9), .ref (md 10), .ref (md 11), .ref (md 12), .ref (md 13), .ref (md 14), .ref (md 15), .ref (md 16), .ref (md 17), .ref (md 18), .ref (md 19), .ref (md 20), .ref (md 21), .ref (md 22), .int 0, .ref (md 24), .int 0, .ref (md 26), .int 0, .ref (md 28), .ref (md 29), .ref (md 30), .ref (md 31), .ref (md 32), .ref (md 33), .int 0, .int 0, .ref (md 36), .ref (md 37), .ref (md 38), .ref (md 39), .ref (md 40), .int 0, .int (-1), .int 0, .ref (md 44), .ref (md 45), .ref (md 46), .int 0, .ref (md 48), .ref (md 49), .int 0, .ref (md 51), .int 0, .ref (md 53), .ref (md 54), .ref (md 55), .ref (md 56), .ref (md 57), .ref (md 58), .ref (md 59), .ref (md 60), .ref (md 61), .ref (md 62), .ref (md 63), .int 0, .int 0, .int 0, .int 0, .int 0, .int 0, .ref (md 70), .int 0, .ref (md 72), .int 0, .int 400000, .int 0, .int 0])), (md 1, .inl (mc 1, 8300, .inl (upd f_42 (14 : Int32).toNatClampNeg (vp_nar .byte x_44))))] H := hP
  have hD : va_D A [(md 100, .inr (12, [.int 0, .ref (md 1), .ref (md 2), .ref (md 3), .int 0, .int 0, .int 0, .int 0, .ref (md 8), .ref (md 9), .ref (md 10), .ref (md 11), .ref (md 12), .ref (md 13), .ref (md 14), .ref (md 15), .ref (md 16), .ref (md 17), .ref (md 18), .ref (md 19), .ref (md 20), .ref (md 21), .ref (md 22), .int 0, .ref (md 24), .int 0, .ref (md 26), .int 0, .ref (md 28), .ref (md 29), .ref (md 30), .ref (md 31), .ref (md 32), .ref (md 33), .int 0, .int 0, .ref (md 36), .ref (md 37), .ref (md 38), .ref (md 39), .ref (md 40), .int 0, .int (-1), .int 0, .ref (md 44), .ref (md 45), .ref (md 46), .int 0, .ref (md 48), .ref (md 49), .int 0, .ref (md 51), .int 0, .ref (md 53), .ref (md 54), .ref (md 55), .ref (md 56), .ref (md 57), .ref (md 58), .ref (md 59), .ref (md 60), .ref (md 61), .ref (md 62), .ref (md 63), .int 0, .int 0, .int 0, .int 0, .int 0, .int 0, .ref (md 70), .int 0, .ref (md 72), .int 0, .int 400000, .int 0, .int 0])), (md 1, .inl (mc 1, 8300, .inl (upd f_42 (14 : Int32).toNatClampNeg (vp_nar .byte x_44))))] := hD
  generalize upd f_42 (14 : Int32).toNatClampNeg (vp_nar .byte x_44) = f_45 at hP hD
  refine lv_iinc (v := 15) (lv' := [(6, .int 15), (0, .ref (md 100)), (1, .int a0), (2, .int a1), (3, .int a2), (4, .int a3), (5, .int a4)]) hx hb d_mfeed_137 hl (k := 0) rfl (by decide) (by decide) rfl (fun ls hl => ?_)
  refine lv_goto (tgt := 60) hx hb d_mfeed_140 (by decide) ?_
  refine lv_iload hx hb d_mfeed_60 (lv_at hl 0 rfl) ?_
  refine lv_bipush (v := 20) hx hb d_mfeed_62 (by decide) ?_
  refine lv_icmp_ge (tgt := 143) hx hb d_mfeed_64 (by decide) (fun h => absurd h (by decide)) (fun _ => ?_)
  refine lv_aload_n hx hb d_mfeed_67 rfl (lv_at hl 1 rfl) ?_
  refine va_get (D := D) (ci := 12) (v := .ref (md 1)) (C := R_MM) (T := F_MM) (N := 77) hx hb hts i_MM hown hK hP 0 rfl rfl 1 (by decide) (hts _ kw_1383) (fun _ h9 => h9) rfl d_mfeed_68 ?_
  refine lv_aload_n hx hb d_mfeed_71 rfl (lv_at hl 1 rfl) ?_
  refine va_get (D := D) (ci := 12) (v := .int 0) (C := R_MM) (T := F_MM) (N := 77) hx hb hts i_MM hown hK hP 0 rfl rfl 4 (by decide) (hts _ kw_1386) (fun _ h9 => h9) rfl d_mfeed_72 ?_
  refine lv_iload hx hb d_mfeed_75 (lv_at hl 0 rfl) ?_
  refine lv_iadd hx hb d_mfeed_77 ?_
  refine w_i (y := 15) (by decide) ?_
  refine lv_iload hx hb d_mfeed_78 (lv_at hl 0 rfl) ?_
  refine lv_iconst (v := 4) hx hb d_mfeed_80 (by decide) ?_
  refine lv_icmp_ge (tgt := 88) hx hb d_mfeed_81 (by decide) (fun _ => ?_) (fun h => absurd h (by decide))
  refine lv_iload hx hb d_mfeed_88 (lv_at hl 0 rfl) ?_
  refine lv_bipush (v := 8) hx hb d_mfeed_90 (by decide) ?_
  refine lv_icmp_ge (tgt := 99) hx hb d_mfeed_92 (by decide) (fun _ => ?_) (fun h => absurd h (by decide))
  refine lv_iload hx hb d_mfeed_99 (lv_at hl 0 rfl) ?_
  refine lv_bipush (v := 12) hx hb d_mfeed_101 (by decide) ?_
  refine lv_icmp_ge (tgt := 110) hx hb d_mfeed_103 (by decide) (fun _ => ?_) (fun h => absurd h (by decide))
  refine lv_iload hx hb d_mfeed_110 (lv_at hl 0 rfl) ?_
  refine lv_bipush (v := 16) hx hb d_mfeed_112 (by decide) ?_
  refine lv_icmp_ge (tgt := 122) hx hb d_mfeed_114 (by decide) (fun h => absurd h (by decide)) (fun _ => ?_)
  refine lv_iload hx hb d_mfeed_117 (lv_at hl 5 rfl) ?_
  refine lv_goto (tgt := 124) hx hb d_mfeed_119 (by decide) ?_
  refine lv_bipush (v := 24) hx hb d_mfeed_124 (by decide) ?_
  refine lv_iload hx hb d_mfeed_126 (lv_at hl 0 rfl) ?_
  refine lv_iconst (v := 4) hx hb d_mfeed_128 (by decide) ?_
  refine lv_irem hx hb d_mfeed_129 (by decide) ?_
  refine w_i (y := 3) (by decide) ?_
  refine lv_bipush (v := 8) hx hb d_mfeed_130 (by decide) ?_
  refine lv_imul hx hb d_mfeed_132 ?_
  refine w_i (y := 24) (by decide) ?_
  refine lv_isub hx hb d_mfeed_133 ?_
  refine w_i (y := 0) (by decide) ?_
  refine lv_iushr hx hb d_mfeed_134 rfl ?_
  refine lv_topi (fun x_46 ex_46 => ?_)
  refine lv_i2b hx hb d_mfeed_135 rfl ?_
  refine lv_topi (fun x_47 ex_47 => ?_)
  refine va_bast hx hb hK hP hD hS 1 0 rfl rfl (i := 15) (x := x_47) (vp_in_nI (n := 15) (N := 8300) (by decide) (by decide)) d_mfeed_136 (fun H locs hP hD hS => ?_)
  have hP : va_P D cls [(md 100, .inr (12, [.int 0, .ref (md 1), .ref (md 2), .ref (md 3), .int 0, .int 0, .int 0, .int 0, .ref (md 8), .ref (md 9), .ref (md 10), .ref (md 11), .ref (md 12), .ref (md 13), .ref (md 14), .ref (md 15), .ref (md 16), .ref (md 17), .ref (md 18), .ref (md 19), .ref (md 20), .ref (md 21), .ref (md 22), .int 0, .ref (md 24), .int 0, .ref (md 26), .int 0, .ref (md 28), .ref (md 29), .ref (md 30), .ref (md 31), .ref (md 32), .ref (md 33), .int 0, .int 0, .ref (md 36), .ref (md 37), .ref (md 38), .ref (md 39), .ref (md 40), .int 0, .int (-1), .int 0, .ref (md 44), .ref (md 45), .ref (md 46), .int 0, .ref (md 48), .ref (md 49), .int 0, .ref (md 51), .int 0, .ref (md 53), .ref (md 54), .ref (md 55), .ref (md 56), .ref (md 57), .ref (md 58), .ref (md 59), .ref (md 60), .ref (md 61), .ref (md 62), .ref (md 63), .int 0, .int 0, .int 0, .int 0, .int 0, .int 0, .ref (md 70), .int 0, .ref (md 72), .int 0, .int 400000, .int 0, .int 0])), (md 1, .inl (mc 1, 8300, .inl (upd f_45 (15 : Int32).toNatClampNeg (vp_nar .byte x_47))))] H := hP
  have hD : va_D A [(md 100, .inr (12, [.int 0, .ref (md 1), .ref (md 2), .ref (md 3), .int 0, .int 0, .int 0, .int 0, .ref (md 8), .ref (md 9), .ref (md 10), .ref (md 11), .ref (md 12), .ref (md 13), .ref (md 14), .ref (md 15), .ref (md 16), .ref (md 17), .ref (md 18), .ref (md 19), .ref (md 20), .ref (md 21), .ref (md 22), .int 0, .ref (md 24), .int 0, .ref (md 26), .int 0, .ref (md 28), .ref (md 29), .ref (md 30), .ref (md 31), .ref (md 32), .ref (md 33), .int 0, .int 0, .ref (md 36), .ref (md 37), .ref (md 38), .ref (md 39), .ref (md 40), .int 0, .int (-1), .int 0, .ref (md 44), .ref (md 45), .ref (md 46), .int 0, .ref (md 48), .ref (md 49), .int 0, .ref (md 51), .int 0, .ref (md 53), .ref (md 54), .ref (md 55), .ref (md 56), .ref (md 57), .ref (md 58), .ref (md 59), .ref (md 60), .ref (md 61), .ref (md 62), .ref (md 63), .int 0, .int 0, .int 0, .int 0, .int 0, .int 0, .ref (md 70), .int 0, .ref (md 72), .int 0, .int 400000, .int 0, .int 0])), (md 1, .inl (mc 1, 8300, .inl (upd f_45 (15 : Int32).toNatClampNeg (vp_nar .byte x_47))))] := hD
  generalize upd f_45 (15 : Int32).toNatClampNeg (vp_nar .byte x_47) = f_48 at hP hD
  refine lv_iinc (v := 16) (lv' := [(6, .int 16), (0, .ref (md 100)), (1, .int a0), (2, .int a1), (3, .int a2), (4, .int a3), (5, .int a4)]) hx hb d_mfeed_137 hl (k := 0) rfl (by decide) (by decide) rfl (fun ls hl => ?_)
  refine lv_goto (tgt := 60) hx hb d_mfeed_140 (by decide) ?_
  refine lv_iload hx hb d_mfeed_60 (lv_at hl 0 rfl) ?_
  refine lv_bipush (v := 20) hx hb d_mfeed_62 (by decide) ?_
  refine lv_icmp_ge (tgt := 143) hx hb d_mfeed_64 (by decide) (fun h => absurd h (by decide)) (fun _ => ?_)
  refine lv_aload_n hx hb d_mfeed_67 rfl (lv_at hl 1 rfl) ?_
  refine va_get (D := D) (ci := 12) (v := .ref (md 1)) (C := R_MM) (T := F_MM) (N := 77) hx hb hts i_MM hown hK hP 0 rfl rfl 1 (by decide) (hts _ kw_1383) (fun _ h9 => h9) rfl d_mfeed_68 ?_
  refine lv_aload_n hx hb d_mfeed_71 rfl (lv_at hl 1 rfl) ?_
  refine va_get (D := D) (ci := 12) (v := .int 0) (C := R_MM) (T := F_MM) (N := 77) hx hb hts i_MM hown hK hP 0 rfl rfl 4 (by decide) (hts _ kw_1386) (fun _ h9 => h9) rfl d_mfeed_72 ?_
  refine lv_iload hx hb d_mfeed_75 (lv_at hl 0 rfl) ?_
  refine lv_iadd hx hb d_mfeed_77 ?_
  refine w_i (y := 16) (by decide) ?_
  refine lv_iload hx hb d_mfeed_78 (lv_at hl 0 rfl) ?_
  refine lv_iconst (v := 4) hx hb d_mfeed_80 (by decide) ?_
  refine lv_icmp_ge (tgt := 88) hx hb d_mfeed_81 (by decide) (fun _ => ?_) (fun h => absurd h (by decide))
  refine lv_iload hx hb d_mfeed_88 (lv_at hl 0 rfl) ?_
  refine lv_bipush (v := 8) hx hb d_mfeed_90 (by decide) ?_
  refine lv_icmp_ge (tgt := 99) hx hb d_mfeed_92 (by decide) (fun _ => ?_) (fun h => absurd h (by decide))
  refine lv_iload hx hb d_mfeed_99 (lv_at hl 0 rfl) ?_
  refine lv_bipush (v := 12) hx hb d_mfeed_101 (by decide) ?_
  refine lv_icmp_ge (tgt := 110) hx hb d_mfeed_103 (by decide) (fun _ => ?_) (fun h => absurd h (by decide))
  refine lv_iload hx hb d_mfeed_110 (lv_at hl 0 rfl) ?_
  refine lv_bipush (v := 16) hx hb d_mfeed_112 (by decide) ?_
  refine lv_icmp_ge (tgt := 122) hx hb d_mfeed_114 (by decide) (fun _ => ?_) (fun h => absurd h (by decide))
  refine lv_iload hx hb d_mfeed_122 (lv_at hl 6 rfl) ?_
  refine lv_bipush (v := 24) hx hb d_mfeed_124 (by decide) ?_
  refine lv_iload hx hb d_mfeed_126 (lv_at hl 0 rfl) ?_
  refine lv_iconst (v := 4) hx hb d_mfeed_128 (by decide) ?_
  refine lv_irem hx hb d_mfeed_129 (by decide) ?_
  refine w_i (y := 0) (by decide) ?_
  refine lv_bipush (v := 8) hx hb d_mfeed_130 (by decide) ?_
  refine lv_imul hx hb d_mfeed_132 ?_
  refine w_i (y := 0) (by decide) ?_
  refine lv_isub hx hb d_mfeed_133 ?_
  refine w_i (y := 24) (by decide) ?_
  refine lv_iushr hx hb d_mfeed_134 rfl ?_
  refine lv_topi (fun x_49 ex_49 => ?_)
  refine lv_i2b hx hb d_mfeed_135 rfl ?_
  refine lv_topi (fun x_50 ex_50 => ?_)
  refine va_bast hx hb hK hP hD hS 1 0 rfl rfl (i := 16) (x := x_50) (vp_in_nI (n := 16) (N := 8300) (by decide) (by decide)) d_mfeed_136 (fun H locs hP hD hS => ?_)
  have hP : va_P D cls [(md 100, .inr (12, [.int 0, .ref (md 1), .ref (md 2), .ref (md 3), .int 0, .int 0, .int 0, .int 0, .ref (md 8), .ref (md 9), .ref (md 10), .ref (md 11), .ref (md 12), .ref (md 13), .ref (md 14), .ref (md 15), .ref (md 16), .ref (md 17), .ref (md 18), .ref (md 19), .ref (md 20), .ref (md 21), .ref (md 22), .int 0, .ref (md 24), .int 0, .ref (md 26), .int 0, .ref (md 28), .ref (md 29), .ref (md 30), .ref (md 31), .ref (md 32), .ref (md 33), .int 0, .int 0, .ref (md 36), .ref (md 37), .ref (md 38), .ref (md 39), .ref (md 40), .int 0, .int (-1), .int 0, .ref (md 44), .ref (md 45), .ref (md 46), .int 0, .ref (md 48), .ref (md 49), .int 0, .ref (md 51), .int 0, .ref (md 53), .ref (md 54), .ref (md 55), .ref (md 56), .ref (md 57), .ref (md 58), .ref (md 59), .ref (md 60), .ref (md 61), .ref (md 62), .ref (md 63), .int 0, .int 0, .int 0, .int 0, .int 0, .int 0, .ref (md 70), .int 0, .ref (md 72), .int 0, .int 400000, .int 0, .int 0])), (md 1, .inl (mc 1, 8300, .inl (upd f_48 (16 : Int32).toNatClampNeg (vp_nar .byte x_50))))] H := hP
  have hD : va_D A [(md 100, .inr (12, [.int 0, .ref (md 1), .ref (md 2), .ref (md 3), .int 0, .int 0, .int 0, .int 0, .ref (md 8), .ref (md 9), .ref (md 10), .ref (md 11), .ref (md 12), .ref (md 13), .ref (md 14), .ref (md 15), .ref (md 16), .ref (md 17), .ref (md 18), .ref (md 19), .ref (md 20), .ref (md 21), .ref (md 22), .int 0, .ref (md 24), .int 0, .ref (md 26), .int 0, .ref (md 28), .ref (md 29), .ref (md 30), .ref (md 31), .ref (md 32), .ref (md 33), .int 0, .int 0, .ref (md 36), .ref (md 37), .ref (md 38), .ref (md 39), .ref (md 40), .int 0, .int (-1), .int 0, .ref (md 44), .ref (md 45), .ref (md 46), .int 0, .ref (md 48), .ref (md 49), .int 0, .ref (md 51), .int 0, .ref (md 53), .ref (md 54), .ref (md 55), .ref (md 56), .ref (md 57), .ref (md 58), .ref (md 59), .ref (md 60), .ref (md 61), .ref (md 62), .ref (md 63), .int 0, .int 0, .int 0, .int 0, .int 0, .int 0, .ref (md 70), .int 0, .ref (md 72), .int 0, .int 400000, .int 0, .int 0])), (md 1, .inl (mc 1, 8300, .inl (upd f_48 (16 : Int32).toNatClampNeg (vp_nar .byte x_50))))] := hD
  generalize upd f_48 (16 : Int32).toNatClampNeg (vp_nar .byte x_50) = f_51 at hP hD
  refine lv_iinc (v := 17) (lv' := [(6, .int 17), (0, .ref (md 100)), (1, .int a0), (2, .int a1), (3, .int a2), (4, .int a3), (5, .int a4)]) hx hb d_mfeed_137 hl (k := 0) rfl (by decide) (by decide) rfl (fun ls hl => ?_)
  refine lv_goto (tgt := 60) hx hb d_mfeed_140 (by decide) ?_
  refine lv_iload hx hb d_mfeed_60 (lv_at hl 0 rfl) ?_
  refine lv_bipush (v := 20) hx hb d_mfeed_62 (by decide) ?_
  refine lv_icmp_ge (tgt := 143) hx hb d_mfeed_64 (by decide) (fun h => absurd h (by decide)) (fun _ => ?_)
  refine lv_aload_n hx hb d_mfeed_67 rfl (lv_at hl 1 rfl) ?_
  refine va_get (D := D) (ci := 12) (v := .ref (md 1)) (C := R_MM) (T := F_MM) (N := 77) hx hb hts i_MM hown hK hP 0 rfl rfl 1 (by decide) (hts _ kw_1383) (fun _ h9 => h9) rfl d_mfeed_68 ?_
  refine lv_aload_n hx hb d_mfeed_71 rfl (lv_at hl 1 rfl) ?_
  refine va_get (D := D) (ci := 12) (v := .int 0) (C := R_MM) (T := F_MM) (N := 77) hx hb hts i_MM hown hK hP 0 rfl rfl 4 (by decide) (hts _ kw_1386) (fun _ h9 => h9) rfl d_mfeed_72 ?_
  refine lv_iload hx hb d_mfeed_75 (lv_at hl 0 rfl) ?_
  refine lv_iadd hx hb d_mfeed_77 ?_
  refine w_i (y := 17) (by decide) ?_
  refine lv_iload hx hb d_mfeed_78 (lv_at hl 0 rfl) ?_
  refine lv_iconst (v := 4) hx hb d_mfeed_80 (by decide) ?_
  refine lv_icmp_ge (tgt := 88) hx hb d_mfeed_81 (by decide) (fun _ => ?_) (fun h => absurd h (by decide))
  refine lv_iload hx hb d_mfeed_88 (lv_at hl 0 rfl) ?_
  refine lv_bipush (v := 8) hx hb d_mfeed_90 (by decide) ?_
  refine lv_icmp_ge (tgt := 99) hx hb d_mfeed_92 (by decide) (fun _ => ?_) (fun h => absurd h (by decide))
  refine lv_iload hx hb d_mfeed_99 (lv_at hl 0 rfl) ?_
  refine lv_bipush (v := 12) hx hb d_mfeed_101 (by decide) ?_
  refine lv_icmp_ge (tgt := 110) hx hb d_mfeed_103 (by decide) (fun _ => ?_) (fun h => absurd h (by decide))
  refine lv_iload hx hb d_mfeed_110 (lv_at hl 0 rfl) ?_
  refine lv_bipush (v := 16) hx hb d_mfeed_112 (by decide) ?_
  refine lv_icmp_ge (tgt := 122) hx hb d_mfeed_114 (by decide) (fun _ => ?_) (fun h => absurd h (by decide))
  refine lv_iload hx hb d_mfeed_122 (lv_at hl 6 rfl) ?_
  refine lv_bipush (v := 24) hx hb d_mfeed_124 (by decide) ?_
  refine lv_iload hx hb d_mfeed_126 (lv_at hl 0 rfl) ?_
  refine lv_iconst (v := 4) hx hb d_mfeed_128 (by decide) ?_
  refine lv_irem hx hb d_mfeed_129 (by decide) ?_
  refine w_i (y := 1) (by decide) ?_
  refine lv_bipush (v := 8) hx hb d_mfeed_130 (by decide) ?_
  refine lv_imul hx hb d_mfeed_132 ?_
  refine w_i (y := 8) (by decide) ?_
  refine lv_isub hx hb d_mfeed_133 ?_
  refine w_i (y := 16) (by decide) ?_
  refine lv_iushr hx hb d_mfeed_134 rfl ?_
  refine lv_topi (fun x_52 ex_52 => ?_)
  refine lv_i2b hx hb d_mfeed_135 rfl ?_
  refine lv_topi (fun x_53 ex_53 => ?_)
  refine va_bast hx hb hK hP hD hS 1 0 rfl rfl (i := 17) (x := x_53) (vp_in_nI (n := 17) (N := 8300) (by decide) (by decide)) d_mfeed_136 (fun H locs hP hD hS => ?_)
  have hP : va_P D cls [(md 100, .inr (12, [.int 0, .ref (md 1), .ref (md 2), .ref (md 3), .int 0, .int 0, .int 0, .int 0, .ref (md 8), .ref (md 9), .ref (md 10), .ref (md 11), .ref (md 12), .ref (md 13), .ref (md 14), .ref (md 15), .ref (md 16), .ref (md 17), .ref (md 18), .ref (md 19), .ref (md 20), .ref (md 21), .ref (md 22), .int 0, .ref (md 24), .int 0, .ref (md 26), .int 0, .ref (md 28), .ref (md 29), .ref (md 30), .ref (md 31), .ref (md 32), .ref (md 33), .int 0, .int 0, .ref (md 36), .ref (md 37), .ref (md 38), .ref (md 39), .ref (md 40), .int 0, .int (-1), .int 0, .ref (md 44), .ref (md 45), .ref (md 46), .int 0, .ref (md 48), .ref (md 49), .int 0, .ref (md 51), .int 0, .ref (md 53), .ref (md 54), .ref (md 55), .ref (md 56), .ref (md 57), .ref (md 58), .ref (md 59), .ref (md 60), .ref (md 61), .ref (md 62), .ref (md 63), .int 0, .int 0, .int 0, .int 0, .int 0, .int 0, .ref (md 70), .int 0, .ref (md 72), .int 0, .int 400000, .int 0, .int 0])), (md 1, .inl (mc 1, 8300, .inl (upd f_51 (17 : Int32).toNatClampNeg (vp_nar .byte x_53))))] H := hP
  have hD : va_D A [(md 100, .inr (12, [.int 0, .ref (md 1), .ref (md 2), .ref (md 3), .int 0, .int 0, .int 0, .int 0, .ref (md 8), .ref (md 9), .ref (md 10), .ref (md 11), .ref (md 12), .ref (md 13), .ref (md 14), .ref (md 15), .ref (md 16), .ref (md 17), .ref (md 18), .ref (md 19), .ref (md 20), .ref (md 21), .ref (md 22), .int 0, .ref (md 24), .int 0, .ref (md 26), .int 0, .ref (md 28), .ref (md 29), .ref (md 30), .ref (md 31), .ref (md 32), .ref (md 33), .int 0, .int 0, .ref (md 36), .ref (md 37), .ref (md 38), .ref (md 39), .ref (md 40), .int 0, .int (-1), .int 0, .ref (md 44), .ref (md 45), .ref (md 46), .int 0, .ref (md 48), .ref (md 49), .int 0, .ref (md 51), .int 0, .ref (md 53), .ref (md 54), .ref (md 55), .ref (md 56), .ref (md 57), .ref (md 58), .ref (md 59), .ref (md 60), .ref (md 61), .ref (md 62), .ref (md 63), .int 0, .int 0, .int 0, .int 0, .int 0, .int 0, .ref (md 70), .int 0, .ref (md 72), .int 0, .int 400000, .int 0, .int 0])), (md 1, .inl (mc 1, 8300, .inl (upd f_51 (17 : Int32).toNatClampNeg (vp_nar .byte x_53))))] := hD
  generalize upd f_51 (17 : Int32).toNatClampNeg (vp_nar .byte x_53) = f_54 at hP hD
  refine lv_iinc (v := 18) (lv' := [(6, .int 18), (0, .ref (md 100)), (1, .int a0), (2, .int a1), (3, .int a2), (4, .int a3), (5, .int a4)]) hx hb d_mfeed_137 hl (k := 0) rfl (by decide) (by decide) rfl (fun ls hl => ?_)
  refine lv_goto (tgt := 60) hx hb d_mfeed_140 (by decide) ?_
  refine lv_iload hx hb d_mfeed_60 (lv_at hl 0 rfl) ?_
  refine lv_bipush (v := 20) hx hb d_mfeed_62 (by decide) ?_
  refine lv_icmp_ge (tgt := 143) hx hb d_mfeed_64 (by decide) (fun h => absurd h (by decide)) (fun _ => ?_)
  refine lv_aload_n hx hb d_mfeed_67 rfl (lv_at hl 1 rfl) ?_
  refine va_get (D := D) (ci := 12) (v := .ref (md 1)) (C := R_MM) (T := F_MM) (N := 77) hx hb hts i_MM hown hK hP 0 rfl rfl 1 (by decide) (hts _ kw_1383) (fun _ h9 => h9) rfl d_mfeed_68 ?_
  refine lv_aload_n hx hb d_mfeed_71 rfl (lv_at hl 1 rfl) ?_
  refine va_get (D := D) (ci := 12) (v := .int 0) (C := R_MM) (T := F_MM) (N := 77) hx hb hts i_MM hown hK hP 0 rfl rfl 4 (by decide) (hts _ kw_1386) (fun _ h9 => h9) rfl d_mfeed_72 ?_
  refine lv_iload hx hb d_mfeed_75 (lv_at hl 0 rfl) ?_
  refine lv_iadd hx hb d_mfeed_77 ?_
  refine w_i (y := 18) (by decide) ?_
  refine lv_iload hx hb d_mfeed_78 (lv_at hl 0 rfl) ?_
  refine lv_iconst (v := 4) hx hb d_mfeed_80 (by decide) ?_
  refine lv_icmp_ge (tgt := 88) hx hb d_mfeed_81 (by decide) (fun _ => ?_) (fun h => absurd h (by decide))
  refine lv_iload hx hb d_mfeed_88 (lv_at hl 0 rfl) ?_
  refine lv_bipush (v := 8) hx hb d_mfeed_90 (by decide) ?_
  refine lv_icmp_ge (tgt := 99) hx hb d_mfeed_92 (by decide) (fun _ => ?_) (fun h => absurd h (by decide))
  refine lv_iload hx hb d_mfeed_99 (lv_at hl 0 rfl) ?_
  refine lv_bipush (v := 12) hx hb d_mfeed_101 (by decide) ?_
  refine lv_icmp_ge (tgt := 110) hx hb d_mfeed_103 (by decide) (fun _ => ?_) (fun h => absurd h (by decide))
  refine lv_iload hx hb d_mfeed_110 (lv_at hl 0 rfl) ?_
  refine lv_bipush (v := 16) hx hb d_mfeed_112 (by decide) ?_
  refine lv_icmp_ge (tgt := 122) hx hb d_mfeed_114 (by decide) (fun _ => ?_) (fun h => absurd h (by decide))
  refine lv_iload hx hb d_mfeed_122 (lv_at hl 6 rfl) ?_
  refine lv_bipush (v := 24) hx hb d_mfeed_124 (by decide) ?_
  refine lv_iload hx hb d_mfeed_126 (lv_at hl 0 rfl) ?_
  refine lv_iconst (v := 4) hx hb d_mfeed_128 (by decide) ?_
  refine lv_irem hx hb d_mfeed_129 (by decide) ?_
  refine w_i (y := 2) (by decide) ?_
  refine lv_bipush (v := 8) hx hb d_mfeed_130 (by decide) ?_
  refine lv_imul hx hb d_mfeed_132 ?_
  refine w_i (y := 16) (by decide) ?_
  refine lv_isub hx hb d_mfeed_133 ?_
  refine w_i (y := 8) (by decide) ?_
  refine lv_iushr hx hb d_mfeed_134 rfl ?_
  refine lv_topi (fun x_55 ex_55 => ?_)
  refine lv_i2b hx hb d_mfeed_135 rfl ?_
  refine lv_topi (fun x_56 ex_56 => ?_)
  refine va_bast hx hb hK hP hD hS 1 0 rfl rfl (i := 18) (x := x_56) (vp_in_nI (n := 18) (N := 8300) (by decide) (by decide)) d_mfeed_136 (fun H locs hP hD hS => ?_)
  have hP : va_P D cls [(md 100, .inr (12, [.int 0, .ref (md 1), .ref (md 2), .ref (md 3), .int 0, .int 0, .int 0, .int 0, .ref (md 8), .ref (md 9), .ref (md 10), .ref (md 11), .ref (md 12), .ref (md 13), .ref (md 14), .ref (md 15), .ref (md 16), .ref (md 17), .ref (md 18), .ref (md 19), .ref (md 20), .ref (md 21), .ref (md 22), .int 0, .ref (md 24), .int 0, .ref (md 26), .int 0, .ref (md 28), .ref (md 29), .ref (md 30), .ref (md 31), .ref (md 32), .ref (md 33), .int 0, .int 0, .ref (md 36), .ref (md 37), .ref (md 38), .ref (md 39), .ref (md 40), .int 0, .int (-1), .int 0, .ref (md 44), .ref (md 45), .ref (md 46), .int 0, .ref (md 48), .ref (md 49), .int 0, .ref (md 51), .int 0, .ref (md 53), .ref (md 54), .ref (md 55), .ref (md 56), .ref (md 57), .ref (md 58), .ref (md 59), .ref (md 60), .ref (md 61), .ref (md 62), .ref (md 63), .int 0, .int 0, .int 0, .int 0, .int 0, .int 0, .ref (md 70), .int 0, .ref (md 72), .int 0, .int 400000, .int 0, .int 0])), (md 1, .inl (mc 1, 8300, .inl (upd f_54 (18 : Int32).toNatClampNeg (vp_nar .byte x_56))))] H := hP
  have hD : va_D A [(md 100, .inr (12, [.int 0, .ref (md 1), .ref (md 2), .ref (md 3), .int 0, .int 0, .int 0, .int 0, .ref (md 8), .ref (md 9), .ref (md 10), .ref (md 11), .ref (md 12), .ref (md 13), .ref (md 14), .ref (md 15), .ref (md 16), .ref (md 17), .ref (md 18), .ref (md 19), .ref (md 20), .ref (md 21), .ref (md 22), .int 0, .ref (md 24), .int 0, .ref (md 26), .int 0, .ref (md 28), .ref (md 29), .ref (md 30), .ref (md 31), .ref (md 32), .ref (md 33), .int 0, .int 0, .ref (md 36), .ref (md 37), .ref (md 38), .ref (md 39), .ref (md 40), .int 0, .int (-1), .int 0, .ref (md 44), .ref (md 45), .ref (md 46), .int 0, .ref (md 48), .ref (md 49), .int 0, .ref (md 51), .int 0, .ref (md 53), .ref (md 54), .ref (md 55), .ref (md 56), .ref (md 57), .ref (md 58), .ref (md 59), .ref (md 60), .ref (md 61), .ref (md 62), .ref (md 63), .int 0, .int 0, .int 0, .int 0, .int 0, .int 0, .ref (md 70), .int 0, .ref (md 72), .int 0, .int 400000, .int 0, .int 0])), (md 1, .inl (mc 1, 8300, .inl (upd f_54 (18 : Int32).toNatClampNeg (vp_nar .byte x_56))))] := hD
  generalize upd f_54 (18 : Int32).toNatClampNeg (vp_nar .byte x_56) = f_57 at hP hD
  refine lv_iinc (v := 19) (lv' := [(6, .int 19), (0, .ref (md 100)), (1, .int a0), (2, .int a1), (3, .int a2), (4, .int a3), (5, .int a4)]) hx hb d_mfeed_137 hl (k := 0) rfl (by decide) (by decide) rfl (fun ls hl => ?_)
  refine lv_goto (tgt := 60) hx hb d_mfeed_140 (by decide) ?_
  refine lv_iload hx hb d_mfeed_60 (lv_at hl 0 rfl) ?_
  refine lv_bipush (v := 20) hx hb d_mfeed_62 (by decide) ?_
  refine lv_icmp_ge (tgt := 143) hx hb d_mfeed_64 (by decide) (fun h => absurd h (by decide)) (fun _ => ?_)
  refine lv_aload_n hx hb d_mfeed_67 rfl (lv_at hl 1 rfl) ?_
  refine va_get (D := D) (ci := 12) (v := .ref (md 1)) (C := R_MM) (T := F_MM) (N := 77) hx hb hts i_MM hown hK hP 0 rfl rfl 1 (by decide) (hts _ kw_1383) (fun _ h9 => h9) rfl d_mfeed_68 ?_
  refine lv_aload_n hx hb d_mfeed_71 rfl (lv_at hl 1 rfl) ?_
  refine va_get (D := D) (ci := 12) (v := .int 0) (C := R_MM) (T := F_MM) (N := 77) hx hb hts i_MM hown hK hP 0 rfl rfl 4 (by decide) (hts _ kw_1386) (fun _ h9 => h9) rfl d_mfeed_72 ?_
  refine lv_iload hx hb d_mfeed_75 (lv_at hl 0 rfl) ?_
  refine lv_iadd hx hb d_mfeed_77 ?_
  refine w_i (y := 19) (by decide) ?_
  refine lv_iload hx hb d_mfeed_78 (lv_at hl 0 rfl) ?_
  refine lv_iconst (v := 4) hx hb d_mfeed_80 (by decide) ?_
  refine lv_icmp_ge (tgt := 88) hx hb d_mfeed_81 (by decide) (fun _ => ?_) (fun h => absurd h (by decide))
  refine lv_iload hx hb d_mfeed_88 (lv_at hl 0 rfl) ?_
  refine lv_bipush (v := 8) hx hb d_mfeed_90 (by decide) ?_
  refine lv_icmp_ge (tgt := 99) hx hb d_mfeed_92 (by decide) (fun _ => ?_) (fun h => absurd h (by decide))
  refine lv_iload hx hb d_mfeed_99 (lv_at hl 0 rfl) ?_
  refine lv_bipush (v := 12) hx hb d_mfeed_101 (by decide) ?_
  refine lv_icmp_ge (tgt := 110) hx hb d_mfeed_103 (by decide) (fun _ => ?_) (fun h => absurd h (by decide))
  refine lv_iload hx hb d_mfeed_110 (lv_at hl 0 rfl) ?_
  refine lv_bipush (v := 16) hx hb d_mfeed_112 (by decide) ?_
  refine lv_icmp_ge (tgt := 122) hx hb d_mfeed_114 (by decide) (fun _ => ?_) (fun h => absurd h (by decide))
  refine lv_iload hx hb d_mfeed_122 (lv_at hl 6 rfl) ?_
  refine lv_bipush (v := 24) hx hb d_mfeed_124 (by decide) ?_
  refine lv_iload hx hb d_mfeed_126 (lv_at hl 0 rfl) ?_
  refine lv_iconst (v := 4) hx hb d_mfeed_128 (by decide) ?_
  refine lv_irem hx hb d_mfeed_129 (by decide) ?_
  refine w_i (y := 3) (by decide) ?_
  refine lv_bipush (v := 8) hx hb d_mfeed_130 (by decide) ?_
  refine lv_imul hx hb d_mfeed_132 ?_
  refine w_i (y := 24) (by decide) ?_
  refine lv_isub hx hb d_mfeed_133 ?_
  refine w_i (y := 0) (by decide) ?_
  refine lv_iushr hx hb d_mfeed_134 rfl ?_
  refine lv_topi (fun x_58 ex_58 => ?_)
  refine lv_i2b hx hb d_mfeed_135 rfl ?_
  refine lv_topi (fun x_59 ex_59 => ?_)
  refine va_bast hx hb hK hP hD hS 1 0 rfl rfl (i := 19) (x := x_59) (vp_in_nI (n := 19) (N := 8300) (by decide) (by decide)) d_mfeed_136 (fun H locs hP hD hS => ?_)
  have hP : va_P D cls [(md 100, .inr (12, [.int 0, .ref (md 1), .ref (md 2), .ref (md 3), .int 0, .int 0, .int 0, .int 0, .ref (md 8), .ref (md 9), .ref (md 10), .ref (md 11), .ref (md 12), .ref (md 13), .ref (md 14), .ref (md 15), .ref (md 16), .ref (md 17), .ref (md 18), .ref (md 19), .ref (md 20), .ref (md 21), .ref (md 22), .int 0, .ref (md 24), .int 0, .ref (md 26), .int 0, .ref (md 28), .ref (md 29), .ref (md 30), .ref (md 31), .ref (md 32), .ref (md 33), .int 0, .int 0, .ref (md 36), .ref (md 37), .ref (md 38), .ref (md 39), .ref (md 40), .int 0, .int (-1), .int 0, .ref (md 44), .ref (md 45), .ref (md 46), .int 0, .ref (md 48), .ref (md 49), .int 0, .ref (md 51), .int 0, .ref (md 53), .ref (md 54), .ref (md 55), .ref (md 56), .ref (md 57), .ref (md 58), .ref (md 59), .ref (md 60), .ref (md 61), .ref (md 62), .ref (md 63), .int 0, .int 0, .int 0, .int 0, .int 0, .int 0, .ref (md 70), .int 0, .ref (md 72), .int 0, .int 400000, .int 0, .int 0])), (md 1, .inl (mc 1, 8300, .inl (upd f_57 (19 : Int32).toNatClampNeg (vp_nar .byte x_59))))] H := hP
  have hD : va_D A [(md 100, .inr (12, [.int 0, .ref (md 1), .ref (md 2), .ref (md 3), .int 0, .int 0, .int 0, .int 0, .ref (md 8), .ref (md 9), .ref (md 10), .ref (md 11), .ref (md 12), .ref (md 13), .ref (md 14), .ref (md 15), .ref (md 16), .ref (md 17), .ref (md 18), .ref (md 19), .ref (md 20), .ref (md 21), .ref (md 22), .int 0, .ref (md 24), .int 0, .ref (md 26), .int 0, .ref (md 28), .ref (md 29), .ref (md 30), .ref (md 31), .ref (md 32), .ref (md 33), .int 0, .int 0, .ref (md 36), .ref (md 37), .ref (md 38), .ref (md 39), .ref (md 40), .int 0, .int (-1), .int 0, .ref (md 44), .ref (md 45), .ref (md 46), .int 0, .ref (md 48), .ref (md 49), .int 0, .ref (md 51), .int 0, .ref (md 53), .ref (md 54), .ref (md 55), .ref (md 56), .ref (md 57), .ref (md 58), .ref (md 59), .ref (md 60), .ref (md 61), .ref (md 62), .ref (md 63), .int 0, .int 0, .int 0, .int 0, .int 0, .int 0, .ref (md 70), .int 0, .ref (md 72), .int 0, .int 400000, .int 0, .int 0])), (md 1, .inl (mc 1, 8300, .inl (upd f_57 (19 : Int32).toNatClampNeg (vp_nar .byte x_59))))] := hD
  generalize upd f_57 (19 : Int32).toNatClampNeg (vp_nar .byte x_59) = f_60 at hP hD
  refine lv_iinc (v := 20) (lv' := [(6, .int 20), (0, .ref (md 100)), (1, .int a0), (2, .int a1), (3, .int a2), (4, .int a3), (5, .int a4)]) hx hb d_mfeed_137 hl (k := 0) rfl (by decide) (by decide) rfl (fun ls hl => ?_)
  refine lv_goto (tgt := 60) hx hb d_mfeed_140 (by decide) ?_
  refine lv_iload hx hb d_mfeed_60 (lv_at hl 0 rfl) ?_
  refine lv_bipush (v := 20) hx hb d_mfeed_62 (by decide) ?_
  refine lv_icmp_ge (tgt := 143) hx hb d_mfeed_64 (by decide) (fun _ => ?_) (fun h => absurd h (by decide))
  refine lv_aload_n hx hb d_mfeed_143 rfl (lv_at hl 1 rfl) ?_
  refine lv_dup hx hb d_mfeed_144 rfl ?_
  refine va_get (D := D) (ci := 12) (v := .int 0) (C := R_MM) (T := F_MM) (N := 77) hx hb hts i_MM hown hK hP 0 rfl rfl 4 (by decide) (hts _ kw_1386) (fun _ h9 => h9) rfl d_mfeed_145 ?_
  refine lv_bipush (v := 20) hx hb d_mfeed_148 (by decide) ?_
  refine lv_iadd hx hb d_mfeed_150 ?_
  refine w_i (y := 20) (by decide) ?_
  refine va_put (D := D) (ci := 12) (v := .int 20) (ty := .int) (C := R_MM) (T := F_MM) (N := 77) hx hb hts i_MM t_MM t_MM_ok n_MM hown hK hP hD hS 0 rfl rfl 4 (by decide) (hts _ kw_1386) (fun _ h9 => h9) rfl (by decide +kernel) rfl rfl (Nat.le_of_ble_eq_true rfl) d_mfeed_151 (fun H locs hP hD hS => ?_)
  have hP : va_P D cls [(md 100, .inr (12, [.int 0, .ref (md 1), .ref (md 2), .ref (md 3), .int 20, .int 0, .int 0, .int 0, .ref (md 8), .ref (md 9), .ref (md 10), .ref (md 11), .ref (md 12), .ref (md 13), .ref (md 14), .ref (md 15), .ref (md 16), .ref (md 17), .ref (md 18), .ref (md 19), .ref (md 20), .ref (md 21), .ref (md 22), .int 0, .ref (md 24), .int 0, .ref (md 26), .int 0, .ref (md 28), .ref (md 29), .ref (md 30), .ref (md 31), .ref (md 32), .ref (md 33), .int 0, .int 0, .ref (md 36), .ref (md 37), .ref (md 38), .ref (md 39), .ref (md 40), .int 0, .int (-1), .int 0, .ref (md 44), .ref (md 45), .ref (md 46), .int 0, .ref (md 48), .ref (md 49), .int 0, .ref (md 51), .int 0, .ref (md 53), .ref (md 54), .ref (md 55), .ref (md 56), .ref (md 57), .ref (md 58), .ref (md 59), .ref (md 60), .ref (md 61), .ref (md 62), .ref (md 63), .int 0, .int 0, .int 0, .int 0, .int 0, .int 0, .ref (md 70), .int 0, .ref (md 72), .int 0, .int 400000, .int 0, .int 0])), (md 1, .inl (mc 1, 8300, .inl f_60))] H := hP
  have hD : va_D A [(md 100, .inr (12, [.int 0, .ref (md 1), .ref (md 2), .ref (md 3), .int 20, .int 0, .int 0, .int 0, .ref (md 8), .ref (md 9), .ref (md 10), .ref (md 11), .ref (md 12), .ref (md 13), .ref (md 14), .ref (md 15), .ref (md 16), .ref (md 17), .ref (md 18), .ref (md 19), .ref (md 20), .ref (md 21), .ref (md 22), .int 0, .ref (md 24), .int 0, .ref (md 26), .int 0, .ref (md 28), .ref (md 29), .ref (md 30), .ref (md 31), .ref (md 32), .ref (md 33), .int 0, .int 0, .ref (md 36), .ref (md 37), .ref (md 38), .ref (md 39), .ref (md 40), .int 0, .int (-1), .int 0, .ref (md 44), .ref (md 45), .ref (md 46), .int 0, .ref (md 48), .ref (md 49), .int 0, .ref (md 51), .int 0, .ref (md 53), .ref (md 54), .ref (md 55), .ref (md 56), .ref (md 57), .ref (md 58), .ref (md 59), .ref (md 60), .ref (md 61), .ref (md 62), .ref (md 63), .int 0, .int 0, .int 0, .int 0, .int 0, .int 0, .ref (md 70), .int 0, .ref (md 72), .int 0, .int 400000, .int 0, .int 0])), (md 1, .inl (mc 1, 8300, .inl f_60))] := hD
  refine lv_aload_n hx hb d_mfeed_154 rfl (lv_at hl 1 rfl) ?_
  refine va_get (D := D) (ci := 12) (v := .int 20) (C := R_MM) (T := F_MM) (N := 77) hx hb hts i_MM hown hK hP 0 rfl rfl 4 (by decide) (hts _ kw_1386) (fun _ h9 => h9) rfl d_mfeed_155 ?_
  have hk : 0 = 0 := by first | rfl | (simp []; done) | (simp_all []; done)
  exact W.iret (v := 20) hx hb hr (fun t ht hW => ⟨⟨20, [.ref (md 1), .ref (md 2), .ref (md 3), .int 20, .int 0, .int 0, .int 0, .ref (md 8), .ref (md 9), .ref (md 10), .ref (md 11), .ref (md 12), .ref (md 13), .ref (md 14), .ref (md 15), .ref (md 16), .ref (md 17), .ref (md 18), .ref (md 19), .ref (md 20), .ref (md 21), .ref (md 22), .int 0, .ref (md 24), .int 0, .ref (md 26), .int 0, .ref (md 28), .ref (md 29), .ref (md 30), .ref (md 31), .ref (md 32), .ref (md 33), .int 0, .int 0, .ref (md 36), .ref (md 37), .ref (md 38), .ref (md 39), .ref (md 40), .int 0, .int (-1), .int 0, .ref (md 44), .ref (md 45), .ref (md 46), .int 0, .ref (md 48), .ref (md 49), .int 0, .ref (md 51), .int 0, .ref (md 53), .ref (md 54), .ref (md 55), .ref (md 56), .ref (md 57), .ref (md 58), .ref (md 59), .ref (md 60), .ref (md 61), .ref (md 62), .ref (md 63), .int 0, .int 0, .int 0, .int 0, .int 0, .int 0, .ref (md 70), .int 0, .ref (md 72), .int 0, .int 400000, .int 0, .int 0], rfl, (fun _ => by first | rfl | (simp []; done) | (simp_all []; done)), by rw [ht]; exact hP.sub [0] rfl, va_K.moved hW.alike (hK.sub (tys' := []) [] rfl), hD.sub [0] (by decide) rfl⟩, hS.F ht⟩) hS.2.2 d_mfeed_158
