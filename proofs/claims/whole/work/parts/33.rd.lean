def m_rjson_J218 (S : MS) : Option (MS ⊕ MS) := some (.inl (S))
theorem d_rjson_0 : decode prog_14_method_48_code 0 = .ok (.aload_n 0, 1) := by decide +kernel
theorem d_rjson_1 : decode prog_14_method_48_code 1 = .ok (.iconst 0, 1) := by decide +kernel
theorem d_rjson_2 : decode prog_14_method_48_code 2 = .ok (.putfield 345, 3) := by decide +kernel
theorem d_rjson_5 : decode prog_14_method_48_code 5 = .ok (.aload_n 0, 1) := by decide +kernel
theorem d_rjson_6 : decode prog_14_method_48_code 6 = .ok (.iconst 0, 1) := by decide +kernel
theorem d_rjson_7 : decode prog_14_method_48_code 7 = .ok (.putfield 332, 3) := by decide +kernel
theorem d_rjson_10 : decode prog_14_method_48_code 10 = .ok (.aload_n 0, 1) := by decide +kernel
theorem d_rjson_11 : decode prog_14_method_48_code 11 = .ok (.iconst 0, 1) := by decide +kernel
theorem d_rjson_12 : decode prog_14_method_48_code 12 = .ok (.putfield 313, 3) := by decide +kernel
theorem d_rjson_15 : decode prog_14_method_48_code 15 = .ok (.aload_n 0, 1) := by decide +kernel
theorem d_rjson_16 : decode prog_14_method_48_code 16 = .ok (.iconst 0, 1) := by decide +kernel
theorem d_rjson_17 : decode prog_14_method_48_code 17 = .ok (.putfield 348, 3) := by decide +kernel
theorem d_rjson_20 : decode prog_14_method_48_code 20 = .ok (.aload_n 0, 1) := by decide +kernel
theorem d_rjson_21 : decode prog_14_method_48_code 21 = .ok (.iconst 0, 1) := by decide +kernel
theorem d_rjson_22 : decode prog_14_method_48_code 22 = .ok (.putfield 324, 3) := by decide +kernel
theorem d_rjson_25 : decode prog_14_method_48_code 25 = .ok (.aload_n 0, 1) := by decide +kernel
theorem d_rjson_26 : decode prog_14_method_48_code 26 = .ok (.iconst 2, 1) := by decide +kernel
theorem d_rjson_27 : decode prog_14_method_48_code 27 = .ok (.putfield 364, 3) := by decide +kernel
theorem d_rjson_30 : decode prog_14_method_48_code 30 = .ok (.aload_n 0, 1) := by decide +kernel
theorem d_rjson_31 : decode prog_14_method_48_code 31 = .ok (.iconst 0, 1) := by decide +kernel
theorem d_rjson_32 : decode prog_14_method_48_code 32 = .ok (.iconst 0, 1) := by decide +kernel
theorem d_rjson_33 : decode prog_14_method_48_code 33 = .ok (.invokevirtual 374, 3) := by decide +kernel
theorem d_rjson_36 : decode prog_14_method_48_code 36 = .ok (.aload_n 0, 1) := by decide +kernel
theorem d_rjson_37 : decode prog_14_method_48_code 37 = .ok (.getfield 324, 3) := by decide +kernel
theorem d_rjson_40 : decode prog_14_method_48_code 40 = .ok (.ifCond .ne 181, 3) := by decide +kernel
theorem d_rjson_43 : decode prog_14_method_48_code 43 = .ok (.aload_n 0, 1) := by decide +kernel
theorem d_rjson_44 : decode prog_14_method_48_code 44 = .ok (.getfield 348, 3) := by decide +kernel
theorem d_rjson_47 : decode prog_14_method_48_code 47 = .ok (.ifCond .le 174, 3) := by decide +kernel
theorem d_rjson_50 : decode prog_14_method_48_code 50 = .ok (.aload_n 0, 1) := by decide +kernel
theorem d_rjson_51 : decode prog_14_method_48_code 51 = .ok (.getfield 133, 3) := by decide +kernel
theorem d_rjson_54 : decode prog_14_method_48_code 54 = .ok (.aload_n 0, 1) := by decide +kernel
theorem d_rjson_55 : decode prog_14_method_48_code 55 = .ok (.getfield 163, 3) := by decide +kernel
theorem d_rjson_58 : decode prog_14_method_48_code 58 = .ok (.aload_n 0, 1) := by decide +kernel
theorem d_rjson_59 : decode prog_14_method_48_code 59 = .ok (.getfield 348, 3) := by decide +kernel
theorem d_rjson_62 : decode prog_14_method_48_code 62 = .ok (.iconst 1, 1) := by decide +kernel
theorem d_rjson_63 : decode prog_14_method_48_code 63 = .ok (.isub, 1) := by decide +kernel
theorem d_rjson_64 : decode prog_14_method_48_code 64 = .ok (.iaload, 1) := by decide +kernel
theorem d_rjson_65 : decode prog_14_method_48_code 65 = .ok (.iaload, 1) := by decide +kernel
theorem d_rjson_66 : decode prog_14_method_48_code 66 = .ok (.bipush 6, 2) := by decide +kernel
theorem d_rjson_68 : decode prog_14_method_48_code 68 = .ok (.if_icmp .ne 7, 3) := by decide +kernel
theorem d_rjson_75 : decode prog_14_method_48_code 75 = .ok (.iconst 0, 1) := by decide +kernel
theorem d_rjson_76 : decode prog_14_method_48_code 76 = .ok (.istore_n 1, 1) := by decide +kernel
theorem d_rjson_77 : decode prog_14_method_48_code 77 = .ok (.iload_n 1, 1) := by decide +kernel
theorem d_rjson_78 : decode prog_14_method_48_code 78 = .ok (.ifCond .eq 8, 3) := by decide +kernel
theorem d_rjson_86 : decode prog_14_method_48_code 86 = .ok (.bipush 93, 2) := by decide +kernel
theorem d_rjson_88 : decode prog_14_method_48_code 88 = .ok (.istore_n 2, 1) := by decide +kernel
theorem d_rjson_89 : decode prog_14_method_48_code 89 = .ok (.aload_n 0, 1) := by decide +kernel
theorem d_rjson_90 : decode prog_14_method_48_code 90 = .ok (.invokevirtual 342, 3) := by decide +kernel
theorem d_rjson_93 : decode prog_14_method_48_code 93 = .ok (.aload_n 0, 1) := by decide +kernel
theorem d_rjson_94 : decode prog_14_method_48_code 94 = .ok (.getfield 364, 3) := by decide +kernel
theorem d_rjson_97 : decode prog_14_method_48_code 97 = .ok (.iconst 1, 1) := by decide +kernel
theorem d_rjson_98 : decode prog_14_method_48_code 98 = .ok (.if_icmp .ne 11, 3) := by decide +kernel
theorem d_rjson_109 : decode prog_14_method_48_code 109 = .ok (.aload_n 0, 1) := by decide +kernel
theorem d_rjson_110 : decode prog_14_method_48_code 110 = .ok (.getfield 364, 3) := by decide +kernel
theorem d_rjson_113 : decode prog_14_method_48_code 113 = .ok (.iconst 3, 1) := by decide +kernel
theorem d_rjson_114 : decode prog_14_method_48_code 114 = .ok (.if_icmp .ne 28, 3) := by decide +kernel
theorem d_rjson_142 : decode prog_14_method_48_code 142 = .ok (.aload_n 0, 1) := by decide +kernel
theorem d_rjson_143 : decode prog_14_method_48_code 143 = .ok (.invokevirtual 316, 3) := by decide +kernel
theorem d_rjson_146 : decode prog_14_method_48_code 146 = .ok (.iload_n 2, 1) := by decide +kernel
theorem d_rjson_147 : decode prog_14_method_48_code 147 = .ok (.if_icmp .ne 31, 3) := by decide +kernel
theorem d_rjson_178 : decode prog_14_method_48_code 178 = .ok (.aload_n 0, 1) := by decide +kernel
theorem d_rjson_179 : decode prog_14_method_48_code 179 = .ok (.invokevirtual 316, 3) := by decide +kernel
theorem d_rjson_182 : decode prog_14_method_48_code 182 = .ok (.bipush 44, 2) := by decide +kernel
theorem d_rjson_184 : decode prog_14_method_48_code 184 = .ok (.if_icmp .ne 29, 3) := by decide +kernel
theorem d_rjson_213 : decode prog_14_method_48_code 213 = .ok (.aload_n 0, 1) := by decide +kernel
theorem d_rjson_214 : decode prog_14_method_48_code 214 = .ok (.iconst 1, 1) := by decide +kernel
theorem d_rjson_215 : decode prog_14_method_48_code 215 = .ok (.putfield 324, 3) := by decide +kernel
theorem d_rjson_218 : decode prog_14_method_48_code 218 = .ok (.goto (-182), 3) := by decide +kernel
set_option maxHeartbeats 4000000 in
set_option maxRecDepth 100000 in
theorem w_rjson_J218 {p : Program} {l : Launch} {e : Env} {s : State} {m : MethodId} {args : Array Value} {below : List Frame} {meth : Method} {c : Code} {A : Nat → Prop} {D : va_G} {md : Nat → Nat} {mc : Nat → ClassId} {Q : State → Prop} {sad sav : Nat → Nat} (hC : MCs sad sav "JoinedTreesModel" prog_14_method_48_code 3 (some .boolean) p s m args meth c A D mc) {S : MS} {o : (MS ⊕ MS)} (Heq : m_rjson_J218 S = some o) (Ka : ∀ b : MS, o = .inl b → ∀ (H : Heap) (locs : List Loc) (ls : Array Slot), va_P D cls (mw md mc b) H → va_D A (mw md mc b) → va_S A s.heap H locs → lv_has ls 3 [(0, .ref (md 100))] → W p l e ({ frames := 7, cells := 0, slots := 0, locals := 180 }) s m args below meth c H locs 0 0 Q (F0 m 36 ls [])) (K0 : ∀ b : MS, o = .inr b → ∀ (H : Heap) (locs : List Loc) (ls : Array Slot), va_P D cls (mw md mc b) H → va_D A (mw md mc b) → va_S A s.heap H locs → lv_has ls 3 [(0, .ref (md 100))] → W p l e ({ frames := 7, cells := 0, slots := 0, locals := 180 }) s m args below meth c H locs 0 0 Q (F0 m 221 ls [])) : ∀ (H : Heap) (locs : List Loc) (ls : Array Slot), va_P D cls (mw md mc S) H → va_D A (mw md mc S) → va_S A s.heap H locs → lv_has ls 3 [(0, .ref (md 100))] → W p l e ({ frames := 7, cells := 0, slots := 0, locals := 180 }) s m args below meth c H locs 0 0 Q (F0 m 218 ls []) := by
  intro H locs ls hP hD hS hl
  obtain ⟨⟨hx, hb, hr, hml, hown, hts, hK, hA⟩, hE⟩ := id hC
  unfold m_rjson_J218 at Heq
  refine lv_goto (tgt := 36) hx hb d_rjson_218 (by decide) ?_
  exact Ka _ (Option.some.inj Heq).symm _ _ _ hP hD hS (lv_sub hl [0] rfl)
def m_rjson_J213 (S : MS) : Option (MS ⊕ MS) := m_rjson_J218 (S.setI 68 1)
set_option maxHeartbeats 4000000 in
set_option maxRecDepth 100000 in
theorem w_rjson_J213 {p : Program} {l : Launch} {e : Env} {s : State} {m : MethodId} {args : Array Value} {below : List Frame} {meth : Method} {c : Code} {A : Nat → Prop} {D : va_G} {md : Nat → Nat} {mc : Nat → ClassId} {Q : State → Prop} {sad sav : Nat → Nat} (hC : MCs sad sav "JoinedTreesModel" prog_14_method_48_code 3 (some .boolean) p s m args meth c A D mc) {S : MS} {o : (MS ⊕ MS)} (Heq : m_rjson_J213 S = some o) (Ka : ∀ b : MS, o = .inl b → ∀ (H : Heap) (locs : List Loc) (ls : Array Slot), va_P D cls (mw md mc b) H → va_D A (mw md mc b) → va_S A s.heap H locs → lv_has ls 3 [(0, .ref (md 100))] → W p l e ({ frames := 7, cells := 0, slots := 0, locals := 180 }) s m args below meth c H locs 0 0 Q (F0 m 36 ls [])) (K0 : ∀ b : MS, o = .inr b → ∀ (H : Heap) (locs : List Loc) (ls : Array Slot), va_P D cls (mw md mc b) H → va_D A (mw md mc b) → va_S A s.heap H locs → lv_has ls 3 [(0, .ref (md 100))] → W p l e ({ frames := 7, cells := 0, slots := 0, locals := 180 }) s m args below meth c H locs 0 0 Q (F0 m 221 ls [])) : ∀ (H : Heap) (locs : List Loc) (ls : Array Slot), va_P D cls (mw md mc S) H → va_D A (mw md mc S) → va_S A s.heap H locs → lv_has ls 3 [(0, .ref (md 100))] → W p l e ({ frames := 7, cells := 0, slots := 0, locals := 180 }) s m args below meth c H locs 0 0 Q (F0 m 213 ls []) := by
  intro H locs ls hP hD hS hl
  obtain ⟨⟨hx, hb, hr, hml, hown, hts, hK, hA⟩, hE⟩ := id hC
  unfold m_rjson_J213 at Heq
  refine lv_aload_n hx hb d_rjson_213 rfl (lv_at hl 0 rfl) ?_
  refine lv_iconst (v := 1) hx hb d_rjson_214 (by decide) ?_
  refine va_put (D := D) (ci := 12) (v := .int 1) (ty := .boolean) (C := R_MM) (T := F_MM) (N := 77) hx hb hts i_MM t_MM t_MM_ok n_MM hown hK hP hD hS 0 rfl rfl 68 (by decide) (hts _ kw_1450) (fun _ h9 => h9) rfl (by decide +kernel) (by decide) (by decide) (Nat.le_of_ble_eq_true rfl) d_rjson_215 (fun H locs hP hD hS => ?_)
  rw [mw_I68] at hP hD
  exact w_rjson_J218 hC Heq Ka K0 _ _ _ hP hD hS (lv_sub hl [0] rfl)
def m_rjson_J117 (S : MS) (x1 : Int32) : Option (MS ⊕ MS) := (if x1 = 0 then ob (m_rone (S.setI 69 2) 0 0) (fun o_2 => m_rjson_J218 o_2) else ob (m_rmember (S.setI 69 2)) (fun o_4 => m_rjson_J218 o_4))
theorem d_rjson_187 : decode prog_14_method_48_code 187 = .ok (.aload_n 0, 1) := by decide +kernel
theorem d_rjson_188 : decode prog_14_method_48_code 188 = .ok (.getfield 364, 3) := by decide +kernel
theorem d_rjson_191 : decode prog_14_method_48_code 191 = .ok (.iconst 2, 1) := by decide +kernel
theorem d_rjson_192 : decode prog_14_method_48_code 192 = .ok (.if_icmp .ne 21, 3) := by decide +kernel
theorem d_rjson_195 : decode prog_14_method_48_code 195 = .ok (.aload_n 0, 1) := by decide +kernel
theorem d_rjson_196 : decode prog_14_method_48_code 196 = .ok (.dup, 1) := by decide +kernel
theorem d_rjson_197 : decode prog_14_method_48_code 197 = .ok (.getfield 313, 3) := by decide +kernel
theorem d_rjson_200 : decode prog_14_method_48_code 200 = .ok (.iconst 1, 1) := by decide +kernel
theorem d_rjson_201 : decode prog_14_method_48_code 201 = .ok (.iadd, 1) := by decide +kernel
theorem d_rjson_202 : decode prog_14_method_48_code 202 = .ok (.putfield 313, 3) := by decide +kernel
theorem d_rjson_205 : decode prog_14_method_48_code 205 = .ok (.aload_n 0, 1) := by decide +kernel
theorem d_rjson_206 : decode prog_14_method_48_code 206 = .ok (.iconst 3, 1) := by decide +kernel
theorem d_rjson_207 : decode prog_14_method_48_code 207 = .ok (.putfield 364, 3) := by decide +kernel
theorem d_rjson_210 : decode prog_14_method_48_code 210 = .ok (.goto 8, 3) := by decide +kernel
theorem d_rjson_150 : decode prog_14_method_48_code 150 = .ok (.aload_n 0, 1) := by decide +kernel
theorem d_rjson_151 : decode prog_14_method_48_code 151 = .ok (.dup, 1) := by decide +kernel
theorem d_rjson_152 : decode prog_14_method_48_code 152 = .ok (.getfield 313, 3) := by decide +kernel
theorem d_rjson_155 : decode prog_14_method_48_code 155 = .ok (.iconst 1, 1) := by decide +kernel
theorem d_rjson_156 : decode prog_14_method_48_code 156 = .ok (.iadd, 1) := by decide +kernel
theorem d_rjson_157 : decode prog_14_method_48_code 157 = .ok (.putfield 313, 3) := by decide +kernel
theorem d_rjson_160 : decode prog_14_method_48_code 160 = .ok (.aload_n 0, 1) := by decide +kernel
theorem d_rjson_161 : decode prog_14_method_48_code 161 = .ok (.dup, 1) := by decide +kernel
theorem d_rjson_162 : decode prog_14_method_48_code 162 = .ok (.getfield 348, 3) := by decide +kernel
theorem d_rjson_165 : decode prog_14_method_48_code 165 = .ok (.iconst 1, 1) := by decide +kernel
theorem d_rjson_166 : decode prog_14_method_48_code 166 = .ok (.isub, 1) := by decide +kernel
theorem d_rjson_167 : decode prog_14_method_48_code 167 = .ok (.putfield 348, 3) := by decide +kernel
theorem d_rjson_170 : decode prog_14_method_48_code 170 = .ok (.aload_n 0, 1) := by decide +kernel
theorem d_rjson_171 : decode prog_14_method_48_code 171 = .ok (.iconst 2, 1) := by decide +kernel
theorem d_rjson_172 : decode prog_14_method_48_code 172 = .ok (.putfield 364, 3) := by decide +kernel
theorem d_rjson_175 : decode prog_14_method_48_code 175 = .ok (.goto 43, 3) := by decide +kernel
theorem d_rjson_117 : decode prog_14_method_48_code 117 = .ok (.aload_n 0, 1) := by decide +kernel
theorem d_rjson_118 : decode prog_14_method_48_code 118 = .ok (.iconst 2, 1) := by decide +kernel
theorem d_rjson_119 : decode prog_14_method_48_code 119 = .ok (.putfield 364, 3) := by decide +kernel
theorem d_rjson_122 : decode prog_14_method_48_code 122 = .ok (.iload_n 1, 1) := by decide +kernel
theorem d_rjson_123 : decode prog_14_method_48_code 123 = .ok (.ifCond .eq 10, 3) := by decide +kernel
theorem d_rjson_133 : decode prog_14_method_48_code 133 = .ok (.aload_n 0, 1) := by decide +kernel
theorem d_rjson_134 : decode prog_14_method_48_code 134 = .ok (.iconst 0, 1) := by decide +kernel
theorem d_rjson_135 : decode prog_14_method_48_code 135 = .ok (.iconst 0, 1) := by decide +kernel
theorem d_rjson_136 : decode prog_14_method_48_code 136 = .ok (.invokevirtual 374, 3) := by decide +kernel
theorem d_rjson_139 : decode prog_14_method_48_code 139 = .ok (.goto 79, 3) := by decide +kernel
theorem d_rjson_126 : decode prog_14_method_48_code 126 = .ok (.aload_n 0, 1) := by decide +kernel
theorem d_rjson_127 : decode prog_14_method_48_code 127 = .ok (.invokevirtual 377, 3) := by decide +kernel
theorem d_rjson_130 : decode prog_14_method_48_code 130 = .ok (.goto 88, 3) := by decide +kernel
set_option maxHeartbeats 4000000 in
set_option maxRecDepth 100000 in
theorem w_rjson_J117 {p : Program} {l : Launch} {e : Env} {s : State} {m : MethodId} {args : Array Value} {below : List Frame} {meth : Method} {c : Code} {A : Nat → Prop} {D : va_G} {md : Nat → Nat} {mc : Nat → ClassId} {Q : State → Prop} {sad sav : Nat → Nat} (hC : MCs sad sav "JoinedTreesModel" prog_14_method_48_code 3 (some .boolean) p s m args meth c A D mc) {S : MS} {x1 : Int32} {o : (MS ⊕ MS)} (Heq : m_rjson_J117 S x1 = some o) (Ka : ∀ b : MS, o = .inl b → ∀ (H : Heap) (locs : List Loc) (ls : Array Slot), va_P D cls (mw md mc b) H → va_D A (mw md mc b) → va_S A s.heap H locs → lv_has ls 3 [(0, .ref (md 100))] → W p l e ({ frames := 7, cells := 0, slots := 0, locals := 180 }) s m args below meth c H locs 0 0 Q (F0 m 36 ls [])) (K0 : ∀ b : MS, o = .inr b → ∀ (H : Heap) (locs : List Loc) (ls : Array Slot), va_P D cls (mw md mc b) H → va_D A (mw md mc b) → va_S A s.heap H locs → lv_has ls 3 [(0, .ref (md 100))] → W p l e ({ frames := 7, cells := 0, slots := 0, locals := 180 }) s m args below meth c H locs 0 0 Q (F0 m 221 ls [])) : ∀ (H : Heap) (locs : List Loc) (ls : Array Slot), va_P D cls (mw md mc S) H → va_D A (mw md mc S) → va_S A s.heap H locs → lv_has ls 3 [(0, .ref (md 100)), (1, .int x1)] → W p l e ({ frames := 7, cells := 0, slots := 0, locals := 180 }) s m args below meth c H locs 0 0 Q (F0 m 117 ls []) := by
  intro H locs ls hP hD hS hl
  obtain ⟨⟨hx, hb, hr, hml, hown, hts, hK, hA⟩, hE⟩ := id hC
  unfold m_rjson_J117 at Heq
  refine lv_aload_n hx hb d_rjson_117 rfl (lv_at hl 0 rfl) ?_
  refine lv_iconst (v := 2) hx hb d_rjson_118 (by decide) ?_
  refine va_put (D := D) (ci := 12) (v := .int 2) (ty := .int) (C := R_MM) (T := F_MM) (N := 77) hx hb hts i_MM t_MM t_MM_ok n_MM hown hK hP hD hS 0 rfl rfl 69 (by decide) (hts _ kw_1451) (fun _ h9 => h9) rfl (by decide +kernel) rfl rfl (Nat.le_of_ble_eq_true rfl) d_rjson_119 (fun H locs hP hD hS => ?_)
  rw [mw_I69] at hP hD
  refine lv_iload_n hx hb d_rjson_122 rfl (lv_at hl 1 rfl) ?_
  refine lv_if_eq (tgt := 133) hx hb d_rjson_123 (by decide) (fun c_1 => ?_) (fun c_1 => ?_)
  · replace Heq := (if_pos c_1).symm.trans Heq
    refine lv_aload_n hx hb d_rjson_133 rfl (lv_at hl 0 rfl) ?_
    refine lv_iconst (v := 0) hx hb d_rjson_134 (by decide) ?_
    refine lv_iconst (v := 0) hx hb d_rjson_135 (by decide) ?_
    obtain ⟨o_2, h_3, Heq⟩ := ob_some Heq
    have hFc := fr_all hD hS hA
    refine va_callv (va_runV (As := [.int 0, .int 0]) (rest := []) ⟨hx, hb, hml, hown, hts⟩ (g_rone l D H.size (sad := sad) (sav := sav) h_3) (cw_v 2 hts kw_1769 kw_1766 kw_1768 kp_55 kw_11 rfl rfl (by decide +kernel) ⟨Nat.le_of_ble_eq_true rfl, Nat.le_of_ble_eq_true rfl⟩) ⟨gs_blind, va_recv hK hP (ci := 12) (q0 := 0) rfl rfl, fun U hU hW => gs_pre hU hW hP hK hD hE hS hFc⟩ rfl rfl hl.1 rfl (lv_room (Nat.le_of_ble_eq_true rfl)) d_rjson_136 ⟨Nat.le_of_ble_eq_true rfl, Nat.le_of_ble_eq_true rfl⟩) hS (fun q _ h => hFc q h) hFc (fun u t H1 locs ht hvm hw hB hz1 hk1 hS => ?_)
    obtain ⟨hP, -, hD1⟩ := hB
    rw [ht] at hP
    have hD := hD1.weaken (fun _ q _ h => hFc q.1 h)
    generalize H1 = H at hP hS ⊢
    refine W.cs (cells' := 0) (slots' := 0) rfl rfl ?_
    refine lv_goto (tgt := 218) hx hb d_rjson_139 (by decide) ?_
    exact w_rjson_J218 hC Heq Ka K0 _ _ _ hP hD hS (lv_sub hl [0] rfl)
  · replace Heq := (if_neg c_1).symm.trans Heq
    refine lv_aload_n hx hb d_rjson_126 rfl (lv_at hl 0 rfl) ?_
    obtain ⟨o_4, h_5, Heq⟩ := ob_some Heq
    have hFc := fr_all hD hS hA
    refine va_callv (va_runV (As := []) (rest := []) ⟨hx, hb, hml, hown, hts⟩ (g_rmember l D H.size (sad := sad) (sav := sav) h_5) (cw_v 0 hts kw_1803 kw_1800 kw_1802 kp_61 kw_11 rfl rfl (by decide +kernel) ⟨Nat.le_of_ble_eq_true rfl, Nat.le_of_ble_eq_true rfl⟩) ⟨gs_blind, va_recv hK hP (ci := 12) (q0 := 0) rfl rfl, fun U hU hW => gs_pre hU hW hP hK hD hE hS hFc⟩ rfl rfl hl.1 rfl (lv_room (Nat.le_of_ble_eq_true rfl)) d_rjson_127 ⟨Nat.le_of_ble_eq_true rfl, Nat.le_of_ble_eq_true rfl⟩) hS (fun q _ h => hFc q h) hFc (fun u t H1 locs ht hvm hw hB hz1 hk1 hS => ?_)
    obtain ⟨hP, -, hD1⟩ := hB
    rw [ht] at hP
    have hD := hD1.weaken (fun _ q _ h => hFc q.1 h)
    generalize H1 = H at hP hS ⊢
    refine W.cs (cells' := 0) (slots' := 0) rfl rfl ?_
    refine lv_goto (tgt := 218) hx hb d_rjson_130 (by decide) ?_
    exact w_rjson_J218 hC Heq Ka K0 _ _ _ hP hD hS (lv_sub hl [0] rfl)
def m_rjson_J109 (S : MS) (x1 : Int32) (x2 : Int32) : Option (MS ⊕ MS) := (if S.i 69 = 3 then m_rjson_J117 S x1 else ob (m_rsign S) (fun o_2 => (if o_2.2 = x2 then m_rjson_J218 (((o_2.1.setI 66 ((o_2.1.i 66) + 1)).setI 67 ((o_2.1.i 67) - 1)).setI 69 2) else ob (m_rsign o_2.1) (fun o_5 => (if o_5.2 = 44 then (if o_5.1.i 69 = 2 then m_rjson_J218 ((o_5.1.setI 66 ((o_5.1.i 66) + 1)).setI 69 3) else m_rjson_J213 o_5.1) else m_rjson_J213 o_5.1)))))
set_option maxHeartbeats 4000000 in
set_option maxRecDepth 100000 in
theorem w_rjson_J109 {p : Program} {l : Launch} {e : Env} {s : State} {m : MethodId} {args : Array Value} {below : List Frame} {meth : Method} {c : Code} {A : Nat → Prop} {D : va_G} {md : Nat → Nat} {mc : Nat → ClassId} {Q : State → Prop} {sad sav : Nat → Nat} (hC : MCs sad sav "JoinedTreesModel" prog_14_method_48_code 3 (some .boolean) p s m args meth c A D mc) {S : MS} {x1 : Int32} {x2 : Int32} {o : (MS ⊕ MS)} (Heq : m_rjson_J109 S x1 x2 = some o) (Ka : ∀ b : MS, o = .inl b → ∀ (H : Heap) (locs : List Loc) (ls : Array Slot), va_P D cls (mw md mc b) H → va_D A (mw md mc b) → va_S A s.heap H locs → lv_has ls 3 [(0, .ref (md 100))] → W p l e ({ frames := 7, cells := 0, slots := 0, locals := 180 }) s m args below meth c H locs 0 0 Q (F0 m 36 ls [])) (K0 : ∀ b : MS, o = .inr b → ∀ (H : Heap) (locs : List Loc) (ls : Array Slot), va_P D cls (mw md mc b) H → va_D A (mw md mc b) → va_S A s.heap H locs → lv_has ls 3 [(0, .ref (md 100))] → W p l e ({ frames := 7, cells := 0, slots := 0, locals := 180 }) s m args below meth c H locs 0 0 Q (F0 m 221 ls [])) : ∀ (H : Heap) (locs : List Loc) (ls : Array Slot), va_P D cls (mw md mc S) H → va_D A (mw md mc S) → va_S A s.heap H locs → lv_has ls 3 [(0, .ref (md 100)), (1, .int x1), (2, .int x2)] → W p l e ({ frames := 7, cells := 0, slots := 0, locals := 180 }) s m args below meth c H locs 0 0 Q (F0 m 109 ls []) := by
  intro H locs ls hP hD hS hl
  obtain ⟨⟨hx, hb, hr, hml, hown, hts, hK, hA⟩, hE⟩ := id hC
  unfold m_rjson_J109 at Heq
  refine lv_aload_n hx hb d_rjson_109 rfl (lv_at hl 0 rfl) ?_
  refine va_get (D := D) (ci := 12) (v := .int (S.i 69)) (C := R_MM) (T := F_MM) (N := 77) hx hb hts i_MM hown hK hP 0 rfl rfl 69 (by decide) (hts _ kw_1451) (fun _ h9 => h9) rfl d_rjson_110 ?_
  refine lv_iconst (v := 3) hx hb d_rjson_113 (by decide) ?_
  refine lv_icmp_ne (tgt := 142) hx hb d_rjson_114 (by decide) (fun c_1 => ?_) (fun c_1 => ?_)
  · replace Heq := (if_neg c_1).symm.trans Heq
    refine lv_aload_n hx hb d_rjson_142 rfl (lv_at hl 0 rfl) ?_
    obtain ⟨o_2, h_3, Heq⟩ := ob_some Heq
    have hFc := fr_all hD hS hA
    refine va_calli (va_runV (As := []) (rest := []) ⟨hx, hb, hml, hown, hts⟩ (g_rsign l D H.size h_3) (cw_v 0 hts kw_1777 kw_1774 kw_1776 kp_57 kw_11 rfl rfl (by decide +kernel) ⟨Nat.le_of_ble_eq_true rfl, Nat.le_of_ble_eq_true rfl⟩) ⟨g_blind, va_recv hK hP (ci := 12) (q0 := 0) rfl rfl, fun U hU hW => g_pre hU hW hP hK hD⟩ rfl rfl hl.1 rfl (lv_room (Nat.le_of_ble_eq_true rfl)) d_rjson_143 ⟨Nat.le_of_ble_eq_true rfl, Nat.le_of_ble_eq_true rfl⟩) hS (fun q _ h => hFc q h) hFc (fun rz u t H1 locs ht hvm hw hB hz1 hk1 hS => ?_)
    obtain ⟨hP, -, hD1⟩ := hB
    rw [ht] at hP
    have hD := hD1.weaken (fun _ q _ h => hFc q.1 h)
    generalize H1 = H at hP hS ⊢
    refine W.cs (cells' := 0) (slots' := 0) rfl rfl ?_
    subst hw
    refine lv_iload_n hx hb d_rjson_146 rfl (lv_at hl 2 rfl) ?_
    refine lv_icmp_ne (tgt := 178) hx hb d_rjson_147 (by decide) (fun c_4 => ?_) (fun c_4 => ?_)
    · replace Heq := (if_neg c_4).symm.trans Heq
      refine lv_aload_n hx hb d_rjson_178 rfl (lv_at hl 0 rfl) ?_
      obtain ⟨o_5, h_6, Heq⟩ := ob_some Heq
      have hFc := fr_all hD hS hA
      refine va_calli (va_runV (As := []) (rest := []) ⟨hx, hb, hml, hown, hts⟩ (g_rsign l D H.size h_6) (cw_v 0 hts kw_1777 kw_1774 kw_1776 kp_57 kw_11 rfl rfl (by decide +kernel) ⟨Nat.le_of_ble_eq_true rfl, Nat.le_of_ble_eq_true rfl⟩) ⟨g_blind, va_recv hK hP (ci := 12) (q0 := 0) rfl rfl, fun U hU hW => g_pre hU hW hP hK hD⟩ rfl rfl hl.1 rfl (lv_room (Nat.le_of_ble_eq_true rfl)) d_rjson_179 ⟨Nat.le_of_ble_eq_true rfl, Nat.le_of_ble_eq_true rfl⟩) hS (fun q _ h => hFc q h) hFc (fun rz u t H1 locs ht hvm hw hB hz1 hk1 hS => ?_)
      obtain ⟨hP, -, hD1⟩ := hB
      rw [ht] at hP
      have hD := hD1.weaken (fun _ q _ h => hFc q.1 h)
      generalize H1 = H at hP hS ⊢
      refine W.cs (cells' := 0) (slots' := 0) rfl rfl ?_
      subst hw
      refine lv_bipush (v := 44) hx hb d_rjson_182 (by decide) ?_
      refine lv_icmp_ne (tgt := 213) hx hb d_rjson_184 (by decide) (fun c_7 => ?_) (fun c_7 => ?_)
      · replace Heq := (if_neg c_7).symm.trans Heq
        exact w_rjson_J213 hC Heq Ka K0 _ _ _ hP hD hS (lv_sub hl [0] rfl)
      · replace Heq := (if_pos c_7).symm.trans Heq
        refine lv_aload_n hx hb d_rjson_187 rfl (lv_at hl 0 rfl) ?_
        refine va_get (D := D) (ci := 12) (v := .int (o_5.1.i 69)) (C := R_MM) (T := F_MM) (N := 77) hx hb hts i_MM hown hK hP 0 rfl rfl 69 (by decide) (hts _ kw_1451) (fun _ h9 => h9) rfl d_rjson_188 ?_
        refine lv_iconst (v := 2) hx hb d_rjson_191 (by decide) ?_
        refine lv_icmp_ne (tgt := 213) hx hb d_rjson_192 (by decide) (fun c_8 => ?_) (fun c_8 => ?_)
        · replace Heq := (if_neg c_8).symm.trans Heq
          exact w_rjson_J213 hC Heq Ka K0 _ _ _ hP hD hS (lv_sub hl [0] rfl)
        · replace Heq := (if_pos c_8).symm.trans Heq
          refine lv_aload_n hx hb d_rjson_195 rfl (lv_at hl 0 rfl) ?_
          refine lv_dup hx hb d_rjson_196 rfl ?_
          refine va_get (D := D) (ci := 12) (v := .int (o_5.1.i 66)) (C := R_MM) (T := F_MM) (N := 77) hx hb hts i_MM hown hK hP 0 rfl rfl 66 (by decide) (hts _ kw_1448) (fun _ h9 => h9) rfl d_rjson_197 ?_
          refine lv_iconst (v := 1) hx hb d_rjson_200 (by decide) ?_
          refine lv_iadd hx hb d_rjson_201 ?_
          refine w_i (y := (o_5.1.i 66) + 1) rfl ?_
          refine va_put (D := D) (ci := 12) (v := .int ((o_5.1.i 66) + 1)) (ty := .int) (C := R_MM) (T := F_MM) (N := 77) hx hb hts i_MM t_MM t_MM_ok n_MM hown hK hP hD hS 0 rfl rfl 66 (by decide) (hts _ kw_1448) (fun _ h9 => h9) rfl (by decide +kernel) rfl rfl (Nat.le_of_ble_eq_true rfl) d_rjson_202 (fun H locs hP hD hS => ?_)
          rw [mw_I66] at hP hD
          refine lv_aload_n hx hb d_rjson_205 rfl (lv_at hl 0 rfl) ?_
          refine lv_iconst (v := 3) hx hb d_rjson_206 (by decide) ?_
          refine va_put (D := D) (ci := 12) (v := .int 3) (ty := .int) (C := R_MM) (T := F_MM) (N := 77) hx hb hts i_MM t_MM t_MM_ok n_MM hown hK hP hD hS 0 rfl rfl 69 (by decide) (hts _ kw_1451) (fun _ h9 => h9) rfl (by decide +kernel) rfl rfl (Nat.le_of_ble_eq_true rfl) d_rjson_207 (fun H locs hP hD hS => ?_)
          rw [mw_I69] at hP hD
          refine lv_goto (tgt := 218) hx hb d_rjson_210 (by decide) ?_
          exact w_rjson_J218 hC Heq Ka K0 _ _ _ hP hD hS (lv_sub hl [0] rfl)
    · replace Heq := (if_pos c_4).symm.trans Heq
      refine lv_aload_n hx hb d_rjson_150 rfl (lv_at hl 0 rfl) ?_
      refine lv_dup hx hb d_rjson_151 rfl ?_
      refine va_get (D := D) (ci := 12) (v := .int (o_2.1.i 66)) (C := R_MM) (T := F_MM) (N := 77) hx hb hts i_MM hown hK hP 0 rfl rfl 66 (by decide) (hts _ kw_1448) (fun _ h9 => h9) rfl d_rjson_152 ?_
      refine lv_iconst (v := 1) hx hb d_rjson_155 (by decide) ?_
      refine lv_iadd hx hb d_rjson_156 ?_
      refine w_i (y := (o_2.1.i 66) + 1) rfl ?_
      refine va_put (D := D) (ci := 12) (v := .int ((o_2.1.i 66) + 1)) (ty := .int) (C := R_MM) (T := F_MM) (N := 77) hx hb hts i_MM t_MM t_MM_ok n_MM hown hK hP hD hS 0 rfl rfl 66 (by decide) (hts _ kw_1448) (fun _ h9 => h9) rfl (by decide +kernel) rfl rfl (Nat.le_of_ble_eq_true rfl) d_rjson_157 (fun H locs hP hD hS => ?_)
      rw [mw_I66] at hP hD
      refine lv_aload_n hx hb d_rjson_160 rfl (lv_at hl 0 rfl) ?_
      refine lv_dup hx hb d_rjson_161 rfl ?_
      refine va_get (D := D) (ci := 12) (v := .int (o_2.1.i 67)) (C := R_MM) (T := F_MM) (N := 77) hx hb hts i_MM hown hK hP 0 rfl rfl 67 (by decide) (hts _ kw_1449) (fun _ h9 => h9) rfl d_rjson_162 ?_
      refine lv_iconst (v := 1) hx hb d_rjson_165 (by decide) ?_
      refine lv_isub hx hb d_rjson_166 ?_
      refine w_i (y := (o_2.1.i 67) - 1) rfl ?_
      refine va_put (D := D) (ci := 12) (v := .int ((o_2.1.i 67) - 1)) (ty := .int) (C := R_MM) (T := F_MM) (N := 77) hx hb hts i_MM t_MM t_MM_ok n_MM hown hK hP hD hS 0 rfl rfl 67 (by decide) (hts _ kw_1449) (fun _ h9 => h9) rfl (by decide +kernel) rfl rfl (Nat.le_of_ble_eq_true rfl) d_rjson_167 (fun H locs hP hD hS => ?_)
      rw [mw_I67] at hP hD
      refine lv_aload_n hx hb d_rjson_170 rfl (lv_at hl 0 rfl) ?_
      refine lv_iconst (v := 2) hx hb d_rjson_171 (by decide) ?_
      refine va_put (D := D) (ci := 12) (v := .int 2) (ty := .int) (C := R_MM) (T := F_MM) (N := 77) hx hb hts i_MM t_MM t_MM_ok n_MM hown hK hP hD hS 0 rfl rfl 69 (by decide) (hts _ kw_1451) (fun _ h9 => h9) rfl (by decide +kernel) rfl rfl (Nat.le_of_ble_eq_true rfl) d_rjson_172 (fun H locs hP hD hS => ?_)
      rw [mw_I69] at hP hD
      refine lv_goto (tgt := 218) hx hb d_rjson_175 (by decide) ?_
      exact w_rjson_J218 hC Heq Ka K0 _ _ _ hP hD hS (lv_sub hl [0] rfl)
  · replace Heq := (if_pos c_1).symm.trans Heq
    exact w_rjson_J117 hC Heq Ka K0 _ _ _ hP hD hS (lv_sub hl [0, 1] rfl)
def m_rjson_J88 (S : MS) (x1 : Int32) (t0 : Int32) : Option (MS ⊕ MS) := ob (m_rskip S) (fun o_1 => (if o_1.i 69 = 1 then ob (m_rsign o_1) (fun o_4 => (if o_4.2 = t0 then m_rjson_J109 o_4.1 x1 t0 else m_rjson_J117 o_4.1 x1)) else m_rjson_J109 o_1 x1 t0))
theorem d_rjson_101 : decode prog_14_method_48_code 101 = .ok (.aload_n 0, 1) := by decide +kernel
theorem d_rjson_102 : decode prog_14_method_48_code 102 = .ok (.invokevirtual 316, 3) := by decide +kernel
theorem d_rjson_105 : decode prog_14_method_48_code 105 = .ok (.iload_n 2, 1) := by decide +kernel
theorem d_rjson_106 : decode prog_14_method_48_code 106 = .ok (.if_icmp .ne 11, 3) := by decide +kernel
set_option maxHeartbeats 4000000 in
set_option maxRecDepth 100000 in
theorem w_rjson_J88 {p : Program} {l : Launch} {e : Env} {s : State} {m : MethodId} {args : Array Value} {below : List Frame} {meth : Method} {c : Code} {A : Nat → Prop} {D : va_G} {md : Nat → Nat} {mc : Nat → ClassId} {Q : State → Prop} {sad sav : Nat → Nat} (hC : MCs sad sav "JoinedTreesModel" prog_14_method_48_code 3 (some .boolean) p s m args meth c A D mc) {S : MS} {x1 : Int32} {t0 : Int32} {o : (MS ⊕ MS)} (Heq : m_rjson_J88 S x1 t0 = some o) (Ka : ∀ b : MS, o = .inl b → ∀ (H : Heap) (locs : List Loc) (ls : Array Slot), va_P D cls (mw md mc b) H → va_D A (mw md mc b) → va_S A s.heap H locs → lv_has ls 3 [(0, .ref (md 100))] → W p l e ({ frames := 7, cells := 0, slots := 0, locals := 180 }) s m args below meth c H locs 0 0 Q (F0 m 36 ls [])) (K0 : ∀ b : MS, o = .inr b → ∀ (H : Heap) (locs : List Loc) (ls : Array Slot), va_P D cls (mw md mc b) H → va_D A (mw md mc b) → va_S A s.heap H locs → lv_has ls 3 [(0, .ref (md 100))] → W p l e ({ frames := 7, cells := 0, slots := 0, locals := 180 }) s m args below meth c H locs 0 0 Q (F0 m 221 ls [])) : ∀ (H : Heap) (locs : List Loc) (ls : Array Slot), va_P D cls (mw md mc S) H → va_D A (mw md mc S) → va_S A s.heap H locs → lv_has ls 3 [(0, .ref (md 100)), (1, .int x1)] → W p l e ({ frames := 7, cells := 0, slots := 0, locals := 180 }) s m args below meth c H locs 0 0 Q (F0 m 88 ls [.int t0]) := by
  intro H locs ls hP hD hS hl
  obtain ⟨⟨hx, hb, hr, hml, hown, hts, hK, hA⟩, hE⟩ := id hC
  unfold m_rjson_J88 at Heq
  refine lv_istore_n (lv' := [(2, .int t0), (0, .ref (md 100)), (1, .int x1)]) hx hb d_rjson_88 rfl hl (by decide) rfl (fun ls hl => ?_)
  refine lv_aload_n hx hb d_rjson_89 rfl (lv_at hl 1 rfl) ?_
  obtain ⟨o_1, h_2, Heq⟩ := ob_some Heq
  have hFc := fr_all hD hS hA
  refine va_callv (va_runV (As := []) (rest := []) ⟨hx, hb, hml, hown, hts⟩ (g_rskip l D H.size h_2) (cw_v 0 hts kw_1773 kw_1770 kw_1772 kp_56 kw_11 rfl rfl (by decide +kernel) ⟨Nat.le_of_ble_eq_true rfl, Nat.le_of_ble_eq_true rfl⟩) ⟨g_blind, va_recv hK hP (ci := 12) (q0 := 0) rfl rfl, fun U hU hW => g_pre hU hW hP hK hD⟩ rfl rfl hl.1 rfl (lv_room (Nat.le_of_ble_eq_true rfl)) d_rjson_90 ⟨Nat.le_of_ble_eq_true rfl, Nat.le_of_ble_eq_true rfl⟩) hS (fun q _ h => hFc q h) hFc (fun u t H1 locs ht hvm hw hB hz1 hk1 hS => ?_)
  obtain ⟨hP, -, hD1⟩ := hB
  rw [ht] at hP
  have hD := hD1.weaken (fun _ q _ h => hFc q.1 h)
  generalize H1 = H at hP hS ⊢
  refine W.cs (cells' := 0) (slots' := 0) rfl rfl ?_
  refine lv_aload_n hx hb d_rjson_93 rfl (lv_at hl 1 rfl) ?_
  refine va_get (D := D) (ci := 12) (v := .int (o_1.i 69)) (C := R_MM) (T := F_MM) (N := 77) hx hb hts i_MM hown hK hP 0 rfl rfl 69 (by decide) (hts _ kw_1451) (fun _ h9 => h9) rfl d_rjson_94 ?_
  refine lv_iconst (v := 1) hx hb d_rjson_97 (by decide) ?_
  refine lv_icmp_ne (tgt := 109) hx hb d_rjson_98 (by decide) (fun c_3 => ?_) (fun c_3 => ?_)
  · replace Heq := (if_neg c_3).symm.trans Heq
    exact w_rjson_J109 hC Heq Ka K0 _ _ _ hP hD hS (lv_sub hl [1, 2, 0] rfl)
  · replace Heq := (if_pos c_3).symm.trans Heq
    refine lv_aload_n hx hb d_rjson_101 rfl (lv_at hl 1 rfl) ?_
    obtain ⟨o_4, h_5, Heq⟩ := ob_some Heq
    have hFc := fr_all hD hS hA
    refine va_calli (va_runV (As := []) (rest := []) ⟨hx, hb, hml, hown, hts⟩ (g_rsign l D H.size h_5) (cw_v 0 hts kw_1777 kw_1774 kw_1776 kp_57 kw_11 rfl rfl (by decide +kernel) ⟨Nat.le_of_ble_eq_true rfl, Nat.le_of_ble_eq_true rfl⟩) ⟨g_blind, va_recv hK hP (ci := 12) (q0 := 0) rfl rfl, fun U hU hW => g_pre hU hW hP hK hD⟩ rfl rfl hl.1 rfl (lv_room (Nat.le_of_ble_eq_true rfl)) d_rjson_102 ⟨Nat.le_of_ble_eq_true rfl, Nat.le_of_ble_eq_true rfl⟩) hS (fun q _ h => hFc q h) hFc (fun rz u t H1 locs ht hvm hw hB hz1 hk1 hS => ?_)
    obtain ⟨hP, -, hD1⟩ := hB
    rw [ht] at hP
    have hD := hD1.weaken (fun _ q _ h => hFc q.1 h)
    generalize H1 = H at hP hS ⊢
    refine W.cs (cells' := 0) (slots' := 0) rfl rfl ?_
    subst hw
    refine lv_iload_n hx hb d_rjson_105 rfl (lv_at hl 0 rfl) ?_
    refine lv_icmp_ne (tgt := 117) hx hb d_rjson_106 (by decide) (fun c_6 => ?_) (fun c_6 => ?_)
    · replace Heq := (if_neg c_6).symm.trans Heq
      exact w_rjson_J117 hC Heq Ka K0 _ _ _ hP hD hS (lv_sub hl [1, 2] rfl)
    · replace Heq := (if_pos c_6).symm.trans Heq
      exact w_rjson_J109 hC Heq Ka K0 _ _ _ hP hD hS (lv_sub hl [1, 2, 0] rfl)
def m_rjson_J76 (S : MS) (t0 : Int32) : Option (MS ⊕ MS) := (if t0 = 0 then m_rjson_J88 S t0 93 else m_rjson_J88 S t0 125)
theorem d_rjson_81 : decode prog_14_method_48_code 81 = .ok (.bipush 125, 2) := by decide +kernel
theorem d_rjson_83 : decode prog_14_method_48_code 83 = .ok (.goto 5, 3) := by decide +kernel
set_option maxHeartbeats 4000000 in
set_option maxRecDepth 100000 in
theorem w_rjson_J76 {p : Program} {l : Launch} {e : Env} {s : State} {m : MethodId} {args : Array Value} {below : List Frame} {meth : Method} {c : Code} {A : Nat → Prop} {D : va_G} {md : Nat → Nat} {mc : Nat → ClassId} {Q : State → Prop} {sad sav : Nat → Nat} (hC : MCs sad sav "JoinedTreesModel" prog_14_method_48_code 3 (some .boolean) p s m args meth c A D mc) {S : MS} {t0 : Int32} {o : (MS ⊕ MS)} (Heq : m_rjson_J76 S t0 = some o) (Ka : ∀ b : MS, o = .inl b → ∀ (H : Heap) (locs : List Loc) (ls : Array Slot), va_P D cls (mw md mc b) H → va_D A (mw md mc b) → va_S A s.heap H locs → lv_has ls 3 [(0, .ref (md 100))] → W p l e ({ frames := 7, cells := 0, slots := 0, locals := 180 }) s m args below meth c H locs 0 0 Q (F0 m 36 ls [])) (K0 : ∀ b : MS, o = .inr b → ∀ (H : Heap) (locs : List Loc) (ls : Array Slot), va_P D cls (mw md mc b) H → va_D A (mw md mc b) → va_S A s.heap H locs → lv_has ls 3 [(0, .ref (md 100))] → W p l e ({ frames := 7, cells := 0, slots := 0, locals := 180 }) s m args below meth c H locs 0 0 Q (F0 m 221 ls [])) : ∀ (H : Heap) (locs : List Loc) (ls : Array Slot), va_P D cls (mw md mc S) H → va_D A (mw md mc S) → va_S A s.heap H locs → lv_has ls 3 [(0, .ref (md 100))] → W p l e ({ frames := 7, cells := 0, slots := 0, locals := 180 }) s m args below meth c H locs 0 0 Q (F0 m 76 ls [.int t0]) := by
  intro H locs ls hP hD hS hl
  obtain ⟨⟨hx, hb, hr, hml, hown, hts, hK, hA⟩, hE⟩ := id hC
  unfold m_rjson_J76 at Heq
  refine lv_istore_n (lv' := [(1, .int t0), (0, .ref (md 100))]) hx hb d_rjson_76 rfl hl (by decide) rfl (fun ls hl => ?_)
  refine lv_iload_n hx hb d_rjson_77 rfl (lv_at hl 0 rfl) ?_
  refine lv_if_eq (tgt := 86) hx hb d_rjson_78 (by decide) (fun c_1 => ?_) (fun c_1 => ?_)
  · replace Heq := (if_pos c_1).symm.trans Heq
    refine lv_bipush (v := 93) hx hb d_rjson_86 (by decide) ?_
    exact w_rjson_J88 hC Heq Ka K0 _ _ _ hP hD hS (lv_sub hl [1, 0] rfl)
  · replace Heq := (if_neg c_1).symm.trans Heq
    refine lv_bipush (v := 125) hx hb d_rjson_81 (by decide) ?_
    refine lv_goto (tgt := 88) hx hb d_rjson_83 (by decide) ?_
    exact w_rjson_J88 hC Heq Ka K0 _ _ _ hP hD hS (lv_sub hl [1, 0] rfl)
def m_rjson_B36 (S : MS) : Option (MS ⊕ MS) := (if S.i 68 = 0 then (if S.i 67 ≤ 0 then some (.inr (S)) else gd ((S.i 67) - 1) 32 (gd (S.a 63 (((S.i 67) - 1).toNatClampNeg)) 501 ((if S.a 53 ((S.a 63 (((S.i 67) - 1).toNatClampNeg)).toNatClampNeg) = 6 then m_rjson_J76 S 1 else m_rjson_J76 S 0)))) else some (.inr (S)))
theorem d_rjson_71 : decode prog_14_method_48_code 71 = .ok (.iconst 1, 1) := by decide +kernel
theorem d_rjson_72 : decode prog_14_method_48_code 72 = .ok (.goto 4, 3) := by decide +kernel
set_option maxHeartbeats 4000000 in
set_option maxRecDepth 100000 in
theorem w_rjson_B36 {p : Program} {l : Launch} {e : Env} {s : State} {m : MethodId} {args : Array Value} {below : List Frame} {meth : Method} {c : Code} {A : Nat → Prop} {D : va_G} {md : Nat → Nat} {mc : Nat → ClassId} {Q : State → Prop} {sad sav : Nat → Nat} (hC : MCs sad sav "JoinedTreesModel" prog_14_method_48_code 3 (some .boolean) p s m args meth c A D mc) {S : MS} {o : (MS ⊕ MS)} (Heq : m_rjson_B36 S = some o) (Ka : ∀ b : MS, o = .inl b → ∀ (H : Heap) (locs : List Loc) (ls : Array Slot), va_P D cls (mw md mc b) H → va_D A (mw md mc b) → va_S A s.heap H locs → lv_has ls 3 [(0, .ref (md 100))] → W p l e ({ frames := 7, cells := 0, slots := 0, locals := 180 }) s m args below meth c H locs 0 0 Q (F0 m 36 ls [])) (K0 : ∀ b : MS, o = .inr b → ∀ (H : Heap) (locs : List Loc) (ls : Array Slot), va_P D cls (mw md mc b) H → va_D A (mw md mc b) → va_S A s.heap H locs → lv_has ls 3 [(0, .ref (md 100))] → W p l e ({ frames := 7, cells := 0, slots := 0, locals := 180 }) s m args below meth c H locs 0 0 Q (F0 m 221 ls [])) : ∀ (H : Heap) (locs : List Loc) (ls : Array Slot), va_P D cls (mw md mc S) H → va_D A (mw md mc S) → va_S A s.heap H locs → lv_has ls 3 [(0, .ref (md 100))] → W p l e ({ frames := 7, cells := 0, slots := 0, locals := 180 }) s m args below meth c H locs 0 0 Q (F0 m 36 ls []) := by
  intro H locs ls hP hD hS hl
  obtain ⟨⟨hx, hb, hr, hml, hown, hts, hK, hA⟩, hE⟩ := id hC
  unfold m_rjson_B36 at Heq
  refine lv_aload_n hx hb d_rjson_36 rfl (lv_at hl 0 rfl) ?_
  refine va_get (D := D) (ci := 12) (v := .int (S.i 68)) (C := R_MM) (T := F_MM) (N := 77) hx hb hts i_MM hown hK hP 0 rfl rfl 68 (by decide) (hts _ kw_1450) (fun _ h9 => h9) rfl d_rjson_37 ?_
  refine lv_if_ne (tgt := 221) hx hb d_rjson_40 (by decide) (fun c_1 => ?_) (fun c_1 => ?_)
  · replace Heq := (if_neg c_1).symm.trans Heq
    exact K0 _ (Option.some.inj Heq).symm _ _ _ hP hD hS (lv_sub hl [0] rfl)
  · replace Heq := (if_pos c_1).symm.trans Heq
    refine lv_aload_n hx hb d_rjson_43 rfl (lv_at hl 0 rfl) ?_
    refine va_get (D := D) (ci := 12) (v := .int (S.i 67)) (C := R_MM) (T := F_MM) (N := 77) hx hb hts i_MM hown hK hP 0 rfl rfl 67 (by decide) (hts _ kw_1449) (fun _ h9 => h9) rfl d_rjson_44 ?_
    refine lv_if_le (tgt := 221) hx hb d_rjson_47 (by decide) (fun c_2 => ?_) (fun c_2 => ?_)
    · replace Heq := (if_pos c_2).symm.trans Heq
      exact K0 _ (Option.some.inj Heq).symm _ _ _ hP hD hS (lv_sub hl [0] rfl)
    · replace Heq := (if_neg c_2).symm.trans Heq
      refine lv_aload_n hx hb d_rjson_50 rfl (lv_at hl 0 rfl) ?_
      refine va_get (D := D) (ci := 12) (v := .ref (md 53)) (C := R_MM) (T := F_MM) (N := 77) hx hb hts i_MM hown hK hP 0 rfl rfl 53 (by decide) (hts _ kw_1435) (fun _ h9 => h9) rfl d_rjson_51 ?_
      refine lv_aload_n hx hb d_rjson_54 rfl (lv_at hl 0 rfl) ?_
      refine va_get (D := D) (ci := 12) (v := .ref (md 63)) (C := R_MM) (T := F_MM) (N := 77) hx hb hts i_MM hown hK hP 0 rfl rfl 63 (by decide) (hts _ kw_1445) (fun _ h9 => h9) rfl d_rjson_55 ?_
      refine lv_aload_n hx hb d_rjson_58 rfl (lv_at hl 0 rfl) ?_
      refine va_get (D := D) (ci := 12) (v := .int (S.i 67)) (C := R_MM) (T := F_MM) (N := 77) hx hb hts i_MM hown hK hP 0 rfl rfl 67 (by decide) (hts _ kw_1449) (fun _ h9 => h9) rfl d_rjson_59 ?_
      refine lv_iconst (v := 1) hx hb d_rjson_62 (by decide) ?_
      refine lv_isub hx hb d_rjson_63 ?_
      refine w_i (y := (S.i 67) - 1) rfl ?_
      obtain ⟨hi_3, Heq⟩ := gd_some Heq
      refine va_iald hx hb hK hP 45 0 rfl rfl (i := (S.i 67) - 1) hi_3 d_rjson_64 ?_
      refine w_i (y := S.a 63 (((S.i 67) - 1).toNatClampNeg)) rfl ?_
      obtain ⟨hi_4, Heq⟩ := gd_some Heq
      refine va_iald hx hb hK hP 35 0 rfl rfl (i := S.a 63 (((S.i 67) - 1).toNatClampNeg)) hi_4 d_rjson_65 ?_
      refine w_i (y := S.a 53 ((S.a 63 (((S.i 67) - 1).toNatClampNeg)).toNatClampNeg)) rfl ?_
      refine lv_bipush (v := 6) hx hb d_rjson_66 (by decide) ?_
      refine lv_icmp_ne (tgt := 75) hx hb d_rjson_68 (by decide) (fun c_5 => ?_) (fun c_5 => ?_)
      · replace Heq := (if_neg c_5).symm.trans Heq
        refine lv_iconst (v := 0) hx hb d_rjson_75 (by decide) ?_
        exact w_rjson_J76 hC Heq Ka K0 _ _ _ hP hD hS (lv_sub hl [0] rfl)
      · replace Heq := (if_pos c_5).symm.trans Heq
        refine lv_iconst (v := 1) hx hb d_rjson_71 (by decide) ?_
        refine lv_goto (tgt := 76) hx hb d_rjson_72 (by decide) ?_
        exact w_rjson_J76 hC Heq Ka K0 _ _ _ hP hD hS (lv_sub hl [0] rfl)
def m_rjson_L36 (S : MS) : Option MS := lp (fun a : MS => m_rjson_B36 a) FU S
theorem w_rjson_L36 {p : Program} {l : Launch} {e : Env} {s : State} {m : MethodId} {args : Array Value} {below : List Frame} {meth : Method} {c : Code} {A : Nat → Prop} {D : va_G} {md : Nat → Nat} {mc : Nat → ClassId} {Q : State → Prop} {sad sav : Nat → Nat} (hC : MCs sad sav "JoinedTreesModel" prog_14_method_48_code 3 (some .boolean) p s m args meth c A D mc) {S : MS} {o : MS} (Heq : m_rjson_L36 S = some o) (K0 : ∀ b : MS, o = b → ∀ (H : Heap) (locs : List Loc) (ls : Array Slot), va_P D cls (mw md mc b) H → va_D A (mw md mc b) → va_S A s.heap H locs → lv_has ls 3 [(0, .ref (md 100))] → W p l e ({ frames := 7, cells := 0, slots := 0, locals := 180 }) s m args below meth c H locs 0 0 Q (F0 m 221 ls [])) : ∀ (H : Heap) (locs : List Loc) (ls : Array Slot), va_P D cls (mw md mc S) H → va_D A (mw md mc S) → va_S A s.heap H locs → lv_has ls 3 [(0, .ref (md 100))] → W p l e ({ frames := 7, cells := 0, slots := 0, locals := 180 }) s m args below meth c H locs 0 0 Q (F0 m 36 ls []) := by
  refine lp_w (G := fun a : MS => ∀ (H : Heap) (locs : List Loc) (ls : Array Slot), va_P D cls (mw md mc a) H → va_D A (mw md mc a) → va_S A s.heap H locs → lv_has ls 3 [(0, .ref (md 100))] → W p l e ({ frames := 7, cells := 0, slots := 0, locals := 180 }) s m args below meth c H locs 0 0 Q (F0 m 36 ls [])) ?_ FU S Heq
  intro a o1 ho Ka Ke
  exact w_rjson_B36 hC ho (fun b h => Ka b h) (fun b h => K0 b (Ke _ h).symm)
def m_rjson_J250 (S : MS) (t0 : Int32) : Option (MS × Int32) := (if t0 = 0 ∨ t0 = 1 then some (S, t0) else none)
theorem d_rjson_221 : decode prog_14_method_48_code 221 = .ok (.aload_n 0, 1) := by decide +kernel
theorem d_rjson_222 : decode prog_14_method_48_code 222 = .ok (.getfield 324, 3) := by decide +kernel
theorem d_rjson_225 : decode prog_14_method_48_code 225 = .ok (.ifCond .eq 5, 3) := by decide +kernel
theorem d_rjson_230 : decode prog_14_method_48_code 230 = .ok (.aload_n 0, 1) := by decide +kernel
theorem d_rjson_231 : decode prog_14_method_48_code 231 = .ok (.invokevirtual 342, 3) := by decide +kernel
theorem d_rjson_234 : decode prog_14_method_48_code 234 = .ok (.aload_n 0, 1) := by decide +kernel
theorem d_rjson_235 : decode prog_14_method_48_code 235 = .ok (.getfield 313, 3) := by decide +kernel
theorem d_rjson_238 : decode prog_14_method_48_code 238 = .ok (.aload_n 0, 1) := by decide +kernel
theorem d_rjson_239 : decode prog_14_method_48_code 239 = .ok (.getfield 188, 3) := by decide +kernel
theorem d_rjson_242 : decode prog_14_method_48_code 242 = .ok (.if_icmp .ne 7, 3) := by decide +kernel
theorem d_rjson_249 : decode prog_14_method_48_code 249 = .ok (.iconst 0, 1) := by decide +kernel
theorem d_rjson_250 : decode prog_14_method_48_code 250 = .ok (.ireturn, 1) := by decide +kernel
set_option maxHeartbeats 4000000 in
set_option maxRecDepth 100000 in
theorem w_rjson_J250 {p : Program} {l : Launch} {e : Env} {s : State} {m : MethodId} {args : Array Value} {below : List Frame} {meth : Method} {c : Code} {A : Nat → Prop} {D : va_G} {md : Nat → Nat} {mc : Nat → ClassId} {Q : State → Prop} {sad sav : Nat → Nat} (hC : MCs sad sav "JoinedTreesModel" prog_14_method_48_code 3 (some .boolean) p s m args meth c A D mc) {S : MS} {t0 : Int32} {o : MS × Int32} (Heq : m_rjson_J250 S t0 = some o) (Kr : ∀ r : MS × Int32, o = r → ∀ (pc : Nat) (H : Heap) (locs : List Loc) (ls : Array Slot), decode prog_14_method_48_code pc = .ok (.ireturn, 1) → (r.2 = 0 ∨ r.2 = 1) → va_P D cls (mw md mc r.1) H → va_D A (mw md mc r.1) → va_S A s.heap H locs → W p l e ({ frames := 7, cells := 0, slots := 0, locals := 180 }) s m args below meth c H locs 0 0 Q (F0 m pc ls [.int r.2])) : ∀ (H : Heap) (locs : List Loc) (ls : Array Slot), va_P D cls (mw md mc S) H → va_D A (mw md mc S) → va_S A s.heap H locs → lv_has ls 3 [(0, .ref (md 100))] → W p l e ({ frames := 7, cells := 0, slots := 0, locals := 180 }) s m args below meth c H locs 0 0 Q (F0 m 250 ls [.int t0]) := by
  intro H locs ls hP hD hS hl
  obtain ⟨⟨hx, hb, hr, hml, hown, hts, hK, hA⟩, hE⟩ := id hC
  unfold m_rjson_J250 at Heq
  by_cases hz_1 : t0 = 0 ∨ t0 = 1
  case neg => rw [if_neg hz_1] at Heq; cases Heq
  replace Heq := (if_pos hz_1).symm.trans Heq
  exact Kr _ (Option.some.inj Heq).symm 250 _ _ _ d_rjson_250 hz_1 hP hD hS
def m_rjson_J221 (S : MS) : Option (MS × Int32) := (if S.i 68 = 0 then ob (m_rskip S) (fun o_2 => (if o_2.i 66 = o_2.i 6 then m_rjson_J250 o_2 1 else m_rjson_J250 o_2 0)) else some (S, 0))
theorem d_rjson_245 : decode prog_14_method_48_code 245 = .ok (.iconst 1, 1) := by decide +kernel
theorem d_rjson_246 : decode prog_14_method_48_code 246 = .ok (.goto 4, 3) := by decide +kernel
theorem d_rjson_228 : decode prog_14_method_48_code 228 = .ok (.iconst 0, 1) := by decide +kernel
theorem d_rjson_229 : decode prog_14_method_48_code 229 = .ok (.ireturn, 1) := by decide +kernel
set_option maxHeartbeats 4000000 in
set_option maxRecDepth 100000 in
theorem w_rjson_J221 {p : Program} {l : Launch} {e : Env} {s : State} {m : MethodId} {args : Array Value} {below : List Frame} {meth : Method} {c : Code} {A : Nat → Prop} {D : va_G} {md : Nat → Nat} {mc : Nat → ClassId} {Q : State → Prop} {sad sav : Nat → Nat} (hC : MCs sad sav "JoinedTreesModel" prog_14_method_48_code 3 (some .boolean) p s m args meth c A D mc) {S : MS} {o : MS × Int32} (Heq : m_rjson_J221 S = some o) (Kr : ∀ r : MS × Int32, o = r → ∀ (pc : Nat) (H : Heap) (locs : List Loc) (ls : Array Slot), decode prog_14_method_48_code pc = .ok (.ireturn, 1) → (r.2 = 0 ∨ r.2 = 1) → va_P D cls (mw md mc r.1) H → va_D A (mw md mc r.1) → va_S A s.heap H locs → W p l e ({ frames := 7, cells := 0, slots := 0, locals := 180 }) s m args below meth c H locs 0 0 Q (F0 m pc ls [.int r.2])) : ∀ (H : Heap) (locs : List Loc) (ls : Array Slot), va_P D cls (mw md mc S) H → va_D A (mw md mc S) → va_S A s.heap H locs → lv_has ls 3 [(0, .ref (md 100))] → W p l e ({ frames := 7, cells := 0, slots := 0, locals := 180 }) s m args below meth c H locs 0 0 Q (F0 m 221 ls []) := by
  intro H locs ls hP hD hS hl
  obtain ⟨⟨hx, hb, hr, hml, hown, hts, hK, hA⟩, hE⟩ := id hC
  unfold m_rjson_J221 at Heq
  refine lv_aload_n hx hb d_rjson_221 rfl (lv_at hl 0 rfl) ?_
  refine va_get (D := D) (ci := 12) (v := .int (S.i 68)) (C := R_MM) (T := F_MM) (N := 77) hx hb hts i_MM hown hK hP 0 rfl rfl 68 (by decide) (hts _ kw_1450) (fun _ h9 => h9) rfl d_rjson_222 ?_
  refine lv_if_eq (tgt := 230) hx hb d_rjson_225 (by decide) (fun c_1 => ?_) (fun c_1 => ?_)
  · replace Heq := (if_pos c_1).symm.trans Heq
    refine lv_aload_n hx hb d_rjson_230 rfl (lv_at hl 0 rfl) ?_
    obtain ⟨o_2, h_3, Heq⟩ := ob_some Heq
    have hFc := fr_all hD hS hA
    refine va_callv (va_runV (As := []) (rest := []) ⟨hx, hb, hml, hown, hts⟩ (g_rskip l D H.size h_3) (cw_v 0 hts kw_1773 kw_1770 kw_1772 kp_56 kw_11 rfl rfl (by decide +kernel) ⟨Nat.le_of_ble_eq_true rfl, Nat.le_of_ble_eq_true rfl⟩) ⟨g_blind, va_recv hK hP (ci := 12) (q0 := 0) rfl rfl, fun U hU hW => g_pre hU hW hP hK hD⟩ rfl rfl hl.1 rfl (lv_room (Nat.le_of_ble_eq_true rfl)) d_rjson_231 ⟨Nat.le_of_ble_eq_true rfl, Nat.le_of_ble_eq_true rfl⟩) hS (fun q _ h => hFc q h) hFc (fun u t H1 locs ht hvm hw hB hz1 hk1 hS => ?_)
    obtain ⟨hP, -, hD1⟩ := hB
    rw [ht] at hP
    have hD := hD1.weaken (fun _ q _ h => hFc q.1 h)
    generalize H1 = H at hP hS ⊢
    refine W.cs (cells' := 0) (slots' := 0) rfl rfl ?_
    refine lv_aload_n hx hb d_rjson_234 rfl (lv_at hl 0 rfl) ?_
    refine va_get (D := D) (ci := 12) (v := .int (o_2.i 66)) (C := R_MM) (T := F_MM) (N := 77) hx hb hts i_MM hown hK hP 0 rfl rfl 66 (by decide) (hts _ kw_1448) (fun _ h9 => h9) rfl d_rjson_235 ?_
    refine lv_aload_n hx hb d_rjson_238 rfl (lv_at hl 0 rfl) ?_
    refine va_get (D := D) (ci := 12) (v := .int (o_2.i 6)) (C := R_MM) (T := F_MM) (N := 77) hx hb hts i_MM hown hK hP 0 rfl rfl 6 (by decide) (hts _ kw_1388) (fun _ h9 => h9) rfl d_rjson_239 ?_
    refine lv_icmp_ne (tgt := 249) hx hb d_rjson_242 (by decide) (fun c_4 => ?_) (fun c_4 => ?_)
    · replace Heq := (if_neg c_4).symm.trans Heq
      refine lv_iconst (v := 0) hx hb d_rjson_249 (by decide) ?_
      exact w_rjson_J250 hC Heq Kr _ _ _ hP hD hS (lv_sub hl [0] rfl)
    · replace Heq := (if_pos c_4).symm.trans Heq
      refine lv_iconst (v := 1) hx hb d_rjson_245 (by decide) ?_
      refine lv_goto (tgt := 250) hx hb d_rjson_246 (by decide) ?_
      exact w_rjson_J250 hC Heq Kr _ _ _ hP hD hS (lv_sub hl [0] rfl)
  · replace Heq := (if_neg c_1).symm.trans Heq
    refine lv_iconst (v := 0) hx hb d_rjson_228 (by decide) ?_
    exact Kr _ (Option.some.inj Heq).symm 229 _ _ _ d_rjson_229 (Or.inl rfl) hP hD hS
def m_rjson_J0 (S : MS) : Option (MS × Int32) := ob (m_rone ((((((S.setI 64 0).setI 65 0).setI 66 0).setI 67 0).setI 68 0).setI 69 2) 0 0) (fun o_1 => ob (m_rjson_L36 o_1) (fun b_3 => m_rjson_J221 b_3))
set_option maxHeartbeats 4000000 in
set_option maxRecDepth 100000 in
theorem w_rjson_J0 {p : Program} {l : Launch} {e : Env} {s : State} {m : MethodId} {args : Array Value} {below : List Frame} {meth : Method} {c : Code} {A : Nat → Prop} {D : va_G} {md : Nat → Nat} {mc : Nat → ClassId} {Q : State → Prop} {sad sav : Nat → Nat} (hC : MCs sad sav "JoinedTreesModel" prog_14_method_48_code 3 (some .boolean) p s m args meth c A D mc) {S : MS} {o : MS × Int32} (Heq : m_rjson_J0 S = some o) (Kr : ∀ r : MS × Int32, o = r → ∀ (pc : Nat) (H : Heap) (locs : List Loc) (ls : Array Slot), decode prog_14_method_48_code pc = .ok (.ireturn, 1) → (r.2 = 0 ∨ r.2 = 1) → va_P D cls (mw md mc r.1) H → va_D A (mw md mc r.1) → va_S A s.heap H locs → W p l e ({ frames := 7, cells := 0, slots := 0, locals := 180 }) s m args below meth c H locs 0 0 Q (F0 m pc ls [.int r.2])) : ∀ (H : Heap) (locs : List Loc) (ls : Array Slot), va_P D cls (mw md mc S) H → va_D A (mw md mc S) → va_S A s.heap H locs → lv_has ls 3 [(0, .ref (md 100))] → W p l e ({ frames := 7, cells := 0, slots := 0, locals := 180 }) s m args below meth c H locs 0 0 Q (F0 m 0 ls []) := by
  intro H locs ls hP hD hS hl
  obtain ⟨⟨hx, hb, hr, hml, hown, hts, hK, hA⟩, hE⟩ := id hC
  unfold m_rjson_J0 at Heq
  refine lv_aload_n hx hb d_rjson_0 rfl (lv_at hl 0 rfl) ?_
  refine lv_iconst (v := 0) hx hb d_rjson_1 (by decide) ?_
  refine va_put (D := D) (ci := 12) (v := .int 0) (ty := .int) (C := R_MM) (T := F_MM) (N := 77) hx hb hts i_MM t_MM t_MM_ok n_MM hown hK hP hD hS 0 rfl rfl 64 (by decide) (hts _ kw_1446) (fun _ h9 => h9) rfl (by decide +kernel) rfl rfl (Nat.le_of_ble_eq_true rfl) d_rjson_2 (fun H locs hP hD hS => ?_)
  rw [mw_I64] at hP hD
  refine lv_aload_n hx hb d_rjson_5 rfl (lv_at hl 0 rfl) ?_
  refine lv_iconst (v := 0) hx hb d_rjson_6 (by decide) ?_
  refine va_put (D := D) (ci := 12) (v := .int 0) (ty := .int) (C := R_MM) (T := F_MM) (N := 77) hx hb hts i_MM t_MM t_MM_ok n_MM hown hK hP hD hS 0 rfl rfl 65 (by decide) (hts _ kw_1447) (fun _ h9 => h9) rfl (by decide +kernel) rfl rfl (Nat.le_of_ble_eq_true rfl) d_rjson_7 (fun H locs hP hD hS => ?_)
  rw [mw_I65] at hP hD
  refine lv_aload_n hx hb d_rjson_10 rfl (lv_at hl 0 rfl) ?_
  refine lv_iconst (v := 0) hx hb d_rjson_11 (by decide) ?_
  refine va_put (D := D) (ci := 12) (v := .int 0) (ty := .int) (C := R_MM) (T := F_MM) (N := 77) hx hb hts i_MM t_MM t_MM_ok n_MM hown hK hP hD hS 0 rfl rfl 66 (by decide) (hts _ kw_1448) (fun _ h9 => h9) rfl (by decide +kernel) rfl rfl (Nat.le_of_ble_eq_true rfl) d_rjson_12 (fun H locs hP hD hS => ?_)
  rw [mw_I66] at hP hD
  refine lv_aload_n hx hb d_rjson_15 rfl (lv_at hl 0 rfl) ?_
  refine lv_iconst (v := 0) hx hb d_rjson_16 (by decide) ?_
  refine va_put (D := D) (ci := 12) (v := .int 0) (ty := .int) (C := R_MM) (T := F_MM) (N := 77) hx hb hts i_MM t_MM t_MM_ok n_MM hown hK hP hD hS 0 rfl rfl 67 (by decide) (hts _ kw_1449) (fun _ h9 => h9) rfl (by decide +kernel) rfl rfl (Nat.le_of_ble_eq_true rfl) d_rjson_17 (fun H locs hP hD hS => ?_)
  rw [mw_I67] at hP hD
  refine lv_aload_n hx hb d_rjson_20 rfl (lv_at hl 0 rfl) ?_
  refine lv_iconst (v := 0) hx hb d_rjson_21 (by decide) ?_
  refine va_put (D := D) (ci := 12) (v := .int 0) (ty := .boolean) (C := R_MM) (T := F_MM) (N := 77) hx hb hts i_MM t_MM t_MM_ok n_MM hown hK hP hD hS 0 rfl rfl 68 (by decide) (hts _ kw_1450) (fun _ h9 => h9) rfl (by decide +kernel) (by decide) (by decide) (Nat.le_of_ble_eq_true rfl) d_rjson_22 (fun H locs hP hD hS => ?_)
  rw [mw_I68] at hP hD
  refine lv_aload_n hx hb d_rjson_25 rfl (lv_at hl 0 rfl) ?_
  refine lv_iconst (v := 2) hx hb d_rjson_26 (by decide) ?_
  refine va_put (D := D) (ci := 12) (v := .int 2) (ty := .int) (C := R_MM) (T := F_MM) (N := 77) hx hb hts i_MM t_MM t_MM_ok n_MM hown hK hP hD hS 0 rfl rfl 69 (by decide) (hts _ kw_1451) (fun _ h9 => h9) rfl (by decide +kernel) rfl rfl (Nat.le_of_ble_eq_true rfl) d_rjson_27 (fun H locs hP hD hS => ?_)
  rw [mw_I69] at hP hD
  refine lv_aload_n hx hb d_rjson_30 rfl (lv_at hl 0 rfl) ?_
  refine lv_iconst (v := 0) hx hb d_rjson_31 (by decide) ?_
  refine lv_iconst (v := 0) hx hb d_rjson_32 (by decide) ?_
  obtain ⟨o_1, h_2, Heq⟩ := ob_some Heq
  have hFc := fr_all hD hS hA
  refine va_callv (va_runV (As := [.int 0, .int 0]) (rest := []) ⟨hx, hb, hml, hown, hts⟩ (g_rone l D H.size (sad := sad) (sav := sav) h_2) (cw_v 2 hts kw_1769 kw_1766 kw_1768 kp_55 kw_11 rfl rfl (by decide +kernel) ⟨Nat.le_of_ble_eq_true rfl, Nat.le_of_ble_eq_true rfl⟩) ⟨gs_blind, va_recv hK hP (ci := 12) (q0 := 0) rfl rfl, fun U hU hW => gs_pre hU hW hP hK hD hE hS hFc⟩ rfl rfl hl.1 rfl (lv_room (Nat.le_of_ble_eq_true rfl)) d_rjson_33 ⟨Nat.le_of_ble_eq_true rfl, Nat.le_of_ble_eq_true rfl⟩) hS (fun q _ h => hFc q h) hFc (fun u t H1 locs ht hvm hw hB hz1 hk1 hS => ?_)
  obtain ⟨hP, -, hD1⟩ := hB
  rw [ht] at hP
  have hD := hD1.weaken (fun _ q _ h => hFc q.1 h)
  generalize H1 = H at hP hS ⊢
  refine W.cs (cells' := 0) (slots' := 0) rfl rfl ?_
  obtain ⟨b_3, h_4, Heq⟩ := ob_some Heq
  refine w_rjson_L36 hC h_4 (fun b h => ?_) _ _ _ hP hD hS (lv_sub hl [0] rfl)
  subst h
  intro H locs ls hP hD hS hl
  exact w_rjson_J221 hC Heq Kr _ _ _ hP hD hS (lv_sub hl [0] rfl)
def m_rjson (S : MS) : Option (MS × Int32) := m_rjson_J0 S
theorem g_rjson (l : Launch) (D : va_G) (sz : Nat) {sad sav : Nat → Nat} {md : Nat → Nat} {mc : Nat → ClassId} {S : MS} {o : MS × Int32} (Heq : m_rjson S = some o) : Met l ⟨"JoinedTreesModel", "json", "()Z"⟩ (Cond.code ⟨"JoinedTreesModel", "json", "()Z"⟩ prog_14_method_48_code 3 (some .boolean) :: gb) ({ frames := 7, cells := 0, slots := 0, locals := 180 }) (gPs sad sav D (mw md mc S) (mty mc) sz [.ref (md 100)]) (va_Qi (fun (r : Int32) (_ : Unit) => r = o.2) (fun _ t => gO D (mw md mc o.1) (mty mc) (va_A (mw md mc S) sz) t) (va_A (mw md mc S) sz)) 0 0 (va_A (mw md mc S) sz) := by
  refine Met.ofW (cc := prog_14_method_48_code) (maxL := 3) (ret := (some .boolean)) (by decide) rfl ?_
  intro p e s m args below meth c s₁ B hml hv
  obtain ⟨rfl, hsz, hP, hK, hD0, hE⟩ := hv
  have hx := B.exec
  have hb := B.bytes
  have hr := B.returns
  have hts : ∀ w9 ∈ gb, w9.before [.ref (md 100)].toArray s = true := fun w9 h => atoms_spec (ws := Cond.code ⟨"JoinedTreesModel", "json", "()Z"⟩ prog_14_method_48_code 3 (some .boolean) :: gb) B.pre w9 (List.mem_cons_of_mem _ h)
  have hown : s.vm.findClass "JoinedTreesModel" = some m.cls := findClass_of_methodNamed B.named
  have hlocks := B.notSynchronized
  subst hsz
  have hD := hD0.self (sz := s.heap.size)
  generalize hAe : va_A (mw md mc S) s.heap.size = A at hD hE ⊢
  have hA : ∀ q : Nat, s.heap.size ≤ q → A q := fun q h => by rw [← hAe]; exact Or.inr h
  have hS : va_S A s.heap s.heap [] := va_S.rf
  have hl := lv_entry ([.ref (md 100)]) (n := 3) (Nat.le_of_ble_eq_true rfl)
  rw [lg_entry_eq]
  generalize (lg_sl ([.ref (md 100)]) ++ List.replicate (3 - (lg_sl ([.ref (md 100)])).length) Slot.unset).toArray = ls at hl ⊢
  have hl : lv_has ls 3 [(0, .ref (md 100))] := hl
  refine w_rjson_J0 ⟨⟨hx, hb, hr, hml, hown, hts, hK, hA⟩, hE⟩ Heq (fun r h pc H locs ls hd hz hP hD hS => ?_) _ _ _ hP hD hS (lv_sub hl [0] rfl)
  subst h
  exact W.zret (ty := .boolean) hx hb hr (by rcases hz with hz | hz <;> rw [hz] <;> rfl) (fun t ht hW => ⟨⟨_, (), rfl, rfl, by rw [ht]; exact hP, va_K.moved hW.alike hK, hD⟩, hS.F ht⟩) hS.2.2 hd
