def m_rone_J106 (S : MS) : Option MS := some (S.setI 68 1)
theorem d_rone_0 : decode prog_14_method_45_code 0 = .ok (.aload_n 0, 1) := by decide +kernel
theorem d_rone_1 : decode prog_14_method_45_code 1 = .ok (.invokevirtual 342, 3) := by decide +kernel
theorem d_rone_4 : decode prog_14_method_45_code 4 = .ok (.aload_n 0, 1) := by decide +kernel
theorem d_rone_5 : decode prog_14_method_45_code 5 = .ok (.invokevirtual 316, 3) := by decide +kernel
theorem d_rone_8 : decode prog_14_method_45_code 8 = .ok (.istore_n 3, 1) := by decide +kernel
theorem d_rone_9 : decode prog_14_method_45_code 9 = .ok (.iload_n 3, 1) := by decide +kernel
theorem d_rone_10 : decode prog_14_method_45_code 10 = .ok (.bipush 110, 2) := by decide +kernel
theorem d_rone_12 : decode prog_14_method_45_code 12 = .ok (.if_icmp .eq 51, 3) := by decide +kernel
theorem d_rone_63 : decode prog_14_method_45_code 63 = .ok (.iconst 1, 1) := by decide +kernel
theorem d_rone_64 : decode prog_14_method_45_code 64 = .ok (.goto 4, 3) := by decide +kernel
theorem d_rone_68 : decode prog_14_method_45_code 68 = .ok (.istore 4, 2) := by decide +kernel
theorem d_rone_70 : decode prog_14_method_45_code 70 = .ok (.iload 4, 2) := by decide +kernel
theorem d_rone_72 : decode prog_14_method_45_code 72 = .ok (.ifCond .eq 34, 3) := by decide +kernel
theorem d_rone_106 : decode prog_14_method_45_code 106 = .ok (.aload_n 0, 1) := by decide +kernel
theorem d_rone_107 : decode prog_14_method_45_code 107 = .ok (.iconst 1, 1) := by decide +kernel
theorem d_rone_108 : decode prog_14_method_45_code 108 = .ok (.putfield 324, 3) := by decide +kernel
theorem d_rone_111 : decode prog_14_method_45_code 111 = .ok (.return_, 1) := by decide +kernel
set_option maxHeartbeats 4000000 in
set_option maxRecDepth 100000 in
theorem w_rone_J106 {p : Program} {l : Launch} {e : Env} {s : State} {m : MethodId} {args : Array Value} {below : List Frame} {meth : Method} {c : Code} {A : Nat → Prop} {D : va_G} {md : Nat → Nat} {mc : Nat → ClassId} {Q : State → Prop} {sad sav : Nat → Nat} (hC : MCs sad sav "JoinedTreesModel" prog_14_method_45_code 6 none p s m args meth c A D mc) {S : MS} {o : MS} (Heq : m_rone_J106 S = some o) (Kr : ∀ r : MS, o = r → ∀ (pc : Nat) (H : Heap) (locs : List Loc) (ls : Array Slot), decode prog_14_method_45_code pc = .ok (.return_, 1) → va_P D cls (mw md mc r) H → va_D A (mw md mc r) → va_S A s.heap H locs → W p l e ({ frames := 5, cells := 0, slots := 0, locals := 133 }) s m args below meth c H locs 0 0 Q (F0 m pc ls [])) : ∀ (H : Heap) (locs : List Loc) (ls : Array Slot), va_P D cls (mw md mc S) H → va_D A (mw md mc S) → va_S A s.heap H locs → lv_has ls 6 [(0, .ref (md 100))] → W p l e ({ frames := 5, cells := 0, slots := 0, locals := 133 }) s m args below meth c H locs 0 0 Q (F0 m 106 ls []) := by
  intro H locs ls hP hD hS hl
  obtain ⟨⟨hx, hb, hr, hml, hown, hts, hK, hA⟩, hE⟩ := id hC
  unfold m_rone_J106 at Heq
  refine lv_aload_n hx hb d_rone_106 rfl (lv_at hl 0 rfl) ?_
  refine lv_iconst (v := 1) hx hb d_rone_107 (by decide) ?_
  refine va_put (D := D) (ci := 12) (v := .int 1) (ty := .boolean) (C := R_MM) (T := F_MM) (N := 77) hx hb hts i_MM t_MM t_MM_ok n_MM hown hK hP hD hS 0 rfl rfl 68 (by decide) (hts _ kw_1450) (fun _ h9 => h9) rfl (by decide +kernel) (by decide) (by decide) (Nat.le_of_ble_eq_true rfl) d_rone_108 (fun H locs hP hD hS => ?_)
  rw [mw_I68] at hP hD
  exact Kr _ (Option.some.inj Heq).symm 111 _ _ _ d_rone_111 hP hD hS
def m_rone_J415 (S : MS) : Option MS := some S
theorem d_rone_75 : decode prog_14_method_45_code 75 = .ok (.aload_n 0, 1) := by decide +kernel
theorem d_rone_76 : decode prog_14_method_45_code 76 = .ok (.getfield 345, 3) := by decide +kernel
theorem d_rone_79 : decode prog_14_method_45_code 79 = .ok (.sipush 500, 3) := by decide +kernel
theorem d_rone_82 : decode prog_14_method_45_code 82 = .ok (.if_icmp .eq 24, 3) := by decide +kernel
theorem d_rone_85 : decode prog_14_method_45_code 85 = .ok (.iload_n 3, 1) := by decide +kernel
theorem d_rone_86 : decode prog_14_method_45_code 86 = .ok (.bipush 123, 2) := by decide +kernel
theorem d_rone_88 : decode prog_14_method_45_code 88 = .ok (.if_icmp .eq 9, 3) := by decide +kernel
theorem d_rone_97 : decode prog_14_method_45_code 97 = .ok (.aload_n 0, 1) := by decide +kernel
theorem d_rone_98 : decode prog_14_method_45_code 98 = .ok (.getfield 348, 3) := by decide +kernel
theorem d_rone_101 : decode prog_14_method_45_code 101 = .ok (.bipush 20, 2) := by decide +kernel
theorem d_rone_103 : decode prog_14_method_45_code 103 = .ok (.if_icmp .ne 9, 3) := by decide +kernel
theorem d_rone_112 : decode prog_14_method_45_code 112 = .ok (.aload_n 0, 1) := by decide +kernel
theorem d_rone_113 : decode prog_14_method_45_code 113 = .ok (.getfield 345, 3) := by decide +kernel
theorem d_rone_116 : decode prog_14_method_45_code 116 = .ok (.istore 5, 2) := by decide +kernel
theorem d_rone_118 : decode prog_14_method_45_code 118 = .ok (.aload_n 0, 1) := by decide +kernel
theorem d_rone_119 : decode prog_14_method_45_code 119 = .ok (.dup, 1) := by decide +kernel
theorem d_rone_120 : decode prog_14_method_45_code 120 = .ok (.getfield 345, 3) := by decide +kernel
theorem d_rone_123 : decode prog_14_method_45_code 123 = .ok (.iconst 1, 1) := by decide +kernel
theorem d_rone_124 : decode prog_14_method_45_code 124 = .ok (.iadd, 1) := by decide +kernel
theorem d_rone_125 : decode prog_14_method_45_code 125 = .ok (.putfield 345, 3) := by decide +kernel
theorem d_rone_128 : decode prog_14_method_45_code 128 = .ok (.aload_n 0, 1) := by decide +kernel
theorem d_rone_129 : decode prog_14_method_45_code 129 = .ok (.getfield 136, 3) := by decide +kernel
theorem d_rone_132 : decode prog_14_method_45_code 132 = .ok (.iload 5, 2) := by decide +kernel
theorem d_rone_134 : decode prog_14_method_45_code 134 = .ok (.aload_n 0, 1) := by decide +kernel
theorem d_rone_135 : decode prog_14_method_45_code 135 = .ok (.getfield 348, 3) := by decide +kernel
theorem d_rone_138 : decode prog_14_method_45_code 138 = .ok (.ifCond .ne 7, 3) := by decide +kernel
theorem d_rone_145 : decode prog_14_method_45_code 145 = .ok (.aload_n 0, 1) := by decide +kernel
theorem d_rone_146 : decode prog_14_method_45_code 146 = .ok (.getfield 163, 3) := by decide +kernel
theorem d_rone_149 : decode prog_14_method_45_code 149 = .ok (.aload_n 0, 1) := by decide +kernel
theorem d_rone_150 : decode prog_14_method_45_code 150 = .ok (.getfield 348, 3) := by decide +kernel
theorem d_rone_153 : decode prog_14_method_45_code 153 = .ok (.iconst 1, 1) := by decide +kernel
theorem d_rone_154 : decode prog_14_method_45_code 154 = .ok (.isub, 1) := by decide +kernel
theorem d_rone_155 : decode prog_14_method_45_code 155 = .ok (.iaload, 1) := by decide +kernel
theorem d_rone_156 : decode prog_14_method_45_code 156 = .ok (.iastore, 1) := by decide +kernel
theorem d_rone_157 : decode prog_14_method_45_code 157 = .ok (.aload_n 0, 1) := by decide +kernel
theorem d_rone_158 : decode prog_14_method_45_code 158 = .ok (.getfield 139, 3) := by decide +kernel
theorem d_rone_161 : decode prog_14_method_45_code 161 = .ok (.iload 5, 2) := by decide +kernel
theorem d_rone_163 : decode prog_14_method_45_code 163 = .ok (.iload_n 1, 1) := by decide +kernel
theorem d_rone_164 : decode prog_14_method_45_code 164 = .ok (.iastore, 1) := by decide +kernel
theorem d_rone_165 : decode prog_14_method_45_code 165 = .ok (.aload_n 0, 1) := by decide +kernel
theorem d_rone_166 : decode prog_14_method_45_code 166 = .ok (.getfield 142, 3) := by decide +kernel
theorem d_rone_169 : decode prog_14_method_45_code 169 = .ok (.iload 5, 2) := by decide +kernel
theorem d_rone_171 : decode prog_14_method_45_code 171 = .ok (.iload_n 2, 1) := by decide +kernel
theorem d_rone_172 : decode prog_14_method_45_code 172 = .ok (.iastore, 1) := by decide +kernel
theorem d_rone_173 : decode prog_14_method_45_code 173 = .ok (.aload_n 0, 1) := by decide +kernel
theorem d_rone_174 : decode prog_14_method_45_code 174 = .ok (.getfield 157, 3) := by decide +kernel
theorem d_rone_177 : decode prog_14_method_45_code 177 = .ok (.iload 5, 2) := by decide +kernel
theorem d_rone_179 : decode prog_14_method_45_code 179 = .ok (.lconst 0, 1) := by decide +kernel
theorem d_rone_180 : decode prog_14_method_45_code 180 = .ok (.lastore, 1) := by decide +kernel
theorem d_rone_181 : decode prog_14_method_45_code 181 = .ok (.iload_n 3, 1) := by decide +kernel
theorem d_rone_182 : decode prog_14_method_45_code 182 = .ok (.bipush 110, 2) := by decide +kernel
theorem d_rone_184 : decode prog_14_method_45_code 184 = .ok (.if_icmp .eq 15, 3) := by decide +kernel
theorem d_rone_199 : decode prog_14_method_45_code 199 = .ok (.aload_n 0, 1) := by decide +kernel
theorem d_rone_200 : decode prog_14_method_45_code 200 = .ok (.getfield 133, 3) := by decide +kernel
theorem d_rone_203 : decode prog_14_method_45_code 203 = .ok (.iload 5, 2) := by decide +kernel
theorem d_rone_205 : decode prog_14_method_45_code 205 = .ok (.iload_n 3, 1) := by decide +kernel
theorem d_rone_206 : decode prog_14_method_45_code 206 = .ok (.bipush 110, 2) := by decide +kernel
theorem d_rone_208 : decode prog_14_method_45_code 208 = .ok (.if_icmp .ne 7, 3) := by decide +kernel
theorem d_rone_215 : decode prog_14_method_45_code 215 = .ok (.iload_n 3, 1) := by decide +kernel
theorem d_rone_216 : decode prog_14_method_45_code 216 = .ok (.bipush 102, 2) := by decide +kernel
theorem d_rone_218 : decode prog_14_method_45_code 218 = .ok (.if_icmp .ne 7, 3) := by decide +kernel
theorem d_rone_225 : decode prog_14_method_45_code 225 = .ok (.iconst 2, 1) := by decide +kernel
theorem d_rone_226 : decode prog_14_method_45_code 226 = .ok (.iastore, 1) := by decide +kernel
theorem d_rone_227 : decode prog_14_method_45_code 227 = .ok (.aload_n 0, 1) := by decide +kernel
theorem d_rone_228 : decode prog_14_method_45_code 228 = .ok (.iload_n 3, 1) := by decide +kernel
theorem d_rone_229 : decode prog_14_method_45_code 229 = .ok (.bipush 110, 2) := by decide +kernel
theorem d_rone_231 : decode prog_14_method_45_code 231 = .ok (.if_icmp .ne 9, 3) := by decide +kernel
theorem d_rone_240 : decode prog_14_method_45_code 240 = .ok (.iload_n 3, 1) := by decide +kernel
theorem d_rone_241 : decode prog_14_method_45_code 241 = .ok (.bipush 102, 2) := by decide +kernel
theorem d_rone_243 : decode prog_14_method_45_code 243 = .ok (.if_icmp .ne 9, 3) := by decide +kernel
theorem d_rone_252 : decode prog_14_method_45_code 252 = .ok (.ldc_w 355, 3) := by decide +kernel
theorem d_rone_255 : decode prog_14_method_45_code 255 = .ok (.invokevirtual 357, 3) := by decide +kernel
theorem d_rone_258 : decode prog_14_method_45_code 258 = .ok (.goto 157, 3) := by decide +kernel
theorem d_rone_415 : decode prog_14_method_45_code 415 = .ok (.return_, 1) := by decide +kernel
set_option maxHeartbeats 4000000 in
set_option maxRecDepth 100000 in
theorem w_rone_J415 {p : Program} {l : Launch} {e : Env} {s : State} {m : MethodId} {args : Array Value} {below : List Frame} {meth : Method} {c : Code} {A : Nat → Prop} {D : va_G} {md : Nat → Nat} {mc : Nat → ClassId} {Q : State → Prop} {sad sav : Nat → Nat} (hC : MCs sad sav "JoinedTreesModel" prog_14_method_45_code 6 none p s m args meth c A D mc) {S : MS} {o : MS} (Heq : m_rone_J415 S = some o) (Kr : ∀ r : MS, o = r → ∀ (pc : Nat) (H : Heap) (locs : List Loc) (ls : Array Slot), decode prog_14_method_45_code pc = .ok (.return_, 1) → va_P D cls (mw md mc r) H → va_D A (mw md mc r) → va_S A s.heap H locs → W p l e ({ frames := 5, cells := 0, slots := 0, locals := 133 }) s m args below meth c H locs 0 0 Q (F0 m pc ls [])) : ∀ (H : Heap) (locs : List Loc) (ls : Array Slot), va_P D cls (mw md mc S) H → va_D A (mw md mc S) → va_S A s.heap H locs → lv_has ls 6 [(0, .ref (md 100))] → W p l e ({ frames := 5, cells := 0, slots := 0, locals := 133 }) s m args below meth c H locs 0 0 Q (F0 m 415 ls []) := by
  intro H locs ls hP hD hS hl
  obtain ⟨⟨hx, hb, hr, hml, hown, hts, hK, hA⟩, hE⟩ := id hC
  unfold m_rone_J415 at Heq
  exact Kr _ (Option.some.inj Heq).symm 415 _ _ _ d_rone_415 hP hD hS
def m_rone_J255 (S : MS) (t0 : Nat) : Option MS := ob (m_rword S t0) (fun o_1 => m_rone_J415 o_1)
set_option maxHeartbeats 4000000 in
set_option maxRecDepth 100000 in
theorem w_rone_J255 {p : Program} {l : Launch} {e : Env} {s : State} {m : MethodId} {args : Array Value} {below : List Frame} {meth : Method} {c : Code} {A : Nat → Prop} {D : va_G} {md : Nat → Nat} {mc : Nat → ClassId} {Q : State → Prop} {sad sav : Nat → Nat} (hC : MCs sad sav "JoinedTreesModel" prog_14_method_45_code 6 none p s m args meth c A D mc) {S : MS} {t0 : Nat} {o : MS} (Heq : m_rone_J255 S t0 = some o) (Kr : ∀ r : MS, o = r → ∀ (pc : Nat) (H : Heap) (locs : List Loc) (ls : Array Slot), decode prog_14_method_45_code pc = .ok (.return_, 1) → va_P D cls (mw md mc r) H → va_D A (mw md mc r) → va_S A s.heap H locs → W p l e ({ frames := 5, cells := 0, slots := 0, locals := 133 }) s m args below meth c H locs 0 0 Q (F0 m pc ls [])) : ∀ (H : Heap) (locs : List Loc) (ls : Array Slot), va_P D cls (mw md mc S) H → va_D A (mw md mc S) → va_S A s.heap H locs → lv_has ls 6 [(0, .ref (md 100))] → W p l e ({ frames := 5, cells := 0, slots := 0, locals := 133 }) s m args below meth c H locs 0 0 Q (F0 m 255 ls [.ref (sad t0), .ref (md 100)]) := by
  intro H locs ls hP hD hS hl
  obtain ⟨⟨hx, hb, hr, hml, hown, hts, hK, hA⟩, hE⟩ := id hC
  unfold m_rone_J255 at Heq
  obtain ⟨o_1, h_2, Heq⟩ := ob_some Heq
  have hFc := fr_all hD hS hA
  refine va_callv (va_runV (As := [.ref (sad t0)]) (rest := []) ⟨hx, hb, hml, hown, hts⟩ (g_rword l D H.size (sad := sad) (sav := sav) h_2) (cw_v 1 hts kw_1784 kw_1781 kw_1783 kp_58 kw_11 rfl rfl (by decide +kernel) ⟨Nat.le_of_ble_eq_true rfl, Nat.le_of_ble_eq_true rfl⟩) ⟨gs_blind, va_recv hK hP (ci := 12) (q0 := 0) rfl rfl, fun U hU hW => gs_pre hU hW hP hK hD hE hS hFc⟩ rfl rfl hl.1 rfl (lv_room (Nat.le_of_ble_eq_true rfl)) d_rone_255 ⟨Nat.le_of_ble_eq_true rfl, Nat.le_of_ble_eq_true rfl⟩) hS (fun q _ h => hFc q h) hFc (fun u t H1 locs ht hvm hw hB hz1 hk1 hS => ?_)
  obtain ⟨hP, -, hD1⟩ := hB
  rw [ht] at hP
  have hD := hD1.weaken (fun _ q _ h => hFc q.1 h)
  generalize H1 = H at hP hS ⊢
  refine W.cs (cells' := 0) (slots' := 0) rfl rfl ?_
  refine lv_goto (tgt := 415) hx hb d_rone_258 (by decide) ?_
  exact w_rone_J415 hC Heq Kr _ _ _ hP hD hS (lv_sub hl [0] rfl)
def m_rone_J226 (S : MS) (x3 : Int32) (t0 : Int32) (t1 : Int32) : Option MS := gd t1 501 ((if x3 = 110 then m_rone_J255 (S.setA 53 (upd (S.a 53) t1.toNatClampNeg t0)) 0 else (if x3 = 102 then m_rone_J255 (S.setA 53 (upd (S.a 53) t1.toNatClampNeg t0)) 1 else m_rone_J255 (S.setA 53 (upd (S.a 53) t1.toNatClampNeg t0)) 2)))
theorem d_rone_246 : decode prog_14_method_45_code 246 = .ok (.ldc_w 353, 3) := by decide +kernel
theorem d_rone_249 : decode prog_14_method_45_code 249 = .ok (.goto 6, 3) := by decide +kernel
theorem d_rone_234 : decode prog_14_method_45_code 234 = .ok (.ldc_w 351, 3) := by decide +kernel
theorem d_rone_237 : decode prog_14_method_45_code 237 = .ok (.goto 18, 3) := by decide +kernel
set_option maxHeartbeats 4000000 in
set_option maxRecDepth 100000 in
theorem w_rone_J226 {p : Program} {l : Launch} {e : Env} {s : State} {m : MethodId} {args : Array Value} {below : List Frame} {meth : Method} {c : Code} {A : Nat → Prop} {D : va_G} {md : Nat → Nat} {mc : Nat → ClassId} {Q : State → Prop} {sad sav : Nat → Nat} (hC : MCs sad sav "JoinedTreesModel" prog_14_method_45_code 6 none p s m args meth c A D mc) {S : MS} {x3 : Int32} {t0 : Int32} {t1 : Int32} {o : MS} (Heq : m_rone_J226 S x3 t0 t1 = some o) (Kr : ∀ r : MS, o = r → ∀ (pc : Nat) (H : Heap) (locs : List Loc) (ls : Array Slot), decode prog_14_method_45_code pc = .ok (.return_, 1) → va_P D cls (mw md mc r) H → va_D A (mw md mc r) → va_S A s.heap H locs → W p l e ({ frames := 5, cells := 0, slots := 0, locals := 133 }) s m args below meth c H locs 0 0 Q (F0 m pc ls [])) : ∀ (H : Heap) (locs : List Loc) (ls : Array Slot), va_P D cls (mw md mc S) H → va_D A (mw md mc S) → va_S A s.heap H locs → lv_has ls 6 [(0, .ref (md 100)), (3, .int x3)] → W p l e ({ frames := 5, cells := 0, slots := 0, locals := 133 }) s m args below meth c H locs 0 0 Q (F0 m 226 ls [.int t0, .int t1, .ref (md 53)]) := by
  intro H locs ls hP hD hS hl
  obtain ⟨⟨hx, hb, hr, hml, hown, hts, hK, hA⟩, hE⟩ := id hC
  unfold m_rone_J226 at Heq
  obtain ⟨hi_1, Heq⟩ := gd_some Heq
  refine va_iast hx hb hK hP hD hS 35 0 rfl rfl (i := t1) (x := t0) hi_1 d_rone_226 (fun H locs hP hD hS => ?_)
  rw [mw_A53] at hP hD
  refine lv_aload_n hx hb d_rone_227 rfl (lv_at hl 0 rfl) ?_
  refine lv_iload_n hx hb d_rone_228 rfl (lv_at hl 1 rfl) ?_
  refine lv_bipush (v := 110) hx hb d_rone_229 (by decide) ?_
  refine lv_icmp_ne (tgt := 240) hx hb d_rone_231 (by decide) (fun c_2 => ?_) (fun c_2 => ?_)
  · replace Heq := (if_neg c_2).symm.trans Heq
    refine lv_iload_n hx hb d_rone_240 rfl (lv_at hl 1 rfl) ?_
    refine lv_bipush (v := 102) hx hb d_rone_241 (by decide) ?_
    refine lv_icmp_ne (tgt := 252) hx hb d_rone_243 (by decide) (fun c_3 => ?_) (fun c_3 => ?_)
    · replace Heq := (if_neg c_3).symm.trans Heq
      refine tx_ldcwS (own := "JoinedTreesModel") (tx := "true") (q := sad 2) hx hb hown (hE.1 2 (by decide)).1 d_rone_252 ?_
      exact w_rone_J255 hC Heq Kr _ _ _ hP hD hS (lv_sub hl [0] rfl)
    · replace Heq := (if_pos c_3).symm.trans Heq
      refine tx_ldcwS (own := "JoinedTreesModel") (tx := "false") (q := sad 1) hx hb hown (hE.1 1 (by decide)).1 d_rone_246 ?_
      refine lv_goto (tgt := 255) hx hb d_rone_249 (by decide) ?_
      exact w_rone_J255 hC Heq Kr _ _ _ hP hD hS (lv_sub hl [0] rfl)
  · replace Heq := (if_pos c_2).symm.trans Heq
    refine tx_ldcwS (own := "JoinedTreesModel") (tx := "null") (q := sad 0) hx hb hown (hE.1 0 (by decide)).1 d_rone_234 ?_
    refine lv_goto (tgt := 255) hx hb d_rone_237 (by decide) ?_
    exact w_rone_J255 hC Heq Kr _ _ _ hP hD hS (lv_sub hl [0] rfl)
def m_rone_J199 (S : MS) (x3 : Int32) (x5 : Int32) : Option MS := (if x3 = 110 then m_rone_J226 S x3 0 x5 else (if x3 = 102 then m_rone_J226 S x3 1 x5 else m_rone_J226 S x3 2 x5))
theorem d_rone_221 : decode prog_14_method_45_code 221 = .ok (.iconst 1, 1) := by decide +kernel
theorem d_rone_222 : decode prog_14_method_45_code 222 = .ok (.goto 4, 3) := by decide +kernel
theorem d_rone_211 : decode prog_14_method_45_code 211 = .ok (.iconst 0, 1) := by decide +kernel
theorem d_rone_212 : decode prog_14_method_45_code 212 = .ok (.goto 14, 3) := by decide +kernel
set_option maxHeartbeats 4000000 in
set_option maxRecDepth 100000 in
theorem w_rone_J199 {p : Program} {l : Launch} {e : Env} {s : State} {m : MethodId} {args : Array Value} {below : List Frame} {meth : Method} {c : Code} {A : Nat → Prop} {D : va_G} {md : Nat → Nat} {mc : Nat → ClassId} {Q : State → Prop} {sad sav : Nat → Nat} (hC : MCs sad sav "JoinedTreesModel" prog_14_method_45_code 6 none p s m args meth c A D mc) {S : MS} {x3 : Int32} {x5 : Int32} {o : MS} (Heq : m_rone_J199 S x3 x5 = some o) (Kr : ∀ r : MS, o = r → ∀ (pc : Nat) (H : Heap) (locs : List Loc) (ls : Array Slot), decode prog_14_method_45_code pc = .ok (.return_, 1) → va_P D cls (mw md mc r) H → va_D A (mw md mc r) → va_S A s.heap H locs → W p l e ({ frames := 5, cells := 0, slots := 0, locals := 133 }) s m args below meth c H locs 0 0 Q (F0 m pc ls [])) : ∀ (H : Heap) (locs : List Loc) (ls : Array Slot), va_P D cls (mw md mc S) H → va_D A (mw md mc S) → va_S A s.heap H locs → lv_has ls 6 [(0, .ref (md 100)), (3, .int x3), (5, .int x5)] → W p l e ({ frames := 5, cells := 0, slots := 0, locals := 133 }) s m args below meth c H locs 0 0 Q (F0 m 199 ls []) := by
  intro H locs ls hP hD hS hl
  obtain ⟨⟨hx, hb, hr, hml, hown, hts, hK, hA⟩, hE⟩ := id hC
  unfold m_rone_J199 at Heq
  refine lv_aload_n hx hb d_rone_199 rfl (lv_at hl 0 rfl) ?_
  refine va_get (D := D) (ci := 12) (v := .ref (md 53)) (C := R_MM) (T := F_MM) (N := 77) hx hb hts i_MM hown hK hP 0 rfl rfl 53 (by decide) (hts _ kw_1435) (fun _ h9 => h9) rfl d_rone_200 ?_
  refine lv_iload hx hb d_rone_203 (lv_at hl 2 rfl) ?_
  refine lv_iload_n hx hb d_rone_205 rfl (lv_at hl 1 rfl) ?_
  refine lv_bipush (v := 110) hx hb d_rone_206 (by decide) ?_
  refine lv_icmp_ne (tgt := 215) hx hb d_rone_208 (by decide) (fun c_1 => ?_) (fun c_1 => ?_)
  · replace Heq := (if_neg c_1).symm.trans Heq
    refine lv_iload_n hx hb d_rone_215 rfl (lv_at hl 1 rfl) ?_
    refine lv_bipush (v := 102) hx hb d_rone_216 (by decide) ?_
    refine lv_icmp_ne (tgt := 225) hx hb d_rone_218 (by decide) (fun c_2 => ?_) (fun c_2 => ?_)
    · replace Heq := (if_neg c_2).symm.trans Heq
      refine lv_iconst (v := 2) hx hb d_rone_225 (by decide) ?_
      exact w_rone_J226 hC Heq Kr _ _ _ hP hD hS (lv_sub hl [0, 1] rfl)
    · replace Heq := (if_pos c_2).symm.trans Heq
      refine lv_iconst (v := 1) hx hb d_rone_221 (by decide) ?_
      refine lv_goto (tgt := 226) hx hb d_rone_222 (by decide) ?_
      exact w_rone_J226 hC Heq Kr _ _ _ hP hD hS (lv_sub hl [0, 1] rfl)
  · replace Heq := (if_pos c_1).symm.trans Heq
    refine lv_iconst (v := 0) hx hb d_rone_211 (by decide) ?_
    refine lv_goto (tgt := 226) hx hb d_rone_212 (by decide) ?_
    exact w_rone_J226 hC Heq Kr _ _ _ hP hD hS (lv_sub hl [0, 1] rfl)
def m_rone_J379 (S : MS) (x5 : Int32) (t0 : Int32) (t1 : Int32) : Option MS := gd t1 501 (gd (S.i 67) 32 (m_rone_J415 ((((S.setA 53 (upd (S.a 53) t1.toNatClampNeg t0)).setA 63 (upd (S.a 63) ((S.i 67).toNatClampNeg) x5)).setI 67 ((S.i 67) + 1)).setI 69 1)))
theorem d_rone_187 : decode prog_14_method_45_code 187 = .ok (.iload_n 3, 1) := by decide +kernel
theorem d_rone_188 : decode prog_14_method_45_code 188 = .ok (.bipush 102, 2) := by decide +kernel
theorem d_rone_190 : decode prog_14_method_45_code 190 = .ok (.if_icmp .eq 9, 3) := by decide +kernel
theorem d_rone_193 : decode prog_14_method_45_code 193 = .ok (.iload_n 3, 1) := by decide +kernel
theorem d_rone_194 : decode prog_14_method_45_code 194 = .ok (.bipush 116, 2) := by decide +kernel
theorem d_rone_196 : decode prog_14_method_45_code 196 = .ok (.if_icmp .ne 65, 3) := by decide +kernel
theorem d_rone_261 : decode prog_14_method_45_code 261 = .ok (.iload_n 3, 1) := by decide +kernel
theorem d_rone_262 : decode prog_14_method_45_code 262 = .ok (.bipush 34, 2) := by decide +kernel
theorem d_rone_264 : decode prog_14_method_45_code 264 = .ok (.if_icmp .ne 74, 3) := by decide +kernel
theorem d_rone_338 : decode prog_14_method_45_code 338 = .ok (.iload_n 3, 1) := by decide +kernel
theorem d_rone_339 : decode prog_14_method_45_code 339 = .ok (.bipush 123, 2) := by decide +kernel
theorem d_rone_341 : decode prog_14_method_45_code 341 = .ok (.if_icmp .eq 9, 3) := by decide +kernel
theorem d_rone_350 : decode prog_14_method_45_code 350 = .ok (.aload_n 0, 1) := by decide +kernel
theorem d_rone_351 : decode prog_14_method_45_code 351 = .ok (.dup, 1) := by decide +kernel
theorem d_rone_352 : decode prog_14_method_45_code 352 = .ok (.getfield 313, 3) := by decide +kernel
theorem d_rone_355 : decode prog_14_method_45_code 355 = .ok (.iconst 1, 1) := by decide +kernel
theorem d_rone_356 : decode prog_14_method_45_code 356 = .ok (.iadd, 1) := by decide +kernel
theorem d_rone_357 : decode prog_14_method_45_code 357 = .ok (.putfield 313, 3) := by decide +kernel
theorem d_rone_360 : decode prog_14_method_45_code 360 = .ok (.aload_n 0, 1) := by decide +kernel
theorem d_rone_361 : decode prog_14_method_45_code 361 = .ok (.getfield 133, 3) := by decide +kernel
theorem d_rone_364 : decode prog_14_method_45_code 364 = .ok (.iload 5, 2) := by decide +kernel
theorem d_rone_366 : decode prog_14_method_45_code 366 = .ok (.iload_n 3, 1) := by decide +kernel
theorem d_rone_367 : decode prog_14_method_45_code 367 = .ok (.bipush 123, 2) := by decide +kernel
theorem d_rone_369 : decode prog_14_method_45_code 369 = .ok (.if_icmp .ne 8, 3) := by decide +kernel
theorem d_rone_377 : decode prog_14_method_45_code 377 = .ok (.bipush 7, 2) := by decide +kernel
theorem d_rone_379 : decode prog_14_method_45_code 379 = .ok (.iastore, 1) := by decide +kernel
theorem d_rone_380 : decode prog_14_method_45_code 380 = .ok (.aload_n 0, 1) := by decide +kernel
theorem d_rone_381 : decode prog_14_method_45_code 381 = .ok (.getfield 163, 3) := by decide +kernel
theorem d_rone_384 : decode prog_14_method_45_code 384 = .ok (.aload_n 0, 1) := by decide +kernel
theorem d_rone_385 : decode prog_14_method_45_code 385 = .ok (.getfield 348, 3) := by decide +kernel
theorem d_rone_388 : decode prog_14_method_45_code 388 = .ok (.iload 5, 2) := by decide +kernel
theorem d_rone_390 : decode prog_14_method_45_code 390 = .ok (.iastore, 1) := by decide +kernel
theorem d_rone_391 : decode prog_14_method_45_code 391 = .ok (.aload_n 0, 1) := by decide +kernel
theorem d_rone_392 : decode prog_14_method_45_code 392 = .ok (.dup, 1) := by decide +kernel
theorem d_rone_393 : decode prog_14_method_45_code 393 = .ok (.getfield 348, 3) := by decide +kernel
theorem d_rone_396 : decode prog_14_method_45_code 396 = .ok (.iconst 1, 1) := by decide +kernel
theorem d_rone_397 : decode prog_14_method_45_code 397 = .ok (.iadd, 1) := by decide +kernel
theorem d_rone_398 : decode prog_14_method_45_code 398 = .ok (.putfield 348, 3) := by decide +kernel
theorem d_rone_401 : decode prog_14_method_45_code 401 = .ok (.aload_n 0, 1) := by decide +kernel
theorem d_rone_402 : decode prog_14_method_45_code 402 = .ok (.iconst 1, 1) := by decide +kernel
theorem d_rone_403 : decode prog_14_method_45_code 403 = .ok (.putfield 364, 3) := by decide +kernel
theorem d_rone_406 : decode prog_14_method_45_code 406 = .ok (.goto 9, 3) := by decide +kernel
set_option maxHeartbeats 4000000 in
set_option maxRecDepth 100000 in
theorem w_rone_J379 {p : Program} {l : Launch} {e : Env} {s : State} {m : MethodId} {args : Array Value} {below : List Frame} {meth : Method} {c : Code} {A : Nat → Prop} {D : va_G} {md : Nat → Nat} {mc : Nat → ClassId} {Q : State → Prop} {sad sav : Nat → Nat} (hC : MCs sad sav "JoinedTreesModel" prog_14_method_45_code 6 none p s m args meth c A D mc) {S : MS} {x5 : Int32} {t0 : Int32} {t1 : Int32} {o : MS} (Heq : m_rone_J379 S x5 t0 t1 = some o) (Kr : ∀ r : MS, o = r → ∀ (pc : Nat) (H : Heap) (locs : List Loc) (ls : Array Slot), decode prog_14_method_45_code pc = .ok (.return_, 1) → va_P D cls (mw md mc r) H → va_D A (mw md mc r) → va_S A s.heap H locs → W p l e ({ frames := 5, cells := 0, slots := 0, locals := 133 }) s m args below meth c H locs 0 0 Q (F0 m pc ls [])) : ∀ (H : Heap) (locs : List Loc) (ls : Array Slot), va_P D cls (mw md mc S) H → va_D A (mw md mc S) → va_S A s.heap H locs → lv_has ls 6 [(0, .ref (md 100)), (5, .int x5)] → W p l e ({ frames := 5, cells := 0, slots := 0, locals := 133 }) s m args below meth c H locs 0 0 Q (F0 m 379 ls [.int t0, .int t1, .ref (md 53)]) := by
  intro H locs ls hP hD hS hl
  obtain ⟨⟨hx, hb, hr, hml, hown, hts, hK, hA⟩, hE⟩ := id hC
  unfold m_rone_J379 at Heq
  obtain ⟨hi_1, Heq⟩ := gd_some Heq
  refine va_iast hx hb hK hP hD hS 35 0 rfl rfl (i := t1) (x := t0) hi_1 d_rone_379 (fun H locs hP hD hS => ?_)
  rw [mw_A53] at hP hD
  refine lv_aload_n hx hb d_rone_380 rfl (lv_at hl 0 rfl) ?_
  refine va_get (D := D) (ci := 12) (v := .ref (md 63)) (C := R_MM) (T := F_MM) (N := 77) hx hb hts i_MM hown hK hP 0 rfl rfl 63 (by decide) (hts _ kw_1445) (fun _ h9 => h9) rfl d_rone_381 ?_
  refine lv_aload_n hx hb d_rone_384 rfl (lv_at hl 0 rfl) ?_
  refine va_get (D := D) (ci := 12) (v := .int (S.i 67)) (C := R_MM) (T := F_MM) (N := 77) hx hb hts i_MM hown hK hP 0 rfl rfl 67 (by decide) (hts _ kw_1449) (fun _ h9 => h9) rfl d_rone_385 ?_
  refine lv_iload hx hb d_rone_388 (lv_at hl 1 rfl) ?_
  obtain ⟨hi_2, Heq⟩ := gd_some Heq
  refine va_iast hx hb hK hP hD hS 45 0 rfl rfl (i := S.i 67) (x := x5) hi_2 d_rone_390 (fun H locs hP hD hS => ?_)
  rw [mw_A63] at hP hD
  refine lv_aload_n hx hb d_rone_391 rfl (lv_at hl 0 rfl) ?_
  refine lv_dup hx hb d_rone_392 rfl ?_
  refine va_get (D := D) (ci := 12) (v := .int (S.i 67)) (C := R_MM) (T := F_MM) (N := 77) hx hb hts i_MM hown hK hP 0 rfl rfl 67 (by decide) (hts _ kw_1449) (fun _ h9 => h9) rfl d_rone_393 ?_
  refine lv_iconst (v := 1) hx hb d_rone_396 (by decide) ?_
  refine lv_iadd hx hb d_rone_397 ?_
  refine w_i (y := (S.i 67) + 1) rfl ?_
  refine va_put (D := D) (ci := 12) (v := .int ((S.i 67) + 1)) (ty := .int) (C := R_MM) (T := F_MM) (N := 77) hx hb hts i_MM t_MM t_MM_ok n_MM hown hK hP hD hS 0 rfl rfl 67 (by decide) (hts _ kw_1449) (fun _ h9 => h9) rfl (by decide +kernel) rfl rfl (Nat.le_of_ble_eq_true rfl) d_rone_398 (fun H locs hP hD hS => ?_)
  rw [mw_I67] at hP hD
  refine lv_aload_n hx hb d_rone_401 rfl (lv_at hl 0 rfl) ?_
  refine lv_iconst (v := 1) hx hb d_rone_402 (by decide) ?_
  refine va_put (D := D) (ci := 12) (v := .int 1) (ty := .int) (C := R_MM) (T := F_MM) (N := 77) hx hb hts i_MM t_MM t_MM_ok n_MM hown hK hP hD hS 0 rfl rfl 69 (by decide) (hts _ kw_1451) (fun _ h9 => h9) rfl (by decide +kernel) rfl rfl (Nat.le_of_ble_eq_true rfl) d_rone_403 (fun H locs hP hD hS => ?_)
  rw [mw_I69] at hP hD
  refine lv_goto (tgt := 415) hx hb d_rone_406 (by decide) ?_
  exact w_rone_J415 hC Heq Kr _ _ _ hP hD hS (lv_sub hl [0] rfl)
def m_rone_J350 (S : MS) (x3 : Int32) (x5 : Int32) : Option MS := (if x3 = 123 then m_rone_J379 (S.setI 66 ((S.i 66) + 1)) x5 6 x5 else m_rone_J379 (S.setI 66 ((S.i 66) + 1)) x5 7 x5)
theorem d_rone_372 : decode prog_14_method_45_code 372 = .ok (.bipush 6, 2) := by decide +kernel
theorem d_rone_374 : decode prog_14_method_45_code 374 = .ok (.goto 5, 3) := by decide +kernel
set_option maxHeartbeats 4000000 in
set_option maxRecDepth 100000 in
theorem w_rone_J350 {p : Program} {l : Launch} {e : Env} {s : State} {m : MethodId} {args : Array Value} {below : List Frame} {meth : Method} {c : Code} {A : Nat → Prop} {D : va_G} {md : Nat → Nat} {mc : Nat → ClassId} {Q : State → Prop} {sad sav : Nat → Nat} (hC : MCs sad sav "JoinedTreesModel" prog_14_method_45_code 6 none p s m args meth c A D mc) {S : MS} {x3 : Int32} {x5 : Int32} {o : MS} (Heq : m_rone_J350 S x3 x5 = some o) (Kr : ∀ r : MS, o = r → ∀ (pc : Nat) (H : Heap) (locs : List Loc) (ls : Array Slot), decode prog_14_method_45_code pc = .ok (.return_, 1) → va_P D cls (mw md mc r) H → va_D A (mw md mc r) → va_S A s.heap H locs → W p l e ({ frames := 5, cells := 0, slots := 0, locals := 133 }) s m args below meth c H locs 0 0 Q (F0 m pc ls [])) : ∀ (H : Heap) (locs : List Loc) (ls : Array Slot), va_P D cls (mw md mc S) H → va_D A (mw md mc S) → va_S A s.heap H locs → lv_has ls 6 [(0, .ref (md 100)), (3, .int x3), (5, .int x5)] → W p l e ({ frames := 5, cells := 0, slots := 0, locals := 133 }) s m args below meth c H locs 0 0 Q (F0 m 350 ls []) := by
  intro H locs ls hP hD hS hl
  obtain ⟨⟨hx, hb, hr, hml, hown, hts, hK, hA⟩, hE⟩ := id hC
  unfold m_rone_J350 at Heq
  refine lv_aload_n hx hb d_rone_350 rfl (lv_at hl 0 rfl) ?_
  refine lv_dup hx hb d_rone_351 rfl ?_
  refine va_get (D := D) (ci := 12) (v := .int (S.i 66)) (C := R_MM) (T := F_MM) (N := 77) hx hb hts i_MM hown hK hP 0 rfl rfl 66 (by decide) (hts _ kw_1448) (fun _ h9 => h9) rfl d_rone_352 ?_
  refine lv_iconst (v := 1) hx hb d_rone_355 (by decide) ?_
  refine lv_iadd hx hb d_rone_356 ?_
  refine w_i (y := (S.i 66) + 1) rfl ?_
  refine va_put (D := D) (ci := 12) (v := .int ((S.i 66) + 1)) (ty := .int) (C := R_MM) (T := F_MM) (N := 77) hx hb hts i_MM t_MM t_MM_ok n_MM hown hK hP hD hS 0 rfl rfl 66 (by decide) (hts _ kw_1448) (fun _ h9 => h9) rfl (by decide +kernel) rfl rfl (Nat.le_of_ble_eq_true rfl) d_rone_357 (fun H locs hP hD hS => ?_)
  rw [mw_I66] at hP hD
  refine lv_aload_n hx hb d_rone_360 rfl (lv_at hl 0 rfl) ?_
  refine va_get (D := D) (ci := 12) (v := .ref (md 53)) (C := R_MM) (T := F_MM) (N := 77) hx hb hts i_MM hown hK hP 0 rfl rfl 53 (by decide) (hts _ kw_1435) (fun _ h9 => h9) rfl d_rone_361 ?_
  refine lv_iload hx hb d_rone_364 (lv_at hl 2 rfl) ?_
  refine lv_iload_n hx hb d_rone_366 rfl (lv_at hl 1 rfl) ?_
  refine lv_bipush (v := 123) hx hb d_rone_367 (by decide) ?_
  refine lv_icmp_ne (tgt := 377) hx hb d_rone_369 (by decide) (fun c_1 => ?_) (fun c_1 => ?_)
  · replace Heq := (if_neg c_1).symm.trans Heq
    refine lv_bipush (v := 7) hx hb d_rone_377 (by decide) ?_
    exact w_rone_J379 hC Heq Kr _ _ _ hP hD hS (lv_sub hl [0, 2] rfl)
  · replace Heq := (if_pos c_1).symm.trans Heq
    refine lv_bipush (v := 6) hx hb d_rone_372 (by decide) ?_
    refine lv_goto (tgt := 379) hx hb d_rone_374 (by decide) ?_
    exact w_rone_J379 hC Heq Kr _ _ _ hP hD hS (lv_sub hl [0, 2] rfl)
def m_rone_J156 (S : MS) (x1 : Int32) (x2 : Int32) (x3 : Int32) (x5 : Int32) (t0 : Int32) (t1 : Int32) : Option MS := gd t1 501 (gd x5 501 (gd x5 501 (gd x5 501 ((if x3 = 110 then m_rone_J199 ((((S.setA 54 (upd (S.a 54) t1.toNatClampNeg t0)).setA 55 (upd (S.a 55) x5.toNatClampNeg x1)).setA 56 (upd (S.a 56) x5.toNatClampNeg x2)).setN 61 (vp_updL (S.n 61) x5.toNatClampNeg 0)) x3 x5 else (if x3 = 102 then m_rone_J199 ((((S.setA 54 (upd (S.a 54) t1.toNatClampNeg t0)).setA 55 (upd (S.a 55) x5.toNatClampNeg x1)).setA 56 (upd (S.a 56) x5.toNatClampNeg x2)).setN 61 (vp_updL (S.n 61) x5.toNatClampNeg 0)) x3 x5 else (if x3 = 116 then m_rone_J199 ((((S.setA 54 (upd (S.a 54) t1.toNatClampNeg t0)).setA 55 (upd (S.a 55) x5.toNatClampNeg x1)).setA 56 (upd (S.a 56) x5.toNatClampNeg x2)).setN 61 (vp_updL (S.n 61) x5.toNatClampNeg 0)) x3 x5 else (if x3 = 34 then gd x5 501 (ob (m_rstring ((((((S.setA 54 (upd (S.a 54) t1.toNatClampNeg t0)).setA 55 (upd (S.a 55) x5.toNatClampNeg x1)).setA 56 (upd (S.a 56) x5.toNatClampNeg x2)).setN 61 (vp_updL (S.n 61) x5.toNatClampNeg 0)).setI 66 ((S.i 66) + 1)).setA 53 (upd (S.a 53) x5.toNatClampNeg 4)) 1024) (fun o_14 => gd x5 501 (gd x5 501 (gd x5 501 ((if o_14.1.i 68 = 0 then m_rone_J415 (((o_14.1.setA 57 (upd (o_14.1.a 57) x5.toNatClampNeg o_14.2)).setA 58 (upd (o_14.1.a 58) x5.toNatClampNeg ((o_14.1.i 65) - ((upd (o_14.1.a 57) x5.toNatClampNeg o_14.2) x5.toNatClampNeg)))).setI 66 ((o_14.1.i 66) + 1)) else m_rone_J415 ((o_14.1.setA 57 (upd (o_14.1.a 57) x5.toNatClampNeg o_14.2)).setA 58 (upd (o_14.1.a 58) x5.toNatClampNeg ((o_14.1.i 65) - ((upd (o_14.1.a 57) x5.toNatClampNeg o_14.2) x5.toNatClampNeg)))))))))) else (if x3 = 123 then m_rone_J350 ((((S.setA 54 (upd (S.a 54) t1.toNatClampNeg t0)).setA 55 (upd (S.a 55) x5.toNatClampNeg x1)).setA 56 (upd (S.a 56) x5.toNatClampNeg x2)).setN 61 (vp_updL (S.n 61) x5.toNatClampNeg 0)) x3 x5 else (if x3 = 91 then m_rone_J350 ((((S.setA 54 (upd (S.a 54) t1.toNatClampNeg t0)).setA 55 (upd (S.a 55) x5.toNatClampNeg x1)).setA 56 (upd (S.a 56) x5.toNatClampNeg x2)).setN 61 (vp_updL (S.n 61) x5.toNatClampNeg 0)) x3 x5 else ob (m_rdigits ((((S.setA 54 (upd (S.a 54) t1.toNatClampNeg t0)).setA 55 (upd (S.a 55) x5.toNatClampNeg x1)).setA 56 (upd (S.a 56) x5.toNatClampNeg x2)).setN 61 (vp_updL (S.n 61) x5.toNatClampNeg 0)) x5) (fun o_11 => m_rone_J415 o_11)))))))))))
theorem d_rone_344 : decode prog_14_method_45_code 344 = .ok (.iload_n 3, 1) := by decide +kernel
theorem d_rone_345 : decode prog_14_method_45_code 345 = .ok (.bipush 91, 2) := by decide +kernel
theorem d_rone_347 : decode prog_14_method_45_code 347 = .ok (.if_icmp .ne 62, 3) := by decide +kernel
theorem d_rone_409 : decode prog_14_method_45_code 409 = .ok (.aload_n 0, 1) := by decide +kernel
theorem d_rone_410 : decode prog_14_method_45_code 410 = .ok (.iload 5, 2) := by decide +kernel
theorem d_rone_412 : decode prog_14_method_45_code 412 = .ok (.invokevirtual 367, 3) := by decide +kernel
theorem d_rone_267 : decode prog_14_method_45_code 267 = .ok (.aload_n 0, 1) := by decide +kernel
theorem d_rone_268 : decode prog_14_method_45_code 268 = .ok (.dup, 1) := by decide +kernel
theorem d_rone_269 : decode prog_14_method_45_code 269 = .ok (.getfield 313, 3) := by decide +kernel
theorem d_rone_272 : decode prog_14_method_45_code 272 = .ok (.iconst 1, 1) := by decide +kernel
theorem d_rone_273 : decode prog_14_method_45_code 273 = .ok (.iadd, 1) := by decide +kernel
theorem d_rone_274 : decode prog_14_method_45_code 274 = .ok (.putfield 313, 3) := by decide +kernel
theorem d_rone_277 : decode prog_14_method_45_code 277 = .ok (.aload_n 0, 1) := by decide +kernel
theorem d_rone_278 : decode prog_14_method_45_code 278 = .ok (.getfield 133, 3) := by decide +kernel
theorem d_rone_281 : decode prog_14_method_45_code 281 = .ok (.iload 5, 2) := by decide +kernel
theorem d_rone_283 : decode prog_14_method_45_code 283 = .ok (.iconst 4, 1) := by decide +kernel
theorem d_rone_284 : decode prog_14_method_45_code 284 = .ok (.iastore, 1) := by decide +kernel
theorem d_rone_285 : decode prog_14_method_45_code 285 = .ok (.aload_n 0, 1) := by decide +kernel
theorem d_rone_286 : decode prog_14_method_45_code 286 = .ok (.getfield 145, 3) := by decide +kernel
theorem d_rone_289 : decode prog_14_method_45_code 289 = .ok (.iload 5, 2) := by decide +kernel
theorem d_rone_291 : decode prog_14_method_45_code 291 = .ok (.aload_n 0, 1) := by decide +kernel
theorem d_rone_292 : decode prog_14_method_45_code 292 = .ok (.sipush 1024, 3) := by decide +kernel
theorem d_rone_295 : decode prog_14_method_45_code 295 = .ok (.invokevirtual 361, 3) := by decide +kernel
theorem d_rone_298 : decode prog_14_method_45_code 298 = .ok (.iastore, 1) := by decide +kernel
theorem d_rone_299 : decode prog_14_method_45_code 299 = .ok (.aload_n 0, 1) := by decide +kernel
theorem d_rone_300 : decode prog_14_method_45_code 300 = .ok (.getfield 148, 3) := by decide +kernel
theorem d_rone_303 : decode prog_14_method_45_code 303 = .ok (.iload 5, 2) := by decide +kernel
theorem d_rone_305 : decode prog_14_method_45_code 305 = .ok (.aload_n 0, 1) := by decide +kernel
theorem d_rone_306 : decode prog_14_method_45_code 306 = .ok (.getfield 332, 3) := by decide +kernel
theorem d_rone_309 : decode prog_14_method_45_code 309 = .ok (.aload_n 0, 1) := by decide +kernel
theorem d_rone_310 : decode prog_14_method_45_code 310 = .ok (.getfield 145, 3) := by decide +kernel
theorem d_rone_313 : decode prog_14_method_45_code 313 = .ok (.iload 5, 2) := by decide +kernel
theorem d_rone_315 : decode prog_14_method_45_code 315 = .ok (.iaload, 1) := by decide +kernel
theorem d_rone_316 : decode prog_14_method_45_code 316 = .ok (.isub, 1) := by decide +kernel
theorem d_rone_317 : decode prog_14_method_45_code 317 = .ok (.iastore, 1) := by decide +kernel
theorem d_rone_318 : decode prog_14_method_45_code 318 = .ok (.aload_n 0, 1) := by decide +kernel
theorem d_rone_319 : decode prog_14_method_45_code 319 = .ok (.getfield 324, 3) := by decide +kernel
theorem d_rone_322 : decode prog_14_method_45_code 322 = .ok (.ifCond .ne 93, 3) := by decide +kernel
theorem d_rone_325 : decode prog_14_method_45_code 325 = .ok (.aload_n 0, 1) := by decide +kernel
theorem d_rone_326 : decode prog_14_method_45_code 326 = .ok (.dup, 1) := by decide +kernel
theorem d_rone_327 : decode prog_14_method_45_code 327 = .ok (.getfield 313, 3) := by decide +kernel
theorem d_rone_330 : decode prog_14_method_45_code 330 = .ok (.iconst 1, 1) := by decide +kernel
theorem d_rone_331 : decode prog_14_method_45_code 331 = .ok (.iadd, 1) := by decide +kernel
theorem d_rone_332 : decode prog_14_method_45_code 332 = .ok (.putfield 313, 3) := by decide +kernel
theorem d_rone_335 : decode prog_14_method_45_code 335 = .ok (.goto 80, 3) := by decide +kernel
set_option maxHeartbeats 4000000 in
set_option maxRecDepth 100000 in
theorem w_rone_J156 {p : Program} {l : Launch} {e : Env} {s : State} {m : MethodId} {args : Array Value} {below : List Frame} {meth : Method} {c : Code} {A : Nat → Prop} {D : va_G} {md : Nat → Nat} {mc : Nat → ClassId} {Q : State → Prop} {sad sav : Nat → Nat} (hC : MCs sad sav "JoinedTreesModel" prog_14_method_45_code 6 none p s m args meth c A D mc) {S : MS} {x1 : Int32} {x2 : Int32} {x3 : Int32} {x5 : Int32} {t0 : Int32} {t1 : Int32} {o : MS} (Heq : m_rone_J156 S x1 x2 x3 x5 t0 t1 = some o) (Kr : ∀ r : MS, o = r → ∀ (pc : Nat) (H : Heap) (locs : List Loc) (ls : Array Slot), decode prog_14_method_45_code pc = .ok (.return_, 1) → va_P D cls (mw md mc r) H → va_D A (mw md mc r) → va_S A s.heap H locs → W p l e ({ frames := 5, cells := 0, slots := 0, locals := 133 }) s m args below meth c H locs 0 0 Q (F0 m pc ls [])) : ∀ (H : Heap) (locs : List Loc) (ls : Array Slot), va_P D cls (mw md mc S) H → va_D A (mw md mc S) → va_S A s.heap H locs → lv_has ls 6 [(0, .ref (md 100)), (1, .int x1), (2, .int x2), (3, .int x3), (5, .int x5)] → W p l e ({ frames := 5, cells := 0, slots := 0, locals := 133 }) s m args below meth c H locs 0 0 Q (F0 m 156 ls [.int t0, .int t1, .ref (md 54)]) := by
  intro H locs ls hP hD hS hl
  obtain ⟨⟨hx, hb, hr, hml, hown, hts, hK, hA⟩, hE⟩ := id hC
  unfold m_rone_J156 at Heq
  obtain ⟨hi_1, Heq⟩ := gd_some Heq
  refine va_iast hx hb hK hP hD hS 36 0 rfl rfl (i := t1) (x := t0) hi_1 d_rone_156 (fun H locs hP hD hS => ?_)
  rw [mw_A54] at hP hD
  refine lv_aload_n hx hb d_rone_157 rfl (lv_at hl 0 rfl) ?_
  refine va_get (D := D) (ci := 12) (v := .ref (md 55)) (C := R_MM) (T := F_MM) (N := 77) hx hb hts i_MM hown hK hP 0 rfl rfl 55 (by decide) (hts _ kw_1437) (fun _ h9 => h9) rfl d_rone_158 ?_
  refine lv_iload hx hb d_rone_161 (lv_at hl 4 rfl) ?_
  refine lv_iload_n hx hb d_rone_163 rfl (lv_at hl 1 rfl) ?_
  obtain ⟨hi_2, Heq⟩ := gd_some Heq
  refine va_iast hx hb hK hP hD hS 37 0 rfl rfl (i := x5) (x := x1) hi_2 d_rone_164 (fun H locs hP hD hS => ?_)
  rw [mw_A55] at hP hD
  refine lv_aload_n hx hb d_rone_165 rfl (lv_at hl 0 rfl) ?_
  refine va_get (D := D) (ci := 12) (v := .ref (md 56)) (C := R_MM) (T := F_MM) (N := 77) hx hb hts i_MM hown hK hP 0 rfl rfl 56 (by decide) (hts _ kw_1438) (fun _ h9 => h9) rfl d_rone_166 ?_
  refine lv_iload hx hb d_rone_169 (lv_at hl 4 rfl) ?_
  refine lv_iload_n hx hb d_rone_171 rfl (lv_at hl 2 rfl) ?_
  obtain ⟨hi_3, Heq⟩ := gd_some Heq
  refine va_iast hx hb hK hP hD hS 38 0 rfl rfl (i := x5) (x := x2) hi_3 d_rone_172 (fun H locs hP hD hS => ?_)
  rw [mw_A56] at hP hD
  refine lv_aload_n hx hb d_rone_173 rfl (lv_at hl 0 rfl) ?_
  refine va_get (D := D) (ci := 12) (v := .ref (md 61)) (C := R_MM) (T := F_MM) (N := 77) hx hb hts i_MM hown hK hP 0 rfl rfl 61 (by decide) (hts _ kw_1443) (fun _ h9 => h9) rfl d_rone_174 ?_
  refine lv_iload hx hb d_rone_177 (lv_at hl 4 rfl) ?_
  refine lv_lconst (v := 0) hx hb d_rone_179 (by decide) ?_
  obtain ⟨hi_4, Heq⟩ := gd_some Heq
  refine va_last hx hb hK hP hD hS 43 3 rfl rfl (i := x5) (x := 0) hi_4 d_rone_180 (fun H locs hP hD hS => ?_)
  rw [mw_A61] at hP hD
  refine lv_iload_n hx hb d_rone_181 rfl (lv_at hl 3 rfl) ?_
  refine lv_bipush (v := 110) hx hb d_rone_182 (by decide) ?_
  refine lv_icmp_eq (tgt := 199) hx hb d_rone_184 (by decide) (fun c_5 => ?_) (fun c_5 => ?_)
  · replace Heq := (if_pos c_5).symm.trans Heq
    exact w_rone_J199 hC Heq Kr _ _ _ hP hD hS (lv_sub hl [0, 3, 4] rfl)
  · replace Heq := (if_neg c_5).symm.trans Heq
    refine lv_iload_n hx hb d_rone_187 rfl (lv_at hl 3 rfl) ?_
    refine lv_bipush (v := 102) hx hb d_rone_188 (by decide) ?_
    refine lv_icmp_eq (tgt := 199) hx hb d_rone_190 (by decide) (fun c_6 => ?_) (fun c_6 => ?_)
    · replace Heq := (if_pos c_6).symm.trans Heq
      exact w_rone_J199 hC Heq Kr _ _ _ hP hD hS (lv_sub hl [0, 3, 4] rfl)
    · replace Heq := (if_neg c_6).symm.trans Heq
      refine lv_iload_n hx hb d_rone_193 rfl (lv_at hl 3 rfl) ?_
      refine lv_bipush (v := 116) hx hb d_rone_194 (by decide) ?_
      refine lv_icmp_ne (tgt := 261) hx hb d_rone_196 (by decide) (fun c_7 => ?_) (fun c_7 => ?_)
      · replace Heq := (if_neg c_7).symm.trans Heq
        refine lv_iload_n hx hb d_rone_261 rfl (lv_at hl 3 rfl) ?_
        refine lv_bipush (v := 34) hx hb d_rone_262 (by decide) ?_
        refine lv_icmp_ne (tgt := 338) hx hb d_rone_264 (by decide) (fun c_8 => ?_) (fun c_8 => ?_)
        · replace Heq := (if_neg c_8).symm.trans Heq
          refine lv_iload_n hx hb d_rone_338 rfl (lv_at hl 3 rfl) ?_
          refine lv_bipush (v := 123) hx hb d_rone_339 (by decide) ?_
          refine lv_icmp_eq (tgt := 350) hx hb d_rone_341 (by decide) (fun c_9 => ?_) (fun c_9 => ?_)
          · replace Heq := (if_pos c_9).symm.trans Heq
            exact w_rone_J350 hC Heq Kr _ _ _ hP hD hS (lv_sub hl [0, 3, 4] rfl)
          · replace Heq := (if_neg c_9).symm.trans Heq
            refine lv_iload_n hx hb d_rone_344 rfl (lv_at hl 3 rfl) ?_
            refine lv_bipush (v := 91) hx hb d_rone_345 (by decide) ?_
            refine lv_icmp_ne (tgt := 409) hx hb d_rone_347 (by decide) (fun c_10 => ?_) (fun c_10 => ?_)
            · replace Heq := (if_neg c_10).symm.trans Heq
              refine lv_aload_n hx hb d_rone_409 rfl (lv_at hl 0 rfl) ?_
              refine lv_iload hx hb d_rone_410 (lv_at hl 4 rfl) ?_
              obtain ⟨o_11, h_12, Heq⟩ := ob_some Heq
              have hFc := fr_all hD hS hA
              refine va_callv (va_runV (As := [.int x5]) (rest := []) ⟨hx, hb, hml, hown, hts⟩ (g_rdigits l D H.size h_12) (cw_v 1 hts kw_1797 kw_1794 kw_1796 kp_60 kw_11 rfl rfl (by decide +kernel) ⟨Nat.le_of_ble_eq_true rfl, Nat.le_of_ble_eq_true rfl⟩) ⟨g_blind, va_recv hK hP (ci := 12) (q0 := 0) rfl rfl, fun U hU hW => g_pre hU hW hP hK hD⟩ rfl rfl hl.1 rfl (lv_room (Nat.le_of_ble_eq_true rfl)) d_rone_412 ⟨Nat.le_of_ble_eq_true rfl, Nat.le_of_ble_eq_true rfl⟩) hS (fun q _ h => hFc q h) hFc (fun u t H1 locs ht hvm hw hB hz1 hk1 hS => ?_)
              obtain ⟨hP, -, hD1⟩ := hB
              rw [ht] at hP
              have hD := hD1.weaken (fun _ q _ h => hFc q.1 h)
              generalize H1 = H at hP hS ⊢
              refine W.cs (cells' := 0) (slots' := 0) rfl rfl ?_
              exact w_rone_J415 hC Heq Kr _ _ _ hP hD hS (lv_sub hl [0] rfl)
            · replace Heq := (if_pos c_10).symm.trans Heq
              exact w_rone_J350 hC Heq Kr _ _ _ hP hD hS (lv_sub hl [0, 3, 4] rfl)
        · replace Heq := (if_pos c_8).symm.trans Heq
          refine lv_aload_n hx hb d_rone_267 rfl (lv_at hl 0 rfl) ?_
          refine lv_dup hx hb d_rone_268 rfl ?_
          refine va_get (D := D) (ci := 12) (v := .int (S.i 66)) (C := R_MM) (T := F_MM) (N := 77) hx hb hts i_MM hown hK hP 0 rfl rfl 66 (by decide) (hts _ kw_1448) (fun _ h9 => h9) rfl d_rone_269 ?_
          refine lv_iconst (v := 1) hx hb d_rone_272 (by decide) ?_
          refine lv_iadd hx hb d_rone_273 ?_
          refine w_i (y := (S.i 66) + 1) rfl ?_
          refine va_put (D := D) (ci := 12) (v := .int ((S.i 66) + 1)) (ty := .int) (C := R_MM) (T := F_MM) (N := 77) hx hb hts i_MM t_MM t_MM_ok n_MM hown hK hP hD hS 0 rfl rfl 66 (by decide) (hts _ kw_1448) (fun _ h9 => h9) rfl (by decide +kernel) rfl rfl (Nat.le_of_ble_eq_true rfl) d_rone_274 (fun H locs hP hD hS => ?_)
          rw [mw_I66] at hP hD
          refine lv_aload_n hx hb d_rone_277 rfl (lv_at hl 0 rfl) ?_
          refine va_get (D := D) (ci := 12) (v := .ref (md 53)) (C := R_MM) (T := F_MM) (N := 77) hx hb hts i_MM hown hK hP 0 rfl rfl 53 (by decide) (hts _ kw_1435) (fun _ h9 => h9) rfl d_rone_278 ?_
          refine lv_iload hx hb d_rone_281 (lv_at hl 4 rfl) ?_
          refine lv_iconst (v := 4) hx hb d_rone_283 (by decide) ?_
          obtain ⟨hi_13, Heq⟩ := gd_some Heq
          refine va_iast hx hb hK hP hD hS 35 0 rfl rfl (i := x5) (x := 4) hi_13 d_rone_284 (fun H locs hP hD hS => ?_)
          rw [mw_A53] at hP hD
          refine lv_aload_n hx hb d_rone_285 rfl (lv_at hl 0 rfl) ?_
          refine va_get (D := D) (ci := 12) (v := .ref (md 57)) (C := R_MM) (T := F_MM) (N := 77) hx hb hts i_MM hown hK hP 0 rfl rfl 57 (by decide) (hts _ kw_1439) (fun _ h9 => h9) rfl d_rone_286 ?_
          refine lv_iload hx hb d_rone_289 (lv_at hl 4 rfl) ?_
          refine lv_aload_n hx hb d_rone_291 rfl (lv_at hl 0 rfl) ?_
          refine lv_sipush (v := 1024) hx hb d_rone_292 (by decide) ?_
          obtain ⟨o_14, h_15, Heq⟩ := ob_some Heq
          have hFc := fr_all hD hS hA
          refine va_calli (va_runV (As := [.int 1024]) (rest := [.int x5, .ref (md 57)]) ⟨hx, hb, hml, hown, hts⟩ (g_rstring l D H.size h_15) (cw_v 1 hts kw_1790 kw_1787 kw_1789 kp_59 kw_11 rfl rfl (by decide +kernel) ⟨Nat.le_of_ble_eq_true rfl, Nat.le_of_ble_eq_true rfl⟩) ⟨g_blind, va_recv hK hP (ci := 12) (q0 := 0) rfl rfl, fun U hU hW => g_pre hU hW hP hK hD⟩ rfl rfl hl.1 rfl (lv_room (Nat.le_of_ble_eq_true rfl)) d_rone_295 ⟨Nat.le_of_ble_eq_true rfl, Nat.le_of_ble_eq_true rfl⟩) hS (fun q _ h => hFc q h) hFc (fun rz u t H1 locs ht hvm hw hB hz1 hk1 hS => ?_)
          obtain ⟨hP, -, hD1⟩ := hB
          rw [ht] at hP
          have hD := hD1.weaken (fun _ q _ h => hFc q.1 h)
          generalize H1 = H at hP hS ⊢
          refine W.cs (cells' := 0) (slots' := 0) rfl rfl ?_
          subst hw
          obtain ⟨hi_16, Heq⟩ := gd_some Heq
          refine va_iast hx hb hK hP hD hS 39 0 rfl rfl (i := x5) (x := o_14.2) hi_16 d_rone_298 (fun H locs hP hD hS => ?_)
          rw [mw_A57] at hP hD
          refine lv_aload_n hx hb d_rone_299 rfl (lv_at hl 0 rfl) ?_
          refine va_get (D := D) (ci := 12) (v := .ref (md 58)) (C := R_MM) (T := F_MM) (N := 77) hx hb hts i_MM hown hK hP 0 rfl rfl 58 (by decide) (hts _ kw_1440) (fun _ h9 => h9) rfl d_rone_300 ?_
          refine lv_iload hx hb d_rone_303 (lv_at hl 4 rfl) ?_
          refine lv_aload_n hx hb d_rone_305 rfl (lv_at hl 0 rfl) ?_
          refine va_get (D := D) (ci := 12) (v := .int (o_14.1.i 65)) (C := R_MM) (T := F_MM) (N := 77) hx hb hts i_MM hown hK hP 0 rfl rfl 65 (by decide) (hts _ kw_1447) (fun _ h9 => h9) rfl d_rone_306 ?_
          refine lv_aload_n hx hb d_rone_309 rfl (lv_at hl 0 rfl) ?_
          refine va_get (D := D) (ci := 12) (v := .ref (md 57)) (C := R_MM) (T := F_MM) (N := 77) hx hb hts i_MM hown hK hP 0 rfl rfl 57 (by decide) (hts _ kw_1439) (fun _ h9 => h9) rfl d_rone_310 ?_
          refine lv_iload hx hb d_rone_313 (lv_at hl 4 rfl) ?_
          obtain ⟨hi_17, Heq⟩ := gd_some Heq
          refine va_iald hx hb hK hP 39 0 rfl rfl (i := x5) hi_17 d_rone_315 ?_
          refine w_i (y := (upd (o_14.1.a 57) x5.toNatClampNeg o_14.2) x5.toNatClampNeg) rfl ?_
          refine lv_isub hx hb d_rone_316 ?_
          refine w_i (y := (o_14.1.i 65) - ((upd (o_14.1.a 57) x5.toNatClampNeg o_14.2) x5.toNatClampNeg)) rfl ?_
          obtain ⟨hi_18, Heq⟩ := gd_some Heq
          refine va_iast hx hb hK hP hD hS 40 0 rfl rfl (i := x5) (x := (o_14.1.i 65) - ((upd (o_14.1.a 57) x5.toNatClampNeg o_14.2) x5.toNatClampNeg)) hi_18 d_rone_317 (fun H locs hP hD hS => ?_)
          rw [mw_A58] at hP hD
          refine lv_aload_n hx hb d_rone_318 rfl (lv_at hl 0 rfl) ?_
          refine va_get (D := D) (ci := 12) (v := .int (o_14.1.i 68)) (C := R_MM) (T := F_MM) (N := 77) hx hb hts i_MM hown hK hP 0 rfl rfl 68 (by decide) (hts _ kw_1450) (fun _ h9 => h9) rfl d_rone_319 ?_
          refine lv_if_ne (tgt := 415) hx hb d_rone_322 (by decide) (fun c_19 => ?_) (fun c_19 => ?_)
          · replace Heq := (if_neg c_19).symm.trans Heq
            exact w_rone_J415 hC Heq Kr _ _ _ hP hD hS (lv_sub hl [0] rfl)
          · replace Heq := (if_pos c_19).symm.trans Heq
            refine lv_aload_n hx hb d_rone_325 rfl (lv_at hl 0 rfl) ?_
            refine lv_dup hx hb d_rone_326 rfl ?_
            refine va_get (D := D) (ci := 12) (v := .int (o_14.1.i 66)) (C := R_MM) (T := F_MM) (N := 77) hx hb hts i_MM hown hK hP 0 rfl rfl 66 (by decide) (hts _ kw_1448) (fun _ h9 => h9) rfl d_rone_327 ?_
            refine lv_iconst (v := 1) hx hb d_rone_330 (by decide) ?_
            refine lv_iadd hx hb d_rone_331 ?_
            refine w_i (y := (o_14.1.i 66) + 1) rfl ?_
            refine va_put (D := D) (ci := 12) (v := .int ((o_14.1.i 66) + 1)) (ty := .int) (C := R_MM) (T := F_MM) (N := 77) hx hb hts i_MM t_MM t_MM_ok n_MM hown hK hP hD hS 0 rfl rfl 66 (by decide) (hts _ kw_1448) (fun _ h9 => h9) rfl (by decide +kernel) rfl rfl (Nat.le_of_ble_eq_true rfl) d_rone_332 (fun H locs hP hD hS => ?_)
            rw [mw_I66] at hP hD
            refine lv_goto (tgt := 415) hx hb d_rone_335 (by decide) ?_
            exact w_rone_J415 hC Heq Kr _ _ _ hP hD hS (lv_sub hl [0] rfl)
      · replace Heq := (if_pos c_7).symm.trans Heq
        exact w_rone_J199 hC Heq Kr _ _ _ hP hD hS (lv_sub hl [0, 3, 4] rfl)
def m_rone_J112 (S : MS) (x1 : Int32) (x2 : Int32) (x3 : Int32) : Option MS := (if S.i 67 = 0 then m_rone_J156 (S.setI 64 ((S.i 64) + 1)) x1 x2 x3 (S.i 64) (-1) (S.i 64) else gd ((S.i 67) - 1) 32 (m_rone_J156 (S.setI 64 ((S.i 64) + 1)) x1 x2 x3 (S.i 64) (S.a 63 (((S.i 67) - 1).toNatClampNeg)) (S.i 64)))
theorem d_rone_141 : decode prog_14_method_45_code 141 = .ok (.iconst (-1), 1) := by decide +kernel
theorem d_rone_142 : decode prog_14_method_45_code 142 = .ok (.goto 14, 3) := by decide +kernel
set_option maxHeartbeats 4000000 in
set_option maxRecDepth 100000 in
theorem w_rone_J112 {p : Program} {l : Launch} {e : Env} {s : State} {m : MethodId} {args : Array Value} {below : List Frame} {meth : Method} {c : Code} {A : Nat → Prop} {D : va_G} {md : Nat → Nat} {mc : Nat → ClassId} {Q : State → Prop} {sad sav : Nat → Nat} (hC : MCs sad sav "JoinedTreesModel" prog_14_method_45_code 6 none p s m args meth c A D mc) {S : MS} {x1 : Int32} {x2 : Int32} {x3 : Int32} {o : MS} (Heq : m_rone_J112 S x1 x2 x3 = some o) (Kr : ∀ r : MS, o = r → ∀ (pc : Nat) (H : Heap) (locs : List Loc) (ls : Array Slot), decode prog_14_method_45_code pc = .ok (.return_, 1) → va_P D cls (mw md mc r) H → va_D A (mw md mc r) → va_S A s.heap H locs → W p l e ({ frames := 5, cells := 0, slots := 0, locals := 133 }) s m args below meth c H locs 0 0 Q (F0 m pc ls [])) : ∀ (H : Heap) (locs : List Loc) (ls : Array Slot), va_P D cls (mw md mc S) H → va_D A (mw md mc S) → va_S A s.heap H locs → lv_has ls 6 [(0, .ref (md 100)), (1, .int x1), (2, .int x2), (3, .int x3)] → W p l e ({ frames := 5, cells := 0, slots := 0, locals := 133 }) s m args below meth c H locs 0 0 Q (F0 m 112 ls []) := by
  intro H locs ls hP hD hS hl
  obtain ⟨⟨hx, hb, hr, hml, hown, hts, hK, hA⟩, hE⟩ := id hC
  unfold m_rone_J112 at Heq
  refine lv_aload_n hx hb d_rone_112 rfl (lv_at hl 0 rfl) ?_
  refine va_get (D := D) (ci := 12) (v := .int (S.i 64)) (C := R_MM) (T := F_MM) (N := 77) hx hb hts i_MM hown hK hP 0 rfl rfl 64 (by decide) (hts _ kw_1446) (fun _ h9 => h9) rfl d_rone_113 ?_
  refine lv_istore (lv' := [(5, .int (S.i 64)), (0, .ref (md 100)), (1, .int x1), (2, .int x2), (3, .int x3)]) hx hb d_rone_116 hl (by decide) rfl (fun ls hl => ?_)
  refine lv_aload_n hx hb d_rone_118 rfl (lv_at hl 1 rfl) ?_
  refine lv_dup hx hb d_rone_119 rfl ?_
  refine va_get (D := D) (ci := 12) (v := .int (S.i 64)) (C := R_MM) (T := F_MM) (N := 77) hx hb hts i_MM hown hK hP 0 rfl rfl 64 (by decide) (hts _ kw_1446) (fun _ h9 => h9) rfl d_rone_120 ?_
  refine lv_iconst (v := 1) hx hb d_rone_123 (by decide) ?_
  refine lv_iadd hx hb d_rone_124 ?_
  refine w_i (y := (S.i 64) + 1) rfl ?_
  refine va_put (D := D) (ci := 12) (v := .int ((S.i 64) + 1)) (ty := .int) (C := R_MM) (T := F_MM) (N := 77) hx hb hts i_MM t_MM t_MM_ok n_MM hown hK hP hD hS 0 rfl rfl 64 (by decide) (hts _ kw_1446) (fun _ h9 => h9) rfl (by decide +kernel) rfl rfl (Nat.le_of_ble_eq_true rfl) d_rone_125 (fun H locs hP hD hS => ?_)
  rw [mw_I64] at hP hD
  refine lv_aload_n hx hb d_rone_128 rfl (lv_at hl 1 rfl) ?_
  refine va_get (D := D) (ci := 12) (v := .ref (md 54)) (C := R_MM) (T := F_MM) (N := 77) hx hb hts i_MM hown hK hP 0 rfl rfl 54 (by decide) (hts _ kw_1436) (fun _ h9 => h9) rfl d_rone_129 ?_
  refine lv_iload hx hb d_rone_132 (lv_at hl 0 rfl) ?_
  refine lv_aload_n hx hb d_rone_134 rfl (lv_at hl 1 rfl) ?_
  refine va_get (D := D) (ci := 12) (v := .int (S.i 67)) (C := R_MM) (T := F_MM) (N := 77) hx hb hts i_MM hown hK hP 0 rfl rfl 67 (by decide) (hts _ kw_1449) (fun _ h9 => h9) rfl d_rone_135 ?_
  refine lv_if_ne (tgt := 145) hx hb d_rone_138 (by decide) (fun c_1 => ?_) (fun c_1 => ?_)
  · replace Heq := (if_neg c_1).symm.trans Heq
    refine lv_aload_n hx hb d_rone_145 rfl (lv_at hl 1 rfl) ?_
    refine va_get (D := D) (ci := 12) (v := .ref (md 63)) (C := R_MM) (T := F_MM) (N := 77) hx hb hts i_MM hown hK hP 0 rfl rfl 63 (by decide) (hts _ kw_1445) (fun _ h9 => h9) rfl d_rone_146 ?_
    refine lv_aload_n hx hb d_rone_149 rfl (lv_at hl 1 rfl) ?_
    refine va_get (D := D) (ci := 12) (v := .int (S.i 67)) (C := R_MM) (T := F_MM) (N := 77) hx hb hts i_MM hown hK hP 0 rfl rfl 67 (by decide) (hts _ kw_1449) (fun _ h9 => h9) rfl d_rone_150 ?_
    refine lv_iconst (v := 1) hx hb d_rone_153 (by decide) ?_
    refine lv_isub hx hb d_rone_154 ?_
    refine w_i (y := (S.i 67) - 1) rfl ?_
    obtain ⟨hi_2, Heq⟩ := gd_some Heq
    refine va_iald hx hb hK hP 45 0 rfl rfl (i := (S.i 67) - 1) hi_2 d_rone_155 ?_
    refine w_i (y := S.a 63 (((S.i 67) - 1).toNatClampNeg)) rfl ?_
    exact w_rone_J156 hC Heq Kr _ _ _ hP hD hS (lv_sub hl [1, 2, 3, 4, 0] rfl)
  · replace Heq := (if_pos c_1).symm.trans Heq
    refine lv_iconst (v := (-1)) hx hb d_rone_141 (by decide) ?_
    refine lv_goto (tgt := 156) hx hb d_rone_142 (by decide) ?_
    exact w_rone_J156 hC Heq Kr _ _ _ hP hD hS (lv_sub hl [1, 2, 3, 4, 0] rfl)
def m_rone_J97 (S : MS) (x1 : Int32) (x2 : Int32) (x3 : Int32) : Option MS := (if S.i 67 = 20 then m_rone_J106 S else m_rone_J112 S x1 x2 x3)
set_option maxHeartbeats 4000000 in
set_option maxRecDepth 100000 in
theorem w_rone_J97 {p : Program} {l : Launch} {e : Env} {s : State} {m : MethodId} {args : Array Value} {below : List Frame} {meth : Method} {c : Code} {A : Nat → Prop} {D : va_G} {md : Nat → Nat} {mc : Nat → ClassId} {Q : State → Prop} {sad sav : Nat → Nat} (hC : MCs sad sav "JoinedTreesModel" prog_14_method_45_code 6 none p s m args meth c A D mc) {S : MS} {x1 : Int32} {x2 : Int32} {x3 : Int32} {o : MS} (Heq : m_rone_J97 S x1 x2 x3 = some o) (Kr : ∀ r : MS, o = r → ∀ (pc : Nat) (H : Heap) (locs : List Loc) (ls : Array Slot), decode prog_14_method_45_code pc = .ok (.return_, 1) → va_P D cls (mw md mc r) H → va_D A (mw md mc r) → va_S A s.heap H locs → W p l e ({ frames := 5, cells := 0, slots := 0, locals := 133 }) s m args below meth c H locs 0 0 Q (F0 m pc ls [])) : ∀ (H : Heap) (locs : List Loc) (ls : Array Slot), va_P D cls (mw md mc S) H → va_D A (mw md mc S) → va_S A s.heap H locs → lv_has ls 6 [(0, .ref (md 100)), (1, .int x1), (2, .int x2), (3, .int x3)] → W p l e ({ frames := 5, cells := 0, slots := 0, locals := 133 }) s m args below meth c H locs 0 0 Q (F0 m 97 ls []) := by
  intro H locs ls hP hD hS hl
  obtain ⟨⟨hx, hb, hr, hml, hown, hts, hK, hA⟩, hE⟩ := id hC
  unfold m_rone_J97 at Heq
  refine lv_aload_n hx hb d_rone_97 rfl (lv_at hl 0 rfl) ?_
  refine va_get (D := D) (ci := 12) (v := .int (S.i 67)) (C := R_MM) (T := F_MM) (N := 77) hx hb hts i_MM hown hK hP 0 rfl rfl 67 (by decide) (hts _ kw_1449) (fun _ h9 => h9) rfl d_rone_98 ?_
  refine lv_bipush (v := 20) hx hb d_rone_101 (by decide) ?_
  refine lv_icmp_ne (tgt := 112) hx hb d_rone_103 (by decide) (fun c_1 => ?_) (fun c_1 => ?_)
  · replace Heq := (if_neg c_1).symm.trans Heq
    exact w_rone_J112 hC Heq Kr _ _ _ hP hD hS (lv_sub hl [0, 1, 2, 3] rfl)
  · replace Heq := (if_pos c_1).symm.trans Heq
    exact w_rone_J106 hC Heq Kr _ _ _ hP hD hS (lv_sub hl [0] rfl)
def m_rone_J68 (S : MS) (x1 : Int32) (x2 : Int32) (x3 : Int32) (t0 : Int32) : Option MS := (if t0 = 0 then m_rone_J106 S else (if S.i 64 = 500 then m_rone_J106 S else (if x3 = 123 then m_rone_J97 S x1 x2 x3 else (if x3 = 91 then m_rone_J97 S x1 x2 x3 else m_rone_J112 S x1 x2 x3))))
theorem d_rone_91 : decode prog_14_method_45_code 91 = .ok (.iload_n 3, 1) := by decide +kernel
theorem d_rone_92 : decode prog_14_method_45_code 92 = .ok (.bipush 91, 2) := by decide +kernel
theorem d_rone_94 : decode prog_14_method_45_code 94 = .ok (.if_icmp .ne 18, 3) := by decide +kernel
set_option maxHeartbeats 4000000 in
set_option maxRecDepth 100000 in
theorem w_rone_J68 {p : Program} {l : Launch} {e : Env} {s : State} {m : MethodId} {args : Array Value} {below : List Frame} {meth : Method} {c : Code} {A : Nat → Prop} {D : va_G} {md : Nat → Nat} {mc : Nat → ClassId} {Q : State → Prop} {sad sav : Nat → Nat} (hC : MCs sad sav "JoinedTreesModel" prog_14_method_45_code 6 none p s m args meth c A D mc) {S : MS} {x1 : Int32} {x2 : Int32} {x3 : Int32} {t0 : Int32} {o : MS} (Heq : m_rone_J68 S x1 x2 x3 t0 = some o) (Kr : ∀ r : MS, o = r → ∀ (pc : Nat) (H : Heap) (locs : List Loc) (ls : Array Slot), decode prog_14_method_45_code pc = .ok (.return_, 1) → va_P D cls (mw md mc r) H → va_D A (mw md mc r) → va_S A s.heap H locs → W p l e ({ frames := 5, cells := 0, slots := 0, locals := 133 }) s m args below meth c H locs 0 0 Q (F0 m pc ls [])) : ∀ (H : Heap) (locs : List Loc) (ls : Array Slot), va_P D cls (mw md mc S) H → va_D A (mw md mc S) → va_S A s.heap H locs → lv_has ls 6 [(0, .ref (md 100)), (1, .int x1), (2, .int x2), (3, .int x3)] → W p l e ({ frames := 5, cells := 0, slots := 0, locals := 133 }) s m args below meth c H locs 0 0 Q (F0 m 68 ls [.int t0]) := by
  intro H locs ls hP hD hS hl
  obtain ⟨⟨hx, hb, hr, hml, hown, hts, hK, hA⟩, hE⟩ := id hC
  unfold m_rone_J68 at Heq
  refine lv_istore (lv' := [(4, .int t0), (0, .ref (md 100)), (1, .int x1), (2, .int x2), (3, .int x3)]) hx hb d_rone_68 hl (by decide) rfl (fun ls hl => ?_)
  refine lv_iload hx hb d_rone_70 (lv_at hl 0 rfl) ?_
  refine lv_if_eq (tgt := 106) hx hb d_rone_72 (by decide) (fun c_1 => ?_) (fun c_1 => ?_)
  · replace Heq := (if_pos c_1).symm.trans Heq
    exact w_rone_J106 hC Heq Kr _ _ _ hP hD hS (lv_sub hl [1] rfl)
  · replace Heq := (if_neg c_1).symm.trans Heq
    refine lv_aload_n hx hb d_rone_75 rfl (lv_at hl 1 rfl) ?_
    refine va_get (D := D) (ci := 12) (v := .int (S.i 64)) (C := R_MM) (T := F_MM) (N := 77) hx hb hts i_MM hown hK hP 0 rfl rfl 64 (by decide) (hts _ kw_1446) (fun _ h9 => h9) rfl d_rone_76 ?_
    refine lv_sipush (v := 500) hx hb d_rone_79 (by decide) ?_
    refine lv_icmp_eq (tgt := 106) hx hb d_rone_82 (by decide) (fun c_2 => ?_) (fun c_2 => ?_)
    · replace Heq := (if_pos c_2).symm.trans Heq
      exact w_rone_J106 hC Heq Kr _ _ _ hP hD hS (lv_sub hl [1] rfl)
    · replace Heq := (if_neg c_2).symm.trans Heq
      refine lv_iload_n hx hb d_rone_85 rfl (lv_at hl 4 rfl) ?_
      refine lv_bipush (v := 123) hx hb d_rone_86 (by decide) ?_
      refine lv_icmp_eq (tgt := 97) hx hb d_rone_88 (by decide) (fun c_3 => ?_) (fun c_3 => ?_)
      · replace Heq := (if_pos c_3).symm.trans Heq
        exact w_rone_J97 hC Heq Kr _ _ _ hP hD hS (lv_sub hl [1, 2, 3, 4] rfl)
      · replace Heq := (if_neg c_3).symm.trans Heq
        refine lv_iload_n hx hb d_rone_91 rfl (lv_at hl 4 rfl) ?_
        refine lv_bipush (v := 91) hx hb d_rone_92 (by decide) ?_
        refine lv_icmp_ne (tgt := 112) hx hb d_rone_94 (by decide) (fun c_4 => ?_) (fun c_4 => ?_)
        · replace Heq := (if_neg c_4).symm.trans Heq
          exact w_rone_J112 hC Heq Kr _ _ _ hP hD hS (lv_sub hl [1, 2, 3, 4] rfl)
        · replace Heq := (if_pos c_4).symm.trans Heq
          exact w_rone_J97 hC Heq Kr _ _ _ hP hD hS (lv_sub hl [1, 2, 3, 4] rfl)
def m_rone_J63 (S : MS) (x1 : Int32) (x2 : Int32) (x3 : Int32) : Option MS := m_rone_J68 S x1 x2 x3 1
set_option maxHeartbeats 4000000 in
set_option maxRecDepth 100000 in
theorem w_rone_J63 {p : Program} {l : Launch} {e : Env} {s : State} {m : MethodId} {args : Array Value} {below : List Frame} {meth : Method} {c : Code} {A : Nat → Prop} {D : va_G} {md : Nat → Nat} {mc : Nat → ClassId} {Q : State → Prop} {sad sav : Nat → Nat} (hC : MCs sad sav "JoinedTreesModel" prog_14_method_45_code 6 none p s m args meth c A D mc) {S : MS} {x1 : Int32} {x2 : Int32} {x3 : Int32} {o : MS} (Heq : m_rone_J63 S x1 x2 x3 = some o) (Kr : ∀ r : MS, o = r → ∀ (pc : Nat) (H : Heap) (locs : List Loc) (ls : Array Slot), decode prog_14_method_45_code pc = .ok (.return_, 1) → va_P D cls (mw md mc r) H → va_D A (mw md mc r) → va_S A s.heap H locs → W p l e ({ frames := 5, cells := 0, slots := 0, locals := 133 }) s m args below meth c H locs 0 0 Q (F0 m pc ls [])) : ∀ (H : Heap) (locs : List Loc) (ls : Array Slot), va_P D cls (mw md mc S) H → va_D A (mw md mc S) → va_S A s.heap H locs → lv_has ls 6 [(0, .ref (md 100)), (1, .int x1), (2, .int x2), (3, .int x3)] → W p l e ({ frames := 5, cells := 0, slots := 0, locals := 133 }) s m args below meth c H locs 0 0 Q (F0 m 63 ls []) := by
  intro H locs ls hP hD hS hl
  obtain ⟨⟨hx, hb, hr, hml, hown, hts, hK, hA⟩, hE⟩ := id hC
  unfold m_rone_J63 at Heq
  refine lv_iconst (v := 1) hx hb d_rone_63 (by decide) ?_
  refine lv_goto (tgt := 68) hx hb d_rone_64 (by decide) ?_
  exact w_rone_J68 hC Heq Kr _ _ _ hP hD hS (lv_sub hl [0, 1, 2, 3] rfl)
def m_rone_J45 (S : MS) (x1 : Int32) (x2 : Int32) (x3 : Int32) : Option MS := (if x3 = 34 then m_rone_J63 S x1 x2 x3 else (if x3 = 123 then m_rone_J63 S x1 x2 x3 else (if x3 = 91 then m_rone_J63 S x1 x2 x3 else m_rone_J68 S x1 x2 x3 0)))
theorem d_rone_15 : decode prog_14_method_45_code 15 = .ok (.iload_n 3, 1) := by decide +kernel
theorem d_rone_16 : decode prog_14_method_45_code 16 = .ok (.bipush 102, 2) := by decide +kernel
theorem d_rone_18 : decode prog_14_method_45_code 18 = .ok (.if_icmp .eq 45, 3) := by decide +kernel
theorem d_rone_21 : decode prog_14_method_45_code 21 = .ok (.iload_n 3, 1) := by decide +kernel
theorem d_rone_22 : decode prog_14_method_45_code 22 = .ok (.bipush 116, 2) := by decide +kernel
theorem d_rone_24 : decode prog_14_method_45_code 24 = .ok (.if_icmp .eq 39, 3) := by decide +kernel
theorem d_rone_27 : decode prog_14_method_45_code 27 = .ok (.iload_n 3, 1) := by decide +kernel
theorem d_rone_28 : decode prog_14_method_45_code 28 = .ok (.bipush 45, 2) := by decide +kernel
theorem d_rone_30 : decode prog_14_method_45_code 30 = .ok (.if_icmp .eq 33, 3) := by decide +kernel
theorem d_rone_33 : decode prog_14_method_45_code 33 = .ok (.iload_n 3, 1) := by decide +kernel
theorem d_rone_34 : decode prog_14_method_45_code 34 = .ok (.bipush 48, 2) := by decide +kernel
theorem d_rone_36 : decode prog_14_method_45_code 36 = .ok (.if_icmp .lt 9, 3) := by decide +kernel
theorem d_rone_45 : decode prog_14_method_45_code 45 = .ok (.iload_n 3, 1) := by decide +kernel
theorem d_rone_46 : decode prog_14_method_45_code 46 = .ok (.bipush 34, 2) := by decide +kernel
theorem d_rone_48 : decode prog_14_method_45_code 48 = .ok (.if_icmp .eq 15, 3) := by decide +kernel
theorem d_rone_51 : decode prog_14_method_45_code 51 = .ok (.iload_n 3, 1) := by decide +kernel
theorem d_rone_52 : decode prog_14_method_45_code 52 = .ok (.bipush 123, 2) := by decide +kernel
theorem d_rone_54 : decode prog_14_method_45_code 54 = .ok (.if_icmp .eq 9, 3) := by decide +kernel
theorem d_rone_57 : decode prog_14_method_45_code 57 = .ok (.iload_n 3, 1) := by decide +kernel
theorem d_rone_58 : decode prog_14_method_45_code 58 = .ok (.bipush 91, 2) := by decide +kernel
theorem d_rone_60 : decode prog_14_method_45_code 60 = .ok (.if_icmp .ne 7, 3) := by decide +kernel
theorem d_rone_67 : decode prog_14_method_45_code 67 = .ok (.iconst 0, 1) := by decide +kernel
set_option maxHeartbeats 4000000 in
set_option maxRecDepth 100000 in
theorem w_rone_J45 {p : Program} {l : Launch} {e : Env} {s : State} {m : MethodId} {args : Array Value} {below : List Frame} {meth : Method} {c : Code} {A : Nat → Prop} {D : va_G} {md : Nat → Nat} {mc : Nat → ClassId} {Q : State → Prop} {sad sav : Nat → Nat} (hC : MCs sad sav "JoinedTreesModel" prog_14_method_45_code 6 none p s m args meth c A D mc) {S : MS} {x1 : Int32} {x2 : Int32} {x3 : Int32} {o : MS} (Heq : m_rone_J45 S x1 x2 x3 = some o) (Kr : ∀ r : MS, o = r → ∀ (pc : Nat) (H : Heap) (locs : List Loc) (ls : Array Slot), decode prog_14_method_45_code pc = .ok (.return_, 1) → va_P D cls (mw md mc r) H → va_D A (mw md mc r) → va_S A s.heap H locs → W p l e ({ frames := 5, cells := 0, slots := 0, locals := 133 }) s m args below meth c H locs 0 0 Q (F0 m pc ls [])) : ∀ (H : Heap) (locs : List Loc) (ls : Array Slot), va_P D cls (mw md mc S) H → va_D A (mw md mc S) → va_S A s.heap H locs → lv_has ls 6 [(0, .ref (md 100)), (1, .int x1), (2, .int x2), (3, .int x3)] → W p l e ({ frames := 5, cells := 0, slots := 0, locals := 133 }) s m args below meth c H locs 0 0 Q (F0 m 45 ls []) := by
  intro H locs ls hP hD hS hl
  obtain ⟨⟨hx, hb, hr, hml, hown, hts, hK, hA⟩, hE⟩ := id hC
  unfold m_rone_J45 at Heq
  refine lv_iload_n hx hb d_rone_45 rfl (lv_at hl 3 rfl) ?_
  refine lv_bipush (v := 34) hx hb d_rone_46 (by decide) ?_
  refine lv_icmp_eq (tgt := 63) hx hb d_rone_48 (by decide) (fun c_1 => ?_) (fun c_1 => ?_)
  · replace Heq := (if_pos c_1).symm.trans Heq
    exact w_rone_J63 hC Heq Kr _ _ _ hP hD hS (lv_sub hl [0, 1, 2, 3] rfl)
  · replace Heq := (if_neg c_1).symm.trans Heq
    refine lv_iload_n hx hb d_rone_51 rfl (lv_at hl 3 rfl) ?_
    refine lv_bipush (v := 123) hx hb d_rone_52 (by decide) ?_
    refine lv_icmp_eq (tgt := 63) hx hb d_rone_54 (by decide) (fun c_2 => ?_) (fun c_2 => ?_)
    · replace Heq := (if_pos c_2).symm.trans Heq
      exact w_rone_J63 hC Heq Kr _ _ _ hP hD hS (lv_sub hl [0, 1, 2, 3] rfl)
    · replace Heq := (if_neg c_2).symm.trans Heq
      refine lv_iload_n hx hb d_rone_57 rfl (lv_at hl 3 rfl) ?_
      refine lv_bipush (v := 91) hx hb d_rone_58 (by decide) ?_
      refine lv_icmp_ne (tgt := 67) hx hb d_rone_60 (by decide) (fun c_3 => ?_) (fun c_3 => ?_)
      · replace Heq := (if_neg c_3).symm.trans Heq
        refine lv_iconst (v := 0) hx hb d_rone_67 (by decide) ?_
        exact w_rone_J68 hC Heq Kr _ _ _ hP hD hS (lv_sub hl [0, 1, 2, 3] rfl)
      · replace Heq := (if_pos c_3).symm.trans Heq
        exact w_rone_J63 hC Heq Kr _ _ _ hP hD hS (lv_sub hl [0, 1, 2, 3] rfl)
def m_rone_J0 (S : MS) (x1 : Int32) (x2 : Int32) : Option MS := ob (m_rskip S) (fun o_1 => ob (m_rsign o_1) (fun o_3 => (if o_3.2 = 110 then m_rone_J63 o_3.1 x1 x2 o_3.2 else (if o_3.2 = 102 then m_rone_J63 o_3.1 x1 x2 o_3.2 else (if o_3.2 = 116 then m_rone_J63 o_3.1 x1 x2 o_3.2 else (if o_3.2 = 45 then m_rone_J63 o_3.1 x1 x2 o_3.2 else (if o_3.2 < 48 then m_rone_J45 o_3.1 x1 x2 o_3.2 else (if o_3.2 ≤ 57 then m_rone_J63 o_3.1 x1 x2 o_3.2 else m_rone_J45 o_3.1 x1 x2 o_3.2))))))))
theorem d_rone_39 : decode prog_14_method_45_code 39 = .ok (.iload_n 3, 1) := by decide +kernel
theorem d_rone_40 : decode prog_14_method_45_code 40 = .ok (.bipush 57, 2) := by decide +kernel
theorem d_rone_42 : decode prog_14_method_45_code 42 = .ok (.if_icmp .le 21, 3) := by decide +kernel
set_option maxHeartbeats 4000000 in
set_option maxRecDepth 100000 in
theorem w_rone_J0 {p : Program} {l : Launch} {e : Env} {s : State} {m : MethodId} {args : Array Value} {below : List Frame} {meth : Method} {c : Code} {A : Nat → Prop} {D : va_G} {md : Nat → Nat} {mc : Nat → ClassId} {Q : State → Prop} {sad sav : Nat → Nat} (hC : MCs sad sav "JoinedTreesModel" prog_14_method_45_code 6 none p s m args meth c A D mc) {S : MS} {x1 : Int32} {x2 : Int32} {o : MS} (Heq : m_rone_J0 S x1 x2 = some o) (Kr : ∀ r : MS, o = r → ∀ (pc : Nat) (H : Heap) (locs : List Loc) (ls : Array Slot), decode prog_14_method_45_code pc = .ok (.return_, 1) → va_P D cls (mw md mc r) H → va_D A (mw md mc r) → va_S A s.heap H locs → W p l e ({ frames := 5, cells := 0, slots := 0, locals := 133 }) s m args below meth c H locs 0 0 Q (F0 m pc ls [])) : ∀ (H : Heap) (locs : List Loc) (ls : Array Slot), va_P D cls (mw md mc S) H → va_D A (mw md mc S) → va_S A s.heap H locs → lv_has ls 6 [(0, .ref (md 100)), (1, .int x1), (2, .int x2)] → W p l e ({ frames := 5, cells := 0, slots := 0, locals := 133 }) s m args below meth c H locs 0 0 Q (F0 m 0 ls []) := by
  intro H locs ls hP hD hS hl
  obtain ⟨⟨hx, hb, hr, hml, hown, hts, hK, hA⟩, hE⟩ := id hC
  unfold m_rone_J0 at Heq
  refine lv_aload_n hx hb d_rone_0 rfl (lv_at hl 0 rfl) ?_
  obtain ⟨o_1, h_2, Heq⟩ := ob_some Heq
  have hFc := fr_all hD hS hA
  refine va_callv (va_runV (As := []) (rest := []) ⟨hx, hb, hml, hown, hts⟩ (g_rskip l D H.size h_2) (cw_v 0 hts kw_1773 kw_1770 kw_1772 kp_56 kw_11 rfl rfl (by decide +kernel) ⟨Nat.le_of_ble_eq_true rfl, Nat.le_of_ble_eq_true rfl⟩) ⟨g_blind, va_recv hK hP (ci := 12) (q0 := 0) rfl rfl, fun U hU hW => g_pre hU hW hP hK hD⟩ rfl rfl hl.1 rfl (lv_room (Nat.le_of_ble_eq_true rfl)) d_rone_1 ⟨Nat.le_of_ble_eq_true rfl, Nat.le_of_ble_eq_true rfl⟩) hS (fun q _ h => hFc q h) hFc (fun u t H1 locs ht hvm hw hB hz1 hk1 hS => ?_)
  obtain ⟨hP, -, hD1⟩ := hB
  rw [ht] at hP
  have hD := hD1.weaken (fun _ q _ h => hFc q.1 h)
  generalize H1 = H at hP hS ⊢
  refine W.cs (cells' := 0) (slots' := 0) rfl rfl ?_
  refine lv_aload_n hx hb d_rone_4 rfl (lv_at hl 0 rfl) ?_
  obtain ⟨o_3, h_4, Heq⟩ := ob_some Heq
  have hFc := fr_all hD hS hA
  refine va_calli (va_runV (As := []) (rest := []) ⟨hx, hb, hml, hown, hts⟩ (g_rsign l D H.size h_4) (cw_v 0 hts kw_1777 kw_1774 kw_1776 kp_57 kw_11 rfl rfl (by decide +kernel) ⟨Nat.le_of_ble_eq_true rfl, Nat.le_of_ble_eq_true rfl⟩) ⟨g_blind, va_recv hK hP (ci := 12) (q0 := 0) rfl rfl, fun U hU hW => g_pre hU hW hP hK hD⟩ rfl rfl hl.1 rfl (lv_room (Nat.le_of_ble_eq_true rfl)) d_rone_5 ⟨Nat.le_of_ble_eq_true rfl, Nat.le_of_ble_eq_true rfl⟩) hS (fun q _ h => hFc q h) hFc (fun rz u t H1 locs ht hvm hw hB hz1 hk1 hS => ?_)
  obtain ⟨hP, -, hD1⟩ := hB
  rw [ht] at hP
  have hD := hD1.weaken (fun _ q _ h => hFc q.1 h)
  generalize H1 = H at hP hS ⊢
  refine W.cs (cells' := 0) (slots' := 0) rfl rfl ?_
  subst hw
  refine lv_istore_n (lv' := [(3, .int o_3.2), (0, .ref (md 100)), (1, .int x1), (2, .int x2)]) hx hb d_rone_8 rfl hl (by decide) rfl (fun ls hl => ?_)
  refine lv_iload_n hx hb d_rone_9 rfl (lv_at hl 0 rfl) ?_
  refine lv_bipush (v := 110) hx hb d_rone_10 (by decide) ?_
  refine lv_icmp_eq (tgt := 63) hx hb d_rone_12 (by decide) (fun c_5 => ?_) (fun c_5 => ?_)
  · replace Heq := (if_pos c_5).symm.trans Heq
    exact w_rone_J63 hC Heq Kr _ _ _ hP hD hS (lv_sub hl [1, 2, 3, 0] rfl)
  · replace Heq := (if_neg c_5).symm.trans Heq
    refine lv_iload_n hx hb d_rone_15 rfl (lv_at hl 0 rfl) ?_
    refine lv_bipush (v := 102) hx hb d_rone_16 (by decide) ?_
    refine lv_icmp_eq (tgt := 63) hx hb d_rone_18 (by decide) (fun c_6 => ?_) (fun c_6 => ?_)
    · replace Heq := (if_pos c_6).symm.trans Heq
      exact w_rone_J63 hC Heq Kr _ _ _ hP hD hS (lv_sub hl [1, 2, 3, 0] rfl)
    · replace Heq := (if_neg c_6).symm.trans Heq
      refine lv_iload_n hx hb d_rone_21 rfl (lv_at hl 0 rfl) ?_
      refine lv_bipush (v := 116) hx hb d_rone_22 (by decide) ?_
      refine lv_icmp_eq (tgt := 63) hx hb d_rone_24 (by decide) (fun c_7 => ?_) (fun c_7 => ?_)
      · replace Heq := (if_pos c_7).symm.trans Heq
        exact w_rone_J63 hC Heq Kr _ _ _ hP hD hS (lv_sub hl [1, 2, 3, 0] rfl)
      · replace Heq := (if_neg c_7).symm.trans Heq
        refine lv_iload_n hx hb d_rone_27 rfl (lv_at hl 0 rfl) ?_
        refine lv_bipush (v := 45) hx hb d_rone_28 (by decide) ?_
        refine lv_icmp_eq (tgt := 63) hx hb d_rone_30 (by decide) (fun c_8 => ?_) (fun c_8 => ?_)
        · replace Heq := (if_pos c_8).symm.trans Heq
          exact w_rone_J63 hC Heq Kr _ _ _ hP hD hS (lv_sub hl [1, 2, 3, 0] rfl)
        · replace Heq := (if_neg c_8).symm.trans Heq
          refine lv_iload_n hx hb d_rone_33 rfl (lv_at hl 0 rfl) ?_
          refine lv_bipush (v := 48) hx hb d_rone_34 (by decide) ?_
          refine lv_icmp_lt (tgt := 45) hx hb d_rone_36 (by decide) (fun c_9 => ?_) (fun c_9 => ?_)
          · replace Heq := (if_pos c_9).symm.trans Heq
            exact w_rone_J45 hC Heq Kr _ _ _ hP hD hS (lv_sub hl [1, 2, 3, 0] rfl)
          · replace Heq := (if_neg c_9).symm.trans Heq
            refine lv_iload_n hx hb d_rone_39 rfl (lv_at hl 0 rfl) ?_
            refine lv_bipush (v := 57) hx hb d_rone_40 (by decide) ?_
            refine lv_icmp_le (tgt := 63) hx hb d_rone_42 (by decide) (fun c_10 => ?_) (fun c_10 => ?_)
            · replace Heq := (if_pos c_10).symm.trans Heq
              exact w_rone_J63 hC Heq Kr _ _ _ hP hD hS (lv_sub hl [1, 2, 3, 0] rfl)
            · replace Heq := (if_neg c_10).symm.trans Heq
              exact w_rone_J45 hC Heq Kr _ _ _ hP hD hS (lv_sub hl [1, 2, 3, 0] rfl)
def m_rone (S : MS) (x1 : Int32) (x2 : Int32) : Option MS := m_rone_J0 S x1 x2
theorem g_rone (l : Launch) (D : va_G) (sz : Nat) {sad sav : Nat → Nat} {md : Nat → Nat} {mc : Nat → ClassId} {S : MS} {x1 : Int32} {x2 : Int32} {o : MS} (Heq : m_rone S x1 x2 = some o) : Met l ⟨"JoinedTreesModel", "one", "(II)V"⟩ (Cond.code ⟨"JoinedTreesModel", "one", "(II)V"⟩ prog_14_method_45_code 6 none :: gb) ({ frames := 5, cells := 0, slots := 0, locals := 133 }) (gPs sad sav D (mw md mc S) (mty mc) sz [.ref (md 100), .int x1, .int x2]) (va_Qv (fun _ : Unit => True) (fun _ t => gO D (mw md mc o) (mty mc) (va_A (mw md mc S) sz) t) (va_A (mw md mc S) sz)) 0 0 (va_A (mw md mc S) sz) := by
  refine Met.ofW (cc := prog_14_method_45_code) (maxL := 6) (ret := none) (by decide) rfl ?_
  intro p e s m args below meth c s₁ B hml hv
  obtain ⟨rfl, hsz, hP, hK, hD0, hE⟩ := hv
  have hx := B.exec
  have hb := B.bytes
  have hr := B.returns
  have hts : ∀ w9 ∈ gb, w9.before [.ref (md 100), .int x1, .int x2].toArray s = true := fun w9 h => atoms_spec (ws := Cond.code ⟨"JoinedTreesModel", "one", "(II)V"⟩ prog_14_method_45_code 6 none :: gb) B.pre w9 (List.mem_cons_of_mem _ h)
  have hown : s.vm.findClass "JoinedTreesModel" = some m.cls := findClass_of_methodNamed B.named
  have hlocks := B.notSynchronized
  subst hsz
  have hD := hD0.self (sz := s.heap.size)
  generalize hAe : va_A (mw md mc S) s.heap.size = A at hD hE ⊢
  have hA : ∀ q : Nat, s.heap.size ≤ q → A q := fun q h => by rw [← hAe]; exact Or.inr h
  have hS : va_S A s.heap s.heap [] := va_S.rf
  have hl := lv_entry ([.ref (md 100), .int x1, .int x2]) (n := 6) (Nat.le_of_ble_eq_true rfl)
  rw [lg_entry_eq]
  generalize (lg_sl ([.ref (md 100), .int x1, .int x2]) ++ List.replicate (6 - (lg_sl ([.ref (md 100), .int x1, .int x2])).length) Slot.unset).toArray = ls at hl ⊢
  have hl : lv_has ls 6 [(0, .ref (md 100)), (1, .int x1), (2, .int x2)] := hl
  refine w_rone_J0 ⟨⟨hx, hb, hr, hml, hown, hts, hK, hA⟩, hE⟩ Heq (fun r h pc H locs ls hd hP hD hS => ?_) _ _ _ hP hD hS (lv_sub hl [0, 1, 2] rfl)
  subst h
  exact W.vret hx hb hr (fun t ht hW => ⟨⟨(), rfl, trivial, by rw [ht]; exact hP, va_K.moved hW.alike hK, hD⟩, hS.F ht⟩) hS.2.2 hd
