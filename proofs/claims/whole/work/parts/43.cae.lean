def m_cJT_candidate_J30 (N : Nat → Nat) (x0 : Nat) (S : CS) : Option ((CS × Int64) ⊕ (CS × Nat)) := some (.inr (S, 1))
theorem d_cJT_candidate_0 : decode prog_1_method_18_code 0 = .ok (.aload_n 0, 1) := by decide +kernel
theorem d_cJT_candidate_1 : decode prog_1_method_18_code 1 = .ok (.invokevirtual 102, 3) := by decide +kernel
theorem d_cJT_candidate_4 : decode prog_1_method_18_code 4 = .ok (.istore 6, 2) := by decide +kernel
theorem d_cJT_candidate_6 : decode prog_1_method_18_code 6 = .ok (.aload_n 0, 1) := by decide +kernel
theorem d_cJT_candidate_7 : decode prog_1_method_18_code 7 = .ok (.iload_n 1, 1) := by decide +kernel
theorem d_cJT_candidate_8 : decode prog_1_method_18_code 8 = .ok (.invokevirtual 105, 3) := by decide +kernel
theorem d_cJT_candidate_11 : decode prog_1_method_18_code 11 = .ok (.pop, 1) := by decide +kernel
theorem d_cJT_candidate_12 : decode prog_1_method_18_code 12 = .ok (.aload_n 0, 1) := by decide +kernel
theorem d_cJT_candidate_13 : decode prog_1_method_18_code 13 = .ok (.iload 6, 2) := by decide +kernel
theorem d_cJT_candidate_15 : decode prog_1_method_18_code 15 = .ok (.iload_n 3, 1) := by decide +kernel
theorem d_cJT_candidate_16 : decode prog_1_method_18_code 16 = .ok (.invokevirtual 189, 3) := by decide +kernel
theorem d_cJT_candidate_19 : decode prog_1_method_18_code 19 = .ok (.iload 5, 2) := by decide +kernel
theorem d_cJT_candidate_21 : decode prog_1_method_18_code 21 = .ok (.ifCond .lt 9, 3) := by decide +kernel
theorem d_cJT_candidate_30 : decode prog_1_method_18_code 30 = .ok (.new 93, 3) := by decide +kernel
theorem d_cJT_candidate_33 : decode prog_1_method_18_code 33 = .ok (.dup, 1) := by decide +kernel
theorem d_cJT_candidate_34 : decode prog_1_method_18_code 34 = .ok (.invokespecial 95, 3) := by decide +kernel
theorem d_cJT_candidate_37 : decode prog_1_method_18_code 37 = .ok (.athrow, 1) := by decide +kernel
set_option maxHeartbeats 4000000 in
set_option maxRecDepth 100000 in
theorem w_cJT_candidate_J30 {p : Program} {l : Launch} {e : Env} {s : State} {m : MethodId} {args : Array Value} {below : List Frame} {meth : Method} {c : Code} {A : Nat → Prop} {D : va_G} {ad : Nat → Nat → Nat} {cc : Nat → ClassId} {sad sav : Nat → Nat} {Q : State → Prop} {cR sR : Nat} (hfl : l.flags = flags0) (hC : MCc sad sav "JoinedTrees" prog_1_method_18_code 8 (some .long) p s m args meth c A D cc) {N : Nat → Nat} {x0 : Nat} {S : CS} {o : ((CS × Int64) ⊕ (CS × Nat))} (Heq : m_cJT_candidate_J30 N x0 S = some o) (Kr : ∀ r : ((CS × Int64) ⊕ (CS × Nat)), o = r → (∀ v9 : CS × Int64, r = .inl v9 → ∀ (pc : Nat) (H : Heap) (locs : List Loc) (ls : Array Slot), decode prog_1_method_18_code pc = .ok (.lreturn, 1) → va_P D cls (cw ad cc N v9.1) H → va_D A (cw ad cc N v9.1) → va_S A s.heap H locs → W p l e ({ frames := 9, cells := cR, slots := sR, locals := 163 }) s m args below meth c H locs 0 0 Q (F0 m pc ls [.long v9.2])) ∧ (∀ t9 : CS × Nat, r = .inr t9 → (1 ≤ cR ∧ 6 ≤ sR) ∧ (∀ (pc : Nat) (H : Heap) (locs : List Loc) (ls : Array Slot), thD prog_1_method_18_code t9.2 pc → ls.size = 8 → va_P D cls (cw ad cc N t9.1) H → va_D A (cw ad cc N t9.1) → va_S A s.heap H locs → W p l e ({ frames := 9, cells := cR, slots := sR, locals := 163 }) s m args below meth c H locs 0 0 Q (F0 m pc ls [])) ∧ (∀ (pc : Nat) (H : Heap) (locs : List Loc) (ls : Array Slot) (st0 rest9 : List Value) (A9 : Nat → Prop), tx_Thr p l e ({ frames := 9, cells := cR, slots := sR, locals := 163 }) s m args below meth c H locs 0 0 1 6 (F0 m pc ls st0) rest9 (exN t9.2) A9 (fun H1 => va_P D cls (cw ad cc N t9.1) H1) → (∀ q, A9 q → A q) → va_S A s.heap H locs → W p l e ({ frames := 9, cells := cR, slots := sR, locals := 163 }) s m args below meth c H locs 0 0 Q (F0 m pc ls st0)))) : ∀ (H : Heap) (locs : List Loc) (ls : Array Slot), va_P D cls (cw ad cc N S) H → va_D A (cw ad cc N S) → va_S A s.heap H locs → lv_has ls 8 [(0, .ref (ad 11 x0))] → W p l e ({ frames := 9, cells := cR, slots := sR, locals := 163 }) s m args below meth c H locs 0 0 Q (F0 m 30 ls []) := by
  intro H locs ls hP hD hS hl
  obtain ⟨hx, hb, hr, hml, hown, hts, hK, hA, hev, hE, hN, hNS⟩ := id hC
  unfold m_cJT_candidate_J30 at Heq
  exact ((Kr _ (Option.some.inj Heq).symm).2 _ rfl).2.1 30 _ _ _ ⟨⟨show 1 ≤ 1 by decide, show 1 ≤ 5 by decide⟩, d_cJT_candidate_30, d_cJT_candidate_33, d_cJT_candidate_34, d_cJT_candidate_37⟩ hl.1 hP hD hS
def m_cJT_candidate_J68 (N : Nat → Nat) (x0 : Nat) (S : CS) : Option ((CS × Int64) ⊕ (CS × Nat)) := some (.inr (S, 3))
theorem d_cJT_candidate_24 : decode prog_1_method_18_code 24 = .ok (.iload 5, 2) := by decide +kernel
theorem d_cJT_candidate_26 : decode prog_1_method_18_code 26 = .ok (.iconst 4, 1) := by decide +kernel
theorem d_cJT_candidate_27 : decode prog_1_method_18_code 27 = .ok (.if_icmp .le 11, 3) := by decide +kernel
theorem d_cJT_candidate_38 : decode prog_1_method_18_code 38 = .ok (.aload_n 0, 1) := by decide +kernel
theorem d_cJT_candidate_39 : decode prog_1_method_18_code 39 = .ok (.getfield 30, 3) := by decide +kernel
theorem d_cJT_candidate_42 : decode prog_1_method_18_code 42 = .ok (.aload_n 0, 1) := by decide +kernel
theorem d_cJT_candidate_43 : decode prog_1_method_18_code 43 = .ok (.iload_n 2, 1) := by decide +kernel
theorem d_cJT_candidate_44 : decode prog_1_method_18_code 44 = .ok (.iload_n 3, 1) := by decide +kernel
theorem d_cJT_candidate_45 : decode prog_1_method_18_code 45 = .ok (.invokevirtual 192, 3) := by decide +kernel
theorem d_cJT_candidate_48 : decode prog_1_method_18_code 48 = .ok (.invokevirtual 196, 3) := by decide +kernel
theorem d_cJT_candidate_51 : decode prog_1_method_18_code 51 = .ok (.iload 4, 2) := by decide +kernel
theorem d_cJT_candidate_53 : decode prog_1_method_18_code 53 = .ok (.ifCond .lt 15, 3) := by decide +kernel
theorem d_cJT_candidate_68 : decode prog_1_method_18_code 68 = .ok (.new 178, 3) := by decide +kernel
theorem d_cJT_candidate_71 : decode prog_1_method_18_code 71 = .ok (.dup, 1) := by decide +kernel
theorem d_cJT_candidate_72 : decode prog_1_method_18_code 72 = .ok (.invokespecial 180, 3) := by decide +kernel
theorem d_cJT_candidate_75 : decode prog_1_method_18_code 75 = .ok (.athrow, 1) := by decide +kernel
set_option maxHeartbeats 4000000 in
set_option maxRecDepth 100000 in
theorem w_cJT_candidate_J68 {p : Program} {l : Launch} {e : Env} {s : State} {m : MethodId} {args : Array Value} {below : List Frame} {meth : Method} {c : Code} {A : Nat → Prop} {D : va_G} {ad : Nat → Nat → Nat} {cc : Nat → ClassId} {sad sav : Nat → Nat} {Q : State → Prop} {cR sR : Nat} (hfl : l.flags = flags0) (hC : MCc sad sav "JoinedTrees" prog_1_method_18_code 8 (some .long) p s m args meth c A D cc) {N : Nat → Nat} {x0 : Nat} {S : CS} {o : ((CS × Int64) ⊕ (CS × Nat))} (Heq : m_cJT_candidate_J68 N x0 S = some o) (Kr : ∀ r : ((CS × Int64) ⊕ (CS × Nat)), o = r → (∀ v9 : CS × Int64, r = .inl v9 → ∀ (pc : Nat) (H : Heap) (locs : List Loc) (ls : Array Slot), decode prog_1_method_18_code pc = .ok (.lreturn, 1) → va_P D cls (cw ad cc N v9.1) H → va_D A (cw ad cc N v9.1) → va_S A s.heap H locs → W p l e ({ frames := 9, cells := cR, slots := sR, locals := 163 }) s m args below meth c H locs 0 0 Q (F0 m pc ls [.long v9.2])) ∧ (∀ t9 : CS × Nat, r = .inr t9 → (1 ≤ cR ∧ 6 ≤ sR) ∧ (∀ (pc : Nat) (H : Heap) (locs : List Loc) (ls : Array Slot), thD prog_1_method_18_code t9.2 pc → ls.size = 8 → va_P D cls (cw ad cc N t9.1) H → va_D A (cw ad cc N t9.1) → va_S A s.heap H locs → W p l e ({ frames := 9, cells := cR, slots := sR, locals := 163 }) s m args below meth c H locs 0 0 Q (F0 m pc ls [])) ∧ (∀ (pc : Nat) (H : Heap) (locs : List Loc) (ls : Array Slot) (st0 rest9 : List Value) (A9 : Nat → Prop), tx_Thr p l e ({ frames := 9, cells := cR, slots := sR, locals := 163 }) s m args below meth c H locs 0 0 1 6 (F0 m pc ls st0) rest9 (exN t9.2) A9 (fun H1 => va_P D cls (cw ad cc N t9.1) H1) → (∀ q, A9 q → A q) → va_S A s.heap H locs → W p l e ({ frames := 9, cells := cR, slots := sR, locals := 163 }) s m args below meth c H locs 0 0 Q (F0 m pc ls st0)))) : ∀ (H : Heap) (locs : List Loc) (ls : Array Slot), va_P D cls (cw ad cc N S) H → va_D A (cw ad cc N S) → va_S A s.heap H locs → lv_has ls 8 [(0, .ref (ad 11 x0))] → W p l e ({ frames := 9, cells := cR, slots := sR, locals := 163 }) s m args below meth c H locs 0 0 Q (F0 m 68 ls []) := by
  intro H locs ls hP hD hS hl
  obtain ⟨hx, hb, hr, hml, hown, hts, hK, hA, hev, hE, hN, hNS⟩ := id hC
  unfold m_cJT_candidate_J68 at Heq
  exact ((Kr _ (Option.some.inj Heq).symm).2 _ rfl).2.1 68 _ _ _ ⟨⟨show 1 ≤ 3 by decide, show 3 ≤ 5 by decide⟩, d_cJT_candidate_68, d_cJT_candidate_71, d_cJT_candidate_72, d_cJT_candidate_75⟩ hl.1 hP hD hS
def m_cJT_candidate_J0 (N : Nat → Nat) (x0 : Nat) (S : CS) (x1 : Int32) (x2 : Int32) (x3 : Int32) (x4 : Int32) (x5 : Int32) : Option ((CS × Int64) ⊕ (CS × Nat)) := gl x0 (N 11) (ob (m_cJT_takeArguments N x0 S) (fun o_1 => oe (m_cJT_shown N x0 o_1.1 x1) (fun o_3 => oe (m_cJT_needPlace N x0 o_3.1 o_1.2 x3) (fun o_6 => (if x5 < 0 then m_cJT_candidate_J30 N x0 o_6 else (if x5 ≤ 4 then oe (m_cJT_placeAt N x0 o_6 x2 x3) (fun o_11 => gn o_11.2 (N 7) (fun j_14 => gn (o_6.r 11 2 x0) (N 10) (fun j_17 => ob (m_cVw_gather N j_17 o_11.1 j_14) (fun o_20 => (if x4 < 0 then m_cJT_candidate_J68 N x0 o_20 else gn (o_20.r 11 2 x0) (N 10) (fun j_23 => (if x4 < o_20.i 10 3 j_23 then gn (o_20.r 10 2 j_23) (N 15) (fun j_27 => gd x4 (o_20.z 15 j_27) ((if x5 = 0 then gn (o_20.q 15 j_27 x4.toNatClampNeg) (N 3) (fun j_32 => some (.inl (o_20, (o_20.i 3 2 j_32).toInt64))) else (if x5 = 1 then gn (o_20.q 15 j_27 x4.toNatClampNeg) (N 3) (fun j_36 => some (.inl (o_20, (o_20.i 3 0 j_36).toInt64))) else (if x5 = 2 then gn (o_20.q 15 j_27 x4.toNatClampNeg) (N 3) (fun j_40 => ob (m_cVw_numberOf N j_23 o_20 j_40) (fun o_43 => some (.inl (o_43.1, o_43.2)))) else (if x5 = 3 then gn (o_20.q 15 j_27 x4.toNatClampNeg) (N 3) (fun j_46 => some (.inl (o_20, (o_20.i 3 10 j_46).toInt64))) else some (.inl (o_20, (o_20.i 10 3 j_23).toInt64)))))))) else m_cJT_candidate_J68 N x0 o_20))))))) (fun t_13 => some (.inr t_13)) else m_cJT_candidate_J30 N x0 o_6))) (fun t_8 => some (.inr t_8))) (fun t_5 => some (.inr t_5))))
theorem d_cJT_candidate_56 : decode prog_1_method_18_code 56 = .ok (.iload 4, 2) := by decide +kernel
theorem d_cJT_candidate_58 : decode prog_1_method_18_code 58 = .ok (.aload_n 0, 1) := by decide +kernel
theorem d_cJT_candidate_59 : decode prog_1_method_18_code 59 = .ok (.getfield 30, 3) := by decide +kernel
theorem d_cJT_candidate_62 : decode prog_1_method_18_code 62 = .ok (.getfield 202, 3) := by decide +kernel
theorem d_cJT_candidate_65 : decode prog_1_method_18_code 65 = .ok (.if_icmp .lt 11, 3) := by decide +kernel
theorem d_cJT_candidate_76 : decode prog_1_method_18_code 76 = .ok (.aload_n 0, 1) := by decide +kernel
theorem d_cJT_candidate_77 : decode prog_1_method_18_code 77 = .ok (.getfield 30, 3) := by decide +kernel
theorem d_cJT_candidate_80 : decode prog_1_method_18_code 80 = .ok (.getfield 296, 3) := by decide +kernel
theorem d_cJT_candidate_83 : decode prog_1_method_18_code 83 = .ok (.iload 4, 2) := by decide +kernel
theorem d_cJT_candidate_85 : decode prog_1_method_18_code 85 = .ok (.aaload, 1) := by decide +kernel
theorem d_cJT_candidate_86 : decode prog_1_method_18_code 86 = .ok (.astore 7, 2) := by decide +kernel
theorem d_cJT_candidate_88 : decode prog_1_method_18_code 88 = .ok (.iload 5, 2) := by decide +kernel
theorem d_cJT_candidate_90 : decode prog_1_method_18_code 90 = .ok (.tableswitch 61 0 3 #[30, 37, 44, 54], 30) := by decide +kernel
theorem d_cJT_candidate_120 : decode prog_1_method_18_code 120 = .ok (.aload 7, 2) := by decide +kernel
theorem d_cJT_candidate_122 : decode prog_1_method_18_code 122 = .ok (.getfield 171, 3) := by decide +kernel
theorem d_cJT_candidate_125 : decode prog_1_method_18_code 125 = .ok (.i2l, 1) := by decide +kernel
theorem d_cJT_candidate_126 : decode prog_1_method_18_code 126 = .ok (.lreturn, 1) := by decide +kernel
theorem d_cJT_candidate_127 : decode prog_1_method_18_code 127 = .ok (.aload 7, 2) := by decide +kernel
theorem d_cJT_candidate_129 : decode prog_1_method_18_code 129 = .ok (.getfield 140, 3) := by decide +kernel
theorem d_cJT_candidate_132 : decode prog_1_method_18_code 132 = .ok (.i2l, 1) := by decide +kernel
theorem d_cJT_candidate_133 : decode prog_1_method_18_code 133 = .ok (.lreturn, 1) := by decide +kernel
theorem d_cJT_candidate_134 : decode prog_1_method_18_code 134 = .ok (.aload_n 0, 1) := by decide +kernel
theorem d_cJT_candidate_135 : decode prog_1_method_18_code 135 = .ok (.getfield 30, 3) := by decide +kernel
theorem d_cJT_candidate_138 : decode prog_1_method_18_code 138 = .ok (.aload 7, 2) := by decide +kernel
theorem d_cJT_candidate_140 : decode prog_1_method_18_code 140 = .ok (.invokevirtual 300, 3) := by decide +kernel
theorem d_cJT_candidate_143 : decode prog_1_method_18_code 143 = .ok (.lreturn, 1) := by decide +kernel
theorem d_cJT_candidate_144 : decode prog_1_method_18_code 144 = .ok (.aload 7, 2) := by decide +kernel
theorem d_cJT_candidate_146 : decode prog_1_method_18_code 146 = .ok (.getfield 304, 3) := by decide +kernel
theorem d_cJT_candidate_149 : decode prog_1_method_18_code 149 = .ok (.i2l, 1) := by decide +kernel
theorem d_cJT_candidate_150 : decode prog_1_method_18_code 150 = .ok (.lreturn, 1) := by decide +kernel
theorem d_cJT_candidate_151 : decode prog_1_method_18_code 151 = .ok (.aload_n 0, 1) := by decide +kernel
theorem d_cJT_candidate_152 : decode prog_1_method_18_code 152 = .ok (.getfield 30, 3) := by decide +kernel
theorem d_cJT_candidate_155 : decode prog_1_method_18_code 155 = .ok (.getfield 202, 3) := by decide +kernel
theorem d_cJT_candidate_158 : decode prog_1_method_18_code 158 = .ok (.i2l, 1) := by decide +kernel
theorem d_cJT_candidate_159 : decode prog_1_method_18_code 159 = .ok (.lreturn, 1) := by decide +kernel
set_option maxHeartbeats 4000000 in
set_option maxRecDepth 100000 in
theorem w_cJT_candidate_J0 {p : Program} {l : Launch} {e : Env} {s : State} {m : MethodId} {args : Array Value} {below : List Frame} {meth : Method} {c : Code} {A : Nat → Prop} {D : va_G} {ad : Nat → Nat → Nat} {cc : Nat → ClassId} {sad sav : Nat → Nat} {Q : State → Prop} {cR sR : Nat} (hfl : l.flags = flags0) (hC : MCc sad sav "JoinedTrees" prog_1_method_18_code 8 (some .long) p s m args meth c A D cc) {N : Nat → Nat} {x0 : Nat} {S : CS} {x1 : Int32} {x2 : Int32} {x3 : Int32} {x4 : Int32} {x5 : Int32} {o : ((CS × Int64) ⊕ (CS × Nat))} (Heq : m_cJT_candidate_J0 N x0 S x1 x2 x3 x4 x5 = some o) (Kr : ∀ r : ((CS × Int64) ⊕ (CS × Nat)), o = r → (∀ v9 : CS × Int64, r = .inl v9 → ∀ (pc : Nat) (H : Heap) (locs : List Loc) (ls : Array Slot), decode prog_1_method_18_code pc = .ok (.lreturn, 1) → va_P D cls (cw ad cc N v9.1) H → va_D A (cw ad cc N v9.1) → va_S A s.heap H locs → W p l e ({ frames := 9, cells := cR, slots := sR, locals := 163 }) s m args below meth c H locs 0 0 Q (F0 m pc ls [.long v9.2])) ∧ (∀ t9 : CS × Nat, r = .inr t9 → (1 ≤ cR ∧ 6 ≤ sR) ∧ (∀ (pc : Nat) (H : Heap) (locs : List Loc) (ls : Array Slot), thD prog_1_method_18_code t9.2 pc → ls.size = 8 → va_P D cls (cw ad cc N t9.1) H → va_D A (cw ad cc N t9.1) → va_S A s.heap H locs → W p l e ({ frames := 9, cells := cR, slots := sR, locals := 163 }) s m args below meth c H locs 0 0 Q (F0 m pc ls [])) ∧ (∀ (pc : Nat) (H : Heap) (locs : List Loc) (ls : Array Slot) (st0 rest9 : List Value) (A9 : Nat → Prop), tx_Thr p l e ({ frames := 9, cells := cR, slots := sR, locals := 163 }) s m args below meth c H locs 0 0 1 6 (F0 m pc ls st0) rest9 (exN t9.2) A9 (fun H1 => va_P D cls (cw ad cc N t9.1) H1) → (∀ q, A9 q → A q) → va_S A s.heap H locs → W p l e ({ frames := 9, cells := cR, slots := sR, locals := 163 }) s m args below meth c H locs 0 0 Q (F0 m pc ls st0)))) : ∀ (H : Heap) (locs : List Loc) (ls : Array Slot), va_P D cls (cw ad cc N S) H → va_D A (cw ad cc N S) → va_S A s.heap H locs → lv_has ls 8 [(0, .ref (ad 11 x0)), (1, .int x1), (2, .int x2), (3, .int x3), (4, .int x4), (5, .int x5)] → W p l e ({ frames := 9, cells := cR, slots := sR, locals := 163 }) s m args below meth c H locs 0 0 Q (F0 m 0 ls []) := by
  intro H locs ls hP hD hS hl
  obtain ⟨hx, hb, hr, hml, hown, hts, hK, hA, hev, hE, hN, hNS⟩ := id hC
  unfold m_cJT_candidate_J0 at Heq
  refine lv_aload_n hx hb d_cJT_candidate_0 rfl (lv_at hl 0 rfl) ?_
  obtain ⟨hl_x0_11, Heq⟩ := gl_some Heq
  obtain ⟨o_1, h_2, Heq⟩ := ob_some Heq
  have hFc := fr_all hD hS hA
  refine va_calli (va_runV (As := []) (rest := []) ⟨hx, hb, hml, hown, hts⟩ (g_cJT_takeArguments l D H.size (ad := ad) (cc := cc) (sad := sad) (sav := sav) h_2) (cw_v 0 hts kw_589 kw_586 kw_588 kp_2 kw_1 rfl rfl (by decide +kernel) ⟨Nat.le_of_ble_eq_true rfl, Nat.le_of_ble_eq_true rfl⟩) ⟨c_blind, va_recv hK hP (ci := 11) (q0 := cPos N 11 x0) rfl (cw_obj (k := 11) (by decide) hl_x0_11), fun U hU hW => c_pre hU hW hP hK hD hev hE hN hNS hS hFc⟩ rfl rfl hl.1 rfl (lv_room (Nat.le_of_ble_eq_true rfl)) d_cJT_candidate_1 ⟨Nat.zero_le _, Nat.zero_le _⟩) hS (fun q _ h => hFc q h) hFc (fun rz u t H1 locs ht hvm hw hB hz1 hk1 hS => ?_)
  obtain ⟨hP, -, hD1⟩ := hB
  rw [ht] at hP
  have hD := hD1.weaken (fun _ q _ h => hFc q.1 h)
  generalize H1 = H at hP hS ⊢
  refine W.cs (cells' := 0) (slots' := 0) rfl rfl ?_
  subst hw
  refine lv_istore (lv' := [(6, .int o_1.2), (0, .ref (ad 11 x0)), (1, .int x1), (2, .int x2), (3, .int x3), (4, .int x4), (5, .int x5)]) hx hb d_cJT_candidate_4 hl (by decide) rfl (fun ls hl => ?_)
  refine lv_aload_n hx hb d_cJT_candidate_6 rfl (lv_at hl 1 rfl) ?_
  refine lv_iload_n hx hb d_cJT_candidate_7 rfl (lv_at hl 2 rfl) ?_
  have hFc := fr_all hD hS hA
  rcases oe_some Heq with ⟨o_3, h_4, Heq⟩ | ⟨t_5, h_4, Heq⟩
  case inr => exact ((Kr _ (Option.some.inj Heq).symm).2 _ rfl).2.2 8 _ _ _ _ _ _ (tx_runV (As := [.int x1]) (rest := []) ⟨hx, hb, hml, hown, hts⟩ (g_cJT_shown_t l hfl D H.size (ad := ad) (cc := cc) (sad := sad) (sav := sav) h_4) (cw_v 1 hts kw_593 kw_590 kw_592 kp_3 kw_1 rfl rfl (by decide +kernel) ⟨Nat.le_of_ble_eq_true rfl, Nat.le_of_ble_eq_true rfl⟩) ⟨c_blind, va_recv hK hP (ci := 11) (q0 := cPos N 11 x0) rfl (cw_obj (k := 11) (by decide) hl_x0_11), fun U hU hW => c_pre hU hW hP hK hD hev hE hN hNS hS hFc⟩ rfl rfl hl.1 rfl (lv_room (Nat.le_of_ble_eq_true rfl)) d_cJT_candidate_8 ((Kr _ (Option.some.inj Heq).symm).2 _ rfl).1) hFc hS
  refine va_callq (va_runV (As := [.int x1]) (rest := []) ⟨hx, hb, hml, hown, hts⟩ (g_cJT_shown l hfl D H.size (ad := ad) (cc := cc) (sad := sad) (sav := sav) h_4) (cw_v 1 hts kw_593 kw_590 kw_592 kp_3 kw_1 rfl rfl (by decide +kernel) ⟨Nat.le_of_ble_eq_true rfl, Nat.le_of_ble_eq_true rfl⟩) ⟨c_blind, va_recv hK hP (ci := 11) (q0 := cPos N 11 x0) rfl (cw_obj (k := 11) (by decide) hl_x0_11), fun U hU hW => c_pre hU hW hP hK hD hev hE hN hNS hS hFc⟩ rfl rfl hl.1 rfl (lv_room (Nat.le_of_ble_eq_true rfl)) d_cJT_candidate_8 ⟨Nat.zero_le _, Nat.zero_le _⟩) hS (fun q _ h => hFc q h) hFc (fun rz u t H1 locs ht hvm hw hB hz1 hk1 hS => ?_)
  obtain ⟨hP, -, hD1⟩ := hB
  rw [ht] at hP
  have hD := hD1.weaken (fun _ q _ h => hFc q.1 h)
  generalize H1 = H at hP hS ⊢
  refine W.cs (cells' := 0) (slots' := 0) rfl rfl ?_
  subst hw
  refine w_v (y := rv ad 4 o_3.2) rfl ?_
  refine lv_pop hx hb d_cJT_candidate_11 (by first | rfl | exact rv_cat) ?_
  refine lv_aload_n hx hb d_cJT_candidate_12 rfl (lv_at hl 1 rfl) ?_
  refine lv_iload hx hb d_cJT_candidate_13 (lv_at hl 0 rfl) ?_
  refine lv_iload_n hx hb d_cJT_candidate_15 rfl (lv_at hl 4 rfl) ?_
  have hFc := fr_all hD hS hA
  rcases oe_some Heq with ⟨o_6, h_7, Heq⟩ | ⟨t_8, h_7, Heq⟩
  case inr => exact ((Kr _ (Option.some.inj Heq).symm).2 _ rfl).2.2 16 _ _ _ _ _ _ (tx_runV (As := [.int o_1.2, .int x3]) (rest := []) ⟨hx, hb, hml, hown, hts⟩ (g_cJT_needPlace_t l hfl D H.size (ad := ad) (cc := cc) (sad := sad) (sav := sav) h_7) (cw_v 2 hts kw_843 kw_840 kw_842 kp_19 kw_1 rfl rfl (by decide +kernel) ⟨Nat.le_of_ble_eq_true rfl, Nat.le_of_ble_eq_true rfl⟩) ⟨c_blind, va_recv hK hP (ci := 11) (q0 := cPos N 11 x0) rfl (cw_obj (k := 11) (by decide) hl_x0_11), fun U hU hW => c_pre hU hW hP hK hD hev hE hN hNS hS hFc⟩ rfl rfl hl.1 rfl (lv_room (Nat.le_of_ble_eq_true rfl)) d_cJT_candidate_16 ((Kr _ (Option.some.inj Heq).symm).2 _ rfl).1) hFc hS
  refine va_callv (va_runV (As := [.int o_1.2, .int x3]) (rest := []) ⟨hx, hb, hml, hown, hts⟩ (g_cJT_needPlace l hfl D H.size (ad := ad) (cc := cc) (sad := sad) (sav := sav) h_7) (cw_v 2 hts kw_843 kw_840 kw_842 kp_19 kw_1 rfl rfl (by decide +kernel) ⟨Nat.le_of_ble_eq_true rfl, Nat.le_of_ble_eq_true rfl⟩) ⟨c_blind, va_recv hK hP (ci := 11) (q0 := cPos N 11 x0) rfl (cw_obj (k := 11) (by decide) hl_x0_11), fun U hU hW => c_pre hU hW hP hK hD hev hE hN hNS hS hFc⟩ rfl rfl hl.1 rfl (lv_room (Nat.le_of_ble_eq_true rfl)) d_cJT_candidate_16 ⟨Nat.zero_le _, Nat.zero_le _⟩) hS (fun q _ h => hFc q h) hFc (fun u t H1 locs ht hvm hw hB hz1 hk1 hS => ?_)
  obtain ⟨hP, -, hD1⟩ := hB
  rw [ht] at hP
  have hD := hD1.weaken (fun _ q _ h => hFc q.1 h)
  generalize H1 = H at hP hS ⊢
  refine W.cs (cells' := 0) (slots' := 0) rfl rfl ?_
  refine lv_iload hx hb d_cJT_candidate_19 (lv_at hl 6 rfl) ?_
  refine lv_if_lt (tgt := 30) hx hb d_cJT_candidate_21 (by decide) (fun c_9 => ?_) (fun c_9 => ?_)
  · replace Heq := (if_pos c_9).symm.trans Heq
    exact w_cJT_candidate_J30 hfl hC Heq Kr _ _ _ hP hD hS (lv_sub hl [1] rfl)
  · replace Heq := (if_neg c_9).symm.trans Heq
    refine lv_iload hx hb d_cJT_candidate_24 (lv_at hl 6 rfl) ?_
    refine lv_iconst (v := 4) hx hb d_cJT_candidate_26 (by decide) ?_
    refine lv_icmp_le (tgt := 38) hx hb d_cJT_candidate_27 (by decide) (fun c_10 => ?_) (fun c_10 => ?_)
    · replace Heq := (if_pos c_10).symm.trans Heq
      refine lv_aload_n hx hb d_cJT_candidate_38 rfl (lv_at hl 1 rfl) ?_
      refine va_get (D := D) (ci := 11) (v := rv ad 10 (o_6.r 11 2 x0)) (C := R_JT) (T := F_JT) (N := 13) hx hb hts i_JT hown hK hP (cPos N 11 x0) (cw_obj (k := 11) (by decide) hl_x0_11) rfl 2 (by decide) (hts _ kw_423) (fun _ h9 => h9) rfl d_cJT_candidate_39 ?_
      refine lv_aload_n hx hb d_cJT_candidate_42 rfl (lv_at hl 1 rfl) ?_
      refine lv_iload_n hx hb d_cJT_candidate_43 rfl (lv_at hl 3 rfl) ?_
      refine lv_iload_n hx hb d_cJT_candidate_44 rfl (lv_at hl 4 rfl) ?_
      have hFc := fr_all hD hS hA
      rcases oe_some Heq with ⟨o_11, h_12, Heq⟩ | ⟨t_13, h_12, Heq⟩
      case inr => exact ((Kr _ (Option.some.inj Heq).symm).2 _ rfl).2.2 45 _ _ _ _ _ _ (tx_runV (As := [.int x2, .int x3]) (rest := [rv ad 10 (o_6.r 11 2 x0)]) ⟨hx, hb, hml, hown, hts⟩ (g_cJT_placeAt_t l hfl D H.size (ad := ad) (cc := cc) (sad := sad) (sav := sav) h_12) (cw_v 2 hts kw_847 kw_844 kw_846 kp_20 kw_1 rfl rfl (by decide +kernel) ⟨Nat.le_of_ble_eq_true rfl, Nat.le_of_ble_eq_true rfl⟩) ⟨c_blind, va_recv hK hP (ci := 11) (q0 := cPos N 11 x0) rfl (cw_obj (k := 11) (by decide) hl_x0_11), fun U hU hW => c_pre hU hW hP hK hD hev hE hN hNS hS hFc⟩ rfl rfl hl.1 rfl (lv_room (by simp only [List.map_cons, List.map_nil, List.sum_cons, List.sum_nil, rv_cat]; exact Nat.le_of_ble_eq_true rfl)) d_cJT_candidate_45 ((Kr _ (Option.some.inj Heq).symm).2 _ rfl).1) hFc hS
      refine va_callq (va_runV (As := [.int x2, .int x3]) (rest := [rv ad 10 (o_6.r 11 2 x0)]) ⟨hx, hb, hml, hown, hts⟩ (g_cJT_placeAt l hfl D H.size (ad := ad) (cc := cc) (sad := sad) (sav := sav) h_12) (cw_v 2 hts kw_847 kw_844 kw_846 kp_20 kw_1 rfl rfl (by decide +kernel) ⟨Nat.le_of_ble_eq_true rfl, Nat.le_of_ble_eq_true rfl⟩) ⟨c_blind, va_recv hK hP (ci := 11) (q0 := cPos N 11 x0) rfl (cw_obj (k := 11) (by decide) hl_x0_11), fun U hU hW => c_pre hU hW hP hK hD hev hE hN hNS hS hFc⟩ rfl rfl hl.1 rfl (lv_room (by simp only [List.map_cons, List.map_nil, List.sum_cons, List.sum_nil, rv_cat]; exact Nat.le_of_ble_eq_true rfl)) d_cJT_candidate_45 ⟨Nat.zero_le _, Nat.zero_le _⟩) hS (fun q _ h => hFc q h) hFc (fun rz u t H1 locs ht hvm hw hB hz1 hk1 hS => ?_)
      obtain ⟨hP, -, hD1⟩ := hB
      rw [ht] at hP
      have hD := hD1.weaken (fun _ q _ h => hFc q.1 h)
      generalize H1 = H at hP hS ⊢
      refine W.cs (cells' := 0) (slots' := 0) rfl rfl ?_
      subst hw
      refine w_v (y := rv ad 7 o_11.2) rfl ?_
      obtain ⟨j_14, hj_15, hl_16, Heq⟩ := gn_some Heq
      refine w_s (st' := [.ref (ad 7 j_14), rv ad 10 (o_6.r 11 2 x0)]) (congrArg (fun z9 : Option Nat => [rv ad 7 z9, rv ad 10 (o_6.r 11 2 x0)]) hj_15) ?_
      obtain ⟨j_17, hj_18, hl_19, Heq⟩ := gn_some Heq
      refine w_s (st' := [.ref (ad 7 j_14), .ref (ad 10 j_17)]) (congrArg (fun z9 : Option Nat => [.ref (ad 7 j_14), rv ad 10 z9]) hj_18) ?_
      obtain ⟨o_20, h_21, Heq⟩ := ob_some Heq
      have hFc := fr_all hD hS hA
      refine va_callv (va_runV (As := [.ref (ad 7 j_14)]) (rest := []) ⟨hx, hb, hml, hown, hts⟩ (g_cVw_gather l D H.size (ad := ad) (cc := cc) (sad := sad) (sav := sav) h_21) (cw_v 1 hts kw_697 kw_694 kw_695 kw_696 kw_6 rfl rfl (by decide +kernel) ⟨Nat.le_of_ble_eq_true rfl, Nat.le_of_ble_eq_true rfl⟩) ⟨c_blind, va_recv hK hP (ci := 10) (q0 := cPos N 10 j_17) rfl (cw_obj (k := 10) (by decide) hl_19), fun U hU hW => c_pre hU hW hP hK hD hev hE hN hNS hS hFc⟩ rfl rfl hl.1 rfl (lv_room (Nat.le_of_ble_eq_true rfl)) d_cJT_candidate_48 ⟨Nat.zero_le _, Nat.zero_le _⟩) hS (fun q _ h => hFc q h) hFc (fun u t H1 locs ht hvm hw hB hz1 hk1 hS => ?_)
      obtain ⟨hP, -, hD1⟩ := hB
      rw [ht] at hP
      have hD := hD1.weaken (fun _ q _ h => hFc q.1 h)
      generalize H1 = H at hP hS ⊢
      refine W.cs (cells' := 0) (slots' := 0) rfl rfl ?_
      refine lv_iload hx hb d_cJT_candidate_51 (lv_at hl 5 rfl) ?_
      refine lv_if_lt (tgt := 68) hx hb d_cJT_candidate_53 (by decide) (fun c_22 => ?_) (fun c_22 => ?_)
      · replace Heq := (if_pos c_22).symm.trans Heq
        exact w_cJT_candidate_J68 hfl hC Heq Kr _ _ _ hP hD hS (lv_sub hl [1] rfl)
      · replace Heq := (if_neg c_22).symm.trans Heq
        refine lv_iload hx hb d_cJT_candidate_56 (lv_at hl 5 rfl) ?_
        refine lv_aload_n hx hb d_cJT_candidate_58 rfl (lv_at hl 1 rfl) ?_
        refine va_get (D := D) (ci := 11) (v := rv ad 10 (o_20.r 11 2 x0)) (C := R_JT) (T := F_JT) (N := 13) hx hb hts i_JT hown hK hP (cPos N 11 x0) (cw_obj (k := 11) (by decide) hl_x0_11) rfl 2 (by decide) (hts _ kw_423) (fun _ h9 => h9) rfl d_cJT_candidate_59 ?_
        obtain ⟨j_23, hj_24, hl_25, Heq⟩ := gn_some Heq
        refine w_s (st' := [.ref (ad 10 j_23), .int x4]) (congrArg (fun z9 : Option Nat => [rv ad 10 z9, .int x4]) hj_24) ?_
        refine va_get (D := D) (ci := 10) (v := .int (o_20.i 10 3 j_23)) (C := R_Vw) (T := F_Vw) (N := 5) hx hb hts i_Vw hown hK hP (cPos N 10 j_23) (cw_obj (k := 10) (by decide) hl_25) rfl 3 (by decide) (hts _ kw_267) (fun _ h9 => h9) rfl d_cJT_candidate_62 ?_
        refine lv_icmp_lt (tgt := 76) hx hb d_cJT_candidate_65 (by decide) (fun c_26 => ?_) (fun c_26 => ?_)
        · replace Heq := (if_pos c_26).symm.trans Heq
          refine lv_aload_n hx hb d_cJT_candidate_76 rfl (lv_at hl 1 rfl) ?_
          refine va_get (D := D) (ci := 11) (v := rv ad 10 (o_20.r 11 2 x0)) (C := R_JT) (T := F_JT) (N := 13) hx hb hts i_JT hown hK hP (cPos N 11 x0) (cw_obj (k := 11) (by decide) hl_x0_11) rfl 2 (by decide) (hts _ kw_423) (fun _ h9 => h9) rfl d_cJT_candidate_77 ?_
          refine w_s (st' := [.ref (ad 10 j_23)]) (congrArg (fun z9 : Option Nat => [rv ad 10 z9]) hj_24) ?_
          refine va_get (D := D) (ci := 10) (v := rv ad 15 (o_20.r 10 2 j_23)) (C := R_Vw) (T := F_Vw) (N := 5) hx hb hts i_Vw hown hK hP (cPos N 10 j_23) (cw_obj (k := 10) (by decide) hl_25) rfl 2 (by decide) (hts _ kw_265) (fun _ h9 => h9) rfl d_cJT_candidate_80 ?_
          refine lv_iload hx hb d_cJT_candidate_83 (lv_at hl 5 rfl) ?_
          obtain ⟨j_27, hj_28, hl_29, Heq⟩ := gn_some Heq
          refine w_s (st' := [.int x4, .ref (ad 15 j_27)]) (congrArg (fun z9 : Option Nat => [.int x4, rv ad 15 z9]) hj_28) ?_
          obtain ⟨hi_30, Heq⟩ := gd_some Heq
          refine va_aldq hx hb hK hP (cPos N 15 j_27) 3 (cw_refs (k := 15) (by decide) hl_29) rfl (i := x4) hi_30 d_cJT_candidate_85 ?_
          refine w_v (y := rv ad 3 (o_20.q 15 j_27 x4.toNatClampNeg)) (congrArg (rv ad 3) rfl) ?_
          refine tx_astore (x := (o_20.q 15 j_27 x4.toNatClampNeg).map (ad 3)) (lv' := [(7, rv ad 3 (o_20.q 15 j_27 x4.toNatClampNeg)), (6, .int o_1.2), (0, .ref (ad 11 x0)), (1, .int x1), (2, .int x2), (3, .int x3), (4, .int x4), (5, .int x5)]) hx hb d_cJT_candidate_86 hl (by decide) rfl (fun ls hl => ?_)
          refine lv_iload hx hb d_cJT_candidate_88 (lv_at hl 7 rfl) ?_
          obtain ⟨xs90, hxs90⟩ : ∃ z, x5 = z := ⟨_, rfl⟩
          by_cases c_31 : x5 = 0
          · replace Heq := (if_pos c_31).symm.trans Heq
            refine w_i (y := 0) c_31 ?_
            refine lv_tableIn (tgt := 120) hx hb d_cJT_candidate_90 (by decide) (by decide) rfl (by decide) ?_
            refine tx_aload (x := (o_20.q 15 j_27 x4.toNatClampNeg).map (ad 3)) hx hb d_cJT_candidate_120 (lv_at hl 0 rfl) ?_
            refine w_v (y := rv ad 3 (o_20.q 15 j_27 x4.toNatClampNeg)) rfl ?_
            obtain ⟨j_32, hj_33, hl_34, Heq⟩ := gn_some Heq
            refine w_s (st' := [.ref (ad 3 j_32)]) (congrArg (fun z9 : Option Nat => [rv ad 3 z9]) hj_33) ?_
            refine va_get (D := D) (ci := 3) (v := .int (o_20.i 3 2 j_32)) (C := R_Op) (T := F_Op) (N := 15) hx hb hts i_Op hown hK hP (cPos N 3 j_32) (cw_obj (k := 3) (by decide) hl_34) rfl 2 (by decide) (hts _ kw_62) (fun _ h9 => h9) rfl d_cJT_candidate_122 ?_
            refine lv_i2l hx hb d_cJT_candidate_125 rfl ?_
            refine w_l (y := (o_20.i 3 2 j_32).toInt64) rfl ?_
            exact (Kr _ (Option.some.inj Heq).symm).1 _ rfl 126 _ _ _ d_cJT_candidate_126 hP hD hS
          replace Heq := (if_neg c_31).symm.trans Heq
          by_cases c_35 : x5 = 1
          · replace Heq := (if_pos c_35).symm.trans Heq
            refine w_i (y := 1) c_35 ?_
            refine lv_tableIn (tgt := 127) hx hb d_cJT_candidate_90 (by decide) (by decide) rfl (by decide) ?_
            refine tx_aload (x := (o_20.q 15 j_27 x4.toNatClampNeg).map (ad 3)) hx hb d_cJT_candidate_127 (lv_at hl 0 rfl) ?_
            refine w_v (y := rv ad 3 (o_20.q 15 j_27 x4.toNatClampNeg)) rfl ?_
            obtain ⟨j_36, hj_37, hl_38, Heq⟩ := gn_some Heq
            refine w_s (st' := [.ref (ad 3 j_36)]) (congrArg (fun z9 : Option Nat => [rv ad 3 z9]) hj_37) ?_
            refine va_get (D := D) (ci := 3) (v := .int (o_20.i 3 0 j_36)) (C := R_Op) (T := F_Op) (N := 15) hx hb hts i_Op hown hK hP (cPos N 3 j_36) (cw_obj (k := 3) (by decide) hl_38) rfl 0 (by decide) (hts _ kw_52) (fun _ h9 => h9) rfl d_cJT_candidate_129 ?_
            refine lv_i2l hx hb d_cJT_candidate_132 rfl ?_
            refine w_l (y := (o_20.i 3 0 j_36).toInt64) rfl ?_
            exact (Kr _ (Option.some.inj Heq).symm).1 _ rfl 133 _ _ _ d_cJT_candidate_133 hP hD hS
          replace Heq := (if_neg c_35).symm.trans Heq
          by_cases c_39 : x5 = 2
          · replace Heq := (if_pos c_39).symm.trans Heq
            refine w_i (y := 2) c_39 ?_
            refine lv_tableIn (tgt := 134) hx hb d_cJT_candidate_90 (by decide) (by decide) rfl (by decide) ?_
            refine lv_aload_n hx hb d_cJT_candidate_134 rfl (lv_at hl 2 rfl) ?_
            refine va_get (D := D) (ci := 11) (v := rv ad 10 (o_20.r 11 2 x0)) (C := R_JT) (T := F_JT) (N := 13) hx hb hts i_JT hown hK hP (cPos N 11 x0) (cw_obj (k := 11) (by decide) hl_x0_11) rfl 2 (by decide) (hts _ kw_423) (fun _ h9 => h9) rfl d_cJT_candidate_135 ?_
            refine tx_aload (x := (o_20.q 15 j_27 x4.toNatClampNeg).map (ad 3)) hx hb d_cJT_candidate_138 (lv_at hl 0 rfl) ?_
            refine w_v (y := rv ad 3 (o_20.q 15 j_27 x4.toNatClampNeg)) rfl ?_
            obtain ⟨j_40, hj_41, hl_42, Heq⟩ := gn_some Heq
            refine w_s (st' := [.ref (ad 3 j_40), rv ad 10 (o_20.r 11 2 x0)]) (congrArg (fun z9 : Option Nat => [rv ad 3 z9, rv ad 10 (o_20.r 11 2 x0)]) hj_41) ?_
            refine w_s (st' := [.ref (ad 3 j_40), .ref (ad 10 j_23)]) (congrArg (fun z9 : Option Nat => [.ref (ad 3 j_40), rv ad 10 z9]) hj_24) ?_
            obtain ⟨o_43, h_44, Heq⟩ := ob_some Heq
            have hFc := fr_all hD hS hA
            refine va_calll (va_runV (As := [.ref (ad 3 j_40)]) (rest := []) ⟨hx, hb, hml, hown, hts⟩ (g_cVw_numberOf l D H.size (ad := ad) (cc := cc) (sad := sad) (sav := sav) h_44) (cw_v 1 hts kw_1147 kw_1144 kw_1145 kw_1146 kw_6 rfl rfl (by decide +kernel) ⟨Nat.le_of_ble_eq_true rfl, Nat.le_of_ble_eq_true rfl⟩) ⟨c_blind, va_recv hK hP (ci := 10) (q0 := cPos N 10 j_23) rfl (cw_obj (k := 10) (by decide) hl_25), fun U hU hW => c_pre hU hW hP hK hD hev hE hN hNS hS hFc⟩ rfl rfl hl.1 rfl (lv_room (Nat.le_of_ble_eq_true rfl)) d_cJT_candidate_140 ⟨Nat.zero_le _, Nat.zero_le _⟩) hS (fun q _ h => hFc q h) hFc (fun rz u t H1 locs ht hvm hw hB hz1 hk1 hS => ?_)
            obtain ⟨hP, -, hD1⟩ := hB
            rw [ht] at hP
            have hD := hD1.weaken (fun _ q _ h => hFc q.1 h)
            generalize H1 = H at hP hS ⊢
            refine W.cs (cells' := 0) (slots' := 0) rfl rfl ?_
            subst hw
            exact (Kr _ (Option.some.inj Heq).symm).1 _ rfl 143 _ _ _ d_cJT_candidate_143 hP hD hS
          replace Heq := (if_neg c_39).symm.trans Heq
          by_cases c_45 : x5 = 3
          · replace Heq := (if_pos c_45).symm.trans Heq
            refine w_i (y := 3) c_45 ?_
            refine lv_tableIn (tgt := 144) hx hb d_cJT_candidate_90 (by decide) (by decide) rfl (by decide) ?_
            refine tx_aload (x := (o_20.q 15 j_27 x4.toNatClampNeg).map (ad 3)) hx hb d_cJT_candidate_144 (lv_at hl 0 rfl) ?_
            refine w_v (y := rv ad 3 (o_20.q 15 j_27 x4.toNatClampNeg)) rfl ?_
            obtain ⟨j_46, hj_47, hl_48, Heq⟩ := gn_some Heq
            refine w_s (st' := [.ref (ad 3 j_46)]) (congrArg (fun z9 : Option Nat => [rv ad 3 z9]) hj_47) ?_
            refine va_get (D := D) (ci := 3) (v := .int (o_20.i 3 10 j_46)) (C := R_Op) (T := F_Op) (N := 15) hx hb hts i_Op hown hK hP (cPos N 3 j_46) (cw_obj (k := 3) (by decide) hl_48) rfl 10 (by decide) (hts _ kw_89) (fun _ h9 => h9) rfl d_cJT_candidate_146 ?_
            refine lv_i2l hx hb d_cJT_candidate_149 rfl ?_
            refine w_l (y := (o_20.i 3 10 j_46).toInt64) rfl ?_
            exact (Kr _ (Option.some.inj Heq).symm).1 _ rfl 150 _ _ _ d_cJT_candidate_150 hP hD hS
          replace Heq := (if_neg c_45).symm.trans Heq
          refine lv_tableOut (tgt := 151) hx hb d_cJT_candidate_90 (by have q0 : (x5).toInt ≠ 0 := fun h => c_31 (Int32.toInt_inj.mp (h.trans (by decide))); have q1 : (x5).toInt ≠ 1 := fun h => c_35 (Int32.toInt_inj.mp (h.trans (by decide))); have q2 : (x5).toInt ≠ 2 := fun h => c_39 (Int32.toInt_inj.mp (h.trans (by decide))); have q3 : (x5).toInt ≠ 3 := fun h => c_45 (Int32.toInt_inj.mp (h.trans (by decide))); omega) (by decide) ?_
          refine lv_aload_n hx hb d_cJT_candidate_151 rfl (lv_at hl 2 rfl) ?_
          refine va_get (D := D) (ci := 11) (v := rv ad 10 (o_20.r 11 2 x0)) (C := R_JT) (T := F_JT) (N := 13) hx hb hts i_JT hown hK hP (cPos N 11 x0) (cw_obj (k := 11) (by decide) hl_x0_11) rfl 2 (by decide) (hts _ kw_423) (fun _ h9 => h9) rfl d_cJT_candidate_152 ?_
          refine w_s (st' := [.ref (ad 10 j_23)]) (congrArg (fun z9 : Option Nat => [rv ad 10 z9]) hj_24) ?_
          refine va_get (D := D) (ci := 10) (v := .int (o_20.i 10 3 j_23)) (C := R_Vw) (T := F_Vw) (N := 5) hx hb hts i_Vw hown hK hP (cPos N 10 j_23) (cw_obj (k := 10) (by decide) hl_25) rfl 3 (by decide) (hts _ kw_267) (fun _ h9 => h9) rfl d_cJT_candidate_155 ?_
          refine lv_i2l hx hb d_cJT_candidate_158 rfl ?_
          refine w_l (y := (o_20.i 10 3 j_23).toInt64) rfl ?_
          exact (Kr _ (Option.some.inj Heq).symm).1 _ rfl 159 _ _ _ d_cJT_candidate_159 hP hD hS
        · replace Heq := (if_neg c_26).symm.trans Heq
          exact w_cJT_candidate_J68 hfl hC Heq Kr _ _ _ hP hD hS (lv_sub hl [1] rfl)
    · replace Heq := (if_neg c_10).symm.trans Heq
      exact w_cJT_candidate_J30 hfl hC Heq Kr _ _ _ hP hD hS (lv_sub hl [1] rfl)
def m_cJT_candidate (N : Nat → Nat) (x0 : Nat) (S : CS) (x1 : Int32) (x2 : Int32) (x3 : Int32) (x4 : Int32) (x5 : Int32) : Option ((CS × Int64) ⊕ (CS × Nat)) := m_cJT_candidate_J0 N x0 S x1 x2 x3 x4 x5
set_option maxHeartbeats 4000000 in
theorem g_cJT_candidate (l : Launch) (hfl : l.flags = flags0) (D : va_G) (sz : Nat) {ad : Nat → Nat → Nat} {cc : Nat → ClassId} {sad sav : Nat → Nat} {N : Nat → Nat} {x0 : Nat} {S : CS} {x1 : Int32} {x2 : Int32} {x3 : Int32} {x4 : Int32} {x5 : Int32} {o : CS × Int64} (Heq : m_cJT_candidate N x0 S x1 x2 x3 x4 x5 = some (.inl o)) : Met l ⟨"JoinedTrees", "candidate", "(IIIII)J"⟩ (Cond.code ⟨"JoinedTrees", "candidate", "(IIIII)J"⟩ prog_1_method_18_code 8 (some .long) :: gb) ({ frames := 9, cells := 0, slots := 0, locals := 163 }) (cPc sad sav D (cw ad cc N S) (cty cc) sz [.ref (ad 11 x0), .int x1, .int x2, .int x3, .int x4, .int x5]) (va_Ql (fun (r : Int64) (_ : Unit) => r = o.2) (fun _ t => gO D (cw ad cc N o.1) (cty cc) (va_A (cw ad cc N S) sz) t) (va_A (cw ad cc N S) sz)) 0 0 (va_A (cw ad cc N S) sz) := by
  refine Met.ofW (cc := prog_1_method_18_code) (maxL := 8) (ret := (some .long)) (by decide) rfl ?_
  intro p e s m args below meth c s₁ B hml hv
  obtain ⟨rfl, hsz, hP, hK, hD0, hev, hE, hN⟩ := hv
  have hx := B.exec
  have hb := B.bytes
  have hr := B.returns
  have hts : ∀ w9 ∈ gb, w9.before [.ref (ad 11 x0), .int x1, .int x2, .int x3, .int x4, .int x5].toArray s = true := fun w9 h => atoms_spec (ws := Cond.code ⟨"JoinedTrees", "candidate", "(IIIII)J"⟩ prog_1_method_18_code 8 (some .long) :: gb) B.pre w9 (List.mem_cons_of_mem _ h)
  have hown : s.vm.findClass "JoinedTrees" = some m.cls := findClass_of_methodNamed B.named
  have hlocks := B.notSynchronized
  have hNS := ns_of hP
  subst hsz
  have hD := hD0.self (sz := s.heap.size)
  generalize hAe : va_A (cw ad cc N S) s.heap.size = A at hD hev hE hNS ⊢
  have hA : ∀ q : Nat, s.heap.size ≤ q → A q := fun q h => by rw [← hAe]; exact Or.inr h
  have hS : va_S A s.heap s.heap [] := va_S.rf
  obtain ⟨ls, hl, hle⟩ : ∃ ls : Array Slot, lv_has ls 8 [(0, .ref (ad 11 x0)), (1, .int x1), (2, .int x2), (3, .int x3), (4, .int x4), (5, .int x5)] ∧ entryFrame m ([.ref (ad 11 x0), .int x1, .int x2, .int x3, .int x4, .int x5] : List Value).toArray 8 = F0 m 0 ls [] := by
    exact ⟨_, lv_entry (n := 8) _ (Nat.le_of_ble_eq_true rfl), lg_entry_eq ..⟩
  rw [hle]
  refine w_cJT_candidate_J0 (cR := 0) (sR := 0) hfl ⟨hx, hb, hr, hml, hown, hts, hK, hA, hev, hE, hN, hNS⟩ Heq (fun r h => ⟨fun v9 hv9 pc H locs ls hd hP hD hS => ?_, fun t9 ht9 => (by subst h; cases ht9)⟩) _ _ _ hP hD hS (lv_sub hl [0, 1, 2, 3, 4, 5] rfl)
  subst h
  cases hv9
  exact W.lret hx hb hr (fun t ht hW => ⟨⟨_, (), rfl, rfl, by rw [ht]; exact hP, va_K.moved hW.alike hK, hD⟩, hS.F ht⟩) hS.2.2 hd
set_option maxHeartbeats 4000000 in
theorem g_cJT_candidate_t (l : Launch) (hfl : l.flags = flags0) (D : va_G) (sz : Nat) {ad : Nat → Nat → Nat} {cc : Nat → ClassId} {sad sav : Nat → Nat} {N : Nat → Nat} {x0 : Nat} {S : CS} {x1 : Int32} {x2 : Int32} {x3 : Int32} {x4 : Int32} {x5 : Int32} {o : CS × Nat} (Heq : m_cJT_candidate N x0 S x1 x2 x3 x4 x5 = some (.inr o)) : MeT l ⟨"JoinedTrees", "candidate", "(IIIII)J"⟩ (Cond.code ⟨"JoinedTrees", "candidate", "(IIIII)J"⟩ prog_1_method_18_code 8 (some .long) :: gb) ({ frames := 9, cells := 1, slots := 6, locals := 163 }) (cPc sad sav D (cw ad cc N S) (cty cc) sz [.ref (ad 11 x0), .int x1, .int x2, .int x3, .int x4, .int x5]) (exN o.2) (va_A (cw ad cc N S) sz) (fun H1 => va_P D cls (cw ad cc N o.1) H1) 1 6 := by
  refine MeT.ofW (cc := prog_1_method_18_code) (maxL := 8) (ret := (some .long)) (by decide) rfl ?_
  intro p e s m args below meth c s₁ B hml hno hv
  obtain ⟨rfl, hsz, hP, hK, hD0, hev, hE, hN⟩ := hv
  have hx := B.exec
  have hb := B.bytes
  have hr := B.returns
  have hts : ∀ w9 ∈ gb, w9.before [.ref (ad 11 x0), .int x1, .int x2, .int x3, .int x4, .int x5].toArray s = true := fun w9 h => atoms_spec (ws := Cond.code ⟨"JoinedTrees", "candidate", "(IIIII)J"⟩ prog_1_method_18_code 8 (some .long) :: gb) B.pre w9 (List.mem_cons_of_mem _ h)
  have hown : s.vm.findClass "JoinedTrees" = some m.cls := findClass_of_methodNamed B.named
  have hlocks := B.notSynchronized
  have hNS := ns_of hP
  subst hsz
  have hD := hD0.self (sz := s.heap.size)
  generalize hAe : va_A (cw ad cc N S) s.heap.size = A at hD hev hE hNS ⊢
  have hA : ∀ q : Nat, s.heap.size ≤ q → A q := fun q h => by rw [← hAe]; exact Or.inr h
  have hS : va_S A s.heap s.heap [] := va_S.rf
  obtain ⟨ls, hl, hle⟩ : ∃ ls : Array Slot, lv_has ls 8 [(0, .ref (ad 11 x0)), (1, .int x1), (2, .int x2), (3, .int x3), (4, .int x4), (5, .int x5)] ∧ entryFrame m ([.ref (ad 11 x0), .int x1, .int x2, .int x3, .int x4, .int x5] : List Value).toArray 8 = F0 m 0 ls [] := by
    exact ⟨_, lv_entry (n := 8) _ (Nat.le_of_ble_eq_true rfl), lg_entry_eq ..⟩
  rw [hle]
  refine w_cJT_candidate_J0 (cR := 1) (sR := 6) hfl ⟨hx, hb, hr, hml, hown, hts, hK, hA, hev, hE, hN, hNS⟩ Heq (fun r h => ⟨fun v9 hv9 => (by subst h; cases hv9), fun t9 ht9 => ⟨⟨Nat.le_refl _, Nat.le_refl _⟩, fun pc H locs ls hd hsz hP hD hS => ?_, fun pc H locs ls st0 rest9 A9 hr9 hF9 hS => ?_⟩⟩) _ _ _ hP hD hS (lv_sub hl [0, 1, 2, 3, 4, 5] rfl)
  · subst h; cases ht9; exact tx_thr hfl hx hb hno hlocks hown hts hev hN hNS hd (hsz.trans hml.symm) hP hS hA (Nat.le_refl _) (Nat.le_refl _) (Nat.le_of_ble_eq_true rfl) (Nat.le_of_ble_eq_true rfl)
  · subst h; cases ht9; exact tx_on hr9 hno hlocks hS hF9
def m_cJT_letter_J34 (N : Nat → Nat) (x0 : Nat) (S : CS) : Option ((CS × Int32) ⊕ (CS × Nat)) := some (.inr (S, 3))
theorem d_cJT_letter_0 : decode prog_1_method_19_code 0 = .ok (.aload_n 0, 1) := by decide +kernel
theorem d_cJT_letter_1 : decode prog_1_method_19_code 1 = .ok (.iload_n 1, 1) := by decide +kernel
theorem d_cJT_letter_2 : decode prog_1_method_19_code 2 = .ok (.invokevirtual 105, 3) := by decide +kernel
theorem d_cJT_letter_5 : decode prog_1_method_19_code 5 = .ok (.pop, 1) := by decide +kernel
theorem d_cJT_letter_6 : decode prog_1_method_19_code 6 = .ok (.aload_n 0, 1) := by decide +kernel
theorem d_cJT_letter_7 : decode prog_1_method_19_code 7 = .ok (.getfield 30, 3) := by decide +kernel
theorem d_cJT_letter_10 : decode prog_1_method_19_code 10 = .ok (.iload_n 2, 1) := by decide +kernel
theorem d_cJT_letter_11 : decode prog_1_method_19_code 11 = .ok (.invokevirtual 306, 3) := by decide +kernel
theorem d_cJT_letter_14 : decode prog_1_method_19_code 14 = .ok (.astore 4, 2) := by decide +kernel
theorem d_cJT_letter_16 : decode prog_1_method_19_code 16 = .ok (.aload 4, 2) := by decide +kernel
theorem d_cJT_letter_18 : decode prog_1_method_19_code 18 = .ok (.ifnull 16, 3) := by decide +kernel
theorem d_cJT_letter_34 : decode prog_1_method_19_code 34 = .ok (.new 178, 3) := by decide +kernel
theorem d_cJT_letter_37 : decode prog_1_method_19_code 37 = .ok (.dup, 1) := by decide +kernel
theorem d_cJT_letter_38 : decode prog_1_method_19_code 38 = .ok (.invokespecial 180, 3) := by decide +kernel
theorem d_cJT_letter_41 : decode prog_1_method_19_code 41 = .ok (.athrow, 1) := by decide +kernel
set_option maxHeartbeats 4000000 in
set_option maxRecDepth 100000 in
theorem w_cJT_letter_J34 {p : Program} {l : Launch} {e : Env} {s : State} {m : MethodId} {args : Array Value} {below : List Frame} {meth : Method} {c : Code} {A : Nat → Prop} {D : va_G} {ad : Nat → Nat → Nat} {cc : Nat → ClassId} {sad sav : Nat → Nat} {Q : State → Prop} {cR sR : Nat} (hfl : l.flags = flags0) (hC : MCc sad sav "JoinedTrees" prog_1_method_19_code 5 (some .int) p s m args meth c A D cc) {N : Nat → Nat} {x0 : Nat} {S : CS} {o : ((CS × Int32) ⊕ (CS × Nat))} (Heq : m_cJT_letter_J34 N x0 S = some o) (Kr : ∀ r : ((CS × Int32) ⊕ (CS × Nat)), o = r → (∀ v9 : CS × Int32, r = .inl v9 → ∀ (pc : Nat) (H : Heap) (locs : List Loc) (ls : Array Slot), decode prog_1_method_19_code pc = .ok (.ireturn, 1) → va_P D cls (cw ad cc N v9.1) H → va_D A (cw ad cc N v9.1) → va_S A s.heap H locs → W p l e ({ frames := 7, cells := cR, slots := sR, locals := 117 }) s m args below meth c H locs 0 0 Q (F0 m pc ls [.int v9.2])) ∧ (∀ t9 : CS × Nat, r = .inr t9 → (1 ≤ cR ∧ 6 ≤ sR) ∧ (∀ (pc : Nat) (H : Heap) (locs : List Loc) (ls : Array Slot), thD prog_1_method_19_code t9.2 pc → ls.size = 5 → va_P D cls (cw ad cc N t9.1) H → va_D A (cw ad cc N t9.1) → va_S A s.heap H locs → W p l e ({ frames := 7, cells := cR, slots := sR, locals := 117 }) s m args below meth c H locs 0 0 Q (F0 m pc ls [])) ∧ (∀ (pc : Nat) (H : Heap) (locs : List Loc) (ls : Array Slot) (st0 rest9 : List Value) (A9 : Nat → Prop), tx_Thr p l e ({ frames := 7, cells := cR, slots := sR, locals := 117 }) s m args below meth c H locs 0 0 1 6 (F0 m pc ls st0) rest9 (exN t9.2) A9 (fun H1 => va_P D cls (cw ad cc N t9.1) H1) → (∀ q, A9 q → A q) → va_S A s.heap H locs → W p l e ({ frames := 7, cells := cR, slots := sR, locals := 117 }) s m args below meth c H locs 0 0 Q (F0 m pc ls st0)))) : ∀ (H : Heap) (locs : List Loc) (ls : Array Slot), va_P D cls (cw ad cc N S) H → va_D A (cw ad cc N S) → va_S A s.heap H locs → lv_has ls 5 [(0, .ref (ad 11 x0))] → W p l e ({ frames := 7, cells := cR, slots := sR, locals := 117 }) s m args below meth c H locs 0 0 Q (F0 m 34 ls []) := by
  intro H locs ls hP hD hS hl
  obtain ⟨hx, hb, hr, hml, hown, hts, hK, hA, hev, hE, hN, hNS⟩ := id hC
  unfold m_cJT_letter_J34 at Heq
  exact ((Kr _ (Option.some.inj Heq).symm).2 _ rfl).2.1 34 _ _ _ ⟨⟨show 1 ≤ 3 by decide, show 3 ≤ 5 by decide⟩, d_cJT_letter_34, d_cJT_letter_37, d_cJT_letter_38, d_cJT_letter_41⟩ hl.1 hP hD hS
def m_cJT_letter_J0 (N : Nat → Nat) (x0 : Nat) (S : CS) (x1 : Int32) (x2 : Int32) (x3 : Int32) : Option ((CS × Int32) ⊕ (CS × Nat)) := gl x0 (N 11) (oe (m_cJT_shown N x0 S x1) (fun o_1 => gn (o_1.1.r 11 2 x0) (N 10) (fun j_4 => ob (m_cVw_opAt N j_4 o_1.1 x2) (fun o_7 => on o_7.2 (m_cJT_letter_J34 N x0 o_7.1) (fun j_9 => (if x3 < 0 then m_cJT_letter_J34 N x0 o_7.1 else gl j_9 (N 3) ((if x3 < o_7.1.i 3 10 j_9 then gn (o_7.1.r 11 0 x0) (N 8) (fun j_13 => gn (o_7.1.r 8 2 j_13) (N 5) (fun j_16 => ob (m_cRw_at N j_16 o_7.1 (((o_7.1.i 3 8 j_9) + (o_7.1.i 3 9 j_9)) + x3)) (fun o_19 => some (.inl (o_19.1, o_19.2))))) else m_cJT_letter_J34 N x0 o_7.1))))))) (fun t_3 => some (.inr t_3)))
theorem d_cJT_letter_21 : decode prog_1_method_19_code 21 = .ok (.iload_n 3, 1) := by decide +kernel
theorem d_cJT_letter_22 : decode prog_1_method_19_code 22 = .ok (.ifCond .lt 12, 3) := by decide +kernel
theorem d_cJT_letter_25 : decode prog_1_method_19_code 25 = .ok (.iload_n 3, 1) := by decide +kernel
theorem d_cJT_letter_26 : decode prog_1_method_19_code 26 = .ok (.aload 4, 2) := by decide +kernel
theorem d_cJT_letter_28 : decode prog_1_method_19_code 28 = .ok (.getfield 304, 3) := by decide +kernel
theorem d_cJT_letter_31 : decode prog_1_method_19_code 31 = .ok (.if_icmp .lt 11, 3) := by decide +kernel
theorem d_cJT_letter_42 : decode prog_1_method_19_code 42 = .ok (.aload_n 0, 1) := by decide +kernel
theorem d_cJT_letter_43 : decode prog_1_method_19_code 43 = .ok (.getfield 12, 3) := by decide +kernel
theorem d_cJT_letter_46 : decode prog_1_method_19_code 46 = .ok (.getfield 287, 3) := by decide +kernel
theorem d_cJT_letter_49 : decode prog_1_method_19_code 49 = .ok (.aload 4, 2) := by decide +kernel
theorem d_cJT_letter_51 : decode prog_1_method_19_code 51 = .ok (.getfield 290, 3) := by decide +kernel
theorem d_cJT_letter_54 : decode prog_1_method_19_code 54 = .ok (.aload 4, 2) := by decide +kernel
theorem d_cJT_letter_56 : decode prog_1_method_19_code 56 = .ok (.getfield 284, 3) := by decide +kernel
theorem d_cJT_letter_59 : decode prog_1_method_19_code 59 = .ok (.iadd, 1) := by decide +kernel
theorem d_cJT_letter_60 : decode prog_1_method_19_code 60 = .ok (.iload_n 3, 1) := by decide +kernel
theorem d_cJT_letter_61 : decode prog_1_method_19_code 61 = .ok (.iadd, 1) := by decide +kernel
theorem d_cJT_letter_62 : decode prog_1_method_19_code 62 = .ok (.invokevirtual 293, 3) := by decide +kernel
theorem d_cJT_letter_65 : decode prog_1_method_19_code 65 = .ok (.ireturn, 1) := by decide +kernel
set_option maxHeartbeats 4000000 in
set_option maxRecDepth 100000 in
theorem w_cJT_letter_J0 {p : Program} {l : Launch} {e : Env} {s : State} {m : MethodId} {args : Array Value} {below : List Frame} {meth : Method} {c : Code} {A : Nat → Prop} {D : va_G} {ad : Nat → Nat → Nat} {cc : Nat → ClassId} {sad sav : Nat → Nat} {Q : State → Prop} {cR sR : Nat} (hfl : l.flags = flags0) (hC : MCc sad sav "JoinedTrees" prog_1_method_19_code 5 (some .int) p s m args meth c A D cc) {N : Nat → Nat} {x0 : Nat} {S : CS} {x1 : Int32} {x2 : Int32} {x3 : Int32} {o : ((CS × Int32) ⊕ (CS × Nat))} (Heq : m_cJT_letter_J0 N x0 S x1 x2 x3 = some o) (Kr : ∀ r : ((CS × Int32) ⊕ (CS × Nat)), o = r → (∀ v9 : CS × Int32, r = .inl v9 → ∀ (pc : Nat) (H : Heap) (locs : List Loc) (ls : Array Slot), decode prog_1_method_19_code pc = .ok (.ireturn, 1) → va_P D cls (cw ad cc N v9.1) H → va_D A (cw ad cc N v9.1) → va_S A s.heap H locs → W p l e ({ frames := 7, cells := cR, slots := sR, locals := 117 }) s m args below meth c H locs 0 0 Q (F0 m pc ls [.int v9.2])) ∧ (∀ t9 : CS × Nat, r = .inr t9 → (1 ≤ cR ∧ 6 ≤ sR) ∧ (∀ (pc : Nat) (H : Heap) (locs : List Loc) (ls : Array Slot), thD prog_1_method_19_code t9.2 pc → ls.size = 5 → va_P D cls (cw ad cc N t9.1) H → va_D A (cw ad cc N t9.1) → va_S A s.heap H locs → W p l e ({ frames := 7, cells := cR, slots := sR, locals := 117 }) s m args below meth c H locs 0 0 Q (F0 m pc ls [])) ∧ (∀ (pc : Nat) (H : Heap) (locs : List Loc) (ls : Array Slot) (st0 rest9 : List Value) (A9 : Nat → Prop), tx_Thr p l e ({ frames := 7, cells := cR, slots := sR, locals := 117 }) s m args below meth c H locs 0 0 1 6 (F0 m pc ls st0) rest9 (exN t9.2) A9 (fun H1 => va_P D cls (cw ad cc N t9.1) H1) → (∀ q, A9 q → A q) → va_S A s.heap H locs → W p l e ({ frames := 7, cells := cR, slots := sR, locals := 117 }) s m args below meth c H locs 0 0 Q (F0 m pc ls st0)))) : ∀ (H : Heap) (locs : List Loc) (ls : Array Slot), va_P D cls (cw ad cc N S) H → va_D A (cw ad cc N S) → va_S A s.heap H locs → lv_has ls 5 [(0, .ref (ad 11 x0)), (1, .int x1), (2, .int x2), (3, .int x3)] → W p l e ({ frames := 7, cells := cR, slots := sR, locals := 117 }) s m args below meth c H locs 0 0 Q (F0 m 0 ls []) := by
  intro H locs ls hP hD hS hl
  obtain ⟨hx, hb, hr, hml, hown, hts, hK, hA, hev, hE, hN, hNS⟩ := id hC
  unfold m_cJT_letter_J0 at Heq
  refine lv_aload_n hx hb d_cJT_letter_0 rfl (lv_at hl 0 rfl) ?_
  refine lv_iload_n hx hb d_cJT_letter_1 rfl (lv_at hl 1 rfl) ?_
  obtain ⟨hl_x0_11, Heq⟩ := gl_some Heq
  have hFc := fr_all hD hS hA
  rcases oe_some Heq with ⟨o_1, h_2, Heq⟩ | ⟨t_3, h_2, Heq⟩
  case inr => exact ((Kr _ (Option.some.inj Heq).symm).2 _ rfl).2.2 2 _ _ _ _ _ _ (tx_runV (As := [.int x1]) (rest := []) ⟨hx, hb, hml, hown, hts⟩ (g_cJT_shown_t l hfl D H.size (ad := ad) (cc := cc) (sad := sad) (sav := sav) h_2) (cw_v 1 hts kw_593 kw_590 kw_592 kp_3 kw_1 rfl rfl (by decide +kernel) ⟨Nat.le_of_ble_eq_true rfl, Nat.le_of_ble_eq_true rfl⟩) ⟨c_blind, va_recv hK hP (ci := 11) (q0 := cPos N 11 x0) rfl (cw_obj (k := 11) (by decide) hl_x0_11), fun U hU hW => c_pre hU hW hP hK hD hev hE hN hNS hS hFc⟩ rfl rfl hl.1 rfl (lv_room (Nat.le_of_ble_eq_true rfl)) d_cJT_letter_2 ((Kr _ (Option.some.inj Heq).symm).2 _ rfl).1) hFc hS
  refine va_callq (va_runV (As := [.int x1]) (rest := []) ⟨hx, hb, hml, hown, hts⟩ (g_cJT_shown l hfl D H.size (ad := ad) (cc := cc) (sad := sad) (sav := sav) h_2) (cw_v 1 hts kw_593 kw_590 kw_592 kp_3 kw_1 rfl rfl (by decide +kernel) ⟨Nat.le_of_ble_eq_true rfl, Nat.le_of_ble_eq_true rfl⟩) ⟨c_blind, va_recv hK hP (ci := 11) (q0 := cPos N 11 x0) rfl (cw_obj (k := 11) (by decide) hl_x0_11), fun U hU hW => c_pre hU hW hP hK hD hev hE hN hNS hS hFc⟩ rfl rfl hl.1 rfl (lv_room (Nat.le_of_ble_eq_true rfl)) d_cJT_letter_2 ⟨Nat.zero_le _, Nat.zero_le _⟩) hS (fun q _ h => hFc q h) hFc (fun rz u t H1 locs ht hvm hw hB hz1 hk1 hS => ?_)
  obtain ⟨hP, -, hD1⟩ := hB
  rw [ht] at hP
  have hD := hD1.weaken (fun _ q _ h => hFc q.1 h)
  generalize H1 = H at hP hS ⊢
  refine W.cs (cells' := 0) (slots' := 0) rfl rfl ?_
  subst hw
  refine w_v (y := rv ad 4 o_1.2) rfl ?_
  refine lv_pop hx hb d_cJT_letter_5 (by first | rfl | exact rv_cat) ?_
  refine lv_aload_n hx hb d_cJT_letter_6 rfl (lv_at hl 0 rfl) ?_
  refine va_get (D := D) (ci := 11) (v := rv ad 10 (o_1.1.r 11 2 x0)) (C := R_JT) (T := F_JT) (N := 13) hx hb hts i_JT hown hK hP (cPos N 11 x0) (cw_obj (k := 11) (by decide) hl_x0_11) rfl 2 (by decide) (hts _ kw_423) (fun _ h9 => h9) rfl d_cJT_letter_7 ?_
  refine lv_iload_n hx hb d_cJT_letter_10 rfl (lv_at hl 2 rfl) ?_
  obtain ⟨j_4, hj_5, hl_6, Heq⟩ := gn_some Heq
  refine w_s (st' := [.int x2, .ref (ad 10 j_4)]) (congrArg (fun z9 : Option Nat => [.int x2, rv ad 10 z9]) hj_5) ?_
  obtain ⟨o_7, h_8, Heq⟩ := ob_some Heq
  have hFc := fr_all hD hS hA
  refine va_callq (va_runV (As := [.int x2]) (rest := []) ⟨hx, hb, hml, hown, hts⟩ (g_cVw_opAt l D H.size (ad := ad) (cc := cc) (sad := sad) (sav := sav) h_8) (cw_v 1 hts kw_620 kw_617 kw_618 kw_619 kw_6 rfl rfl (by decide +kernel) ⟨Nat.le_of_ble_eq_true rfl, Nat.le_of_ble_eq_true rfl⟩) ⟨c_blind, va_recv hK hP (ci := 10) (q0 := cPos N 10 j_4) rfl (cw_obj (k := 10) (by decide) hl_6), fun U hU hW => c_pre hU hW hP hK hD hev hE hN hNS hS hFc⟩ rfl rfl hl.1 rfl (lv_room (Nat.le_of_ble_eq_true rfl)) d_cJT_letter_11 ⟨Nat.zero_le _, Nat.zero_le _⟩) hS (fun q _ h => hFc q h) hFc (fun rz u t H1 locs ht hvm hw hB hz1 hk1 hS => ?_)
  obtain ⟨hP, -, hD1⟩ := hB
  rw [ht] at hP
  have hD := hD1.weaken (fun _ q _ h => hFc q.1 h)
  generalize H1 = H at hP hS ⊢
  refine W.cs (cells' := 0) (slots' := 0) rfl rfl ?_
  subst hw
  refine w_v (y := rv ad 3 o_7.2) rfl ?_
  refine tx_astore (x := o_7.2.map (ad 3)) (lv' := [(4, rv ad 3 o_7.2), (0, .ref (ad 11 x0)), (1, .int x1), (2, .int x2), (3, .int x3)]) hx hb d_cJT_letter_14 hl (by decide) rfl (fun ls hl => ?_)
  refine tx_aload (x := o_7.2.map (ad 3)) hx hb d_cJT_letter_16 (lv_at hl 0 rfl) ?_
  refine w_v (y := rv ad 3 o_7.2) rfl ?_
  rcases on_some Heq with ⟨hj_10, Heq⟩ | ⟨j_9, hj_10, Heq⟩
  · refine w_s (st' := [.null]) (congrArg (fun z9 : Option Nat => [rv ad 3 z9]) hj_10) ?_
    refine lv_ifnullN (tgt := 34) hx hb d_cJT_letter_18 (by decide) ?_
    exact w_cJT_letter_J34 hfl hC Heq Kr _ _ _ hP hD hS (lv_sub hl [1] rfl)
  · refine w_s (st' := [.ref (ad 3 j_9)]) (congrArg (fun z9 : Option Nat => [rv ad 3 z9]) hj_10) ?_
    refine lv_ifnull hx hb d_cJT_letter_18 ?_
    refine lv_iload_n hx hb d_cJT_letter_21 rfl (lv_at hl 4 rfl) ?_
    refine lv_if_lt (tgt := 34) hx hb d_cJT_letter_22 (by decide) (fun c_11 => ?_) (fun c_11 => ?_)
    · replace Heq := (if_pos c_11).symm.trans Heq
      exact w_cJT_letter_J34 hfl hC Heq Kr _ _ _ hP hD hS (lv_sub hl [1] rfl)
    · replace Heq := (if_neg c_11).symm.trans Heq
      refine lv_iload_n hx hb d_cJT_letter_25 rfl (lv_at hl 4 rfl) ?_
      refine tx_aload (x := o_7.2.map (ad 3)) hx hb d_cJT_letter_26 (lv_at hl 0 rfl) ?_
      refine w_v (y := rv ad 3 o_7.2) rfl ?_
      refine w_s (st' := [.ref (ad 3 j_9), .int x3]) (congrArg (fun z9 : Option Nat => [rv ad 3 z9, .int x3]) hj_10) ?_
      obtain ⟨hl_j_9_3, Heq⟩ := gl_some Heq
      refine va_get (D := D) (ci := 3) (v := .int (o_7.1.i 3 10 j_9)) (C := R_Op) (T := F_Op) (N := 15) hx hb hts i_Op hown hK hP (cPos N 3 j_9) (cw_obj (k := 3) (by decide) hl_j_9_3) rfl 10 (by decide) (hts _ kw_89) (fun _ h9 => h9) rfl d_cJT_letter_28 ?_
      refine lv_icmp_lt (tgt := 42) hx hb d_cJT_letter_31 (by decide) (fun c_12 => ?_) (fun c_12 => ?_)
      · replace Heq := (if_pos c_12).symm.trans Heq
        refine lv_aload_n hx hb d_cJT_letter_42 rfl (lv_at hl 1 rfl) ?_
        refine va_get (D := D) (ci := 11) (v := rv ad 8 (o_7.1.r 11 0 x0)) (C := R_JT) (T := F_JT) (N := 13) hx hb hts i_JT hown hK hP (cPos N 11 x0) (cw_obj (k := 11) (by decide) hl_x0_11) rfl 0 (by decide) (hts _ kw_421) (fun _ h9 => h9) rfl d_cJT_letter_43 ?_
        obtain ⟨j_13, hj_14, hl_15, Heq⟩ := gn_some Heq
        refine w_s (st' := [.ref (ad 8 j_13)]) (congrArg (fun z9 : Option Nat => [rv ad 8 z9]) hj_14) ?_
        refine va_get (D := D) (ci := 8) (v := rv ad 5 (o_7.1.r 8 2 j_13)) (C := R_St) (T := F_St) (N := 6) hx hb hts i_St hown hK hP (cPos N 8 j_13) (cw_obj (k := 8) (by decide) hl_15) rfl 2 (by decide) (hts _ kw_170) (fun _ h9 => h9) rfl d_cJT_letter_46 ?_
        refine tx_aload (x := o_7.2.map (ad 3)) hx hb d_cJT_letter_49 (lv_at hl 0 rfl) ?_
        refine w_v (y := rv ad 3 o_7.2) rfl ?_
        refine w_s (st' := [.ref (ad 3 j_9), rv ad 5 (o_7.1.r 8 2 j_13)]) (congrArg (fun z9 : Option Nat => [rv ad 3 z9, rv ad 5 (o_7.1.r 8 2 j_13)]) hj_10) ?_
        refine va_get (D := D) (ci := 3) (v := .int (o_7.1.i 3 8 j_9)) (C := R_Op) (T := F_Op) (N := 15) hx hb hts i_Op hown hK hP (cPos N 3 j_9) (cw_obj (k := 3) (by decide) hl_j_9_3) rfl 8 (by decide) (hts _ kw_81) (fun _ h9 => h9) rfl d_cJT_letter_51 ?_
        refine tx_aload (x := o_7.2.map (ad 3)) hx hb d_cJT_letter_54 (lv_at hl 0 rfl) ?_
        refine w_v (y := rv ad 3 o_7.2) rfl ?_
        refine w_s (st' := [.ref (ad 3 j_9), .int (o_7.1.i 3 8 j_9), rv ad 5 (o_7.1.r 8 2 j_13)]) (congrArg (fun z9 : Option Nat => [rv ad 3 z9, .int (o_7.1.i 3 8 j_9), rv ad 5 (o_7.1.r 8 2 j_13)]) hj_10) ?_
        refine va_get (D := D) (ci := 3) (v := .int (o_7.1.i 3 9 j_9)) (C := R_Op) (T := F_Op) (N := 15) hx hb hts i_Op hown hK hP (cPos N 3 j_9) (cw_obj (k := 3) (by decide) hl_j_9_3) rfl 9 (by decide) (hts _ kw_85) (fun _ h9 => h9) rfl d_cJT_letter_56 ?_
        refine lv_iadd hx hb d_cJT_letter_59 ?_
        refine w_i (y := (o_7.1.i 3 8 j_9) + (o_7.1.i 3 9 j_9)) rfl ?_
        refine lv_iload_n hx hb d_cJT_letter_60 rfl (lv_at hl 4 rfl) ?_
        refine lv_iadd hx hb d_cJT_letter_61 ?_
        refine w_i (y := ((o_7.1.i 3 8 j_9) + (o_7.1.i 3 9 j_9)) + x3) rfl ?_
        obtain ⟨j_16, hj_17, hl_18, Heq⟩ := gn_some Heq
        refine w_s (st' := [.int (((o_7.1.i 3 8 j_9) + (o_7.1.i 3 9 j_9)) + x3), .ref (ad 5 j_16)]) (congrArg (fun z9 : Option Nat => [.int (((o_7.1.i 3 8 j_9) + (o_7.1.i 3 9 j_9)) + x3), rv ad 5 z9]) hj_17) ?_
        obtain ⟨o_19, h_20, Heq⟩ := ob_some Heq
        have hFc := fr_all hD hS hA
        refine va_calli (va_runV (As := [.int (((o_7.1.i 3 8 j_9) + (o_7.1.i 3 9 j_9)) + x3)]) (rest := []) ⟨hx, hb, hml, hown, hts⟩ (g_cRw_at l D H.size (ad := ad) (cc := cc) (sad := sad) (sav := sav) h_20) (cw_v 1 hts kw_689 kw_1136 kw_687 kw_688 kw_4 rfl rfl (by decide +kernel) ⟨Nat.le_of_ble_eq_true rfl, Nat.le_of_ble_eq_true rfl⟩) ⟨c_blind, va_recv hK hP (ci := 5) (q0 := cPos N 5 j_16) rfl (cw_obj (k := 5) (by decide) hl_18), fun U hU hW => c_pre hU hW hP hK hD hev hE hN hNS hS hFc⟩ rfl rfl hl.1 rfl (lv_room (Nat.le_of_ble_eq_true rfl)) d_cJT_letter_62 ⟨Nat.zero_le _, Nat.zero_le _⟩) hS (fun q _ h => hFc q h) hFc (fun rz u t H1 locs ht hvm hw hB hz1 hk1 hS => ?_)
        obtain ⟨hP, -, hD1⟩ := hB
        rw [ht] at hP
        have hD := hD1.weaken (fun _ q _ h => hFc q.1 h)
        generalize H1 = H at hP hS ⊢
        refine W.cs (cells' := 0) (slots' := 0) rfl rfl ?_
        subst hw
        exact (Kr _ (Option.some.inj Heq).symm).1 _ rfl 65 _ _ _ d_cJT_letter_65 hP hD hS
      · replace Heq := (if_neg c_12).symm.trans Heq
        exact w_cJT_letter_J34 hfl hC Heq Kr _ _ _ hP hD hS (lv_sub hl [1] rfl)
def m_cJT_letter (N : Nat → Nat) (x0 : Nat) (S : CS) (x1 : Int32) (x2 : Int32) (x3 : Int32) : Option ((CS × Int32) ⊕ (CS × Nat)) := m_cJT_letter_J0 N x0 S x1 x2 x3
set_option maxHeartbeats 4000000 in
theorem g_cJT_letter (l : Launch) (hfl : l.flags = flags0) (D : va_G) (sz : Nat) {ad : Nat → Nat → Nat} {cc : Nat → ClassId} {sad sav : Nat → Nat} {N : Nat → Nat} {x0 : Nat} {S : CS} {x1 : Int32} {x2 : Int32} {x3 : Int32} {o : CS × Int32} (Heq : m_cJT_letter N x0 S x1 x2 x3 = some (.inl o)) : Met l ⟨"JoinedTrees", "letter", "(III)I"⟩ (Cond.code ⟨"JoinedTrees", "letter", "(III)I"⟩ prog_1_method_19_code 5 (some .int) :: gb) ({ frames := 7, cells := 0, slots := 0, locals := 117 }) (cPc sad sav D (cw ad cc N S) (cty cc) sz [.ref (ad 11 x0), .int x1, .int x2, .int x3]) (va_Qi (fun (r : Int32) (_ : Unit) => r = o.2) (fun _ t => gO D (cw ad cc N o.1) (cty cc) (va_A (cw ad cc N S) sz) t) (va_A (cw ad cc N S) sz)) 0 0 (va_A (cw ad cc N S) sz) := by
  refine Met.ofW (cc := prog_1_method_19_code) (maxL := 5) (ret := (some .int)) (by decide) rfl ?_
  intro p e s m args below meth c s₁ B hml hv
  obtain ⟨rfl, hsz, hP, hK, hD0, hev, hE, hN⟩ := hv
  have hx := B.exec
  have hb := B.bytes
  have hr := B.returns
  have hts : ∀ w9 ∈ gb, w9.before [.ref (ad 11 x0), .int x1, .int x2, .int x3].toArray s = true := fun w9 h => atoms_spec (ws := Cond.code ⟨"JoinedTrees", "letter", "(III)I"⟩ prog_1_method_19_code 5 (some .int) :: gb) B.pre w9 (List.mem_cons_of_mem _ h)
  have hown : s.vm.findClass "JoinedTrees" = some m.cls := findClass_of_methodNamed B.named
  have hlocks := B.notSynchronized
  have hNS := ns_of hP
  subst hsz
  have hD := hD0.self (sz := s.heap.size)
  generalize hAe : va_A (cw ad cc N S) s.heap.size = A at hD hev hE hNS ⊢
  have hA : ∀ q : Nat, s.heap.size ≤ q → A q := fun q h => by rw [← hAe]; exact Or.inr h
  have hS : va_S A s.heap s.heap [] := va_S.rf
  obtain ⟨ls, hl, hle⟩ : ∃ ls : Array Slot, lv_has ls 5 [(0, .ref (ad 11 x0)), (1, .int x1), (2, .int x2), (3, .int x3)] ∧ entryFrame m ([.ref (ad 11 x0), .int x1, .int x2, .int x3] : List Value).toArray 5 = F0 m 0 ls [] := by
    exact ⟨_, lv_entry (n := 5) _ (Nat.le_of_ble_eq_true rfl), lg_entry_eq ..⟩
  rw [hle]
  refine w_cJT_letter_J0 (cR := 0) (sR := 0) hfl ⟨hx, hb, hr, hml, hown, hts, hK, hA, hev, hE, hN, hNS⟩ Heq (fun r h => ⟨fun v9 hv9 pc H locs ls hd hP hD hS => ?_, fun t9 ht9 => (by subst h; cases ht9)⟩) _ _ _ hP hD hS (lv_sub hl [0, 1, 2, 3] rfl)
  subst h
  cases hv9
  exact W.iret hx hb hr (fun t ht hW => ⟨⟨_, (), rfl, rfl, by rw [ht]; exact hP, va_K.moved hW.alike hK, hD⟩, hS.F ht⟩) hS.2.2 hd
set_option maxHeartbeats 4000000 in
theorem g_cJT_letter_t (l : Launch) (hfl : l.flags = flags0) (D : va_G) (sz : Nat) {ad : Nat → Nat → Nat} {cc : Nat → ClassId} {sad sav : Nat → Nat} {N : Nat → Nat} {x0 : Nat} {S : CS} {x1 : Int32} {x2 : Int32} {x3 : Int32} {o : CS × Nat} (Heq : m_cJT_letter N x0 S x1 x2 x3 = some (.inr o)) : MeT l ⟨"JoinedTrees", "letter", "(III)I"⟩ (Cond.code ⟨"JoinedTrees", "letter", "(III)I"⟩ prog_1_method_19_code 5 (some .int) :: gb) ({ frames := 7, cells := 1, slots := 6, locals := 117 }) (cPc sad sav D (cw ad cc N S) (cty cc) sz [.ref (ad 11 x0), .int x1, .int x2, .int x3]) (exN o.2) (va_A (cw ad cc N S) sz) (fun H1 => va_P D cls (cw ad cc N o.1) H1) 1 6 := by
  refine MeT.ofW (cc := prog_1_method_19_code) (maxL := 5) (ret := (some .int)) (by decide) rfl ?_
  intro p e s m args below meth c s₁ B hml hno hv
  obtain ⟨rfl, hsz, hP, hK, hD0, hev, hE, hN⟩ := hv
  have hx := B.exec
  have hb := B.bytes
  have hr := B.returns
  have hts : ∀ w9 ∈ gb, w9.before [.ref (ad 11 x0), .int x1, .int x2, .int x3].toArray s = true := fun w9 h => atoms_spec (ws := Cond.code ⟨"JoinedTrees", "letter", "(III)I"⟩ prog_1_method_19_code 5 (some .int) :: gb) B.pre w9 (List.mem_cons_of_mem _ h)
  have hown : s.vm.findClass "JoinedTrees" = some m.cls := findClass_of_methodNamed B.named
  have hlocks := B.notSynchronized
  have hNS := ns_of hP
  subst hsz
  have hD := hD0.self (sz := s.heap.size)
  generalize hAe : va_A (cw ad cc N S) s.heap.size = A at hD hev hE hNS ⊢
  have hA : ∀ q : Nat, s.heap.size ≤ q → A q := fun q h => by rw [← hAe]; exact Or.inr h
  have hS : va_S A s.heap s.heap [] := va_S.rf
  obtain ⟨ls, hl, hle⟩ : ∃ ls : Array Slot, lv_has ls 5 [(0, .ref (ad 11 x0)), (1, .int x1), (2, .int x2), (3, .int x3)] ∧ entryFrame m ([.ref (ad 11 x0), .int x1, .int x2, .int x3] : List Value).toArray 5 = F0 m 0 ls [] := by
    exact ⟨_, lv_entry (n := 5) _ (Nat.le_of_ble_eq_true rfl), lg_entry_eq ..⟩
  rw [hle]
  refine w_cJT_letter_J0 (cR := 1) (sR := 6) hfl ⟨hx, hb, hr, hml, hown, hts, hK, hA, hev, hE, hN, hNS⟩ Heq (fun r h => ⟨fun v9 hv9 => (by subst h; cases hv9), fun t9 ht9 => ⟨⟨Nat.le_refl _, Nat.le_refl _⟩, fun pc H locs ls hd hsz hP hD hS => ?_, fun pc H locs ls st0 rest9 A9 hr9 hF9 hS => ?_⟩⟩) _ _ _ hP hD hS (lv_sub hl [0, 1, 2, 3] rfl)
  · subst h; cases ht9; exact tx_thr hfl hx hb hno hlocks hown hts hev hN hNS hd (hsz.trans hml.symm) hP hS hA (Nat.le_refl _) (Nat.le_refl _) (Nat.le_of_ble_eq_true rfl) (Nat.le_of_ble_eq_true rfl)
  · subst h; cases ht9; exact tx_on hr9 hno hlocks hS hF9
def m_cJT_element_J0 (N : Nat → Nat) (x0 : Nat) (S : CS) (x1 : Int32) (x2 : Int32) (x3 : Int32) : Option ((CS × Int32) ⊕ (CS × Nat)) := gl x0 (N 11) (oe (m_cJT_shown N x0 S x1) (fun o_1 => oe (m_cJT_listAt N x0 o_1.1 x2) (fun o_4 => gn o_4.2 (N 3) (fun j_7 => gn (o_1.1.r 11 2 x0) (N 10) (fun j_10 => ob (m_cVw_spotAt N j_10 o_4.1 j_7 x3) (fun o_13 => oe (m_cJT_needSpot N x0 o_13.1 o_13.2) (fun o_15 => gn o_13.2 (N 7) (fun j_18 => gn (o_15.r 7 0 j_18) (N 3) (fun j_21 => some (.inl (o_15, o_15.i 3 0 j_21))))) (fun t_17 => some (.inr t_17)))))) (fun t_6 => some (.inr t_6))) (fun t_3 => some (.inr t_3)))
theorem d_cJT_element_0 : decode prog_1_method_20_code 0 = .ok (.aload_n 0, 1) := by decide +kernel
theorem d_cJT_element_1 : decode prog_1_method_20_code 1 = .ok (.iload_n 1, 1) := by decide +kernel
theorem d_cJT_element_2 : decode prog_1_method_20_code 2 = .ok (.invokevirtual 105, 3) := by decide +kernel
theorem d_cJT_element_5 : decode prog_1_method_20_code 5 = .ok (.pop, 1) := by decide +kernel
theorem d_cJT_element_6 : decode prog_1_method_20_code 6 = .ok (.aload_n 0, 1) := by decide +kernel
theorem d_cJT_element_7 : decode prog_1_method_20_code 7 = .ok (.getfield 30, 3) := by decide +kernel
theorem d_cJT_element_10 : decode prog_1_method_20_code 10 = .ok (.aload_n 0, 1) := by decide +kernel
theorem d_cJT_element_11 : decode prog_1_method_20_code 11 = .ok (.iload_n 2, 1) := by decide +kernel
theorem d_cJT_element_12 : decode prog_1_method_20_code 12 = .ok (.invokevirtual 145, 3) := by decide +kernel
theorem d_cJT_element_15 : decode prog_1_method_20_code 15 = .ok (.iload_n 3, 1) := by decide +kernel
theorem d_cJT_element_16 : decode prog_1_method_20_code 16 = .ok (.invokevirtual 148, 3) := by decide +kernel
theorem d_cJT_element_19 : decode prog_1_method_20_code 19 = .ok (.astore 4, 2) := by decide +kernel
theorem d_cJT_element_21 : decode prog_1_method_20_code 21 = .ok (.aload_n 0, 1) := by decide +kernel
theorem d_cJT_element_22 : decode prog_1_method_20_code 22 = .ok (.aload 4, 2) := by decide +kernel
theorem d_cJT_element_24 : decode prog_1_method_20_code 24 = .ok (.invokevirtual 152, 3) := by decide +kernel
theorem d_cJT_element_27 : decode prog_1_method_20_code 27 = .ok (.aload 4, 2) := by decide +kernel
theorem d_cJT_element_29 : decode prog_1_method_20_code 29 = .ok (.getfield 278, 3) := by decide +kernel
theorem d_cJT_element_32 : decode prog_1_method_20_code 32 = .ok (.getfield 140, 3) := by decide +kernel
theorem d_cJT_element_35 : decode prog_1_method_20_code 35 = .ok (.ireturn, 1) := by decide +kernel
set_option maxHeartbeats 4000000 in
set_option maxRecDepth 100000 in
theorem w_cJT_element_J0 {p : Program} {l : Launch} {e : Env} {s : State} {m : MethodId} {args : Array Value} {below : List Frame} {meth : Method} {c : Code} {A : Nat → Prop} {D : va_G} {ad : Nat → Nat → Nat} {cc : Nat → ClassId} {sad sav : Nat → Nat} {Q : State → Prop} {cR sR : Nat} (hfl : l.flags = flags0) (hC : MCc sad sav "JoinedTrees" prog_1_method_20_code 5 (some .int) p s m args meth c A D cc) {N : Nat → Nat} {x0 : Nat} {S : CS} {x1 : Int32} {x2 : Int32} {x3 : Int32} {o : ((CS × Int32) ⊕ (CS × Nat))} (Heq : m_cJT_element_J0 N x0 S x1 x2 x3 = some o) (Kr : ∀ r : ((CS × Int32) ⊕ (CS × Nat)), o = r → (∀ v9 : CS × Int32, r = .inl v9 → ∀ (pc : Nat) (H : Heap) (locs : List Loc) (ls : Array Slot), decode prog_1_method_20_code pc = .ok (.ireturn, 1) → va_P D cls (cw ad cc N v9.1) H → va_D A (cw ad cc N v9.1) → va_S A s.heap H locs → W p l e ({ frames := 8, cells := cR, slots := sR, locals := 140 }) s m args below meth c H locs 0 0 Q (F0 m pc ls [.int v9.2])) ∧ (∀ t9 : CS × Nat, r = .inr t9 → (1 ≤ cR ∧ 6 ≤ sR) ∧ (∀ (pc : Nat) (H : Heap) (locs : List Loc) (ls : Array Slot), thD prog_1_method_20_code t9.2 pc → ls.size = 5 → va_P D cls (cw ad cc N t9.1) H → va_D A (cw ad cc N t9.1) → va_S A s.heap H locs → W p l e ({ frames := 8, cells := cR, slots := sR, locals := 140 }) s m args below meth c H locs 0 0 Q (F0 m pc ls [])) ∧ (∀ (pc : Nat) (H : Heap) (locs : List Loc) (ls : Array Slot) (st0 rest9 : List Value) (A9 : Nat → Prop), tx_Thr p l e ({ frames := 8, cells := cR, slots := sR, locals := 140 }) s m args below meth c H locs 0 0 1 6 (F0 m pc ls st0) rest9 (exN t9.2) A9 (fun H1 => va_P D cls (cw ad cc N t9.1) H1) → (∀ q, A9 q → A q) → va_S A s.heap H locs → W p l e ({ frames := 8, cells := cR, slots := sR, locals := 140 }) s m args below meth c H locs 0 0 Q (F0 m pc ls st0)))) : ∀ (H : Heap) (locs : List Loc) (ls : Array Slot), va_P D cls (cw ad cc N S) H → va_D A (cw ad cc N S) → va_S A s.heap H locs → lv_has ls 5 [(0, .ref (ad 11 x0)), (1, .int x1), (2, .int x2), (3, .int x3)] → W p l e ({ frames := 8, cells := cR, slots := sR, locals := 140 }) s m args below meth c H locs 0 0 Q (F0 m 0 ls []) := by
  intro H locs ls hP hD hS hl
  obtain ⟨hx, hb, hr, hml, hown, hts, hK, hA, hev, hE, hN, hNS⟩ := id hC
  unfold m_cJT_element_J0 at Heq
  refine lv_aload_n hx hb d_cJT_element_0 rfl (lv_at hl 0 rfl) ?_
  refine lv_iload_n hx hb d_cJT_element_1 rfl (lv_at hl 1 rfl) ?_
  obtain ⟨hl_x0_11, Heq⟩ := gl_some Heq
  have hFc := fr_all hD hS hA
  rcases oe_some Heq with ⟨o_1, h_2, Heq⟩ | ⟨t_3, h_2, Heq⟩
  case inr => exact ((Kr _ (Option.some.inj Heq).symm).2 _ rfl).2.2 2 _ _ _ _ _ _ (tx_runV (As := [.int x1]) (rest := []) ⟨hx, hb, hml, hown, hts⟩ (g_cJT_shown_t l hfl D H.size (ad := ad) (cc := cc) (sad := sad) (sav := sav) h_2) (cw_v 1 hts kw_593 kw_590 kw_592 kp_3 kw_1 rfl rfl (by decide +kernel) ⟨Nat.le_of_ble_eq_true rfl, Nat.le_of_ble_eq_true rfl⟩) ⟨c_blind, va_recv hK hP (ci := 11) (q0 := cPos N 11 x0) rfl (cw_obj (k := 11) (by decide) hl_x0_11), fun U hU hW => c_pre hU hW hP hK hD hev hE hN hNS hS hFc⟩ rfl rfl hl.1 rfl (lv_room (Nat.le_of_ble_eq_true rfl)) d_cJT_element_2 ((Kr _ (Option.some.inj Heq).symm).2 _ rfl).1) hFc hS
  refine va_callq (va_runV (As := [.int x1]) (rest := []) ⟨hx, hb, hml, hown, hts⟩ (g_cJT_shown l hfl D H.size (ad := ad) (cc := cc) (sad := sad) (sav := sav) h_2) (cw_v 1 hts kw_593 kw_590 kw_592 kp_3 kw_1 rfl rfl (by decide +kernel) ⟨Nat.le_of_ble_eq_true rfl, Nat.le_of_ble_eq_true rfl⟩) ⟨c_blind, va_recv hK hP (ci := 11) (q0 := cPos N 11 x0) rfl (cw_obj (k := 11) (by decide) hl_x0_11), fun U hU hW => c_pre hU hW hP hK hD hev hE hN hNS hS hFc⟩ rfl rfl hl.1 rfl (lv_room (Nat.le_of_ble_eq_true rfl)) d_cJT_element_2 ⟨Nat.zero_le _, Nat.zero_le _⟩) hS (fun q _ h => hFc q h) hFc (fun rz u t H1 locs ht hvm hw hB hz1 hk1 hS => ?_)
  obtain ⟨hP, -, hD1⟩ := hB
  rw [ht] at hP
  have hD := hD1.weaken (fun _ q _ h => hFc q.1 h)
  generalize H1 = H at hP hS ⊢
  refine W.cs (cells' := 0) (slots' := 0) rfl rfl ?_
  subst hw
  refine w_v (y := rv ad 4 o_1.2) rfl ?_
  refine lv_pop hx hb d_cJT_element_5 (by first | rfl | exact rv_cat) ?_
  refine lv_aload_n hx hb d_cJT_element_6 rfl (lv_at hl 0 rfl) ?_
  refine va_get (D := D) (ci := 11) (v := rv ad 10 (o_1.1.r 11 2 x0)) (C := R_JT) (T := F_JT) (N := 13) hx hb hts i_JT hown hK hP (cPos N 11 x0) (cw_obj (k := 11) (by decide) hl_x0_11) rfl 2 (by decide) (hts _ kw_423) (fun _ h9 => h9) rfl d_cJT_element_7 ?_
  refine lv_aload_n hx hb d_cJT_element_10 rfl (lv_at hl 0 rfl) ?_
  refine lv_iload_n hx hb d_cJT_element_11 rfl (lv_at hl 2 rfl) ?_
  have hFc := fr_all hD hS hA
  rcases oe_some Heq with ⟨o_4, h_5, Heq⟩ | ⟨t_6, h_5, Heq⟩
  case inr => exact ((Kr _ (Option.some.inj Heq).symm).2 _ rfl).2.2 12 _ _ _ _ _ _ (tx_runV (As := [.int x2]) (rest := [rv ad 10 (o_1.1.r 11 2 x0)]) ⟨hx, hb, hml, hown, hts⟩ (g_cJT_listAt_t l hfl D H.size (ad := ad) (cc := cc) (sad := sad) (sav := sav) h_5) (cw_v 1 hts kw_776 kw_773 kw_775 kp_13 kw_1 rfl rfl (by decide +kernel) ⟨Nat.le_of_ble_eq_true rfl, Nat.le_of_ble_eq_true rfl⟩) ⟨c_blind, va_recv hK hP (ci := 11) (q0 := cPos N 11 x0) rfl (cw_obj (k := 11) (by decide) hl_x0_11), fun U hU hW => c_pre hU hW hP hK hD hev hE hN hNS hS hFc⟩ rfl rfl hl.1 rfl (lv_room (by simp only [List.map_cons, List.map_nil, List.sum_cons, List.sum_nil, rv_cat]; exact Nat.le_of_ble_eq_true rfl)) d_cJT_element_12 ((Kr _ (Option.some.inj Heq).symm).2 _ rfl).1) hFc hS
  refine va_callq (va_runV (As := [.int x2]) (rest := [rv ad 10 (o_1.1.r 11 2 x0)]) ⟨hx, hb, hml, hown, hts⟩ (g_cJT_listAt l hfl D H.size (ad := ad) (cc := cc) (sad := sad) (sav := sav) h_5) (cw_v 1 hts kw_776 kw_773 kw_775 kp_13 kw_1 rfl rfl (by decide +kernel) ⟨Nat.le_of_ble_eq_true rfl, Nat.le_of_ble_eq_true rfl⟩) ⟨c_blind, va_recv hK hP (ci := 11) (q0 := cPos N 11 x0) rfl (cw_obj (k := 11) (by decide) hl_x0_11), fun U hU hW => c_pre hU hW hP hK hD hev hE hN hNS hS hFc⟩ rfl rfl hl.1 rfl (lv_room (by simp only [List.map_cons, List.map_nil, List.sum_cons, List.sum_nil, rv_cat]; exact Nat.le_of_ble_eq_true rfl)) d_cJT_element_12 ⟨Nat.zero_le _, Nat.zero_le _⟩) hS (fun q _ h => hFc q h) hFc (fun rz u t H1 locs ht hvm hw hB hz1 hk1 hS => ?_)
  obtain ⟨hP, -, hD1⟩ := hB
  rw [ht] at hP
  have hD := hD1.weaken (fun _ q _ h => hFc q.1 h)
  generalize H1 = H at hP hS ⊢
  refine W.cs (cells' := 0) (slots' := 0) rfl rfl ?_
  subst hw
  refine w_v (y := rv ad 3 o_4.2) rfl ?_
  refine lv_iload_n hx hb d_cJT_element_15 rfl (lv_at hl 3 rfl) ?_
  obtain ⟨j_7, hj_8, hl_9, Heq⟩ := gn_some Heq
  refine w_s (st' := [.int x3, .ref (ad 3 j_7), rv ad 10 (o_1.1.r 11 2 x0)]) (congrArg (fun z9 : Option Nat => [.int x3, rv ad 3 z9, rv ad 10 (o_1.1.r 11 2 x0)]) hj_8) ?_
  obtain ⟨j_10, hj_11, hl_12, Heq⟩ := gn_some Heq
  refine w_s (st' := [.int x3, .ref (ad 3 j_7), .ref (ad 10 j_10)]) (congrArg (fun z9 : Option Nat => [.int x3, .ref (ad 3 j_7), rv ad 10 z9]) hj_11) ?_
  obtain ⟨o_13, h_14, Heq⟩ := ob_some Heq
  have hFc := fr_all hD hS hA
  refine va_callq (va_runV (As := [.ref (ad 3 j_7), .int x3]) (rest := []) ⟨hx, hb, hml, hown, hts⟩ (g_cVw_spotAt l D H.size (ad := ad) (cc := cc) (sad := sad) (sav := sav) h_14) (cw_v 2 hts kw_780 kw_777 kw_778 kw_779 kw_6 rfl rfl (by decide +kernel) ⟨Nat.le_of_ble_eq_true rfl, Nat.le_of_ble_eq_true rfl⟩) ⟨c_blind, va_recv hK hP (ci := 10) (q0 := cPos N 10 j_10) rfl (cw_obj (k := 10) (by decide) hl_12), fun U hU hW => c_pre hU hW hP hK hD hev hE hN hNS hS hFc⟩ rfl rfl hl.1 rfl (lv_room (Nat.le_of_ble_eq_true rfl)) d_cJT_element_16 ⟨Nat.zero_le _, Nat.zero_le _⟩) hS (fun q _ h => hFc q h) hFc (fun rz u t H1 locs ht hvm hw hB hz1 hk1 hS => ?_)
  obtain ⟨hP, -, hD1⟩ := hB
  rw [ht] at hP
  have hD := hD1.weaken (fun _ q _ h => hFc q.1 h)
  generalize H1 = H at hP hS ⊢
  refine W.cs (cells' := 0) (slots' := 0) rfl rfl ?_
  subst hw
  refine w_v (y := rv ad 7 o_13.2) rfl ?_
  refine tx_astore (x := o_13.2.map (ad 7)) (lv' := [(4, rv ad 7 o_13.2), (0, .ref (ad 11 x0)), (1, .int x1), (2, .int x2), (3, .int x3)]) hx hb d_cJT_element_19 hl (by decide) rfl (fun ls hl => ?_)
  refine lv_aload_n hx hb d_cJT_element_21 rfl (lv_at hl 1 rfl) ?_
  refine tx_aload (x := o_13.2.map (ad 7)) hx hb d_cJT_element_22 (lv_at hl 0 rfl) ?_
  refine w_v (y := rv ad 7 o_13.2) rfl ?_
  refine w_s (st' := [rv ad 7 o_13.2, .ref (ad 11 x0)]) rfl ?_
  have hFc := fr_all hD hS hA
  rcases oe_some Heq with ⟨o_15, h_16, Heq⟩ | ⟨t_17, h_16, Heq⟩
  case inr => exact ((Kr _ (Option.some.inj Heq).symm).2 _ rfl).2.2 24 _ _ _ _ _ _ (tx_runV (As := [rv ad 7 o_13.2]) (rest := []) ⟨hx, hb, hml, hown, hts⟩ (g_cJT_needSpot_t l hfl D H.size (ad := ad) (cc := cc) (sad := sad) (sav := sav) h_16) (cw_v 1 hts kw_789 kw_786 kw_788 kp_14 kw_1 rfl rfl (by decide +kernel) ⟨Nat.le_of_ble_eq_true rfl, Nat.le_of_ble_eq_true rfl⟩) ⟨c_blind, va_recv hK hP (ci := 11) (q0 := cPos N 11 x0) rfl (cw_obj (k := 11) (by decide) hl_x0_11), fun U hU hW => c_pre hU hW hP hK hD hev hE hN hNS hS hFc⟩ rfl rfl hl.1 rfl (lv_room (Nat.le_of_ble_eq_true rfl)) d_cJT_element_24 ((Kr _ (Option.some.inj Heq).symm).2 _ rfl).1) hFc hS
  refine va_callv (va_runV (As := [rv ad 7 o_13.2]) (rest := []) ⟨hx, hb, hml, hown, hts⟩ (g_cJT_needSpot l hfl D H.size (ad := ad) (cc := cc) (sad := sad) (sav := sav) h_16) (cw_v 1 hts kw_789 kw_786 kw_788 kp_14 kw_1 rfl rfl (by decide +kernel) ⟨Nat.le_of_ble_eq_true rfl, Nat.le_of_ble_eq_true rfl⟩) ⟨c_blind, va_recv hK hP (ci := 11) (q0 := cPos N 11 x0) rfl (cw_obj (k := 11) (by decide) hl_x0_11), fun U hU hW => c_pre hU hW hP hK hD hev hE hN hNS hS hFc⟩ rfl rfl hl.1 rfl (lv_room (Nat.le_of_ble_eq_true rfl)) d_cJT_element_24 ⟨Nat.zero_le _, Nat.zero_le _⟩) hS (fun q _ h => hFc q h) hFc (fun u t H1 locs ht hvm hw hB hz1 hk1 hS => ?_)
  obtain ⟨hP, -, hD1⟩ := hB
  rw [ht] at hP
  have hD := hD1.weaken (fun _ q _ h => hFc q.1 h)
  generalize H1 = H at hP hS ⊢
  refine W.cs (cells' := 0) (slots' := 0) rfl rfl ?_
  refine tx_aload (x := o_13.2.map (ad 7)) hx hb d_cJT_element_27 (lv_at hl 0 rfl) ?_
  refine w_v (y := rv ad 7 o_13.2) rfl ?_
  obtain ⟨j_18, hj_19, hl_20, Heq⟩ := gn_some Heq
  refine w_s (st' := [.ref (ad 7 j_18)]) (congrArg (fun z9 : Option Nat => [rv ad 7 z9]) hj_19) ?_
  refine va_get (D := D) (ci := 7) (v := rv ad 3 (o_15.r 7 0 j_18)) (C := R_Sp) (T := F_Sp) (N := 3) hx hb hts i_Sp hown hK hP (cPos N 7 j_18) (cw_obj (k := 7) (by decide) hl_20) rfl 0 (by decide) (hts _ kw_743) (fun _ h9 => h9) rfl d_cJT_element_29 ?_
  obtain ⟨j_21, hj_22, hl_23, Heq⟩ := gn_some Heq
  refine w_s (st' := [.ref (ad 3 j_21)]) (congrArg (fun z9 : Option Nat => [rv ad 3 z9]) hj_22) ?_
  refine va_get (D := D) (ci := 3) (v := .int (o_15.i 3 0 j_21)) (C := R_Op) (T := F_Op) (N := 15) hx hb hts i_Op hown hK hP (cPos N 3 j_21) (cw_obj (k := 3) (by decide) hl_23) rfl 0 (by decide) (hts _ kw_52) (fun _ h9 => h9) rfl d_cJT_element_32 ?_
  exact (Kr _ (Option.some.inj Heq).symm).1 _ rfl 35 _ _ _ d_cJT_element_35 hP hD hS
def m_cJT_element (N : Nat → Nat) (x0 : Nat) (S : CS) (x1 : Int32) (x2 : Int32) (x3 : Int32) : Option ((CS × Int32) ⊕ (CS × Nat)) := m_cJT_element_J0 N x0 S x1 x2 x3
set_option maxHeartbeats 4000000 in
theorem g_cJT_element (l : Launch) (hfl : l.flags = flags0) (D : va_G) (sz : Nat) {ad : Nat → Nat → Nat} {cc : Nat → ClassId} {sad sav : Nat → Nat} {N : Nat → Nat} {x0 : Nat} {S : CS} {x1 : Int32} {x2 : Int32} {x3 : Int32} {o : CS × Int32} (Heq : m_cJT_element N x0 S x1 x2 x3 = some (.inl o)) : Met l ⟨"JoinedTrees", "element", "(III)I"⟩ (Cond.code ⟨"JoinedTrees", "element", "(III)I"⟩ prog_1_method_20_code 5 (some .int) :: gb) ({ frames := 8, cells := 0, slots := 0, locals := 140 }) (cPc sad sav D (cw ad cc N S) (cty cc) sz [.ref (ad 11 x0), .int x1, .int x2, .int x3]) (va_Qi (fun (r : Int32) (_ : Unit) => r = o.2) (fun _ t => gO D (cw ad cc N o.1) (cty cc) (va_A (cw ad cc N S) sz) t) (va_A (cw ad cc N S) sz)) 0 0 (va_A (cw ad cc N S) sz) := by
  refine Met.ofW (cc := prog_1_method_20_code) (maxL := 5) (ret := (some .int)) (by decide) rfl ?_
  intro p e s m args below meth c s₁ B hml hv
  obtain ⟨rfl, hsz, hP, hK, hD0, hev, hE, hN⟩ := hv
  have hx := B.exec
  have hb := B.bytes
  have hr := B.returns
  have hts : ∀ w9 ∈ gb, w9.before [.ref (ad 11 x0), .int x1, .int x2, .int x3].toArray s = true := fun w9 h => atoms_spec (ws := Cond.code ⟨"JoinedTrees", "element", "(III)I"⟩ prog_1_method_20_code 5 (some .int) :: gb) B.pre w9 (List.mem_cons_of_mem _ h)
  have hown : s.vm.findClass "JoinedTrees" = some m.cls := findClass_of_methodNamed B.named
  have hlocks := B.notSynchronized
  have hNS := ns_of hP
  subst hsz
  have hD := hD0.self (sz := s.heap.size)
  generalize hAe : va_A (cw ad cc N S) s.heap.size = A at hD hev hE hNS ⊢
  have hA : ∀ q : Nat, s.heap.size ≤ q → A q := fun q h => by rw [← hAe]; exact Or.inr h
  have hS : va_S A s.heap s.heap [] := va_S.rf
  obtain ⟨ls, hl, hle⟩ : ∃ ls : Array Slot, lv_has ls 5 [(0, .ref (ad 11 x0)), (1, .int x1), (2, .int x2), (3, .int x3)] ∧ entryFrame m ([.ref (ad 11 x0), .int x1, .int x2, .int x3] : List Value).toArray 5 = F0 m 0 ls [] := by
    exact ⟨_, lv_entry (n := 5) _ (Nat.le_of_ble_eq_true rfl), lg_entry_eq ..⟩
  rw [hle]
  refine w_cJT_element_J0 (cR := 0) (sR := 0) hfl ⟨hx, hb, hr, hml, hown, hts, hK, hA, hev, hE, hN, hNS⟩ Heq (fun r h => ⟨fun v9 hv9 pc H locs ls hd hP hD hS => ?_, fun t9 ht9 => (by subst h; cases ht9)⟩) _ _ _ hP hD hS (lv_sub hl [0, 1, 2, 3] rfl)
  subst h
  cases hv9
  exact W.iret hx hb hr (fun t ht hW => ⟨⟨_, (), rfl, rfl, by rw [ht]; exact hP, va_K.moved hW.alike hK, hD⟩, hS.F ht⟩) hS.2.2 hd
set_option maxHeartbeats 4000000 in
theorem g_cJT_element_t (l : Launch) (hfl : l.flags = flags0) (D : va_G) (sz : Nat) {ad : Nat → Nat → Nat} {cc : Nat → ClassId} {sad sav : Nat → Nat} {N : Nat → Nat} {x0 : Nat} {S : CS} {x1 : Int32} {x2 : Int32} {x3 : Int32} {o : CS × Nat} (Heq : m_cJT_element N x0 S x1 x2 x3 = some (.inr o)) : MeT l ⟨"JoinedTrees", "element", "(III)I"⟩ (Cond.code ⟨"JoinedTrees", "element", "(III)I"⟩ prog_1_method_20_code 5 (some .int) :: gb) ({ frames := 8, cells := 1, slots := 6, locals := 140 }) (cPc sad sav D (cw ad cc N S) (cty cc) sz [.ref (ad 11 x0), .int x1, .int x2, .int x3]) (exN o.2) (va_A (cw ad cc N S) sz) (fun H1 => va_P D cls (cw ad cc N o.1) H1) 1 6 := by
  refine MeT.ofW (cc := prog_1_method_20_code) (maxL := 5) (ret := (some .int)) (by decide) rfl ?_
  intro p e s m args below meth c s₁ B hml hno hv
  obtain ⟨rfl, hsz, hP, hK, hD0, hev, hE, hN⟩ := hv
  have hx := B.exec
  have hb := B.bytes
  have hr := B.returns
  have hts : ∀ w9 ∈ gb, w9.before [.ref (ad 11 x0), .int x1, .int x2, .int x3].toArray s = true := fun w9 h => atoms_spec (ws := Cond.code ⟨"JoinedTrees", "element", "(III)I"⟩ prog_1_method_20_code 5 (some .int) :: gb) B.pre w9 (List.mem_cons_of_mem _ h)
  have hown : s.vm.findClass "JoinedTrees" = some m.cls := findClass_of_methodNamed B.named
  have hlocks := B.notSynchronized
  have hNS := ns_of hP
  subst hsz
  have hD := hD0.self (sz := s.heap.size)
  generalize hAe : va_A (cw ad cc N S) s.heap.size = A at hD hev hE hNS ⊢
  have hA : ∀ q : Nat, s.heap.size ≤ q → A q := fun q h => by rw [← hAe]; exact Or.inr h
  have hS : va_S A s.heap s.heap [] := va_S.rf
  obtain ⟨ls, hl, hle⟩ : ∃ ls : Array Slot, lv_has ls 5 [(0, .ref (ad 11 x0)), (1, .int x1), (2, .int x2), (3, .int x3)] ∧ entryFrame m ([.ref (ad 11 x0), .int x1, .int x2, .int x3] : List Value).toArray 5 = F0 m 0 ls [] := by
    exact ⟨_, lv_entry (n := 5) _ (Nat.le_of_ble_eq_true rfl), lg_entry_eq ..⟩
  rw [hle]
  refine w_cJT_element_J0 (cR := 1) (sR := 6) hfl ⟨hx, hb, hr, hml, hown, hts, hK, hA, hev, hE, hN, hNS⟩ Heq (fun r h => ⟨fun v9 hv9 => (by subst h; cases hv9), fun t9 ht9 => ⟨⟨Nat.le_refl _, Nat.le_refl _⟩, fun pc H locs ls hd hsz hP hD hS => ?_, fun pc H locs ls st0 rest9 A9 hr9 hF9 hS => ?_⟩⟩) _ _ _ hP hD hS (lv_sub hl [0, 1, 2, 3] rfl)
  · subst h; cases ht9; exact tx_thr hfl hx hb hno hlocks hown hts hev hN hNS hd (hsz.trans hml.symm) hP hS hA (Nat.le_refl _) (Nat.le_refl _) (Nat.le_of_ble_eq_true rfl) (Nat.le_of_ble_eq_true rfl)
  · subst h; cases ht9; exact tx_on hr9 hno hlocks hS hF9
def m_cJT_index_J46 (N : Nat → Nat) (x0 : Nat) (S : CS) : Option ((CS × Int32) ⊕ (CS × Nat)) := some (.inr (S, 3))
theorem d_cJT_index_0 : decode prog_1_method_21_code 0 = .ok (.aload_n 0, 1) := by decide +kernel
theorem d_cJT_index_1 : decode prog_1_method_21_code 1 = .ok (.iload_n 1, 1) := by decide +kernel
theorem d_cJT_index_2 : decode prog_1_method_21_code 2 = .ok (.invokevirtual 105, 3) := by decide +kernel
theorem d_cJT_index_5 : decode prog_1_method_21_code 5 = .ok (.pop, 1) := by decide +kernel
theorem d_cJT_index_6 : decode prog_1_method_21_code 6 = .ok (.aload_n 0, 1) := by decide +kernel
theorem d_cJT_index_7 : decode prog_1_method_21_code 7 = .ok (.iload_n 2, 1) := by decide +kernel
theorem d_cJT_index_8 : decode prog_1_method_21_code 8 = .ok (.invokevirtual 145, 3) := by decide +kernel
theorem d_cJT_index_11 : decode prog_1_method_21_code 11 = .ok (.astore 4, 2) := by decide +kernel
theorem d_cJT_index_13 : decode prog_1_method_21_code 13 = .ok (.aload_n 0, 1) := by decide +kernel
theorem d_cJT_index_14 : decode prog_1_method_21_code 14 = .ok (.getfield 30, 3) := by decide +kernel
theorem d_cJT_index_17 : decode prog_1_method_21_code 17 = .ok (.iload_n 3, 1) := by decide +kernel
theorem d_cJT_index_18 : decode prog_1_method_21_code 18 = .ok (.invokevirtual 306, 3) := by decide +kernel
theorem d_cJT_index_21 : decode prog_1_method_21_code 21 = .ok (.astore 5, 2) := by decide +kernel
theorem d_cJT_index_23 : decode prog_1_method_21_code 23 = .ok (.aload 5, 2) := by decide +kernel
theorem d_cJT_index_25 : decode prog_1_method_21_code 25 = .ok (.ifnull 21, 3) := by decide +kernel
theorem d_cJT_index_46 : decode prog_1_method_21_code 46 = .ok (.new 178, 3) := by decide +kernel
theorem d_cJT_index_49 : decode prog_1_method_21_code 49 = .ok (.dup, 1) := by decide +kernel
theorem d_cJT_index_50 : decode prog_1_method_21_code 50 = .ok (.invokespecial 180, 3) := by decide +kernel
theorem d_cJT_index_53 : decode prog_1_method_21_code 53 = .ok (.athrow, 1) := by decide +kernel
set_option maxHeartbeats 4000000 in
set_option maxRecDepth 100000 in
theorem w_cJT_index_J46 {p : Program} {l : Launch} {e : Env} {s : State} {m : MethodId} {args : Array Value} {below : List Frame} {meth : Method} {c : Code} {A : Nat → Prop} {D : va_G} {ad : Nat → Nat → Nat} {cc : Nat → ClassId} {sad sav : Nat → Nat} {Q : State → Prop} {cR sR : Nat} (hfl : l.flags = flags0) (hC : MCc sad sav "JoinedTrees" prog_1_method_21_code 6 (some .int) p s m args meth c A D cc) {N : Nat → Nat} {x0 : Nat} {S : CS} {o : ((CS × Int32) ⊕ (CS × Nat))} (Heq : m_cJT_index_J46 N x0 S = some o) (Kr : ∀ r : ((CS × Int32) ⊕ (CS × Nat)), o = r → (∀ v9 : CS × Int32, r = .inl v9 → ∀ (pc : Nat) (H : Heap) (locs : List Loc) (ls : Array Slot), decode prog_1_method_21_code pc = .ok (.ireturn, 1) → va_P D cls (cw ad cc N v9.1) H → va_D A (cw ad cc N v9.1) → va_S A s.heap H locs → W p l e ({ frames := 8, cells := cR, slots := sR, locals := 140 }) s m args below meth c H locs 0 0 Q (F0 m pc ls [.int v9.2])) ∧ (∀ t9 : CS × Nat, r = .inr t9 → (1 ≤ cR ∧ 6 ≤ sR) ∧ (∀ (pc : Nat) (H : Heap) (locs : List Loc) (ls : Array Slot), thD prog_1_method_21_code t9.2 pc → ls.size = 6 → va_P D cls (cw ad cc N t9.1) H → va_D A (cw ad cc N t9.1) → va_S A s.heap H locs → W p l e ({ frames := 8, cells := cR, slots := sR, locals := 140 }) s m args below meth c H locs 0 0 Q (F0 m pc ls [])) ∧ (∀ (pc : Nat) (H : Heap) (locs : List Loc) (ls : Array Slot) (st0 rest9 : List Value) (A9 : Nat → Prop), tx_Thr p l e ({ frames := 8, cells := cR, slots := sR, locals := 140 }) s m args below meth c H locs 0 0 1 6 (F0 m pc ls st0) rest9 (exN t9.2) A9 (fun H1 => va_P D cls (cw ad cc N t9.1) H1) → (∀ q, A9 q → A q) → va_S A s.heap H locs → W p l e ({ frames := 8, cells := cR, slots := sR, locals := 140 }) s m args below meth c H locs 0 0 Q (F0 m pc ls st0)))) : ∀ (H : Heap) (locs : List Loc) (ls : Array Slot), va_P D cls (cw ad cc N S) H → va_D A (cw ad cc N S) → va_S A s.heap H locs → lv_has ls 6 [(0, .ref (ad 11 x0))] → W p l e ({ frames := 8, cells := cR, slots := sR, locals := 140 }) s m args below meth c H locs 0 0 Q (F0 m 46 ls []) := by
  intro H locs ls hP hD hS hl
  obtain ⟨hx, hb, hr, hml, hown, hts, hK, hA, hev, hE, hN, hNS⟩ := id hC
  unfold m_cJT_index_J46 at Heq
  exact ((Kr _ (Option.some.inj Heq).symm).2 _ rfl).2.1 46 _ _ _ ⟨⟨show 1 ≤ 3 by decide, show 3 ≤ 5 by decide⟩, d_cJT_index_46, d_cJT_index_49, d_cJT_index_50, d_cJT_index_53⟩ hl.1 hP hD hS
def m_cJT_index_J0 (N : Nat → Nat) (x0 : Nat) (S : CS) (x1 : Int32) (x2 : Int32) (x3 : Int32) : Option ((CS × Int32) ⊕ (CS × Nat)) := gl x0 (N 11) (oe (m_cJT_shown N x0 S x1) (fun o_1 => oe (m_cJT_listAt N x0 o_1.1 x2) (fun o_4 => gn (o_4.1.r 11 2 x0) (N 10) (fun j_7 => ob (m_cVw_opAt N j_7 o_4.1 x3) (fun o_10 => on o_10.2 (m_cJT_index_J46 N x0 o_10.1) (fun j_12 => gl j_12 (N 3) ((if o_10.1.i 3 5 j_12 = 0 then m_cJT_index_J46 N x0 o_10.1 else gv (o_10.1.r 3 1 j_12) (N 3) (gv o_4.2 (N 3) ((if (o_10.1.r 3 1 j_12) = o_4.2 then gn o_4.2 (N 3) (fun j_18 => gn (o_10.1.r 11 2 x0) (N 10) (fun j_21 => ob (m_cVw_filledBefore N j_21 o_10.1 (o_10.1.r 3 11 j_12) j_18) (fun o_24 => some (.inl (o_24.1, o_24.2))))) else m_cJT_index_J46 N x0 o_10.1))))))))) (fun t_6 => some (.inr t_6))) (fun t_3 => some (.inr t_3)))
theorem d_cJT_index_28 : decode prog_1_method_21_code 28 = .ok (.aload 5, 2) := by decide +kernel
theorem d_cJT_index_30 : decode prog_1_method_21_code 30 = .ok (.getfield 309, 3) := by decide +kernel
theorem d_cJT_index_33 : decode prog_1_method_21_code 33 = .ok (.ifCond .eq 13, 3) := by decide +kernel
theorem d_cJT_index_36 : decode prog_1_method_21_code 36 = .ok (.aload 5, 2) := by decide +kernel
theorem d_cJT_index_38 : decode prog_1_method_21_code 38 = .ok (.getfield 313, 3) := by decide +kernel
theorem d_cJT_index_41 : decode prog_1_method_21_code 41 = .ok (.aload 4, 2) := by decide +kernel
theorem d_cJT_index_43 : decode prog_1_method_21_code 43 = .ok (.if_acmp .eq 11, 3) := by decide +kernel
theorem d_cJT_index_54 : decode prog_1_method_21_code 54 = .ok (.aload_n 0, 1) := by decide +kernel
theorem d_cJT_index_55 : decode prog_1_method_21_code 55 = .ok (.getfield 30, 3) := by decide +kernel
theorem d_cJT_index_58 : decode prog_1_method_21_code 58 = .ok (.aload 5, 2) := by decide +kernel
theorem d_cJT_index_60 : decode prog_1_method_21_code 60 = .ok (.getfield 316, 3) := by decide +kernel
theorem d_cJT_index_63 : decode prog_1_method_21_code 63 = .ok (.aload 4, 2) := by decide +kernel
theorem d_cJT_index_65 : decode prog_1_method_21_code 65 = .ok (.invokevirtual 320, 3) := by decide +kernel
theorem d_cJT_index_68 : decode prog_1_method_21_code 68 = .ok (.ireturn, 1) := by decide +kernel
set_option maxHeartbeats 4000000 in
set_option maxRecDepth 100000 in
theorem w_cJT_index_J0 {p : Program} {l : Launch} {e : Env} {s : State} {m : MethodId} {args : Array Value} {below : List Frame} {meth : Method} {c : Code} {A : Nat → Prop} {D : va_G} {ad : Nat → Nat → Nat} {cc : Nat → ClassId} {sad sav : Nat → Nat} {Q : State → Prop} {cR sR : Nat} (hfl : l.flags = flags0) (hC : MCc sad sav "JoinedTrees" prog_1_method_21_code 6 (some .int) p s m args meth c A D cc) {N : Nat → Nat} {x0 : Nat} {S : CS} {x1 : Int32} {x2 : Int32} {x3 : Int32} {o : ((CS × Int32) ⊕ (CS × Nat))} (Heq : m_cJT_index_J0 N x0 S x1 x2 x3 = some o) (Kr : ∀ r : ((CS × Int32) ⊕ (CS × Nat)), o = r → (∀ v9 : CS × Int32, r = .inl v9 → ∀ (pc : Nat) (H : Heap) (locs : List Loc) (ls : Array Slot), decode prog_1_method_21_code pc = .ok (.ireturn, 1) → va_P D cls (cw ad cc N v9.1) H → va_D A (cw ad cc N v9.1) → va_S A s.heap H locs → W p l e ({ frames := 8, cells := cR, slots := sR, locals := 140 }) s m args below meth c H locs 0 0 Q (F0 m pc ls [.int v9.2])) ∧ (∀ t9 : CS × Nat, r = .inr t9 → (1 ≤ cR ∧ 6 ≤ sR) ∧ (∀ (pc : Nat) (H : Heap) (locs : List Loc) (ls : Array Slot), thD prog_1_method_21_code t9.2 pc → ls.size = 6 → va_P D cls (cw ad cc N t9.1) H → va_D A (cw ad cc N t9.1) → va_S A s.heap H locs → W p l e ({ frames := 8, cells := cR, slots := sR, locals := 140 }) s m args below meth c H locs 0 0 Q (F0 m pc ls [])) ∧ (∀ (pc : Nat) (H : Heap) (locs : List Loc) (ls : Array Slot) (st0 rest9 : List Value) (A9 : Nat → Prop), tx_Thr p l e ({ frames := 8, cells := cR, slots := sR, locals := 140 }) s m args below meth c H locs 0 0 1 6 (F0 m pc ls st0) rest9 (exN t9.2) A9 (fun H1 => va_P D cls (cw ad cc N t9.1) H1) → (∀ q, A9 q → A q) → va_S A s.heap H locs → W p l e ({ frames := 8, cells := cR, slots := sR, locals := 140 }) s m args below meth c H locs 0 0 Q (F0 m pc ls st0)))) : ∀ (H : Heap) (locs : List Loc) (ls : Array Slot), va_P D cls (cw ad cc N S) H → va_D A (cw ad cc N S) → va_S A s.heap H locs → lv_has ls 6 [(0, .ref (ad 11 x0)), (1, .int x1), (2, .int x2), (3, .int x3)] → W p l e ({ frames := 8, cells := cR, slots := sR, locals := 140 }) s m args below meth c H locs 0 0 Q (F0 m 0 ls []) := by
  intro H locs ls hP hD hS hl
  obtain ⟨hx, hb, hr, hml, hown, hts, hK, hA, hev, hE, hN, hNS⟩ := id hC
  unfold m_cJT_index_J0 at Heq
  refine lv_aload_n hx hb d_cJT_index_0 rfl (lv_at hl 0 rfl) ?_
  refine lv_iload_n hx hb d_cJT_index_1 rfl (lv_at hl 1 rfl) ?_
  obtain ⟨hl_x0_11, Heq⟩ := gl_some Heq
  have hFc := fr_all hD hS hA
  rcases oe_some Heq with ⟨o_1, h_2, Heq⟩ | ⟨t_3, h_2, Heq⟩
  case inr => exact ((Kr _ (Option.some.inj Heq).symm).2 _ rfl).2.2 2 _ _ _ _ _ _ (tx_runV (As := [.int x1]) (rest := []) ⟨hx, hb, hml, hown, hts⟩ (g_cJT_shown_t l hfl D H.size (ad := ad) (cc := cc) (sad := sad) (sav := sav) h_2) (cw_v 1 hts kw_593 kw_590 kw_592 kp_3 kw_1 rfl rfl (by decide +kernel) ⟨Nat.le_of_ble_eq_true rfl, Nat.le_of_ble_eq_true rfl⟩) ⟨c_blind, va_recv hK hP (ci := 11) (q0 := cPos N 11 x0) rfl (cw_obj (k := 11) (by decide) hl_x0_11), fun U hU hW => c_pre hU hW hP hK hD hev hE hN hNS hS hFc⟩ rfl rfl hl.1 rfl (lv_room (Nat.le_of_ble_eq_true rfl)) d_cJT_index_2 ((Kr _ (Option.some.inj Heq).symm).2 _ rfl).1) hFc hS
  refine va_callq (va_runV (As := [.int x1]) (rest := []) ⟨hx, hb, hml, hown, hts⟩ (g_cJT_shown l hfl D H.size (ad := ad) (cc := cc) (sad := sad) (sav := sav) h_2) (cw_v 1 hts kw_593 kw_590 kw_592 kp_3 kw_1 rfl rfl (by decide +kernel) ⟨Nat.le_of_ble_eq_true rfl, Nat.le_of_ble_eq_true rfl⟩) ⟨c_blind, va_recv hK hP (ci := 11) (q0 := cPos N 11 x0) rfl (cw_obj (k := 11) (by decide) hl_x0_11), fun U hU hW => c_pre hU hW hP hK hD hev hE hN hNS hS hFc⟩ rfl rfl hl.1 rfl (lv_room (Nat.le_of_ble_eq_true rfl)) d_cJT_index_2 ⟨Nat.zero_le _, Nat.zero_le _⟩) hS (fun q _ h => hFc q h) hFc (fun rz u t H1 locs ht hvm hw hB hz1 hk1 hS => ?_)
  obtain ⟨hP, -, hD1⟩ := hB
  rw [ht] at hP
  have hD := hD1.weaken (fun _ q _ h => hFc q.1 h)
  generalize H1 = H at hP hS ⊢
  refine W.cs (cells' := 0) (slots' := 0) rfl rfl ?_
  subst hw
  refine w_v (y := rv ad 4 o_1.2) rfl ?_
  refine lv_pop hx hb d_cJT_index_5 (by first | rfl | exact rv_cat) ?_
  refine lv_aload_n hx hb d_cJT_index_6 rfl (lv_at hl 0 rfl) ?_
  refine lv_iload_n hx hb d_cJT_index_7 rfl (lv_at hl 2 rfl) ?_
  have hFc := fr_all hD hS hA
  rcases oe_some Heq with ⟨o_4, h_5, Heq⟩ | ⟨t_6, h_5, Heq⟩
  case inr => exact ((Kr _ (Option.some.inj Heq).symm).2 _ rfl).2.2 8 _ _ _ _ _ _ (tx_runV (As := [.int x2]) (rest := []) ⟨hx, hb, hml, hown, hts⟩ (g_cJT_listAt_t l hfl D H.size (ad := ad) (cc := cc) (sad := sad) (sav := sav) h_5) (cw_v 1 hts kw_776 kw_773 kw_775 kp_13 kw_1 rfl rfl (by decide +kernel) ⟨Nat.le_of_ble_eq_true rfl, Nat.le_of_ble_eq_true rfl⟩) ⟨c_blind, va_recv hK hP (ci := 11) (q0 := cPos N 11 x0) rfl (cw_obj (k := 11) (by decide) hl_x0_11), fun U hU hW => c_pre hU hW hP hK hD hev hE hN hNS hS hFc⟩ rfl rfl hl.1 rfl (lv_room (Nat.le_of_ble_eq_true rfl)) d_cJT_index_8 ((Kr _ (Option.some.inj Heq).symm).2 _ rfl).1) hFc hS
  refine va_callq (va_runV (As := [.int x2]) (rest := []) ⟨hx, hb, hml, hown, hts⟩ (g_cJT_listAt l hfl D H.size (ad := ad) (cc := cc) (sad := sad) (sav := sav) h_5) (cw_v 1 hts kw_776 kw_773 kw_775 kp_13 kw_1 rfl rfl (by decide +kernel) ⟨Nat.le_of_ble_eq_true rfl, Nat.le_of_ble_eq_true rfl⟩) ⟨c_blind, va_recv hK hP (ci := 11) (q0 := cPos N 11 x0) rfl (cw_obj (k := 11) (by decide) hl_x0_11), fun U hU hW => c_pre hU hW hP hK hD hev hE hN hNS hS hFc⟩ rfl rfl hl.1 rfl (lv_room (Nat.le_of_ble_eq_true rfl)) d_cJT_index_8 ⟨Nat.zero_le _, Nat.zero_le _⟩) hS (fun q _ h => hFc q h) hFc (fun rz u t H1 locs ht hvm hw hB hz1 hk1 hS => ?_)
  obtain ⟨hP, -, hD1⟩ := hB
  rw [ht] at hP
  have hD := hD1.weaken (fun _ q _ h => hFc q.1 h)
  generalize H1 = H at hP hS ⊢
  refine W.cs (cells' := 0) (slots' := 0) rfl rfl ?_
  subst hw
  refine w_v (y := rv ad 3 o_4.2) rfl ?_
  refine tx_astore (x := o_4.2.map (ad 3)) (lv' := [(4, rv ad 3 o_4.2), (0, .ref (ad 11 x0)), (1, .int x1), (2, .int x2), (3, .int x3)]) hx hb d_cJT_index_11 hl (by decide) rfl (fun ls hl => ?_)
  refine lv_aload_n hx hb d_cJT_index_13 rfl (lv_at hl 1 rfl) ?_
  refine va_get (D := D) (ci := 11) (v := rv ad 10 (o_4.1.r 11 2 x0)) (C := R_JT) (T := F_JT) (N := 13) hx hb hts i_JT hown hK hP (cPos N 11 x0) (cw_obj (k := 11) (by decide) hl_x0_11) rfl 2 (by decide) (hts _ kw_423) (fun _ h9 => h9) rfl d_cJT_index_14 ?_
  refine lv_iload_n hx hb d_cJT_index_17 rfl (lv_at hl 4 rfl) ?_
  obtain ⟨j_7, hj_8, hl_9, Heq⟩ := gn_some Heq
  refine w_s (st' := [.int x3, .ref (ad 10 j_7)]) (congrArg (fun z9 : Option Nat => [.int x3, rv ad 10 z9]) hj_8) ?_
  obtain ⟨o_10, h_11, Heq⟩ := ob_some Heq
  have hFc := fr_all hD hS hA
  refine va_callq (va_runV (As := [.int x3]) (rest := []) ⟨hx, hb, hml, hown, hts⟩ (g_cVw_opAt l D H.size (ad := ad) (cc := cc) (sad := sad) (sav := sav) h_11) (cw_v 1 hts kw_620 kw_617 kw_618 kw_619 kw_6 rfl rfl (by decide +kernel) ⟨Nat.le_of_ble_eq_true rfl, Nat.le_of_ble_eq_true rfl⟩) ⟨c_blind, va_recv hK hP (ci := 10) (q0 := cPos N 10 j_7) rfl (cw_obj (k := 10) (by decide) hl_9), fun U hU hW => c_pre hU hW hP hK hD hev hE hN hNS hS hFc⟩ rfl rfl hl.1 rfl (lv_room (Nat.le_of_ble_eq_true rfl)) d_cJT_index_18 ⟨Nat.zero_le _, Nat.zero_le _⟩) hS (fun q _ h => hFc q h) hFc (fun rz u t H1 locs ht hvm hw hB hz1 hk1 hS => ?_)
  obtain ⟨hP, -, hD1⟩ := hB
  rw [ht] at hP
  have hD := hD1.weaken (fun _ q _ h => hFc q.1 h)
  generalize H1 = H at hP hS ⊢
  refine W.cs (cells' := 0) (slots' := 0) rfl rfl ?_
  subst hw
  refine w_v (y := rv ad 3 o_10.2) rfl ?_
  refine tx_astore (x := o_10.2.map (ad 3)) (lv' := [(5, rv ad 3 o_10.2), (4, rv ad 3 o_4.2), (0, .ref (ad 11 x0)), (1, .int x1), (2, .int x2), (3, .int x3)]) hx hb d_cJT_index_21 hl (by decide) (by simp [rv, rf_cat]) (fun ls hl => ?_)
  refine tx_aload (x := o_10.2.map (ad 3)) hx hb d_cJT_index_23 (lv_at hl 0 rfl) ?_
  refine w_v (y := rv ad 3 o_10.2) rfl ?_
  rcases on_some Heq with ⟨hj_13, Heq⟩ | ⟨j_12, hj_13, Heq⟩
  · refine w_s (st' := [.null]) (congrArg (fun z9 : Option Nat => [rv ad 3 z9]) hj_13) ?_
    refine lv_ifnullN (tgt := 46) hx hb d_cJT_index_25 (by decide) ?_
    exact w_cJT_index_J46 hfl hC Heq Kr _ _ _ hP hD hS (lv_sub hl [2] rfl)
  · refine w_s (st' := [.ref (ad 3 j_12)]) (congrArg (fun z9 : Option Nat => [rv ad 3 z9]) hj_13) ?_
    refine lv_ifnull hx hb d_cJT_index_25 ?_
    refine tx_aload (x := o_10.2.map (ad 3)) hx hb d_cJT_index_28 (lv_at hl 0 rfl) ?_
    refine w_v (y := rv ad 3 o_10.2) rfl ?_
    refine w_s (st' := [.ref (ad 3 j_12)]) (congrArg (fun z9 : Option Nat => [rv ad 3 z9]) hj_13) ?_
    obtain ⟨hl_j_12_3, Heq⟩ := gl_some Heq
    refine va_get (D := D) (ci := 3) (v := .int (o_10.1.i 3 5 j_12)) (C := R_Op) (T := F_Op) (N := 15) hx hb hts i_Op hown hK hP (cPos N 3 j_12) (cw_obj (k := 3) (by decide) hl_j_12_3) rfl 5 (by decide) (hts _ kw_71) (fun _ h9 => h9) rfl d_cJT_index_30 ?_
    refine lv_if_eq (tgt := 46) hx hb d_cJT_index_33 (by decide) (fun c_14 => ?_) (fun c_14 => ?_)
    · replace Heq := (if_pos c_14).symm.trans Heq
      exact w_cJT_index_J46 hfl hC Heq Kr _ _ _ hP hD hS (lv_sub hl [2] rfl)
    · replace Heq := (if_neg c_14).symm.trans Heq
      refine tx_aload (x := o_10.2.map (ad 3)) hx hb d_cJT_index_36 (lv_at hl 0 rfl) ?_
      refine w_v (y := rv ad 3 o_10.2) rfl ?_
      refine w_s (st' := [.ref (ad 3 j_12)]) (congrArg (fun z9 : Option Nat => [rv ad 3 z9]) hj_13) ?_
      refine va_get (D := D) (ci := 3) (v := rv ad 3 (o_10.1.r 3 1 j_12)) (C := R_Op) (T := F_Op) (N := 15) hx hb hts i_Op hown hK hP (cPos N 3 j_12) (cw_obj (k := 3) (by decide) hl_j_12_3) rfl 1 (by decide) (hts _ kw_58) (fun _ h9 => h9) rfl d_cJT_index_38 ?_
      refine tx_aload (x := o_4.2.map (ad 3)) hx hb d_cJT_index_41 (lv_at hl 1 rfl) ?_
      refine w_v (y := rv ad 3 o_4.2) rfl ?_
      obtain ⟨hv_15, Heq⟩ := gv_some Heq
      obtain ⟨hv_16, Heq⟩ := gv_some Heq
      have ec_17 := rv_eq hD (k := 3) (by decide) (x := (o_10.1.r 3 1 j_12)) (y := o_4.2) hv_15 hv_16
      refine lv_acmp_eq (rx := (o_10.1.r 3 1 j_12).map (ad 3)) (ry := o_4.2.map (ad 3)) (tgt := 54) hx hb d_cJT_index_43 (by decide) (fun c_17 => ?_) (fun c_17 => ?_)
      · replace Heq := (if_pos (ec_17.mp c_17)).symm.trans Heq
        refine lv_aload_n hx hb d_cJT_index_54 rfl (lv_at hl 2 rfl) ?_
        refine va_get (D := D) (ci := 11) (v := rv ad 10 (o_10.1.r 11 2 x0)) (C := R_JT) (T := F_JT) (N := 13) hx hb hts i_JT hown hK hP (cPos N 11 x0) (cw_obj (k := 11) (by decide) hl_x0_11) rfl 2 (by decide) (hts _ kw_423) (fun _ h9 => h9) rfl d_cJT_index_55 ?_
        refine tx_aload (x := o_10.2.map (ad 3)) hx hb d_cJT_index_58 (lv_at hl 0 rfl) ?_
        refine w_v (y := rv ad 3 o_10.2) rfl ?_
        refine w_s (st' := [.ref (ad 3 j_12), rv ad 10 (o_10.1.r 11 2 x0)]) (congrArg (fun z9 : Option Nat => [rv ad 3 z9, rv ad 10 (o_10.1.r 11 2 x0)]) hj_13) ?_
        refine va_get (D := D) (ci := 3) (v := rv ad 7 (o_10.1.r 3 11 j_12)) (C := R_Op) (T := F_Op) (N := 15) hx hb hts i_Op hown hK hP (cPos N 3 j_12) (cw_obj (k := 3) (by decide) hl_j_12_3) rfl 11 (by decide) (hts _ kw_95) (fun _ h9 => h9) rfl d_cJT_index_60 ?_
        refine tx_aload (x := o_4.2.map (ad 3)) hx hb d_cJT_index_63 (lv_at hl 1 rfl) ?_
        refine w_v (y := rv ad 3 o_4.2) rfl ?_
        obtain ⟨j_18, hj_19, hl_20, Heq⟩ := gn_some Heq
        refine w_s (st' := [.ref (ad 3 j_18), rv ad 7 (o_10.1.r 3 11 j_12), rv ad 10 (o_10.1.r 11 2 x0)]) (congrArg (fun z9 : Option Nat => [rv ad 3 z9, rv ad 7 (o_10.1.r 3 11 j_12), rv ad 10 (o_10.1.r 11 2 x0)]) hj_19) ?_
        obtain ⟨j_21, hj_22, hl_23, Heq⟩ := gn_some Heq
        refine w_s (st' := [.ref (ad 3 j_18), rv ad 7 (o_10.1.r 3 11 j_12), .ref (ad 10 j_21)]) (congrArg (fun z9 : Option Nat => [.ref (ad 3 j_18), rv ad 7 (o_10.1.r 3 11 j_12), rv ad 10 z9]) hj_22) ?_
        obtain ⟨o_24, h_25, Heq⟩ := ob_some Heq
        refine w_s (st' := [.ref (ad 3 j_18), rv ad 7 (o_10.1.r 3 11 j_12), .ref (ad 10 j_21)]) rfl ?_
        have hFc := fr_all hD hS hA
        refine va_calli (va_runV (As := [rv ad 7 (o_10.1.r 3 11 j_12), .ref (ad 3 j_18)]) (rest := []) ⟨hx, hb, hml, hown, hts⟩ (g_cVw_filledBefore l D H.size (ad := ad) (cc := cc) (sad := sad) (sav := sav) h_25) (cw_v 2 hts kw_823 kw_1173 kw_821 kw_822 kw_6 rfl rfl (by decide +kernel) ⟨Nat.le_of_ble_eq_true rfl, Nat.le_of_ble_eq_true rfl⟩) ⟨c_blind, va_recv hK hP (ci := 10) (q0 := cPos N 10 j_21) rfl (cw_obj (k := 10) (by decide) hl_23), fun U hU hW => c_pre hU hW hP hK hD hev hE hN hNS hS hFc⟩ rfl rfl hl.1 rfl (lv_room (Nat.le_of_ble_eq_true rfl)) d_cJT_index_65 ⟨Nat.zero_le _, Nat.zero_le _⟩) hS (fun q _ h => hFc q h) hFc (fun rz u t H1 locs ht hvm hw hB hz1 hk1 hS => ?_)
        obtain ⟨hP, -, hD1⟩ := hB
        rw [ht] at hP
        have hD := hD1.weaken (fun _ q _ h => hFc q.1 h)
        generalize H1 = H at hP hS ⊢
        refine W.cs (cells' := 0) (slots' := 0) rfl rfl ?_
        subst hw
        exact (Kr _ (Option.some.inj Heq).symm).1 _ rfl 68 _ _ _ d_cJT_index_68 hP hD hS
      · replace Heq := (if_neg (fun q9 => c_17 (ec_17.mpr q9))).symm.trans Heq
        exact w_cJT_index_J46 hfl hC Heq Kr _ _ _ hP hD hS (lv_sub hl [2] rfl)
def m_cJT_index (N : Nat → Nat) (x0 : Nat) (S : CS) (x1 : Int32) (x2 : Int32) (x3 : Int32) : Option ((CS × Int32) ⊕ (CS × Nat)) := m_cJT_index_J0 N x0 S x1 x2 x3
set_option maxHeartbeats 4000000 in
theorem g_cJT_index (l : Launch) (hfl : l.flags = flags0) (D : va_G) (sz : Nat) {ad : Nat → Nat → Nat} {cc : Nat → ClassId} {sad sav : Nat → Nat} {N : Nat → Nat} {x0 : Nat} {S : CS} {x1 : Int32} {x2 : Int32} {x3 : Int32} {o : CS × Int32} (Heq : m_cJT_index N x0 S x1 x2 x3 = some (.inl o)) : Met l ⟨"JoinedTrees", "index", "(III)I"⟩ (Cond.code ⟨"JoinedTrees", "index", "(III)I"⟩ prog_1_method_21_code 6 (some .int) :: gb) ({ frames := 8, cells := 0, slots := 0, locals := 140 }) (cPc sad sav D (cw ad cc N S) (cty cc) sz [.ref (ad 11 x0), .int x1, .int x2, .int x3]) (va_Qi (fun (r : Int32) (_ : Unit) => r = o.2) (fun _ t => gO D (cw ad cc N o.1) (cty cc) (va_A (cw ad cc N S) sz) t) (va_A (cw ad cc N S) sz)) 0 0 (va_A (cw ad cc N S) sz) := by
  refine Met.ofW (cc := prog_1_method_21_code) (maxL := 6) (ret := (some .int)) (by decide) rfl ?_
  intro p e s m args below meth c s₁ B hml hv
  obtain ⟨rfl, hsz, hP, hK, hD0, hev, hE, hN⟩ := hv
  have hx := B.exec
  have hb := B.bytes
  have hr := B.returns
  have hts : ∀ w9 ∈ gb, w9.before [.ref (ad 11 x0), .int x1, .int x2, .int x3].toArray s = true := fun w9 h => atoms_spec (ws := Cond.code ⟨"JoinedTrees", "index", "(III)I"⟩ prog_1_method_21_code 6 (some .int) :: gb) B.pre w9 (List.mem_cons_of_mem _ h)
  have hown : s.vm.findClass "JoinedTrees" = some m.cls := findClass_of_methodNamed B.named
  have hlocks := B.notSynchronized
  have hNS := ns_of hP
  subst hsz
  have hD := hD0.self (sz := s.heap.size)
  generalize hAe : va_A (cw ad cc N S) s.heap.size = A at hD hev hE hNS ⊢
  have hA : ∀ q : Nat, s.heap.size ≤ q → A q := fun q h => by rw [← hAe]; exact Or.inr h
  have hS : va_S A s.heap s.heap [] := va_S.rf
  obtain ⟨ls, hl, hle⟩ : ∃ ls : Array Slot, lv_has ls 6 [(0, .ref (ad 11 x0)), (1, .int x1), (2, .int x2), (3, .int x3)] ∧ entryFrame m ([.ref (ad 11 x0), .int x1, .int x2, .int x3] : List Value).toArray 6 = F0 m 0 ls [] := by
    exact ⟨_, lv_entry (n := 6) _ (Nat.le_of_ble_eq_true rfl), lg_entry_eq ..⟩
  rw [hle]
  refine w_cJT_index_J0 (cR := 0) (sR := 0) hfl ⟨hx, hb, hr, hml, hown, hts, hK, hA, hev, hE, hN, hNS⟩ Heq (fun r h => ⟨fun v9 hv9 pc H locs ls hd hP hD hS => ?_, fun t9 ht9 => (by subst h; cases ht9)⟩) _ _ _ hP hD hS (lv_sub hl [0, 1, 2, 3] rfl)
  subst h
  cases hv9
  exact W.iret hx hb hr (fun t ht hW => ⟨⟨_, (), rfl, rfl, by rw [ht]; exact hP, va_K.moved hW.alike hK, hD⟩, hS.F ht⟩) hS.2.2 hd
set_option maxHeartbeats 4000000 in
theorem g_cJT_index_t (l : Launch) (hfl : l.flags = flags0) (D : va_G) (sz : Nat) {ad : Nat → Nat → Nat} {cc : Nat → ClassId} {sad sav : Nat → Nat} {N : Nat → Nat} {x0 : Nat} {S : CS} {x1 : Int32} {x2 : Int32} {x3 : Int32} {o : CS × Nat} (Heq : m_cJT_index N x0 S x1 x2 x3 = some (.inr o)) : MeT l ⟨"JoinedTrees", "index", "(III)I"⟩ (Cond.code ⟨"JoinedTrees", "index", "(III)I"⟩ prog_1_method_21_code 6 (some .int) :: gb) ({ frames := 8, cells := 1, slots := 6, locals := 140 }) (cPc sad sav D (cw ad cc N S) (cty cc) sz [.ref (ad 11 x0), .int x1, .int x2, .int x3]) (exN o.2) (va_A (cw ad cc N S) sz) (fun H1 => va_P D cls (cw ad cc N o.1) H1) 1 6 := by
  refine MeT.ofW (cc := prog_1_method_21_code) (maxL := 6) (ret := (some .int)) (by decide) rfl ?_
  intro p e s m args below meth c s₁ B hml hno hv
  obtain ⟨rfl, hsz, hP, hK, hD0, hev, hE, hN⟩ := hv
  have hx := B.exec
  have hb := B.bytes
  have hr := B.returns
  have hts : ∀ w9 ∈ gb, w9.before [.ref (ad 11 x0), .int x1, .int x2, .int x3].toArray s = true := fun w9 h => atoms_spec (ws := Cond.code ⟨"JoinedTrees", "index", "(III)I"⟩ prog_1_method_21_code 6 (some .int) :: gb) B.pre w9 (List.mem_cons_of_mem _ h)
  have hown : s.vm.findClass "JoinedTrees" = some m.cls := findClass_of_methodNamed B.named
  have hlocks := B.notSynchronized
  have hNS := ns_of hP
  subst hsz
  have hD := hD0.self (sz := s.heap.size)
  generalize hAe : va_A (cw ad cc N S) s.heap.size = A at hD hev hE hNS ⊢
  have hA : ∀ q : Nat, s.heap.size ≤ q → A q := fun q h => by rw [← hAe]; exact Or.inr h
  have hS : va_S A s.heap s.heap [] := va_S.rf
  obtain ⟨ls, hl, hle⟩ : ∃ ls : Array Slot, lv_has ls 6 [(0, .ref (ad 11 x0)), (1, .int x1), (2, .int x2), (3, .int x3)] ∧ entryFrame m ([.ref (ad 11 x0), .int x1, .int x2, .int x3] : List Value).toArray 6 = F0 m 0 ls [] := by
    exact ⟨_, lv_entry (n := 6) _ (Nat.le_of_ble_eq_true rfl), lg_entry_eq ..⟩
  rw [hle]
  refine w_cJT_index_J0 (cR := 1) (sR := 6) hfl ⟨hx, hb, hr, hml, hown, hts, hK, hA, hev, hE, hN, hNS⟩ Heq (fun r h => ⟨fun v9 hv9 => (by subst h; cases hv9), fun t9 ht9 => ⟨⟨Nat.le_refl _, Nat.le_refl _⟩, fun pc H locs ls hd hsz hP hD hS => ?_, fun pc H locs ls st0 rest9 A9 hr9 hF9 hS => ?_⟩⟩) _ _ _ hP hD hS (lv_sub hl [0, 1, 2, 3] rfl)
  · subst h; cases ht9; exact tx_thr hfl hx hb hno hlocks hown hts hev hN hNS hd (hsz.trans hml.symm) hP hS hA (Nat.le_refl _) (Nat.le_refl _) (Nat.le_of_ble_eq_true rfl) (Nat.le_of_ble_eq_true rfl)
  · subst h; cases ht9; exact tx_on hr9 hno hlocks hS hF9
