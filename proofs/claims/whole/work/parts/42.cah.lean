def m_cRp_holds_J21 (N : Nat → Nat) (x0 : Nat) (S : CS) (t0 : Int32) : Option (CS × Int32) := (if t0 = 0 ∨ t0 = 1 then some (S, t0) else none)
theorem d_cRp_holds_0 : decode prog_6_method_2_code 0 = .ok (.aload_n 1, 1) := by decide +kernel
theorem d_cRp_holds_1 : decode prog_6_method_2_code 1 = .ok (.getfield 29, 3) := by decide +kernel
theorem d_cRp_holds_4 : decode prog_6_method_2_code 4 = .ok (.aload_n 0, 1) := by decide +kernel
theorem d_cRp_holds_5 : decode prog_6_method_2_code 5 = .ok (.getfield 9, 3) := by decide +kernel
theorem d_cRp_holds_8 : decode prog_6_method_2_code 8 = .ok (.aload_n 1, 1) := by decide +kernel
theorem d_cRp_holds_9 : decode prog_6_method_2_code 9 = .ok (.getfield 32, 3) := by decide +kernel
theorem d_cRp_holds_12 : decode prog_6_method_2_code 12 = .ok (.iaload, 1) := by decide +kernel
theorem d_cRp_holds_13 : decode prog_6_method_2_code 13 = .ok (.if_icmp .gt 7, 3) := by decide +kernel
theorem d_cRp_holds_20 : decode prog_6_method_2_code 20 = .ok (.iconst 0, 1) := by decide +kernel
theorem d_cRp_holds_21 : decode prog_6_method_2_code 21 = .ok (.ireturn, 1) := by decide +kernel
set_option maxHeartbeats 4000000 in
set_option maxRecDepth 100000 in
theorem w_cRp_holds_J21 {p : Program} {l : Launch} {e : Env} {s : State} {m : MethodId} {args : Array Value} {below : List Frame} {meth : Method} {c : Code} {A : Nat → Prop} {D : va_G} {ad : Nat → Nat → Nat} {cc : Nat → ClassId} {sad sav : Nat → Nat} {Q : State → Prop} (hC : MCc sad sav "JoinedTrees$Replica" prog_6_method_2_code 2 (some .boolean) p s m args meth c A D cc) {N : Nat → Nat} {x0 : Nat} {S : CS} {t0 : Int32} {o : CS × Int32} (Heq : m_cRp_holds_J21 N x0 S t0 = some o) (Kr : ∀ r : CS × Int32, o = r → ∀ (pc : Nat) (H : Heap) (locs : List Loc) (ls : Array Slot), decode prog_6_method_2_code pc = .ok (.ireturn, 1) → (r.2 = 0 ∨ r.2 = 1) → va_P D cls (cw ad cc N r.1) H → va_D A (cw ad cc N r.1) → va_S A s.heap H locs → W p l e ({ frames := 0, cells := 0, slots := 0, locals := 0 }) s m args below meth c H locs 0 0 Q (F0 m pc ls [.int r.2])) : ∀ (H : Heap) (locs : List Loc) (ls : Array Slot), va_P D cls (cw ad cc N S) H → va_D A (cw ad cc N S) → va_S A s.heap H locs → lv_has ls 2 [(0, .ref (ad 4 x0))] → W p l e ({ frames := 0, cells := 0, slots := 0, locals := 0 }) s m args below meth c H locs 0 0 Q (F0 m 21 ls [.int t0]) := by
  intro H locs ls hP hD hS hl
  obtain ⟨hx, hb, hr, hml, hown, hts, hK, hA, hev, hE, hN, hNS⟩ := id hC
  unfold m_cRp_holds_J21 at Heq
  by_cases hz_1 : t0 = 0 ∨ t0 = 1
  case neg => rw [if_neg hz_1] at Heq; cases Heq
  replace Heq := (if_pos hz_1).symm.trans Heq
  exact Kr _ (Option.some.inj Heq).symm 21 _ _ _ d_cRp_holds_21 hz_1 hP hD hS
def m_cRp_holds_J0 (N : Nat → Nat) (x0 : Nat) (S : CS) (x1 : Nat) : Option (CS × Int32) := gl x1 (N 0) (gl x0 (N 4) (gn (S.r 4 1 x0) (N 12) (fun j_1 => gd (S.i 0 0 x1) (S.z 12 j_1) ((if S.a 12 j_1 ((S.i 0 0 x1).toNatClampNeg) < S.i 0 1 x1 then m_cRp_holds_J21 N x0 S 0 else m_cRp_holds_J21 N x0 S 1)))))
theorem d_cRp_holds_16 : decode prog_6_method_2_code 16 = .ok (.iconst 1, 1) := by decide +kernel
theorem d_cRp_holds_17 : decode prog_6_method_2_code 17 = .ok (.goto 4, 3) := by decide +kernel
set_option maxHeartbeats 4000000 in
set_option maxRecDepth 100000 in
theorem w_cRp_holds_J0 {p : Program} {l : Launch} {e : Env} {s : State} {m : MethodId} {args : Array Value} {below : List Frame} {meth : Method} {c : Code} {A : Nat → Prop} {D : va_G} {ad : Nat → Nat → Nat} {cc : Nat → ClassId} {sad sav : Nat → Nat} {Q : State → Prop} (hC : MCc sad sav "JoinedTrees$Replica" prog_6_method_2_code 2 (some .boolean) p s m args meth c A D cc) {N : Nat → Nat} {x0 : Nat} {S : CS} {x1 : Nat} {o : CS × Int32} (Heq : m_cRp_holds_J0 N x0 S x1 = some o) (Kr : ∀ r : CS × Int32, o = r → ∀ (pc : Nat) (H : Heap) (locs : List Loc) (ls : Array Slot), decode prog_6_method_2_code pc = .ok (.ireturn, 1) → (r.2 = 0 ∨ r.2 = 1) → va_P D cls (cw ad cc N r.1) H → va_D A (cw ad cc N r.1) → va_S A s.heap H locs → W p l e ({ frames := 0, cells := 0, slots := 0, locals := 0 }) s m args below meth c H locs 0 0 Q (F0 m pc ls [.int r.2])) : ∀ (H : Heap) (locs : List Loc) (ls : Array Slot), va_P D cls (cw ad cc N S) H → va_D A (cw ad cc N S) → va_S A s.heap H locs → lv_has ls 2 [(0, .ref (ad 4 x0)), (1, .ref (ad 0 x1))] → W p l e ({ frames := 0, cells := 0, slots := 0, locals := 0 }) s m args below meth c H locs 0 0 Q (F0 m 0 ls []) := by
  intro H locs ls hP hD hS hl
  obtain ⟨hx, hb, hr, hml, hown, hts, hK, hA, hev, hE, hN, hNS⟩ := id hC
  unfold m_cRp_holds_J0 at Heq
  refine lv_aload_n hx hb d_cRp_holds_0 rfl (lv_at hl 1 rfl) ?_
  obtain ⟨hl_x1_0, Heq⟩ := gl_some Heq
  refine va_get (D := D) (ci := 0) (v := .int (S.i 0 1 x1)) (C := R_Ch) (T := F_Ch) (N := 7) hx hb hts i_Ch hown hK hP (cPos N 0 x1) (cw_obj (k := 0) (by decide) hl_x1_0) rfl 1 (by decide) (hts _ kw_1014) (fun _ h9 => h9) rfl d_cRp_holds_1 ?_
  refine lv_aload_n hx hb d_cRp_holds_4 rfl (lv_at hl 0 rfl) ?_
  obtain ⟨hl_x0_4, Heq⟩ := gl_some Heq
  refine va_get (D := D) (ci := 4) (v := rv ad 12 (S.r 4 1 x0)) (C := R_Rp) (T := F_Rp) (N := 10) hx hb hts i_Rp hown hK hP (cPos N 4 x0) (cw_obj (k := 4) (by decide) hl_x0_4) rfl 1 (by decide) (hts _ kw_205) (fun _ h9 => h9) rfl d_cRp_holds_5 ?_
  refine lv_aload_n hx hb d_cRp_holds_8 rfl (lv_at hl 1 rfl) ?_
  refine va_get (D := D) (ci := 0) (v := .int (S.i 0 0 x1)) (C := R_Ch) (T := F_Ch) (N := 7) hx hb hts i_Ch hown hK hP (cPos N 0 x1) (cw_obj (k := 0) (by decide) hl_x1_0) rfl 0 (by decide) (hts _ kw_1009) (fun _ h9 => h9) rfl d_cRp_holds_9 ?_
  obtain ⟨j_1, hj_2, hl_3, Heq⟩ := gn_some Heq
  refine w_s (st' := [.int (S.i 0 0 x1), .ref (ad 12 j_1), .int (S.i 0 1 x1)]) (congrArg (fun z9 : Option Nat => [.int (S.i 0 0 x1), rv ad 12 z9, .int (S.i 0 1 x1)]) hj_2) ?_
  obtain ⟨hi_4, Heq⟩ := gd_some Heq
  refine va_iald hx hb hK hP (cPos N 12 j_1) 0 (cw_arr (k := 12) (by decide) hl_3) rfl (i := S.i 0 0 x1) hi_4 d_cRp_holds_12 ?_
  refine w_i (y := S.a 12 j_1 ((S.i 0 0 x1).toNatClampNeg)) rfl ?_
  refine lv_icmp_gt (tgt := 20) hx hb d_cRp_holds_13 (by decide) (fun c_5 => ?_) (fun c_5 => ?_)
  · replace Heq := (if_pos c_5).symm.trans Heq
    refine lv_iconst (v := 0) hx hb d_cRp_holds_20 (by decide) ?_
    exact w_cRp_holds_J21 hC Heq Kr _ _ _ hP hD hS (lv_sub hl [0] rfl)
  · replace Heq := (if_neg c_5).symm.trans Heq
    refine lv_iconst (v := 1) hx hb d_cRp_holds_16 (by decide) ?_
    refine lv_goto (tgt := 21) hx hb d_cRp_holds_17 (by decide) ?_
    exact w_cRp_holds_J21 hC Heq Kr _ _ _ hP hD hS (lv_sub hl [0] rfl)
def m_cRp_holds (N : Nat → Nat) (x0 : Nat) (S : CS) (x1 : Nat) : Option (CS × Int32) := m_cRp_holds_J0 N x0 S x1
set_option maxHeartbeats 4000000 in
theorem g_cRp_holds (l : Launch) (D : va_G) (sz : Nat) {ad : Nat → Nat → Nat} {cc : Nat → ClassId} {sad sav : Nat → Nat} {N : Nat → Nat} {x0 : Nat} {S : CS} {x1 : Nat} {o : CS × Int32} (Heq : m_cRp_holds N x0 S x1 = some o) : Met l ⟨"JoinedTrees$Replica", "holds", "(LJoinedTrees$Change;)Z"⟩ (Cond.code ⟨"JoinedTrees$Replica", "holds", "(LJoinedTrees$Change;)Z"⟩ prog_6_method_2_code 2 (some .boolean) :: gb) ({ frames := 0, cells := 0, slots := 0, locals := 0 }) (cPc sad sav D (cw ad cc N S) (cty cc) sz [.ref (ad 4 x0), .ref (ad 0 x1)]) (va_Qi (fun (r : Int32) (_ : Unit) => r = o.2) (fun _ t => gO D (cw ad cc N o.1) (cty cc) (va_A (cw ad cc N S) sz) t) (va_A (cw ad cc N S) sz)) 0 0 (va_A (cw ad cc N S) sz) := by
  refine Met.ofW (cc := prog_6_method_2_code) (maxL := 2) (ret := (some .boolean)) (by decide) rfl ?_
  intro p e s m args below meth c s₁ B hml hv
  obtain ⟨rfl, hsz, hP, hK, hD0, hev, hE, hN⟩ := hv
  have hx := B.exec
  have hb := B.bytes
  have hr := B.returns
  have hts : ∀ w9 ∈ gb, w9.before [.ref (ad 4 x0), .ref (ad 0 x1)].toArray s = true := fun w9 h => atoms_spec (ws := Cond.code ⟨"JoinedTrees$Replica", "holds", "(LJoinedTrees$Change;)Z"⟩ prog_6_method_2_code 2 (some .boolean) :: gb) B.pre w9 (List.mem_cons_of_mem _ h)
  have hown : s.vm.findClass "JoinedTrees$Replica" = some m.cls := findClass_of_methodNamed B.named
  have hlocks := B.notSynchronized
  have hNS := ns_of hP
  subst hsz
  have hD := hD0.self (sz := s.heap.size)
  generalize hAe : va_A (cw ad cc N S) s.heap.size = A at hD hev hE hNS ⊢
  have hA : ∀ q : Nat, s.heap.size ≤ q → A q := fun q h => by rw [← hAe]; exact Or.inr h
  have hS : va_S A s.heap s.heap [] := va_S.rf
  obtain ⟨ls, hl, hle⟩ : ∃ ls : Array Slot, lv_has ls 2 [(0, .ref (ad 4 x0)), (1, .ref (ad 0 x1))] ∧ entryFrame m ([.ref (ad 4 x0), .ref (ad 0 x1)] : List Value).toArray 2 = F0 m 0 ls [] := by
    exact ⟨_, lv_entry (n := 2) _ (Nat.le_of_ble_eq_true rfl), lg_entry_eq ..⟩
  rw [hle]
  refine w_cRp_holds_J0 ⟨hx, hb, hr, hml, hown, hts, hK, hA, hev, hE, hN, hNS⟩ Heq (fun r h pc H locs ls hd hz hP hD hS => ?_) _ _ _ hP hD hS (lv_sub hl [0, 1] rfl)
  subst h
  exact W.zret (ty := .boolean) hx hb hr (by rcases hz with hz | hz <;> rw [hz] <;> rfl) (fun t ht hW => ⟨⟨_, (), rfl, rfl, by rw [ht]; exact hP, va_K.moved hW.alike hK, hD⟩, hS.F ht⟩) hS.2.2 hd
def m_cRp_expect_J40 (N : Nat → Nat) (x0 : Nat) (S : CS) : Option CS := some S
theorem d_cRp_expect_0 : decode prog_6_method_3_code 0 = .ok (.aload_n 0, 1) := by decide +kernel
theorem d_cRp_expect_1 : decode prog_6_method_3_code 1 = .ok (.aload_n 1, 1) := by decide +kernel
theorem d_cRp_expect_2 : decode prog_6_method_3_code 2 = .ok (.invokevirtual 33, 3) := by decide +kernel
theorem d_cRp_expect_5 : decode prog_6_method_3_code 5 = .ok (.ifCond .ne 35, 3) := by decide +kernel
theorem d_cRp_expect_40 : decode prog_6_method_3_code 40 = .ok (.return_, 1) := by decide +kernel
set_option maxHeartbeats 4000000 in
set_option maxRecDepth 100000 in
theorem w_cRp_expect_J40 {p : Program} {l : Launch} {e : Env} {s : State} {m : MethodId} {args : Array Value} {below : List Frame} {meth : Method} {c : Code} {A : Nat → Prop} {D : va_G} {ad : Nat → Nat → Nat} {cc : Nat → ClassId} {sad sav : Nat → Nat} {Q : State → Prop} (hC : MCc sad sav "JoinedTrees$Replica" prog_6_method_3_code 2 none p s m args meth c A D cc) {N : Nat → Nat} {x0 : Nat} {S : CS} {o : CS} (Heq : m_cRp_expect_J40 N x0 S = some o) (Kr : ∀ r : CS, o = r → ∀ (pc : Nat) (H : Heap) (locs : List Loc) (ls : Array Slot), decode prog_6_method_3_code pc = .ok (.return_, 1) → va_P D cls (cw ad cc N r) H → va_D A (cw ad cc N r) → va_S A s.heap H locs → W p l e ({ frames := 1, cells := 0, slots := 0, locals := 21 }) s m args below meth c H locs 0 0 Q (F0 m pc ls [])) : ∀ (H : Heap) (locs : List Loc) (ls : Array Slot), va_P D cls (cw ad cc N S) H → va_D A (cw ad cc N S) → va_S A s.heap H locs → lv_has ls 2 [(0, .ref (ad 4 x0))] → W p l e ({ frames := 1, cells := 0, slots := 0, locals := 21 }) s m args below meth c H locs 0 0 Q (F0 m 40 ls []) := by
  intro H locs ls hP hD hS hl
  obtain ⟨hx, hb, hr, hml, hown, hts, hK, hA, hev, hE, hN, hNS⟩ := id hC
  unfold m_cRp_expect_J40 at Heq
  exact Kr _ (Option.some.inj Heq).symm 40 _ _ _ d_cRp_expect_40 hP hD hS
def m_cRp_expect_J0 (N : Nat → Nat) (x0 : Nat) (S : CS) (x1 : Nat) : Option CS := gl x1 (N 0) (gl x0 (N 4) (ob (m_cRp_holds N x0 S x1) (fun o_1 => (if o_1.2 = 0 then gn (o_1.1.r 4 2 x0) (N 14) (fun j_4 => gd (o_1.1.i 0 2 x1) (o_1.1.z 14 j_4) ((if o_1.1.a 14 j_4 ((o_1.1.i 0 2 x1).toNatClampNeg) = 0 then gd (o_1.1.i 0 2 x1) (o_1.1.z 14 j_4) (m_cRp_expect_J40 N x0 ((o_1.1.setA 14 j_4 ((o_1.1.i 0 2 x1).toNatClampNeg) (vp_nar .boolean 1)).setI 4 6 x0 ((o_1.1.i 4 6 x0) + 1))) else m_cRp_expect_J40 N x0 o_1.1))) else m_cRp_expect_J40 N x0 o_1.1))))
theorem d_cRp_expect_8 : decode prog_6_method_3_code 8 = .ok (.aload_n 0, 1) := by decide +kernel
theorem d_cRp_expect_9 : decode prog_6_method_3_code 9 = .ok (.getfield 15, 3) := by decide +kernel
theorem d_cRp_expect_12 : decode prog_6_method_3_code 12 = .ok (.aload_n 1, 1) := by decide +kernel
theorem d_cRp_expect_13 : decode prog_6_method_3_code 13 = .ok (.getfield 37, 3) := by decide +kernel
theorem d_cRp_expect_16 : decode prog_6_method_3_code 16 = .ok (.baload, 1) := by decide +kernel
theorem d_cRp_expect_17 : decode prog_6_method_3_code 17 = .ok (.ifCond .ne 23, 3) := by decide +kernel
theorem d_cRp_expect_20 : decode prog_6_method_3_code 20 = .ok (.aload_n 0, 1) := by decide +kernel
theorem d_cRp_expect_21 : decode prog_6_method_3_code 21 = .ok (.getfield 15, 3) := by decide +kernel
theorem d_cRp_expect_24 : decode prog_6_method_3_code 24 = .ok (.aload_n 1, 1) := by decide +kernel
theorem d_cRp_expect_25 : decode prog_6_method_3_code 25 = .ok (.getfield 37, 3) := by decide +kernel
theorem d_cRp_expect_28 : decode prog_6_method_3_code 28 = .ok (.iconst 1, 1) := by decide +kernel
theorem d_cRp_expect_29 : decode prog_6_method_3_code 29 = .ok (.bastore, 1) := by decide +kernel
theorem d_cRp_expect_30 : decode prog_6_method_3_code 30 = .ok (.aload_n 0, 1) := by decide +kernel
theorem d_cRp_expect_31 : decode prog_6_method_3_code 31 = .ok (.dup, 1) := by decide +kernel
theorem d_cRp_expect_32 : decode prog_6_method_3_code 32 = .ok (.getfield 40, 3) := by decide +kernel
theorem d_cRp_expect_35 : decode prog_6_method_3_code 35 = .ok (.iconst 1, 1) := by decide +kernel
theorem d_cRp_expect_36 : decode prog_6_method_3_code 36 = .ok (.iadd, 1) := by decide +kernel
theorem d_cRp_expect_37 : decode prog_6_method_3_code 37 = .ok (.putfield 40, 3) := by decide +kernel
set_option maxHeartbeats 4000000 in
set_option maxRecDepth 100000 in
theorem w_cRp_expect_J0 {p : Program} {l : Launch} {e : Env} {s : State} {m : MethodId} {args : Array Value} {below : List Frame} {meth : Method} {c : Code} {A : Nat → Prop} {D : va_G} {ad : Nat → Nat → Nat} {cc : Nat → ClassId} {sad sav : Nat → Nat} {Q : State → Prop} (hC : MCc sad sav "JoinedTrees$Replica" prog_6_method_3_code 2 none p s m args meth c A D cc) {N : Nat → Nat} {x0 : Nat} {S : CS} {x1 : Nat} {o : CS} (Heq : m_cRp_expect_J0 N x0 S x1 = some o) (Kr : ∀ r : CS, o = r → ∀ (pc : Nat) (H : Heap) (locs : List Loc) (ls : Array Slot), decode prog_6_method_3_code pc = .ok (.return_, 1) → va_P D cls (cw ad cc N r) H → va_D A (cw ad cc N r) → va_S A s.heap H locs → W p l e ({ frames := 1, cells := 0, slots := 0, locals := 21 }) s m args below meth c H locs 0 0 Q (F0 m pc ls [])) : ∀ (H : Heap) (locs : List Loc) (ls : Array Slot), va_P D cls (cw ad cc N S) H → va_D A (cw ad cc N S) → va_S A s.heap H locs → lv_has ls 2 [(0, .ref (ad 4 x0)), (1, .ref (ad 0 x1))] → W p l e ({ frames := 1, cells := 0, slots := 0, locals := 21 }) s m args below meth c H locs 0 0 Q (F0 m 0 ls []) := by
  intro H locs ls hP hD hS hl
  obtain ⟨hx, hb, hr, hml, hown, hts, hK, hA, hev, hE, hN, hNS⟩ := id hC
  unfold m_cRp_expect_J0 at Heq
  refine lv_aload_n hx hb d_cRp_expect_0 rfl (lv_at hl 0 rfl) ?_
  refine lv_aload_n hx hb d_cRp_expect_1 rfl (lv_at hl 1 rfl) ?_
  obtain ⟨hl_x1_0, Heq⟩ := gl_some Heq
  obtain ⟨hl_x0_4, Heq⟩ := gl_some Heq
  obtain ⟨o_1, h_2, Heq⟩ := ob_some Heq
  have hFc := fr_all hD hS hA
  refine va_calli (va_runV (As := [.ref (ad 0 x1)]) (rest := []) ⟨hx, hb, hml, hown, hts⟩ (g_cRp_holds l D H.size (ad := ad) (cc := cc) (sad := sad) (sav := sav) h_2) (cw_v 1 hts kw_1083 kw_1092 kw_1081 kw_1082 kw_5 rfl rfl (by decide +kernel) ⟨Nat.le_of_ble_eq_true rfl, Nat.le_of_ble_eq_true rfl⟩) ⟨c_blind, va_recv hK hP (ci := 4) (q0 := cPos N 4 x0) rfl (cw_obj (k := 4) (by decide) hl_x0_4), fun U hU hW => c_pre hU hW hP hK hD hev hE hN hNS hS hFc⟩ rfl rfl hl.1 rfl (lv_room (Nat.le_of_ble_eq_true rfl)) d_cRp_expect_2 ⟨Nat.le_of_ble_eq_true rfl, Nat.le_of_ble_eq_true rfl⟩) hS (fun q _ h => hFc q h) hFc (fun rz u t H1 locs ht hvm hw hB hz1 hk1 hS => ?_)
  obtain ⟨hP, -, hD1⟩ := hB
  rw [ht] at hP
  have hD := hD1.weaken (fun _ q _ h => hFc q.1 h)
  generalize H1 = H at hP hS ⊢
  refine W.cs (cells' := 0) (slots' := 0) rfl rfl ?_
  subst hw
  refine lv_if_ne (tgt := 40) hx hb d_cRp_expect_5 (by decide) (fun c_3 => ?_) (fun c_3 => ?_)
  · replace Heq := (if_neg c_3).symm.trans Heq
    exact w_cRp_expect_J40 hC Heq Kr _ _ _ hP hD hS (lv_sub hl [0] rfl)
  · replace Heq := (if_pos c_3).symm.trans Heq
    refine lv_aload_n hx hb d_cRp_expect_8 rfl (lv_at hl 0 rfl) ?_
    refine va_get (D := D) (ci := 4) (v := rv ad 14 (o_1.1.r 4 2 x0)) (C := R_Rp) (T := F_Rp) (N := 10) hx hb hts i_Rp hown hK hP (cPos N 4 x0) (cw_obj (k := 4) (by decide) hl_x0_4) rfl 2 (by decide) (hts _ kw_210) (fun _ h9 => h9) rfl d_cRp_expect_9 ?_
    refine lv_aload_n hx hb d_cRp_expect_12 rfl (lv_at hl 1 rfl) ?_
    refine va_get (D := D) (ci := 0) (v := .int (o_1.1.i 0 2 x1)) (C := R_Ch) (T := F_Ch) (N := 7) hx hb hts i_Ch hown hK hP (cPos N 0 x1) (cw_obj (k := 0) (by decide) hl_x1_0) rfl 2 (by decide) (hts _ kw_1019) (fun _ h9 => h9) rfl d_cRp_expect_13 ?_
    obtain ⟨j_4, hj_5, hl_6, Heq⟩ := gn_some Heq
    refine w_s (st' := [.int (o_1.1.i 0 2 x1), .ref (ad 14 j_4)]) (congrArg (fun z9 : Option Nat => [.int (o_1.1.i 0 2 x1), rv ad 14 z9]) hj_5) ?_
    obtain ⟨hi_7, Heq⟩ := gd_some Heq
    refine va_zald hx hb hK hP (cPos N 14 j_4) 2 (cw_arr (k := 14) (by decide) hl_6) rfl (i := o_1.1.i 0 2 x1) hi_7 d_cRp_expect_16 ?_
    refine w_i (y := o_1.1.a 14 j_4 ((o_1.1.i 0 2 x1).toNatClampNeg)) rfl ?_
    refine lv_if_ne (tgt := 40) hx hb d_cRp_expect_17 (by decide) (fun c_8 => ?_) (fun c_8 => ?_)
    · replace Heq := (if_neg c_8).symm.trans Heq
      exact w_cRp_expect_J40 hC Heq Kr _ _ _ hP hD hS (lv_sub hl [0] rfl)
    · replace Heq := (if_pos c_8).symm.trans Heq
      refine lv_aload_n hx hb d_cRp_expect_20 rfl (lv_at hl 0 rfl) ?_
      refine va_get (D := D) (ci := 4) (v := rv ad 14 (o_1.1.r 4 2 x0)) (C := R_Rp) (T := F_Rp) (N := 10) hx hb hts i_Rp hown hK hP (cPos N 4 x0) (cw_obj (k := 4) (by decide) hl_x0_4) rfl 2 (by decide) (hts _ kw_210) (fun _ h9 => h9) rfl d_cRp_expect_21 ?_
      refine lv_aload_n hx hb d_cRp_expect_24 rfl (lv_at hl 1 rfl) ?_
      refine va_get (D := D) (ci := 0) (v := .int (o_1.1.i 0 2 x1)) (C := R_Ch) (T := F_Ch) (N := 7) hx hb hts i_Ch hown hK hP (cPos N 0 x1) (cw_obj (k := 0) (by decide) hl_x1_0) rfl 2 (by decide) (hts _ kw_1019) (fun _ h9 => h9) rfl d_cRp_expect_25 ?_
      refine lv_iconst (v := 1) hx hb d_cRp_expect_28 (by decide) ?_
      refine w_s (st' := [.int 1, .int (o_1.1.i 0 2 x1), .ref (ad 14 j_4)]) (congrArg (fun z9 : Option Nat => [.int 1, .int (o_1.1.i 0 2 x1), rv ad 14 z9]) hj_5) ?_
      obtain ⟨hi_9, Heq⟩ := gd_some Heq
      refine va_zast hx hb hK hP hD hS (cPos N 14 j_4) 2 (cw_arr (k := 14) (by decide) hl_6) rfl (i := o_1.1.i 0 2 x1) (x := 1) hi_9 d_cRp_expect_29 (fun H locs hP hD hS => ?_)
      have hD := (congrArg (fun w9 => va_D A w9) (cw_setA (ad := ad) (cc := cc) (S := o_1.1) (k := 14) (i := (o_1.1.i 0 2 x1).toNatClampNeg) (v := (vp_nar .boolean 1)) (by decide) hl_6)).mp hD
      have hP := (congrArg (fun w9 => va_P D cls w9 H) (cw_setA (ad := ad) (cc := cc) (S := o_1.1) (k := 14) (i := (o_1.1.i 0 2 x1).toNatClampNeg) (v := (vp_nar .boolean 1)) (by decide) hl_6)).mp hP
      refine lv_aload_n hx hb d_cRp_expect_30 rfl (lv_at hl 0 rfl) ?_
      refine lv_dup hx hb d_cRp_expect_31 (by first | rfl | exact rv_cat) ?_
      refine va_get (D := D) (ci := 4) (v := .int ((o_1.1.setA 14 j_4 ((o_1.1.i 0 2 x1).toNatClampNeg) (vp_nar .boolean 1)).i 4 6 x0)) (C := R_Rp) (T := F_Rp) (N := 10) hx hb hts i_Rp hown hK hP (cPos N 4 x0) (cw_obj (k := 4) (by decide) hl_x0_4) rfl 6 (by decide) (hts _ kw_220) (fun _ h9 => h9) rfl d_cRp_expect_32 ?_
      refine w_i (y := o_1.1.i 4 6 x0) rfl ?_
      refine lv_iconst (v := 1) hx hb d_cRp_expect_35 (by decide) ?_
      refine lv_iadd hx hb d_cRp_expect_36 ?_
      refine w_i (y := (o_1.1.i 4 6 x0) + 1) rfl ?_
      refine va_put (D := D) (ci := 4) (v := .int ((o_1.1.i 4 6 x0) + 1)) (ty := .int) (C := R_Rp) (T := F_Rp) (N := 10) hx hb hts i_Rp t_Rp t_Rp_ok n_Rp hown hK hP hD hS (cPos N 4 x0) (cw_obj (k := 4) (by decide) hl_x0_4) rfl 6 (by decide) (hts _ kw_220) (fun _ h9 => h9) rfl (by decide +kernel) rfl rfl (Nat.le_of_ble_eq_true rfl) d_cRp_expect_37 (fun H locs hP hD hS => ?_)
      have hD := (congrArg (fun w9 => va_D A w9) (cw_setI (ad := ad) (cc := cc) (S := (o_1.1.setA 14 j_4 ((o_1.1.i 0 2 x1).toNatClampNeg) (vp_nar .boolean 1))) (k := 4) (f := 6) (v := (o_1.1.i 4 6 x0) + 1) (by decide) rfl hl_x0_4)).mp hD
      have hP := (congrArg (fun w9 => va_P D cls w9 H) (cw_setI (ad := ad) (cc := cc) (S := (o_1.1.setA 14 j_4 ((o_1.1.i 0 2 x1).toNatClampNeg) (vp_nar .boolean 1))) (k := 4) (f := 6) (v := (o_1.1.i 4 6 x0) + 1) (by decide) rfl hl_x0_4)).mp hP
      exact w_cRp_expect_J40 hC Heq Kr _ _ _ hP hD hS (lv_sub hl [0] rfl)
def m_cRp_expect (N : Nat → Nat) (x0 : Nat) (S : CS) (x1 : Nat) : Option CS := m_cRp_expect_J0 N x0 S x1
set_option maxHeartbeats 4000000 in
theorem g_cRp_expect (l : Launch) (D : va_G) (sz : Nat) {ad : Nat → Nat → Nat} {cc : Nat → ClassId} {sad sav : Nat → Nat} {N : Nat → Nat} {x0 : Nat} {S : CS} {x1 : Nat} {o : CS} (Heq : m_cRp_expect N x0 S x1 = some o) : Met l ⟨"JoinedTrees$Replica", "expect", "(LJoinedTrees$Change;)V"⟩ (Cond.code ⟨"JoinedTrees$Replica", "expect", "(LJoinedTrees$Change;)V"⟩ prog_6_method_3_code 2 none :: gb) ({ frames := 1, cells := 0, slots := 0, locals := 21 }) (cPc sad sav D (cw ad cc N S) (cty cc) sz [.ref (ad 4 x0), .ref (ad 0 x1)]) (va_Qv (fun _ : Unit => True) (fun _ t => gO D (cw ad cc N o) (cty cc) (va_A (cw ad cc N S) sz) t) (va_A (cw ad cc N S) sz)) 0 0 (va_A (cw ad cc N S) sz) := by
  refine Met.ofW (cc := prog_6_method_3_code) (maxL := 2) (ret := none) (by decide) rfl ?_
  intro p e s m args below meth c s₁ B hml hv
  obtain ⟨rfl, hsz, hP, hK, hD0, hev, hE, hN⟩ := hv
  have hx := B.exec
  have hb := B.bytes
  have hr := B.returns
  have hts : ∀ w9 ∈ gb, w9.before [.ref (ad 4 x0), .ref (ad 0 x1)].toArray s = true := fun w9 h => atoms_spec (ws := Cond.code ⟨"JoinedTrees$Replica", "expect", "(LJoinedTrees$Change;)V"⟩ prog_6_method_3_code 2 none :: gb) B.pre w9 (List.mem_cons_of_mem _ h)
  have hown : s.vm.findClass "JoinedTrees$Replica" = some m.cls := findClass_of_methodNamed B.named
  have hlocks := B.notSynchronized
  have hNS := ns_of hP
  subst hsz
  have hD := hD0.self (sz := s.heap.size)
  generalize hAe : va_A (cw ad cc N S) s.heap.size = A at hD hev hE hNS ⊢
  have hA : ∀ q : Nat, s.heap.size ≤ q → A q := fun q h => by rw [← hAe]; exact Or.inr h
  have hS : va_S A s.heap s.heap [] := va_S.rf
  obtain ⟨ls, hl, hle⟩ : ∃ ls : Array Slot, lv_has ls 2 [(0, .ref (ad 4 x0)), (1, .ref (ad 0 x1))] ∧ entryFrame m ([.ref (ad 4 x0), .ref (ad 0 x1)] : List Value).toArray 2 = F0 m 0 ls [] := by
    exact ⟨_, lv_entry (n := 2) _ (Nat.le_of_ble_eq_true rfl), lg_entry_eq ..⟩
  rw [hle]
  refine w_cRp_expect_J0 ⟨hx, hb, hr, hml, hown, hts, hK, hA, hev, hE, hN, hNS⟩ Heq (fun r h pc H locs ls hd hP hD hS => ?_) _ _ _ hP hD hS (lv_sub hl [0, 1] rfl)
  subst h
  exact W.vret hx hb hr (fun t ht hW => ⟨⟨(), rfl, trivial, by rw [ht]; exact hP, va_K.moved hW.alike hK, hD⟩, hS.F ht⟩) hS.2.2 hd
def m_cRp_isReadyFor_B22 (N : Nat → Nat) (x0 : Nat) (S : CS) (x1 : Option Nat) (x2 : Int32) : Option ((CS × Option Nat × Int32) ⊕ (CS ⊕ (CS × Int32))) := gn x1 (N 0) (fun j_1 => gn (S.r 0 5 j_1) (N 16) (fun j_4 => (if nI (S.z 16 j_4) ≤ x2 then some (.inr (.inl (S))) else gd x2 (S.z 16 j_4) (gn (S.q 16 j_4 x2.toNatClampNeg) (N 0) (fun j_9 => gl x0 (N 4) (ob (m_cRp_holds N x0 S j_9) (fun o_12 => (if o_12.2 = 0 then some (.inr (.inr (o_12.1, 0))) else some (.inl (o_12.1, x1, (x2 + 1)))))))))))
theorem d_cRp_isReadyFor_0 : decode prog_6_method_4_code 0 = .ok (.aload_n 1, 1) := by decide +kernel
theorem d_cRp_isReadyFor_1 : decode prog_6_method_4_code 1 = .ok (.getfield 29, 3) := by decide +kernel
theorem d_cRp_isReadyFor_4 : decode prog_6_method_4_code 4 = .ok (.aload_n 0, 1) := by decide +kernel
theorem d_cRp_isReadyFor_5 : decode prog_6_method_4_code 5 = .ok (.getfield 9, 3) := by decide +kernel
theorem d_cRp_isReadyFor_8 : decode prog_6_method_4_code 8 = .ok (.aload_n 1, 1) := by decide +kernel
theorem d_cRp_isReadyFor_9 : decode prog_6_method_4_code 9 = .ok (.getfield 32, 3) := by decide +kernel
theorem d_cRp_isReadyFor_12 : decode prog_6_method_4_code 12 = .ok (.iaload, 1) := by decide +kernel
theorem d_cRp_isReadyFor_13 : decode prog_6_method_4_code 13 = .ok (.iconst 1, 1) := by decide +kernel
theorem d_cRp_isReadyFor_14 : decode prog_6_method_4_code 14 = .ok (.iadd, 1) := by decide +kernel
theorem d_cRp_isReadyFor_15 : decode prog_6_method_4_code 15 = .ok (.if_icmp .eq 5, 3) := by decide +kernel
theorem d_cRp_isReadyFor_20 : decode prog_6_method_4_code 20 = .ok (.iconst 0, 1) := by decide +kernel
theorem d_cRp_isReadyFor_21 : decode prog_6_method_4_code 21 = .ok (.istore_n 2, 1) := by decide +kernel
theorem d_cRp_isReadyFor_22 : decode prog_6_method_4_code 22 = .ok (.iload_n 2, 1) := by decide +kernel
theorem d_cRp_isReadyFor_23 : decode prog_6_method_4_code 23 = .ok (.aload_n 1, 1) := by decide +kernel
theorem d_cRp_isReadyFor_24 : decode prog_6_method_4_code 24 = .ok (.getfield 43, 3) := by decide +kernel
theorem d_cRp_isReadyFor_27 : decode prog_6_method_4_code 27 = .ok (.arraylength, 1) := by decide +kernel
theorem d_cRp_isReadyFor_28 : decode prog_6_method_4_code 28 = .ok (.if_icmp .ge 24, 3) := by decide +kernel
theorem d_cRp_isReadyFor_31 : decode prog_6_method_4_code 31 = .ok (.aload_n 0, 1) := by decide +kernel
theorem d_cRp_isReadyFor_32 : decode prog_6_method_4_code 32 = .ok (.aload_n 1, 1) := by decide +kernel
theorem d_cRp_isReadyFor_33 : decode prog_6_method_4_code 33 = .ok (.getfield 43, 3) := by decide +kernel
theorem d_cRp_isReadyFor_36 : decode prog_6_method_4_code 36 = .ok (.iload_n 2, 1) := by decide +kernel
theorem d_cRp_isReadyFor_37 : decode prog_6_method_4_code 37 = .ok (.aaload, 1) := by decide +kernel
theorem d_cRp_isReadyFor_38 : decode prog_6_method_4_code 38 = .ok (.invokevirtual 33, 3) := by decide +kernel
theorem d_cRp_isReadyFor_41 : decode prog_6_method_4_code 41 = .ok (.ifCond .ne 5, 3) := by decide +kernel
theorem d_cRp_isReadyFor_46 : decode prog_6_method_4_code 46 = .ok (.iinc 2 1, 3) := by decide +kernel
theorem d_cRp_isReadyFor_49 : decode prog_6_method_4_code 49 = .ok (.goto (-27), 3) := by decide +kernel
theorem d_cRp_isReadyFor_44 : decode prog_6_method_4_code 44 = .ok (.iconst 0, 1) := by decide +kernel
theorem d_cRp_isReadyFor_45 : decode prog_6_method_4_code 45 = .ok (.ireturn, 1) := by decide +kernel
set_option maxHeartbeats 4000000 in
set_option maxRecDepth 100000 in
theorem w_cRp_isReadyFor_B22 {p : Program} {l : Launch} {e : Env} {s : State} {m : MethodId} {args : Array Value} {below : List Frame} {meth : Method} {c : Code} {A : Nat → Prop} {D : va_G} {ad : Nat → Nat → Nat} {cc : Nat → ClassId} {sad sav : Nat → Nat} {Q : State → Prop} (hC : MCc sad sav "JoinedTrees$Replica" prog_6_method_4_code 3 (some .boolean) p s m args meth c A D cc) {N : Nat → Nat} {x0 : Nat} {S : CS} {x1 : Option Nat} {x2 : Int32} {o : ((CS × Option Nat × Int32) ⊕ (CS ⊕ (CS × Int32)))} (Heq : m_cRp_isReadyFor_B22 N x0 S x1 x2 = some o) (Ka : ∀ b : CS × Option Nat × Int32, o = .inl b → ∀ (H : Heap) (locs : List Loc) (ls : Array Slot), va_P D cls (cw ad cc N b.1) H → va_D A (cw ad cc N b.1) → va_S A s.heap H locs → lv_has ls 3 [(0, .ref (ad 4 x0)), (1, rv ad 0 b.2.1), (2, .int b.2.2)] → W p l e ({ frames := 1, cells := 0, slots := 0, locals := 21 }) s m args below meth c H locs 0 0 Q (F0 m 22 ls [])) (K0 : ∀ b : CS, o = .inr (.inl b) → ∀ (H : Heap) (locs : List Loc) (ls : Array Slot), va_P D cls (cw ad cc N b) H → va_D A (cw ad cc N b) → va_S A s.heap H locs → lv_has ls 3 [(0, .ref (ad 4 x0))] → W p l e ({ frames := 1, cells := 0, slots := 0, locals := 21 }) s m args below meth c H locs 0 0 Q (F0 m 52 ls [])) (Kr : ∀ r : CS × Int32, o = .inr (.inr r) → ∀ (pc : Nat) (H : Heap) (locs : List Loc) (ls : Array Slot), decode prog_6_method_4_code pc = .ok (.ireturn, 1) → (r.2 = 0 ∨ r.2 = 1) → va_P D cls (cw ad cc N r.1) H → va_D A (cw ad cc N r.1) → va_S A s.heap H locs → W p l e ({ frames := 1, cells := 0, slots := 0, locals := 21 }) s m args below meth c H locs 0 0 Q (F0 m pc ls [.int r.2])) : ∀ (H : Heap) (locs : List Loc) (ls : Array Slot), va_P D cls (cw ad cc N S) H → va_D A (cw ad cc N S) → va_S A s.heap H locs → lv_has ls 3 [(0, .ref (ad 4 x0)), (1, rv ad 0 x1), (2, .int x2)] → W p l e ({ frames := 1, cells := 0, slots := 0, locals := 21 }) s m args below meth c H locs 0 0 Q (F0 m 22 ls []) := by
  intro H locs ls hP hD hS hl
  obtain ⟨hx, hb, hr, hml, hown, hts, hK, hA, hev, hE, hN, hNS⟩ := id hC
  unfold m_cRp_isReadyFor_B22 at Heq
  refine lv_iload_n hx hb d_cRp_isReadyFor_22 rfl (lv_at hl 2 rfl) ?_
  refine tx_aload_n (x := x1.map (ad 0)) hx hb d_cRp_isReadyFor_23 rfl (lv_at hl 1 rfl) ?_
  refine w_v (y := rv ad 0 x1) rfl ?_
  obtain ⟨j_1, hj_2, hl_3, Heq⟩ := gn_some Heq
  refine w_s (st' := [.ref (ad 0 j_1), .int x2]) (congrArg (fun z9 : Option Nat => [rv ad 0 z9, .int x2]) hj_2) ?_
  refine va_get (D := D) (ci := 0) (v := rv ad 16 (S.r 0 5 j_1)) (C := R_Ch) (T := F_Ch) (N := 7) hx hb hts i_Ch hown hK hP (cPos N 0 j_1) (cw_obj (k := 0) (by decide) hl_3) rfl 5 (by decide) (hts _ kw_1027) (fun _ h9 => h9) rfl d_cRp_isReadyFor_24 ?_
  obtain ⟨j_4, hj_5, hl_6, Heq⟩ := gn_some Heq
  refine w_s (st' := [.ref (ad 16 j_4), .int x2]) (congrArg (fun z9 : Option Nat => [rv ad 16 z9, .int x2]) hj_5) ?_
  refine va_alen (v := nI (S.z 16 j_4)) hx hb hK hP (cPos N 16 j_4) 4 (cw_refs (k := 16) (by decide) hl_6) rfl rfl d_cRp_isReadyFor_27 ?_
  refine lv_icmp_ge (tgt := 52) hx hb d_cRp_isReadyFor_28 (by decide) (fun c_7 => ?_) (fun c_7 => ?_)
  · replace Heq := (if_pos c_7).symm.trans Heq
    exact K0 _ (Option.some.inj Heq).symm _ _ _ hP hD hS (lv_sub hl [0] rfl)
  · replace Heq := (if_neg c_7).symm.trans Heq
    refine lv_aload_n hx hb d_cRp_isReadyFor_31 rfl (lv_at hl 0 rfl) ?_
    refine tx_aload_n (x := x1.map (ad 0)) hx hb d_cRp_isReadyFor_32 rfl (lv_at hl 1 rfl) ?_
    refine w_v (y := rv ad 0 x1) rfl ?_
    refine w_s (st' := [.ref (ad 0 j_1), .ref (ad 4 x0)]) (congrArg (fun z9 : Option Nat => [rv ad 0 z9, .ref (ad 4 x0)]) hj_2) ?_
    refine va_get (D := D) (ci := 0) (v := rv ad 16 (S.r 0 5 j_1)) (C := R_Ch) (T := F_Ch) (N := 7) hx hb hts i_Ch hown hK hP (cPos N 0 j_1) (cw_obj (k := 0) (by decide) hl_3) rfl 5 (by decide) (hts _ kw_1027) (fun _ h9 => h9) rfl d_cRp_isReadyFor_33 ?_
    refine lv_iload_n hx hb d_cRp_isReadyFor_36 rfl (lv_at hl 2 rfl) ?_
    refine w_s (st' := [.int x2, .ref (ad 16 j_4), .ref (ad 4 x0)]) (congrArg (fun z9 : Option Nat => [.int x2, rv ad 16 z9, .ref (ad 4 x0)]) hj_5) ?_
    obtain ⟨hi_8, Heq⟩ := gd_some Heq
    refine va_aldq hx hb hK hP (cPos N 16 j_4) 4 (cw_refs (k := 16) (by decide) hl_6) rfl (i := x2) hi_8 d_cRp_isReadyFor_37 ?_
    refine w_v (y := rv ad 0 (S.q 16 j_4 x2.toNatClampNeg)) (congrArg (rv ad 0) rfl) ?_
    obtain ⟨j_9, hj_10, hl_11, Heq⟩ := gn_some Heq
    refine w_s (st' := [.ref (ad 0 j_9), .ref (ad 4 x0)]) (congrArg (fun z9 : Option Nat => [rv ad 0 z9, .ref (ad 4 x0)]) hj_10) ?_
    obtain ⟨hl_x0_4, Heq⟩ := gl_some Heq
    obtain ⟨o_12, h_13, Heq⟩ := ob_some Heq
    have hFc := fr_all hD hS hA
    refine va_calli (va_runV (As := [.ref (ad 0 j_9)]) (rest := []) ⟨hx, hb, hml, hown, hts⟩ (g_cRp_holds l D H.size (ad := ad) (cc := cc) (sad := sad) (sav := sav) h_13) (cw_v 1 hts kw_1083 kw_1092 kw_1081 kw_1082 kw_5 rfl rfl (by decide +kernel) ⟨Nat.le_of_ble_eq_true rfl, Nat.le_of_ble_eq_true rfl⟩) ⟨c_blind, va_recv hK hP (ci := 4) (q0 := cPos N 4 x0) rfl (cw_obj (k := 4) (by decide) hl_x0_4), fun U hU hW => c_pre hU hW hP hK hD hev hE hN hNS hS hFc⟩ rfl rfl hl.1 rfl (lv_room (Nat.le_of_ble_eq_true rfl)) d_cRp_isReadyFor_38 ⟨Nat.le_of_ble_eq_true rfl, Nat.le_of_ble_eq_true rfl⟩) hS (fun q _ h => hFc q h) hFc (fun rz u t H1 locs ht hvm hw hB hz1 hk1 hS => ?_)
    obtain ⟨hP, -, hD1⟩ := hB
    rw [ht] at hP
    have hD := hD1.weaken (fun _ q _ h => hFc q.1 h)
    generalize H1 = H at hP hS ⊢
    refine W.cs (cells' := 0) (slots' := 0) rfl rfl ?_
    subst hw
    refine lv_if_ne (tgt := 46) hx hb d_cRp_isReadyFor_41 (by decide) (fun c_14 => ?_) (fun c_14 => ?_)
    · replace Heq := (if_neg c_14).symm.trans Heq
      refine lv_iinc (v := x2 + 1) (lv' := [(2, .int (x2 + 1)), (0, .ref (ad 4 x0)), (1, rv ad 0 x1)]) hx hb d_cRp_isReadyFor_46 hl (k := 2) rfl rfl (by decide) (by simp [rv, rf_cat]) (fun ls hl => ?_)
      refine lv_goto (tgt := 22) hx hb d_cRp_isReadyFor_49 (by decide) ?_
      exact Ka _ (Option.some.inj Heq).symm _ _ _ hP hD hS (lv_sub hl [1, 2, 0] rfl)
    · replace Heq := (if_pos c_14).symm.trans Heq
      refine lv_iconst (v := 0) hx hb d_cRp_isReadyFor_44 (by decide) ?_
      exact Kr _ (Option.some.inj Heq).symm 45 _ _ _ d_cRp_isReadyFor_45 (Or.inl rfl) hP hD hS
def m_cRp_isReadyFor_L22 (N : Nat → Nat) (x0 : Nat) (S : CS) (x1 : Option Nat) (x2 : Int32) : Option (CS ⊕ (CS × Int32)) := lp (fun a : CS × Option Nat × Int32 => m_cRp_isReadyFor_B22 N x0 a.1 a.2.1 a.2.2) FU (S, x1, x2)
theorem w_cRp_isReadyFor_L22 {p : Program} {l : Launch} {e : Env} {s : State} {m : MethodId} {args : Array Value} {below : List Frame} {meth : Method} {c : Code} {A : Nat → Prop} {D : va_G} {ad : Nat → Nat → Nat} {cc : Nat → ClassId} {sad sav : Nat → Nat} {Q : State → Prop} (hC : MCc sad sav "JoinedTrees$Replica" prog_6_method_4_code 3 (some .boolean) p s m args meth c A D cc) {N : Nat → Nat} {x0 : Nat} {S : CS} {x1 : Option Nat} {x2 : Int32} {o : (CS ⊕ (CS × Int32))} (Heq : m_cRp_isReadyFor_L22 N x0 S x1 x2 = some o) (K0 : ∀ b : CS, o = (.inl b) → ∀ (H : Heap) (locs : List Loc) (ls : Array Slot), va_P D cls (cw ad cc N b) H → va_D A (cw ad cc N b) → va_S A s.heap H locs → lv_has ls 3 [(0, .ref (ad 4 x0))] → W p l e ({ frames := 1, cells := 0, slots := 0, locals := 21 }) s m args below meth c H locs 0 0 Q (F0 m 52 ls [])) (Kr : ∀ r : CS × Int32, o = (.inr r) → ∀ (pc : Nat) (H : Heap) (locs : List Loc) (ls : Array Slot), decode prog_6_method_4_code pc = .ok (.ireturn, 1) → (r.2 = 0 ∨ r.2 = 1) → va_P D cls (cw ad cc N r.1) H → va_D A (cw ad cc N r.1) → va_S A s.heap H locs → W p l e ({ frames := 1, cells := 0, slots := 0, locals := 21 }) s m args below meth c H locs 0 0 Q (F0 m pc ls [.int r.2])) : ∀ (H : Heap) (locs : List Loc) (ls : Array Slot), va_P D cls (cw ad cc N S) H → va_D A (cw ad cc N S) → va_S A s.heap H locs → lv_has ls 3 [(0, .ref (ad 4 x0)), (1, rv ad 0 x1), (2, .int x2)] → W p l e ({ frames := 1, cells := 0, slots := 0, locals := 21 }) s m args below meth c H locs 0 0 Q (F0 m 22 ls []) := by
  refine lp_w (G := fun a : CS × Option Nat × Int32 => ∀ (H : Heap) (locs : List Loc) (ls : Array Slot), va_P D cls (cw ad cc N a.1) H → va_D A (cw ad cc N a.1) → va_S A s.heap H locs → lv_has ls 3 [(0, .ref (ad 4 x0)), (1, rv ad 0 a.2.1), (2, .int a.2.2)] → W p l e ({ frames := 1, cells := 0, slots := 0, locals := 21 }) s m args below meth c H locs 0 0 Q (F0 m 22 ls [])) ?_ FU (S, x1, x2) Heq
  intro a o1 ho Ka Ke
  exact w_cRp_isReadyFor_B22 hC ho (fun b h => Ka b h) (fun b h => K0 b (Ke _ h).symm) (fun r h => Kr r (Ke _ h).symm)
def m_cRp_isReadyFor_J0 (N : Nat → Nat) (x0 : Nat) (S : CS) (x1 : Nat) : Option (CS × Int32) := gl x1 (N 0) (gl x0 (N 4) (gn (S.r 4 1 x0) (N 12) (fun j_1 => gd (S.i 0 0 x1) (S.z 12 j_1) ((if S.i 0 1 x1 = (S.a 12 j_1 ((S.i 0 0 x1).toNatClampNeg)) + 1 then oe (m_cRp_isReadyFor_L22 N x0 S (some x1) 0) (fun b_6 => some (b_6, 1)) (fun r_8 => some r_8) else some (S, 0))))))
theorem d_cRp_isReadyFor_52 : decode prog_6_method_4_code 52 = .ok (.iconst 1, 1) := by decide +kernel
theorem d_cRp_isReadyFor_53 : decode prog_6_method_4_code 53 = .ok (.ireturn, 1) := by decide +kernel
theorem d_cRp_isReadyFor_18 : decode prog_6_method_4_code 18 = .ok (.iconst 0, 1) := by decide +kernel
theorem d_cRp_isReadyFor_19 : decode prog_6_method_4_code 19 = .ok (.ireturn, 1) := by decide +kernel
set_option maxHeartbeats 4000000 in
set_option maxRecDepth 100000 in
theorem w_cRp_isReadyFor_J0 {p : Program} {l : Launch} {e : Env} {s : State} {m : MethodId} {args : Array Value} {below : List Frame} {meth : Method} {c : Code} {A : Nat → Prop} {D : va_G} {ad : Nat → Nat → Nat} {cc : Nat → ClassId} {sad sav : Nat → Nat} {Q : State → Prop} (hC : MCc sad sav "JoinedTrees$Replica" prog_6_method_4_code 3 (some .boolean) p s m args meth c A D cc) {N : Nat → Nat} {x0 : Nat} {S : CS} {x1 : Nat} {o : CS × Int32} (Heq : m_cRp_isReadyFor_J0 N x0 S x1 = some o) (Kr : ∀ r : CS × Int32, o = r → ∀ (pc : Nat) (H : Heap) (locs : List Loc) (ls : Array Slot), decode prog_6_method_4_code pc = .ok (.ireturn, 1) → (r.2 = 0 ∨ r.2 = 1) → va_P D cls (cw ad cc N r.1) H → va_D A (cw ad cc N r.1) → va_S A s.heap H locs → W p l e ({ frames := 1, cells := 0, slots := 0, locals := 21 }) s m args below meth c H locs 0 0 Q (F0 m pc ls [.int r.2])) : ∀ (H : Heap) (locs : List Loc) (ls : Array Slot), va_P D cls (cw ad cc N S) H → va_D A (cw ad cc N S) → va_S A s.heap H locs → lv_has ls 3 [(0, .ref (ad 4 x0)), (1, .ref (ad 0 x1))] → W p l e ({ frames := 1, cells := 0, slots := 0, locals := 21 }) s m args below meth c H locs 0 0 Q (F0 m 0 ls []) := by
  intro H locs ls hP hD hS hl
  obtain ⟨hx, hb, hr, hml, hown, hts, hK, hA, hev, hE, hN, hNS⟩ := id hC
  unfold m_cRp_isReadyFor_J0 at Heq
  refine lv_aload_n hx hb d_cRp_isReadyFor_0 rfl (lv_at hl 1 rfl) ?_
  obtain ⟨hl_x1_0, Heq⟩ := gl_some Heq
  refine va_get (D := D) (ci := 0) (v := .int (S.i 0 1 x1)) (C := R_Ch) (T := F_Ch) (N := 7) hx hb hts i_Ch hown hK hP (cPos N 0 x1) (cw_obj (k := 0) (by decide) hl_x1_0) rfl 1 (by decide) (hts _ kw_1014) (fun _ h9 => h9) rfl d_cRp_isReadyFor_1 ?_
  refine lv_aload_n hx hb d_cRp_isReadyFor_4 rfl (lv_at hl 0 rfl) ?_
  obtain ⟨hl_x0_4, Heq⟩ := gl_some Heq
  refine va_get (D := D) (ci := 4) (v := rv ad 12 (S.r 4 1 x0)) (C := R_Rp) (T := F_Rp) (N := 10) hx hb hts i_Rp hown hK hP (cPos N 4 x0) (cw_obj (k := 4) (by decide) hl_x0_4) rfl 1 (by decide) (hts _ kw_205) (fun _ h9 => h9) rfl d_cRp_isReadyFor_5 ?_
  refine lv_aload_n hx hb d_cRp_isReadyFor_8 rfl (lv_at hl 1 rfl) ?_
  refine va_get (D := D) (ci := 0) (v := .int (S.i 0 0 x1)) (C := R_Ch) (T := F_Ch) (N := 7) hx hb hts i_Ch hown hK hP (cPos N 0 x1) (cw_obj (k := 0) (by decide) hl_x1_0) rfl 0 (by decide) (hts _ kw_1009) (fun _ h9 => h9) rfl d_cRp_isReadyFor_9 ?_
  obtain ⟨j_1, hj_2, hl_3, Heq⟩ := gn_some Heq
  refine w_s (st' := [.int (S.i 0 0 x1), .ref (ad 12 j_1), .int (S.i 0 1 x1)]) (congrArg (fun z9 : Option Nat => [.int (S.i 0 0 x1), rv ad 12 z9, .int (S.i 0 1 x1)]) hj_2) ?_
  obtain ⟨hi_4, Heq⟩ := gd_some Heq
  refine va_iald hx hb hK hP (cPos N 12 j_1) 0 (cw_arr (k := 12) (by decide) hl_3) rfl (i := S.i 0 0 x1) hi_4 d_cRp_isReadyFor_12 ?_
  refine w_i (y := S.a 12 j_1 ((S.i 0 0 x1).toNatClampNeg)) rfl ?_
  refine lv_iconst (v := 1) hx hb d_cRp_isReadyFor_13 (by decide) ?_
  refine lv_iadd hx hb d_cRp_isReadyFor_14 ?_
  refine w_i (y := (S.a 12 j_1 ((S.i 0 0 x1).toNatClampNeg)) + 1) rfl ?_
  refine lv_icmp_eq (tgt := 20) hx hb d_cRp_isReadyFor_15 (by decide) (fun c_5 => ?_) (fun c_5 => ?_)
  · replace Heq := (if_pos c_5).symm.trans Heq
    refine lv_iconst (v := 0) hx hb d_cRp_isReadyFor_20 (by decide) ?_
    refine lv_istore_n (lv' := [(2, .int 0), (0, .ref (ad 4 x0)), (1, .ref (ad 0 x1))]) hx hb d_cRp_isReadyFor_21 rfl hl (by decide) rfl (fun ls hl => ?_)
    rcases oe_some Heq with ⟨b_6, h_7, Heq⟩ | ⟨r_8, h_7, Heq⟩
    · refine w_cRp_isReadyFor_L22 hC h_7 (fun b h => ?_) (fun r h => by cases h) _ _ _ hP hD hS (lv_sub hl [1, 2, 0] rfl)
      cases h
      intro H locs ls hP hD hS hl
      refine lv_iconst (v := 1) hx hb d_cRp_isReadyFor_52 (by decide) ?_
      exact Kr _ (Option.some.inj Heq).symm 53 _ _ _ d_cRp_isReadyFor_53 (Or.inr rfl) hP hD hS
    · refine w_cRp_isReadyFor_L22 hC h_7 (fun b h => by cases h) (fun r h => ?_) _ _ _ hP hD hS (lv_sub hl [1, 2, 0] rfl)
      cases h
      exact Kr _ (Option.some.inj Heq).symm
  · replace Heq := (if_neg c_5).symm.trans Heq
    refine lv_iconst (v := 0) hx hb d_cRp_isReadyFor_18 (by decide) ?_
    exact Kr _ (Option.some.inj Heq).symm 19 _ _ _ d_cRp_isReadyFor_19 (Or.inl rfl) hP hD hS
def m_cRp_isReadyFor (N : Nat → Nat) (x0 : Nat) (S : CS) (x1 : Nat) : Option (CS × Int32) := m_cRp_isReadyFor_J0 N x0 S x1
set_option maxHeartbeats 4000000 in
theorem g_cRp_isReadyFor (l : Launch) (D : va_G) (sz : Nat) {ad : Nat → Nat → Nat} {cc : Nat → ClassId} {sad sav : Nat → Nat} {N : Nat → Nat} {x0 : Nat} {S : CS} {x1 : Nat} {o : CS × Int32} (Heq : m_cRp_isReadyFor N x0 S x1 = some o) : Met l ⟨"JoinedTrees$Replica", "isReadyFor", "(LJoinedTrees$Change;)Z"⟩ (Cond.code ⟨"JoinedTrees$Replica", "isReadyFor", "(LJoinedTrees$Change;)Z"⟩ prog_6_method_4_code 3 (some .boolean) :: gb) ({ frames := 1, cells := 0, slots := 0, locals := 21 }) (cPc sad sav D (cw ad cc N S) (cty cc) sz [.ref (ad 4 x0), .ref (ad 0 x1)]) (va_Qi (fun (r : Int32) (_ : Unit) => r = o.2) (fun _ t => gO D (cw ad cc N o.1) (cty cc) (va_A (cw ad cc N S) sz) t) (va_A (cw ad cc N S) sz)) 0 0 (va_A (cw ad cc N S) sz) := by
  refine Met.ofW (cc := prog_6_method_4_code) (maxL := 3) (ret := (some .boolean)) (by decide) rfl ?_
  intro p e s m args below meth c s₁ B hml hv
  obtain ⟨rfl, hsz, hP, hK, hD0, hev, hE, hN⟩ := hv
  have hx := B.exec
  have hb := B.bytes
  have hr := B.returns
  have hts : ∀ w9 ∈ gb, w9.before [.ref (ad 4 x0), .ref (ad 0 x1)].toArray s = true := fun w9 h => atoms_spec (ws := Cond.code ⟨"JoinedTrees$Replica", "isReadyFor", "(LJoinedTrees$Change;)Z"⟩ prog_6_method_4_code 3 (some .boolean) :: gb) B.pre w9 (List.mem_cons_of_mem _ h)
  have hown : s.vm.findClass "JoinedTrees$Replica" = some m.cls := findClass_of_methodNamed B.named
  have hlocks := B.notSynchronized
  have hNS := ns_of hP
  subst hsz
  have hD := hD0.self (sz := s.heap.size)
  generalize hAe : va_A (cw ad cc N S) s.heap.size = A at hD hev hE hNS ⊢
  have hA : ∀ q : Nat, s.heap.size ≤ q → A q := fun q h => by rw [← hAe]; exact Or.inr h
  have hS : va_S A s.heap s.heap [] := va_S.rf
  obtain ⟨ls, hl, hle⟩ : ∃ ls : Array Slot, lv_has ls 3 [(0, .ref (ad 4 x0)), (1, .ref (ad 0 x1))] ∧ entryFrame m ([.ref (ad 4 x0), .ref (ad 0 x1)] : List Value).toArray 3 = F0 m 0 ls [] := by
    exact ⟨_, lv_entry (n := 3) _ (Nat.le_of_ble_eq_true rfl), lg_entry_eq ..⟩
  rw [hle]
  refine w_cRp_isReadyFor_J0 ⟨hx, hb, hr, hml, hown, hts, hK, hA, hev, hE, hN, hNS⟩ Heq (fun r h pc H locs ls hd hz hP hD hS => ?_) _ _ _ hP hD hS (lv_sub hl [0, 1] rfl)
  subst h
  exact W.zret (ty := .boolean) hx hb hr (by rcases hz with hz | hz <;> rw [hz] <;> rfl) (fun t ht hW => ⟨⟨_, (), rfl, rfl, by rw [ht]; exact hP, va_K.moved hW.alike hK, hD⟩, hS.F ht⟩) hS.2.2 hd
def m_cSt_settle_J109 (N : Nat → Nat) (x0 : Nat) (S : CS) (x1 : Option Nat) (x2 : Int32) (x3 : Int32) : Option ((CS × Option Nat × Int32 × Int32) ⊕ (CS × Int32)) := some (.inl (S, x1, x2, (x3 + 1)))
theorem d_cSt_settle_0 : decode prog_10_method_13_code 0 = .ok (.iconst 0, 1) := by decide +kernel
theorem d_cSt_settle_1 : decode prog_10_method_13_code 1 = .ok (.istore_n 2, 1) := by decide +kernel
theorem d_cSt_settle_2 : decode prog_10_method_13_code 2 = .ok (.iconst 0, 1) := by decide +kernel
theorem d_cSt_settle_3 : decode prog_10_method_13_code 3 = .ok (.istore_n 3, 1) := by decide +kernel
theorem d_cSt_settle_4 : decode prog_10_method_13_code 4 = .ok (.iload_n 3, 1) := by decide +kernel
theorem d_cSt_settle_5 : decode prog_10_method_13_code 5 = .ok (.aload_n 0, 1) := by decide +kernel
theorem d_cSt_settle_6 : decode prog_10_method_13_code 6 = .ok (.getfield 126, 3) := by decide +kernel
theorem d_cSt_settle_9 : decode prog_10_method_13_code 9 = .ok (.if_icmp .ge 106, 3) := by decide +kernel
theorem d_cSt_settle_12 : decode prog_10_method_13_code 12 = .ok (.aload_n 1, 1) := by decide +kernel
theorem d_cSt_settle_13 : decode prog_10_method_13_code 13 = .ok (.getfield 152, 3) := by decide +kernel
theorem d_cSt_settle_16 : decode prog_10_method_13_code 16 = .ok (.ifCond .le 99, 3) := by decide +kernel
theorem d_cSt_settle_19 : decode prog_10_method_13_code 19 = .ok (.aload_n 0, 1) := by decide +kernel
theorem d_cSt_settle_20 : decode prog_10_method_13_code 20 = .ok (.getfield 35, 3) := by decide +kernel
theorem d_cSt_settle_23 : decode prog_10_method_13_code 23 = .ok (.iload_n 3, 1) := by decide +kernel
theorem d_cSt_settle_24 : decode prog_10_method_13_code 24 = .ok (.aaload, 1) := by decide +kernel
theorem d_cSt_settle_25 : decode prog_10_method_13_code 25 = .ok (.astore 4, 2) := by decide +kernel
theorem d_cSt_settle_27 : decode prog_10_method_13_code 27 = .ok (.aload_n 1, 1) := by decide +kernel
theorem d_cSt_settle_28 : decode prog_10_method_13_code 28 = .ok (.getfield 155, 3) := by decide +kernel
theorem d_cSt_settle_31 : decode prog_10_method_13_code 31 = .ok (.iload_n 3, 1) := by decide +kernel
theorem d_cSt_settle_32 : decode prog_10_method_13_code 32 = .ok (.baload, 1) := by decide +kernel
theorem d_cSt_settle_33 : decode prog_10_method_13_code 33 = .ok (.ifCond .eq 76, 3) := by decide +kernel
theorem d_cSt_settle_109 : decode prog_10_method_13_code 109 = .ok (.iinc 3 1, 3) := by decide +kernel
theorem d_cSt_settle_112 : decode prog_10_method_13_code 112 = .ok (.goto (-108), 3) := by decide +kernel
set_option maxHeartbeats 4000000 in
set_option maxRecDepth 100000 in
theorem w_cSt_settle_J109 {p : Program} {l : Launch} {e : Env} {s : State} {m : MethodId} {args : Array Value} {below : List Frame} {meth : Method} {c : Code} {A : Nat → Prop} {D : va_G} {ad : Nat → Nat → Nat} {cc : Nat → ClassId} {sad sav : Nat → Nat} {Q : State → Prop} (hC : MCc sad sav "JoinedTrees$Store" prog_10_method_13_code 5 (some .int) p s m args meth c A D cc) {N : Nat → Nat} {x0 : Nat} {S : CS} {x1 : Option Nat} {x2 : Int32} {x3 : Int32} {o : ((CS × Option Nat × Int32 × Int32) ⊕ (CS × Int32))} (Heq : m_cSt_settle_J109 N x0 S x1 x2 x3 = some o) (Ka : ∀ b : CS × Option Nat × Int32 × Int32, o = .inl b → ∀ (H : Heap) (locs : List Loc) (ls : Array Slot), va_P D cls (cw ad cc N b.1) H → va_D A (cw ad cc N b.1) → va_S A s.heap H locs → lv_has ls 5 [(0, .ref (ad 8 x0)), (1, rv ad 4 b.2.1), (2, .int b.2.2.1), (3, .int b.2.2.2)] → W p l e ({ frames := 2, cells := 0, slots := 0, locals := 43 }) s m args below meth c H locs 0 0 Q (F0 m 4 ls [])) (K0 : ∀ b : CS × Int32, o = .inr b → ∀ (H : Heap) (locs : List Loc) (ls : Array Slot), va_P D cls (cw ad cc N b.1) H → va_D A (cw ad cc N b.1) → va_S A s.heap H locs → lv_has ls 5 [(0, .ref (ad 8 x0)), (2, .int b.2)] → W p l e ({ frames := 2, cells := 0, slots := 0, locals := 43 }) s m args below meth c H locs 0 0 Q (F0 m 115 ls [])) : ∀ (H : Heap) (locs : List Loc) (ls : Array Slot), va_P D cls (cw ad cc N S) H → va_D A (cw ad cc N S) → va_S A s.heap H locs → lv_has ls 5 [(0, .ref (ad 8 x0)), (1, rv ad 4 x1), (2, .int x2), (3, .int x3)] → W p l e ({ frames := 2, cells := 0, slots := 0, locals := 43 }) s m args below meth c H locs 0 0 Q (F0 m 109 ls []) := by
  intro H locs ls hP hD hS hl
  obtain ⟨hx, hb, hr, hml, hown, hts, hK, hA, hev, hE, hN, hNS⟩ := id hC
  unfold m_cSt_settle_J109 at Heq
  refine lv_iinc (v := x3 + 1) (lv' := [(3, .int (x3 + 1)), (0, .ref (ad 8 x0)), (1, rv ad 4 x1), (2, .int x2)]) hx hb d_cSt_settle_109 hl (k := 3) rfl rfl (by decide) rfl (fun ls hl => ?_)
  refine lv_goto (tgt := 4) hx hb d_cSt_settle_112 (by decide) ?_
  exact Ka _ (Option.some.inj Heq).symm _ _ _ hP hD hS (lv_sub hl [1, 2, 3, 0] rfl)
def m_cSt_settle_B4 (N : Nat → Nat) (x0 : Nat) (S : CS) (x1 : Option Nat) (x2 : Int32) (x3 : Int32) : Option ((CS × Option Nat × Int32 × Int32) ⊕ (CS × Int32)) := gl x0 (N 8) ((if S.i 8 4 x0 ≤ x3 then some (.inr (S, x2)) else gn x1 (N 4) (fun j_2 => (if S.i 4 6 j_2 ≤ 0 then some (.inr (S, x2)) else gn (S.r 8 3 x0) (N 16) (fun j_6 => gd x3 (S.z 16 j_6) (gn (S.r 4 2 j_2) (N 14) (fun j_10 => gd x3 (S.z 14 j_10) ((if S.a 14 j_10 x3.toNatClampNeg = 0 then m_cSt_settle_J109 N x0 S x1 x2 x3 else gn (S.q 16 j_6 x3.toNatClampNeg) (N 0) (fun j_15 => ob (m_cRp_isReadyFor N j_2 S j_15) (fun o_18 => (if o_18.2 = 0 then m_cSt_settle_J109 N x0 o_18.1 x1 x2 x3 else gn (o_18.1.r 4 2 j_2) (N 14) (fun j_21 => gd x3 (o_18.1.z 14 j_21) (ob (m_cRp_gain N j_2 ((o_18.1.setA 14 j_21 x3.toNatClampNeg (vp_nar .boolean 0)).setI 4 6 j_2 ((o_18.1.i 4 6 j_2) - 1)) j_15) (fun o_25 => m_cSt_settle_J109 N x0 ((o_25.setI 4 7 j_2 ((o_25.i 4 7 j_2) + (o_25.i 0 4 j_15))).setI 4 8 j_2 (if o_25.i 4 8 j_2 < ((o_25.i 0 3 j_15) + (o_25.i 0 4 j_15)) - 1 then ((o_25.i 0 3 j_15) + (o_25.i 0 4 j_15)) - 1 else o_25.i 4 8 j_2)) x1 (x2 + 1) x3)))))))))))))))
theorem d_cSt_settle_36 : decode prog_10_method_13_code 36 = .ok (.aload_n 1, 1) := by decide +kernel
theorem d_cSt_settle_37 : decode prog_10_method_13_code 37 = .ok (.aload 4, 2) := by decide +kernel
theorem d_cSt_settle_39 : decode prog_10_method_13_code 39 = .ok (.invokevirtual 159, 3) := by decide +kernel
theorem d_cSt_settle_42 : decode prog_10_method_13_code 42 = .ok (.ifCond .eq 67, 3) := by decide +kernel
theorem d_cSt_settle_45 : decode prog_10_method_13_code 45 = .ok (.aload_n 1, 1) := by decide +kernel
theorem d_cSt_settle_46 : decode prog_10_method_13_code 46 = .ok (.getfield 155, 3) := by decide +kernel
theorem d_cSt_settle_49 : decode prog_10_method_13_code 49 = .ok (.iload_n 3, 1) := by decide +kernel
theorem d_cSt_settle_50 : decode prog_10_method_13_code 50 = .ok (.iconst 0, 1) := by decide +kernel
theorem d_cSt_settle_51 : decode prog_10_method_13_code 51 = .ok (.bastore, 1) := by decide +kernel
theorem d_cSt_settle_52 : decode prog_10_method_13_code 52 = .ok (.aload_n 1, 1) := by decide +kernel
theorem d_cSt_settle_53 : decode prog_10_method_13_code 53 = .ok (.dup, 1) := by decide +kernel
theorem d_cSt_settle_54 : decode prog_10_method_13_code 54 = .ok (.getfield 152, 3) := by decide +kernel
theorem d_cSt_settle_57 : decode prog_10_method_13_code 57 = .ok (.iconst 1, 1) := by decide +kernel
theorem d_cSt_settle_58 : decode prog_10_method_13_code 58 = .ok (.isub, 1) := by decide +kernel
theorem d_cSt_settle_59 : decode prog_10_method_13_code 59 = .ok (.putfield 152, 3) := by decide +kernel
theorem d_cSt_settle_62 : decode prog_10_method_13_code 62 = .ok (.aload_n 1, 1) := by decide +kernel
theorem d_cSt_settle_63 : decode prog_10_method_13_code 63 = .ok (.aload 4, 2) := by decide +kernel
theorem d_cSt_settle_65 : decode prog_10_method_13_code 65 = .ok (.invokevirtual 136, 3) := by decide +kernel
theorem d_cSt_settle_68 : decode prog_10_method_13_code 68 = .ok (.aload_n 1, 1) := by decide +kernel
theorem d_cSt_settle_69 : decode prog_10_method_13_code 69 = .ok (.dup, 1) := by decide +kernel
theorem d_cSt_settle_70 : decode prog_10_method_13_code 70 = .ok (.getfield 45, 3) := by decide +kernel
theorem d_cSt_settle_73 : decode prog_10_method_13_code 73 = .ok (.aload 4, 2) := by decide +kernel
theorem d_cSt_settle_75 : decode prog_10_method_13_code 75 = .ok (.getfield 163, 3) := by decide +kernel
theorem d_cSt_settle_78 : decode prog_10_method_13_code 78 = .ok (.iadd, 1) := by decide +kernel
theorem d_cSt_settle_79 : decode prog_10_method_13_code 79 = .ok (.putfield 45, 3) := by decide +kernel
theorem d_cSt_settle_82 : decode prog_10_method_13_code 82 = .ok (.aload_n 1, 1) := by decide +kernel
theorem d_cSt_settle_83 : decode prog_10_method_13_code 83 = .ok (.aload_n 1, 1) := by decide +kernel
theorem d_cSt_settle_84 : decode prog_10_method_13_code 84 = .ok (.getfield 39, 3) := by decide +kernel
theorem d_cSt_settle_87 : decode prog_10_method_13_code 87 = .ok (.aload 4, 2) := by decide +kernel
theorem d_cSt_settle_89 : decode prog_10_method_13_code 89 = .ok (.getfield 166, 3) := by decide +kernel
theorem d_cSt_settle_92 : decode prog_10_method_13_code 92 = .ok (.aload 4, 2) := by decide +kernel
theorem d_cSt_settle_94 : decode prog_10_method_13_code 94 = .ok (.getfield 163, 3) := by decide +kernel
theorem d_cSt_settle_97 : decode prog_10_method_13_code 97 = .ok (.iadd, 1) := by decide +kernel
theorem d_cSt_settle_98 : decode prog_10_method_13_code 98 = .ok (.iconst 1, 1) := by decide +kernel
theorem d_cSt_settle_99 : decode prog_10_method_13_code 99 = .ok (.isub, 1) := by decide +kernel
theorem d_cSt_settle_100 : decode prog_10_method_13_code 100 = .ok (.invokestatic 169, 3) := by decide +kernel
theorem d_cSt_settle_103 : decode prog_10_method_13_code 103 = .ok (.putfield 39, 3) := by decide +kernel
theorem d_cSt_settle_106 : decode prog_10_method_13_code 106 = .ok (.iinc 2 1, 3) := by decide +kernel
set_option maxHeartbeats 4000000 in
set_option maxRecDepth 100000 in
theorem w_cSt_settle_B4 {p : Program} {l : Launch} {e : Env} {s : State} {m : MethodId} {args : Array Value} {below : List Frame} {meth : Method} {c : Code} {A : Nat → Prop} {D : va_G} {ad : Nat → Nat → Nat} {cc : Nat → ClassId} {sad sav : Nat → Nat} {Q : State → Prop} (hC : MCc sad sav "JoinedTrees$Store" prog_10_method_13_code 5 (some .int) p s m args meth c A D cc) {N : Nat → Nat} {x0 : Nat} {S : CS} {x1 : Option Nat} {x2 : Int32} {x3 : Int32} {o : ((CS × Option Nat × Int32 × Int32) ⊕ (CS × Int32))} (Heq : m_cSt_settle_B4 N x0 S x1 x2 x3 = some o) (Ka : ∀ b : CS × Option Nat × Int32 × Int32, o = .inl b → ∀ (H : Heap) (locs : List Loc) (ls : Array Slot), va_P D cls (cw ad cc N b.1) H → va_D A (cw ad cc N b.1) → va_S A s.heap H locs → lv_has ls 5 [(0, .ref (ad 8 x0)), (1, rv ad 4 b.2.1), (2, .int b.2.2.1), (3, .int b.2.2.2)] → W p l e ({ frames := 2, cells := 0, slots := 0, locals := 43 }) s m args below meth c H locs 0 0 Q (F0 m 4 ls [])) (K0 : ∀ b : CS × Int32, o = .inr b → ∀ (H : Heap) (locs : List Loc) (ls : Array Slot), va_P D cls (cw ad cc N b.1) H → va_D A (cw ad cc N b.1) → va_S A s.heap H locs → lv_has ls 5 [(0, .ref (ad 8 x0)), (2, .int b.2)] → W p l e ({ frames := 2, cells := 0, slots := 0, locals := 43 }) s m args below meth c H locs 0 0 Q (F0 m 115 ls [])) : ∀ (H : Heap) (locs : List Loc) (ls : Array Slot), va_P D cls (cw ad cc N S) H → va_D A (cw ad cc N S) → va_S A s.heap H locs → lv_has ls 5 [(0, .ref (ad 8 x0)), (1, rv ad 4 x1), (2, .int x2), (3, .int x3)] → W p l e ({ frames := 2, cells := 0, slots := 0, locals := 43 }) s m args below meth c H locs 0 0 Q (F0 m 4 ls []) := by
  intro H locs ls hP hD hS hl
  obtain ⟨hx, hb, hr, hml, hown, hts, hK, hA, hev, hE, hN, hNS⟩ := id hC
  unfold m_cSt_settle_B4 at Heq
  refine lv_iload_n hx hb d_cSt_settle_4 rfl (lv_at hl 3 rfl) ?_
  refine lv_aload_n hx hb d_cSt_settle_5 rfl (lv_at hl 0 rfl) ?_
  obtain ⟨hl_x0_8, Heq⟩ := gl_some Heq
  refine va_get (D := D) (ci := 8) (v := .int (S.i 8 4 x0)) (C := R_St) (T := F_St) (N := 6) hx hb hts i_St hown hK hP (cPos N 8 x0) (cw_obj (k := 8) (by decide) hl_x0_8) rfl 4 (by decide) (hts _ kw_175) (fun _ h9 => h9) rfl d_cSt_settle_6 ?_
  refine lv_icmp_ge (tgt := 115) hx hb d_cSt_settle_9 (by decide) (fun c_1 => ?_) (fun c_1 => ?_)
  · replace Heq := (if_pos c_1).symm.trans Heq
    exact K0 _ (Option.some.inj Heq).symm _ _ _ hP hD hS (lv_sub hl [0, 2] rfl)
  · replace Heq := (if_neg c_1).symm.trans Heq
    refine tx_aload_n (x := x1.map (ad 4)) hx hb d_cSt_settle_12 rfl (lv_at hl 1 rfl) ?_
    refine w_v (y := rv ad 4 x1) rfl ?_
    obtain ⟨j_2, hj_3, hl_4, Heq⟩ := gn_some Heq
    refine w_s (st' := [.ref (ad 4 j_2)]) (congrArg (fun z9 : Option Nat => [rv ad 4 z9]) hj_3) ?_
    refine va_get (D := D) (ci := 4) (v := .int (S.i 4 6 j_2)) (C := R_Rp) (T := F_Rp) (N := 10) hx hb hts i_Rp hown hK hP (cPos N 4 j_2) (cw_obj (k := 4) (by decide) hl_4) rfl 6 (by decide) (hts _ kw_221) (fun _ h9 => h9) rfl d_cSt_settle_13 ?_
    refine lv_if_le (tgt := 115) hx hb d_cSt_settle_16 (by decide) (fun c_5 => ?_) (fun c_5 => ?_)
    · replace Heq := (if_pos c_5).symm.trans Heq
      exact K0 _ (Option.some.inj Heq).symm _ _ _ hP hD hS (lv_sub hl [0, 2] rfl)
    · replace Heq := (if_neg c_5).symm.trans Heq
      refine lv_aload_n hx hb d_cSt_settle_19 rfl (lv_at hl 0 rfl) ?_
      refine va_get (D := D) (ci := 8) (v := rv ad 16 (S.r 8 3 x0)) (C := R_St) (T := F_St) (N := 6) hx hb hts i_St hown hK hP (cPos N 8 x0) (cw_obj (k := 8) (by decide) hl_x0_8) rfl 3 (by decide) (hts _ kw_171) (fun _ h9 => h9) rfl d_cSt_settle_20 ?_
      refine lv_iload_n hx hb d_cSt_settle_23 rfl (lv_at hl 3 rfl) ?_
      obtain ⟨j_6, hj_7, hl_8, Heq⟩ := gn_some Heq
      refine w_s (st' := [.int x3, .ref (ad 16 j_6)]) (congrArg (fun z9 : Option Nat => [.int x3, rv ad 16 z9]) hj_7) ?_
      obtain ⟨hi_9, Heq⟩ := gd_some Heq
      refine va_aldq hx hb hK hP (cPos N 16 j_6) 4 (cw_refs (k := 16) (by decide) hl_8) rfl (i := x3) hi_9 d_cSt_settle_24 ?_
      refine w_v (y := rv ad 0 (S.q 16 j_6 x3.toNatClampNeg)) (congrArg (rv ad 0) rfl) ?_
      refine tx_astore (x := (S.q 16 j_6 x3.toNatClampNeg).map (ad 0)) (lv' := [(4, rv ad 0 (S.q 16 j_6 x3.toNatClampNeg)), (0, .ref (ad 8 x0)), (1, rv ad 4 x1), (2, .int x2), (3, .int x3)]) hx hb d_cSt_settle_25 hl (by decide) rfl (fun ls hl => ?_)
      refine tx_aload_n (x := x1.map (ad 4)) hx hb d_cSt_settle_27 rfl (lv_at hl 2 rfl) ?_
      refine w_v (y := rv ad 4 x1) rfl ?_
      refine w_s (st' := [.ref (ad 4 j_2)]) (congrArg (fun z9 : Option Nat => [rv ad 4 z9]) hj_3) ?_
      refine va_get (D := D) (ci := 4) (v := rv ad 14 (S.r 4 2 j_2)) (C := R_Rp) (T := F_Rp) (N := 10) hx hb hts i_Rp hown hK hP (cPos N 4 j_2) (cw_obj (k := 4) (by decide) hl_4) rfl 2 (by decide) (hts _ kw_211) (fun _ h9 => h9) rfl d_cSt_settle_28 ?_
      refine lv_iload_n hx hb d_cSt_settle_31 rfl (lv_at hl 4 rfl) ?_
      obtain ⟨j_10, hj_11, hl_12, Heq⟩ := gn_some Heq
      refine w_s (st' := [.int x3, .ref (ad 14 j_10)]) (congrArg (fun z9 : Option Nat => [.int x3, rv ad 14 z9]) hj_11) ?_
      obtain ⟨hi_13, Heq⟩ := gd_some Heq
      refine va_zald hx hb hK hP (cPos N 14 j_10) 2 (cw_arr (k := 14) (by decide) hl_12) rfl (i := x3) hi_13 d_cSt_settle_32 ?_
      refine w_i (y := S.a 14 j_10 x3.toNatClampNeg) rfl ?_
      refine lv_if_eq (tgt := 109) hx hb d_cSt_settle_33 (by decide) (fun c_14 => ?_) (fun c_14 => ?_)
      · replace Heq := (if_pos c_14).symm.trans Heq
        exact w_cSt_settle_J109 hC Heq Ka K0 _ _ _ hP hD hS (lv_sub hl [1, 2, 3, 4] rfl)
      · replace Heq := (if_neg c_14).symm.trans Heq
        refine tx_aload_n (x := x1.map (ad 4)) hx hb d_cSt_settle_36 rfl (lv_at hl 2 rfl) ?_
        refine w_v (y := rv ad 4 x1) rfl ?_
        refine tx_aload (x := (S.q 16 j_6 x3.toNatClampNeg).map (ad 0)) hx hb d_cSt_settle_37 (lv_at hl 0 rfl) ?_
        refine w_v (y := rv ad 0 (S.q 16 j_6 x3.toNatClampNeg)) rfl ?_
        obtain ⟨j_15, hj_16, hl_17, Heq⟩ := gn_some Heq
        refine w_s (st' := [.ref (ad 0 j_15), rv ad 4 x1]) (congrArg (fun z9 : Option Nat => [rv ad 0 z9, rv ad 4 x1]) hj_16) ?_
        refine w_s (st' := [.ref (ad 0 j_15), .ref (ad 4 j_2)]) (congrArg (fun z9 : Option Nat => [.ref (ad 0 j_15), rv ad 4 z9]) hj_3) ?_
        obtain ⟨o_18, h_19, Heq⟩ := ob_some Heq
        have hFc := fr_all hD hS hA
        refine va_calli (va_runV (As := [.ref (ad 0 j_15)]) (rest := []) ⟨hx, hb, hml, hown, hts⟩ (g_cRp_isReadyFor l D H.size (ad := ad) (cc := cc) (sad := sad) (sav := sav) h_19) (cw_v 1 hts kw_1100 kw_1097 kw_1098 kw_1099 kw_5 rfl rfl (by decide +kernel) ⟨Nat.le_of_ble_eq_true rfl, Nat.le_of_ble_eq_true rfl⟩) ⟨c_blind, va_recv hK hP (ci := 4) (q0 := cPos N 4 j_2) rfl (cw_obj (k := 4) (by decide) hl_4), fun U hU hW => c_pre hU hW hP hK hD hev hE hN hNS hS hFc⟩ rfl rfl hl.1 rfl (lv_room (Nat.le_of_ble_eq_true rfl)) d_cSt_settle_39 ⟨Nat.le_of_ble_eq_true rfl, Nat.le_of_ble_eq_true rfl⟩) hS (fun q _ h => hFc q h) hFc (fun rz u t H1 locs ht hvm hw hB hz1 hk1 hS => ?_)
        obtain ⟨hP, -, hD1⟩ := hB
        rw [ht] at hP
        have hD := hD1.weaken (fun _ q _ h => hFc q.1 h)
        generalize H1 = H at hP hS ⊢
        refine W.cs (cells' := 0) (slots' := 0) rfl rfl ?_
        subst hw
        refine lv_if_eq (tgt := 109) hx hb d_cSt_settle_42 (by decide) (fun c_20 => ?_) (fun c_20 => ?_)
        · replace Heq := (if_pos c_20).symm.trans Heq
          exact w_cSt_settle_J109 hC Heq Ka K0 _ _ _ hP hD hS (lv_sub hl [1, 2, 3, 4] rfl)
        · replace Heq := (if_neg c_20).symm.trans Heq
          refine tx_aload_n (x := x1.map (ad 4)) hx hb d_cSt_settle_45 rfl (lv_at hl 2 rfl) ?_
          refine w_v (y := rv ad 4 x1) rfl ?_
          refine w_s (st' := [.ref (ad 4 j_2)]) (congrArg (fun z9 : Option Nat => [rv ad 4 z9]) hj_3) ?_
          refine va_get (D := D) (ci := 4) (v := rv ad 14 (o_18.1.r 4 2 j_2)) (C := R_Rp) (T := F_Rp) (N := 10) hx hb hts i_Rp hown hK hP (cPos N 4 j_2) (cw_obj (k := 4) (by decide) hl_4) rfl 2 (by decide) (hts _ kw_211) (fun _ h9 => h9) rfl d_cSt_settle_46 ?_
          refine lv_iload_n hx hb d_cSt_settle_49 rfl (lv_at hl 4 rfl) ?_
          refine lv_iconst (v := 0) hx hb d_cSt_settle_50 (by decide) ?_
          obtain ⟨j_21, hj_22, hl_23, Heq⟩ := gn_some Heq
          refine w_s (st' := [.int 0, .int x3, .ref (ad 14 j_21)]) (congrArg (fun z9 : Option Nat => [.int 0, .int x3, rv ad 14 z9]) hj_22) ?_
          obtain ⟨hi_24, Heq⟩ := gd_some Heq
          refine va_zast hx hb hK hP hD hS (cPos N 14 j_21) 2 (cw_arr (k := 14) (by decide) hl_23) rfl (i := x3) (x := 0) hi_24 d_cSt_settle_51 (fun H locs hP hD hS => ?_)
          have hD := (congrArg (fun w9 => va_D A w9) (cw_setA (ad := ad) (cc := cc) (S := o_18.1) (k := 14) (i := x3.toNatClampNeg) (v := (vp_nar .boolean 0)) (by decide) hl_23)).mp hD
          have hP := (congrArg (fun w9 => va_P D cls w9 H) (cw_setA (ad := ad) (cc := cc) (S := o_18.1) (k := 14) (i := x3.toNatClampNeg) (v := (vp_nar .boolean 0)) (by decide) hl_23)).mp hP
          refine tx_aload_n (x := x1.map (ad 4)) hx hb d_cSt_settle_52 rfl (lv_at hl 2 rfl) ?_
          refine w_v (y := rv ad 4 x1) rfl ?_
          refine lv_dup hx hb d_cSt_settle_53 (by first | rfl | exact rv_cat) ?_
          refine w_s (st' := [.ref (ad 4 j_2), rv ad 4 x1]) (congrArg (fun z9 : Option Nat => [rv ad 4 z9, rv ad 4 x1]) hj_3) ?_
          refine va_get (D := D) (ci := 4) (v := .int ((o_18.1.setA 14 j_21 x3.toNatClampNeg (vp_nar .boolean 0)).i 4 6 j_2)) (C := R_Rp) (T := F_Rp) (N := 10) hx hb hts i_Rp hown hK hP (cPos N 4 j_2) (cw_obj (k := 4) (by decide) hl_4) rfl 6 (by decide) (hts _ kw_221) (fun _ h9 => h9) rfl d_cSt_settle_54 ?_
          refine w_i (y := o_18.1.i 4 6 j_2) rfl ?_
          refine lv_iconst (v := 1) hx hb d_cSt_settle_57 (by decide) ?_
          refine lv_isub hx hb d_cSt_settle_58 ?_
          refine w_i (y := (o_18.1.i 4 6 j_2) - 1) rfl ?_
          refine w_s (st' := [.int ((o_18.1.i 4 6 j_2) - 1), .ref (ad 4 j_2)]) (congrArg (fun z9 : Option Nat => [.int ((o_18.1.i 4 6 j_2) - 1), rv ad 4 z9]) hj_3) ?_
          refine va_put (D := D) (ci := 4) (v := .int ((o_18.1.i 4 6 j_2) - 1)) (ty := .int) (C := R_Rp) (T := F_Rp) (N := 10) hx hb hts i_Rp t_Rp t_Rp_ok n_Rp hown hK hP hD hS (cPos N 4 j_2) (cw_obj (k := 4) (by decide) hl_4) rfl 6 (by decide) (hts _ kw_221) (fun _ h9 => h9) rfl (by decide +kernel) rfl rfl (Nat.le_of_ble_eq_true rfl) d_cSt_settle_59 (fun H locs hP hD hS => ?_)
          have hD := (congrArg (fun w9 => va_D A w9) (cw_setI (ad := ad) (cc := cc) (S := (o_18.1.setA 14 j_21 x3.toNatClampNeg (vp_nar .boolean 0))) (k := 4) (f := 6) (v := (o_18.1.i 4 6 j_2) - 1) (by decide) rfl hl_4)).mp hD
          have hP := (congrArg (fun w9 => va_P D cls w9 H) (cw_setI (ad := ad) (cc := cc) (S := (o_18.1.setA 14 j_21 x3.toNatClampNeg (vp_nar .boolean 0))) (k := 4) (f := 6) (v := (o_18.1.i 4 6 j_2) - 1) (by decide) rfl hl_4)).mp hP
          refine tx_aload_n (x := x1.map (ad 4)) hx hb d_cSt_settle_62 rfl (lv_at hl 2 rfl) ?_
          refine w_v (y := rv ad 4 x1) rfl ?_
          refine tx_aload (x := (S.q 16 j_6 x3.toNatClampNeg).map (ad 0)) hx hb d_cSt_settle_63 (lv_at hl 0 rfl) ?_
          refine w_v (y := rv ad 0 (S.q 16 j_6 x3.toNatClampNeg)) rfl ?_
          refine w_s (st' := [.ref (ad 0 j_15), rv ad 4 x1]) (congrArg (fun z9 : Option Nat => [rv ad 0 z9, rv ad 4 x1]) hj_16) ?_
          refine w_s (st' := [.ref (ad 0 j_15), .ref (ad 4 j_2)]) (congrArg (fun z9 : Option Nat => [.ref (ad 0 j_15), rv ad 4 z9]) hj_3) ?_
          obtain ⟨o_25, h_26, Heq⟩ := ob_some Heq
          have hFc := fr_all hD hS hA
          refine va_callv (va_runV (As := [.ref (ad 0 j_15)]) (rest := []) ⟨hx, hb, hml, hown, hts⟩ (g_cRp_gain l D H.size (ad := ad) (cc := cc) (sad := sad) (sav := sav) h_26) (cw_v 1 hts kw_1050 kw_1047 kw_1048 kw_1049 kw_5 rfl rfl (by decide +kernel) ⟨Nat.le_of_ble_eq_true rfl, Nat.le_of_ble_eq_true rfl⟩) ⟨c_blind, va_recv hK hP (ci := 4) (q0 := cPos N 4 j_2) rfl (cw_obj (k := 4) (by decide) hl_4), fun U hU hW => c_pre hU hW hP hK hD hev hE hN hNS hS hFc⟩ rfl rfl hl.1 rfl (lv_room (Nat.le_of_ble_eq_true rfl)) d_cSt_settle_65 ⟨Nat.le_of_ble_eq_true rfl, Nat.le_of_ble_eq_true rfl⟩) hS (fun q _ h => hFc q h) hFc (fun u t H1 locs ht hvm hw hB hz1 hk1 hS => ?_)
          obtain ⟨hP, -, hD1⟩ := hB
          rw [ht] at hP
          have hD := hD1.weaken (fun _ q _ h => hFc q.1 h)
          generalize H1 = H at hP hS ⊢
          refine W.cs (cells' := 0) (slots' := 0) rfl rfl ?_
          refine tx_aload_n (x := x1.map (ad 4)) hx hb d_cSt_settle_68 rfl (lv_at hl 2 rfl) ?_
          refine w_v (y := rv ad 4 x1) rfl ?_
          refine lv_dup hx hb d_cSt_settle_69 (by first | rfl | exact rv_cat) ?_
          refine w_s (st' := [.ref (ad 4 j_2), rv ad 4 x1]) (congrArg (fun z9 : Option Nat => [rv ad 4 z9, rv ad 4 x1]) hj_3) ?_
          refine va_get (D := D) (ci := 4) (v := .int (o_25.i 4 7 j_2)) (C := R_Rp) (T := F_Rp) (N := 10) hx hb hts i_Rp hown hK hP (cPos N 4 j_2) (cw_obj (k := 4) (by decide) hl_4) rfl 7 (by decide) (hts _ kw_223) (fun _ h9 => h9) rfl d_cSt_settle_70 ?_
          refine tx_aload (x := (S.q 16 j_6 x3.toNatClampNeg).map (ad 0)) hx hb d_cSt_settle_73 (lv_at hl 0 rfl) ?_
          refine w_v (y := rv ad 0 (S.q 16 j_6 x3.toNatClampNeg)) rfl ?_
          refine w_s (st' := [.ref (ad 0 j_15), .int (o_25.i 4 7 j_2), rv ad 4 x1]) (congrArg (fun z9 : Option Nat => [rv ad 0 z9, .int (o_25.i 4 7 j_2), rv ad 4 x1]) hj_16) ?_
          refine va_get (D := D) (ci := 0) (v := .int (o_25.i 0 4 j_15)) (C := R_Ch) (T := F_Ch) (N := 7) hx hb hts i_Ch hown hK hP (cPos N 0 j_15) (cw_obj (k := 0) (by decide) hl_17) rfl 4 (by decide) (hts _ kw_1025) (fun _ h9 => h9) rfl d_cSt_settle_75 ?_
          refine lv_iadd hx hb d_cSt_settle_78 ?_
          refine w_i (y := (o_25.i 4 7 j_2) + (o_25.i 0 4 j_15)) rfl ?_
          refine w_s (st' := [.int ((o_25.i 4 7 j_2) + (o_25.i 0 4 j_15)), .ref (ad 4 j_2)]) (congrArg (fun z9 : Option Nat => [.int ((o_25.i 4 7 j_2) + (o_25.i 0 4 j_15)), rv ad 4 z9]) hj_3) ?_
          refine va_put (D := D) (ci := 4) (v := .int ((o_25.i 4 7 j_2) + (o_25.i 0 4 j_15))) (ty := .int) (C := R_Rp) (T := F_Rp) (N := 10) hx hb hts i_Rp t_Rp t_Rp_ok n_Rp hown hK hP hD hS (cPos N 4 j_2) (cw_obj (k := 4) (by decide) hl_4) rfl 7 (by decide) (hts _ kw_223) (fun _ h9 => h9) rfl (by decide +kernel) rfl rfl (Nat.le_of_ble_eq_true rfl) d_cSt_settle_79 (fun H locs hP hD hS => ?_)
          have hD := (congrArg (fun w9 => va_D A w9) (cw_setI (ad := ad) (cc := cc) (S := o_25) (k := 4) (f := 7) (v := (o_25.i 4 7 j_2) + (o_25.i 0 4 j_15)) (by decide) rfl hl_4)).mp hD
          have hP := (congrArg (fun w9 => va_P D cls w9 H) (cw_setI (ad := ad) (cc := cc) (S := o_25) (k := 4) (f := 7) (v := (o_25.i 4 7 j_2) + (o_25.i 0 4 j_15)) (by decide) rfl hl_4)).mp hP
          refine tx_aload_n (x := x1.map (ad 4)) hx hb d_cSt_settle_82 rfl (lv_at hl 2 rfl) ?_
          refine w_v (y := rv ad 4 x1) rfl ?_
          refine tx_aload_n (x := x1.map (ad 4)) hx hb d_cSt_settle_83 rfl (lv_at hl 2 rfl) ?_
          refine w_v (y := rv ad 4 x1) rfl ?_
          refine w_s (st' := [.ref (ad 4 j_2), rv ad 4 x1]) (congrArg (fun z9 : Option Nat => [rv ad 4 z9, rv ad 4 x1]) hj_3) ?_
          refine va_get (D := D) (ci := 4) (v := .int ((o_25.setI 4 7 j_2 ((o_25.i 4 7 j_2) + (o_25.i 0 4 j_15))).i 4 8 j_2)) (C := R_Rp) (T := F_Rp) (N := 10) hx hb hts i_Rp hown hK hP (cPos N 4 j_2) (cw_obj (k := 4) (by decide) hl_4) rfl 8 (by decide) (hts _ kw_226) (fun _ h9 => h9) rfl d_cSt_settle_84 ?_
          refine w_i (y := o_25.i 4 8 j_2) rfl ?_
          refine tx_aload (x := (S.q 16 j_6 x3.toNatClampNeg).map (ad 0)) hx hb d_cSt_settle_87 (lv_at hl 0 rfl) ?_
          refine w_v (y := rv ad 0 (S.q 16 j_6 x3.toNatClampNeg)) rfl ?_
          refine w_s (st' := [.ref (ad 0 j_15), .int (o_25.i 4 8 j_2), rv ad 4 x1]) (congrArg (fun z9 : Option Nat => [rv ad 0 z9, .int (o_25.i 4 8 j_2), rv ad 4 x1]) hj_16) ?_
          refine va_get (D := D) (ci := 0) (v := .int ((o_25.setI 4 7 j_2 ((o_25.i 4 7 j_2) + (o_25.i 0 4 j_15))).i 0 3 j_15)) (C := R_Ch) (T := F_Ch) (N := 7) hx hb hts i_Ch hown hK hP (cPos N 0 j_15) (cw_obj (k := 0) (by decide) hl_17) rfl 3 (by decide) (hts _ kw_1022) (fun _ h9 => h9) rfl d_cSt_settle_89 ?_
          refine w_i (y := o_25.i 0 3 j_15) rfl ?_
          refine tx_aload (x := (S.q 16 j_6 x3.toNatClampNeg).map (ad 0)) hx hb d_cSt_settle_92 (lv_at hl 0 rfl) ?_
          refine w_v (y := rv ad 0 (S.q 16 j_6 x3.toNatClampNeg)) rfl ?_
          refine w_s (st' := [.ref (ad 0 j_15), .int (o_25.i 0 3 j_15), .int (o_25.i 4 8 j_2), rv ad 4 x1]) (congrArg (fun z9 : Option Nat => [rv ad 0 z9, .int (o_25.i 0 3 j_15), .int (o_25.i 4 8 j_2), rv ad 4 x1]) hj_16) ?_
          refine va_get (D := D) (ci := 0) (v := .int ((o_25.setI 4 7 j_2 ((o_25.i 4 7 j_2) + (o_25.i 0 4 j_15))).i 0 4 j_15)) (C := R_Ch) (T := F_Ch) (N := 7) hx hb hts i_Ch hown hK hP (cPos N 0 j_15) (cw_obj (k := 0) (by decide) hl_17) rfl 4 (by decide) (hts _ kw_1025) (fun _ h9 => h9) rfl d_cSt_settle_94 ?_
          refine w_i (y := o_25.i 0 4 j_15) rfl ?_
          refine lv_iadd hx hb d_cSt_settle_97 ?_
          refine w_i (y := (o_25.i 0 3 j_15) + (o_25.i 0 4 j_15)) rfl ?_
          refine lv_iconst (v := 1) hx hb d_cSt_settle_98 (by decide) ?_
          refine lv_isub hx hb d_cSt_settle_99 ?_
          refine w_i (y := ((o_25.i 0 3 j_15) + (o_25.i 0 4 j_15)) - 1) rfl ?_
          refine va_mmax hx hb (hml.trans hl.1.symm) hown (hts _ kw_1101) (hts _ kw_1102) (hts _ kw_21) (hts _ kw_1103) (Nat.le_of_ble_eq_true rfl) (by simp only [List.map_cons, List.map_nil, List.sum_cons, List.sum_nil, rv_cat]; exact Nat.le_of_ble_eq_true rfl) (Nat.le_of_ble_eq_true rfl) (Nat.le_of_ble_eq_true rfl) d_cSt_settle_100 ?_
          refine w_s (st' := [.int (if o_25.i 4 8 j_2 < ((o_25.i 0 3 j_15) + (o_25.i 0 4 j_15)) - 1 then ((o_25.i 0 3 j_15) + (o_25.i 0 4 j_15)) - 1 else o_25.i 4 8 j_2), .ref (ad 4 j_2)]) (congrArg (fun z9 : Option Nat => [.int (if o_25.i 4 8 j_2 < ((o_25.i 0 3 j_15) + (o_25.i 0 4 j_15)) - 1 then ((o_25.i 0 3 j_15) + (o_25.i 0 4 j_15)) - 1 else o_25.i 4 8 j_2), rv ad 4 z9]) hj_3) ?_
          refine va_put (D := D) (ci := 4) (v := .int (if o_25.i 4 8 j_2 < ((o_25.i 0 3 j_15) + (o_25.i 0 4 j_15)) - 1 then ((o_25.i 0 3 j_15) + (o_25.i 0 4 j_15)) - 1 else o_25.i 4 8 j_2)) (ty := .int) (C := R_Rp) (T := F_Rp) (N := 10) hx hb hts i_Rp t_Rp t_Rp_ok n_Rp hown hK hP hD hS (cPos N 4 j_2) (cw_obj (k := 4) (by decide) hl_4) rfl 8 (by decide) (hts _ kw_226) (fun _ h9 => h9) rfl (by decide +kernel) rfl rfl (Nat.le_of_ble_eq_true rfl) d_cSt_settle_103 (fun H locs hP hD hS => ?_)
          have hD := (congrArg (fun w9 => va_D A w9) (cw_setI (ad := ad) (cc := cc) (S := (o_25.setI 4 7 j_2 ((o_25.i 4 7 j_2) + (o_25.i 0 4 j_15)))) (k := 4) (f := 8) (v := if o_25.i 4 8 j_2 < ((o_25.i 0 3 j_15) + (o_25.i 0 4 j_15)) - 1 then ((o_25.i 0 3 j_15) + (o_25.i 0 4 j_15)) - 1 else o_25.i 4 8 j_2) (by decide) rfl hl_4)).mp hD
          have hP := (congrArg (fun w9 => va_P D cls w9 H) (cw_setI (ad := ad) (cc := cc) (S := (o_25.setI 4 7 j_2 ((o_25.i 4 7 j_2) + (o_25.i 0 4 j_15)))) (k := 4) (f := 8) (v := if o_25.i 4 8 j_2 < ((o_25.i 0 3 j_15) + (o_25.i 0 4 j_15)) - 1 then ((o_25.i 0 3 j_15) + (o_25.i 0 4 j_15)) - 1 else o_25.i 4 8 j_2) (by decide) rfl hl_4)).mp hP
          refine lv_iinc (v := x2 + 1) (lv' := [(2, .int (x2 + 1)), (4, rv ad 0 (S.q 16 j_6 x3.toNatClampNeg)), (0, .ref (ad 8 x0)), (1, rv ad 4 x1), (3, .int x3)]) hx hb d_cSt_settle_106 hl (k := 3) rfl rfl (by decide) (by simp [rv, rf_cat]) (fun ls hl => ?_)
          exact w_cSt_settle_J109 hC Heq Ka K0 _ _ _ hP hD hS (lv_sub hl [2, 3, 0, 4] rfl)
def m_cSt_settle_L4 (N : Nat → Nat) (x0 : Nat) (S : CS) (x1 : Option Nat) (x2 : Int32) (x3 : Int32) : Option (CS × Int32) := lp (fun a : CS × Option Nat × Int32 × Int32 => m_cSt_settle_B4 N x0 a.1 a.2.1 a.2.2.1 a.2.2.2) FU (S, x1, x2, x3)
theorem w_cSt_settle_L4 {p : Program} {l : Launch} {e : Env} {s : State} {m : MethodId} {args : Array Value} {below : List Frame} {meth : Method} {c : Code} {A : Nat → Prop} {D : va_G} {ad : Nat → Nat → Nat} {cc : Nat → ClassId} {sad sav : Nat → Nat} {Q : State → Prop} (hC : MCc sad sav "JoinedTrees$Store" prog_10_method_13_code 5 (some .int) p s m args meth c A D cc) {N : Nat → Nat} {x0 : Nat} {S : CS} {x1 : Option Nat} {x2 : Int32} {x3 : Int32} {o : CS × Int32} (Heq : m_cSt_settle_L4 N x0 S x1 x2 x3 = some o) (K0 : ∀ b : CS × Int32, o = b → ∀ (H : Heap) (locs : List Loc) (ls : Array Slot), va_P D cls (cw ad cc N b.1) H → va_D A (cw ad cc N b.1) → va_S A s.heap H locs → lv_has ls 5 [(0, .ref (ad 8 x0)), (2, .int b.2)] → W p l e ({ frames := 2, cells := 0, slots := 0, locals := 43 }) s m args below meth c H locs 0 0 Q (F0 m 115 ls [])) : ∀ (H : Heap) (locs : List Loc) (ls : Array Slot), va_P D cls (cw ad cc N S) H → va_D A (cw ad cc N S) → va_S A s.heap H locs → lv_has ls 5 [(0, .ref (ad 8 x0)), (1, rv ad 4 x1), (2, .int x2), (3, .int x3)] → W p l e ({ frames := 2, cells := 0, slots := 0, locals := 43 }) s m args below meth c H locs 0 0 Q (F0 m 4 ls []) := by
  refine lp_w (G := fun a : CS × Option Nat × Int32 × Int32 => ∀ (H : Heap) (locs : List Loc) (ls : Array Slot), va_P D cls (cw ad cc N a.1) H → va_D A (cw ad cc N a.1) → va_S A s.heap H locs → lv_has ls 5 [(0, .ref (ad 8 x0)), (1, rv ad 4 a.2.1), (2, .int a.2.2.1), (3, .int a.2.2.2)] → W p l e ({ frames := 2, cells := 0, slots := 0, locals := 43 }) s m args below meth c H locs 0 0 Q (F0 m 4 ls [])) ?_ FU (S, x1, x2, x3) Heq
  intro a o1 ho Ka Ke
  exact w_cSt_settle_B4 hC ho (fun b h => Ka b h) (fun b h => K0 b (Ke _ h).symm)
def m_cSt_settle_J115 (N : Nat → Nat) (x0 : Nat) (S : CS) (x2 : Int32) : Option (CS × Int32) := some (S, x2)
theorem d_cSt_settle_115 : decode prog_10_method_13_code 115 = .ok (.iload_n 2, 1) := by decide +kernel
theorem d_cSt_settle_116 : decode prog_10_method_13_code 116 = .ok (.ireturn, 1) := by decide +kernel
set_option maxHeartbeats 4000000 in
set_option maxRecDepth 100000 in
theorem w_cSt_settle_J115 {p : Program} {l : Launch} {e : Env} {s : State} {m : MethodId} {args : Array Value} {below : List Frame} {meth : Method} {c : Code} {A : Nat → Prop} {D : va_G} {ad : Nat → Nat → Nat} {cc : Nat → ClassId} {sad sav : Nat → Nat} {Q : State → Prop} (hC : MCc sad sav "JoinedTrees$Store" prog_10_method_13_code 5 (some .int) p s m args meth c A D cc) {N : Nat → Nat} {x0 : Nat} {S : CS} {x2 : Int32} {o : CS × Int32} (Heq : m_cSt_settle_J115 N x0 S x2 = some o) (Kr : ∀ r : CS × Int32, o = r → ∀ (pc : Nat) (H : Heap) (locs : List Loc) (ls : Array Slot), decode prog_10_method_13_code pc = .ok (.ireturn, 1) → va_P D cls (cw ad cc N r.1) H → va_D A (cw ad cc N r.1) → va_S A s.heap H locs → W p l e ({ frames := 2, cells := 0, slots := 0, locals := 43 }) s m args below meth c H locs 0 0 Q (F0 m pc ls [.int r.2])) : ∀ (H : Heap) (locs : List Loc) (ls : Array Slot), va_P D cls (cw ad cc N S) H → va_D A (cw ad cc N S) → va_S A s.heap H locs → lv_has ls 5 [(0, .ref (ad 8 x0)), (2, .int x2)] → W p l e ({ frames := 2, cells := 0, slots := 0, locals := 43 }) s m args below meth c H locs 0 0 Q (F0 m 115 ls []) := by
  intro H locs ls hP hD hS hl
  obtain ⟨hx, hb, hr, hml, hown, hts, hK, hA, hev, hE, hN, hNS⟩ := id hC
  unfold m_cSt_settle_J115 at Heq
  refine lv_iload_n hx hb d_cSt_settle_115 rfl (lv_at hl 1 rfl) ?_
  exact Kr _ (Option.some.inj Heq).symm 116 _ _ _ d_cSt_settle_116 hP hD hS
def m_cSt_settle_J0 (N : Nat → Nat) (x0 : Nat) (S : CS) (x1 : Nat) : Option (CS × Int32) := ob (m_cSt_settle_L4 N x0 S (some x1) 0 0) (fun b_1 => m_cSt_settle_J115 N x0 b_1.1 b_1.2)
set_option maxHeartbeats 4000000 in
set_option maxRecDepth 100000 in
theorem w_cSt_settle_J0 {p : Program} {l : Launch} {e : Env} {s : State} {m : MethodId} {args : Array Value} {below : List Frame} {meth : Method} {c : Code} {A : Nat → Prop} {D : va_G} {ad : Nat → Nat → Nat} {cc : Nat → ClassId} {sad sav : Nat → Nat} {Q : State → Prop} (hC : MCc sad sav "JoinedTrees$Store" prog_10_method_13_code 5 (some .int) p s m args meth c A D cc) {N : Nat → Nat} {x0 : Nat} {S : CS} {x1 : Nat} {o : CS × Int32} (Heq : m_cSt_settle_J0 N x0 S x1 = some o) (Kr : ∀ r : CS × Int32, o = r → ∀ (pc : Nat) (H : Heap) (locs : List Loc) (ls : Array Slot), decode prog_10_method_13_code pc = .ok (.ireturn, 1) → va_P D cls (cw ad cc N r.1) H → va_D A (cw ad cc N r.1) → va_S A s.heap H locs → W p l e ({ frames := 2, cells := 0, slots := 0, locals := 43 }) s m args below meth c H locs 0 0 Q (F0 m pc ls [.int r.2])) : ∀ (H : Heap) (locs : List Loc) (ls : Array Slot), va_P D cls (cw ad cc N S) H → va_D A (cw ad cc N S) → va_S A s.heap H locs → lv_has ls 5 [(0, .ref (ad 8 x0)), (1, .ref (ad 4 x1))] → W p l e ({ frames := 2, cells := 0, slots := 0, locals := 43 }) s m args below meth c H locs 0 0 Q (F0 m 0 ls []) := by
  intro H locs ls hP hD hS hl
  obtain ⟨hx, hb, hr, hml, hown, hts, hK, hA, hev, hE, hN, hNS⟩ := id hC
  unfold m_cSt_settle_J0 at Heq
  refine lv_iconst (v := 0) hx hb d_cSt_settle_0 (by decide) ?_
  refine lv_istore_n (lv' := [(2, .int 0), (0, .ref (ad 8 x0)), (1, .ref (ad 4 x1))]) hx hb d_cSt_settle_1 rfl hl (by decide) rfl (fun ls hl => ?_)
  refine lv_iconst (v := 0) hx hb d_cSt_settle_2 (by decide) ?_
  refine lv_istore_n (lv' := [(3, .int 0), (2, .int 0), (0, .ref (ad 8 x0)), (1, .ref (ad 4 x1))]) hx hb d_cSt_settle_3 rfl hl (by decide) rfl (fun ls hl => ?_)
  obtain ⟨b_1, h_2, Heq⟩ := ob_some Heq
  refine w_cSt_settle_L4 hC h_2 (fun b h => ?_) _ _ _ hP hD hS (lv_sub hl [2, 3, 1, 0] rfl)
  subst h
  intro H locs ls hP hD hS hl
  exact w_cSt_settle_J115 hC Heq Kr _ _ _ hP hD hS (lv_sub hl [0, 1] rfl)
def m_cSt_settle (N : Nat → Nat) (x0 : Nat) (S : CS) (x1 : Nat) : Option (CS × Int32) := m_cSt_settle_J0 N x0 S x1
set_option maxHeartbeats 4000000 in
theorem g_cSt_settle (l : Launch) (D : va_G) (sz : Nat) {ad : Nat → Nat → Nat} {cc : Nat → ClassId} {sad sav : Nat → Nat} {N : Nat → Nat} {x0 : Nat} {S : CS} {x1 : Nat} {o : CS × Int32} (Heq : m_cSt_settle N x0 S x1 = some o) : Met l ⟨"JoinedTrees$Store", "settle", "(LJoinedTrees$Replica;)I"⟩ (Cond.code ⟨"JoinedTrees$Store", "settle", "(LJoinedTrees$Replica;)I"⟩ prog_10_method_13_code 5 (some .int) :: gb) ({ frames := 2, cells := 0, slots := 0, locals := 43 }) (cPc sad sav D (cw ad cc N S) (cty cc) sz [.ref (ad 8 x0), .ref (ad 4 x1)]) (va_Qi (fun (r : Int32) (_ : Unit) => r = o.2) (fun _ t => gO D (cw ad cc N o.1) (cty cc) (va_A (cw ad cc N S) sz) t) (va_A (cw ad cc N S) sz)) 0 0 (va_A (cw ad cc N S) sz) := by
  refine Met.ofW (cc := prog_10_method_13_code) (maxL := 5) (ret := (some .int)) (by decide) rfl ?_
  intro p e s m args below meth c s₁ B hml hv
  obtain ⟨rfl, hsz, hP, hK, hD0, hev, hE, hN⟩ := hv
  have hx := B.exec
  have hb := B.bytes
  have hr := B.returns
  have hts : ∀ w9 ∈ gb, w9.before [.ref (ad 8 x0), .ref (ad 4 x1)].toArray s = true := fun w9 h => atoms_spec (ws := Cond.code ⟨"JoinedTrees$Store", "settle", "(LJoinedTrees$Replica;)I"⟩ prog_10_method_13_code 5 (some .int) :: gb) B.pre w9 (List.mem_cons_of_mem _ h)
  have hown : s.vm.findClass "JoinedTrees$Store" = some m.cls := findClass_of_methodNamed B.named
  have hlocks := B.notSynchronized
  have hNS := ns_of hP
  subst hsz
  have hD := hD0.self (sz := s.heap.size)
  generalize hAe : va_A (cw ad cc N S) s.heap.size = A at hD hev hE hNS ⊢
  have hA : ∀ q : Nat, s.heap.size ≤ q → A q := fun q h => by rw [← hAe]; exact Or.inr h
  have hS : va_S A s.heap s.heap [] := va_S.rf
  obtain ⟨ls, hl, hle⟩ : ∃ ls : Array Slot, lv_has ls 5 [(0, .ref (ad 8 x0)), (1, .ref (ad 4 x1))] ∧ entryFrame m ([.ref (ad 8 x0), .ref (ad 4 x1)] : List Value).toArray 5 = F0 m 0 ls [] := by
    exact ⟨_, lv_entry (n := 5) _ (Nat.le_of_ble_eq_true rfl), lg_entry_eq ..⟩
  rw [hle]
  refine w_cSt_settle_J0 ⟨hx, hb, hr, hml, hown, hts, hK, hA, hev, hE, hN, hNS⟩ Heq (fun r h pc H locs ls hd hP hD hS => ?_) _ _ _ hP hD hS (lv_sub hl [0, 1] rfl)
  subst h
  exact W.iret hx hb hr (fun t ht hW => ⟨⟨_, (), rfl, rfl, by rw [ht]; exact hP, va_K.moved hW.alike hK, hD⟩, hS.F ht⟩) hS.2.2 hd
def m_cRp_changesInView_B16 (N : Nat → Nat) (x0 : Nat) (S : CS) (x1 : Int32) (x2 : Int32) : Option ((CS × Int32 × Int32) ⊕ (CS × Int32)) := (if 8 ≤ x2 then some (.inr (S, x1)) else gl x0 (N 4) (gn (S.r 4 4 x0) (N 0) (fun j_2 => gn (S.r 0 6 j_2) (N 12) (fun j_5 => gd x2 (S.z 12 j_5) (some (.inl (S, (x1 + (S.a 12 j_5 x2.toNatClampNeg)), (x2 + 1))))))))
theorem d_cRp_changesInView_0 : decode prog_6_method_8_code 0 = .ok (.aload_n 0, 1) := by decide +kernel
theorem d_cRp_changesInView_1 : decode prog_6_method_8_code 1 = .ok (.getfield 53, 3) := by decide +kernel
theorem d_cRp_changesInView_4 : decode prog_6_method_8_code 4 = .ok (.ifnonnull 8, 3) := by decide +kernel
theorem d_cRp_changesInView_7 : decode prog_6_method_8_code 7 = .ok (.aload_n 0, 1) := by decide +kernel
theorem d_cRp_changesInView_8 : decode prog_6_method_8_code 8 = .ok (.getfield 46, 3) := by decide +kernel
theorem d_cRp_changesInView_11 : decode prog_6_method_8_code 11 = .ok (.ireturn, 1) := by decide +kernel
theorem d_cRp_changesInView_12 : decode prog_6_method_8_code 12 = .ok (.iconst 0, 1) := by decide +kernel
theorem d_cRp_changesInView_13 : decode prog_6_method_8_code 13 = .ok (.istore_n 1, 1) := by decide +kernel
theorem d_cRp_changesInView_14 : decode prog_6_method_8_code 14 = .ok (.iconst 0, 1) := by decide +kernel
theorem d_cRp_changesInView_15 : decode prog_6_method_8_code 15 = .ok (.istore_n 2, 1) := by decide +kernel
theorem d_cRp_changesInView_16 : decode prog_6_method_8_code 16 = .ok (.iload_n 2, 1) := by decide +kernel
theorem d_cRp_changesInView_17 : decode prog_6_method_8_code 17 = .ok (.bipush 8, 2) := by decide +kernel
theorem d_cRp_changesInView_19 : decode prog_6_method_8_code 19 = .ok (.if_icmp .ge 21, 3) := by decide +kernel
theorem d_cRp_changesInView_22 : decode prog_6_method_8_code 22 = .ok (.iload_n 1, 1) := by decide +kernel
theorem d_cRp_changesInView_23 : decode prog_6_method_8_code 23 = .ok (.aload_n 0, 1) := by decide +kernel
theorem d_cRp_changesInView_24 : decode prog_6_method_8_code 24 = .ok (.getfield 53, 3) := by decide +kernel
theorem d_cRp_changesInView_27 : decode prog_6_method_8_code 27 = .ok (.getfield 57, 3) := by decide +kernel
theorem d_cRp_changesInView_30 : decode prog_6_method_8_code 30 = .ok (.iload_n 2, 1) := by decide +kernel
theorem d_cRp_changesInView_31 : decode prog_6_method_8_code 31 = .ok (.iaload, 1) := by decide +kernel
theorem d_cRp_changesInView_32 : decode prog_6_method_8_code 32 = .ok (.iadd, 1) := by decide +kernel
theorem d_cRp_changesInView_33 : decode prog_6_method_8_code 33 = .ok (.istore_n 1, 1) := by decide +kernel
theorem d_cRp_changesInView_34 : decode prog_6_method_8_code 34 = .ok (.iinc 2 1, 3) := by decide +kernel
theorem d_cRp_changesInView_37 : decode prog_6_method_8_code 37 = .ok (.goto (-21), 3) := by decide +kernel
set_option maxHeartbeats 4000000 in
set_option maxRecDepth 100000 in
theorem w_cRp_changesInView_B16 {p : Program} {l : Launch} {e : Env} {s : State} {m : MethodId} {args : Array Value} {below : List Frame} {meth : Method} {c : Code} {A : Nat → Prop} {D : va_G} {ad : Nat → Nat → Nat} {cc : Nat → ClassId} {sad sav : Nat → Nat} {Q : State → Prop} (hC : MCc sad sav "JoinedTrees$Replica" prog_6_method_8_code 3 (some .int) p s m args meth c A D cc) {N : Nat → Nat} {x0 : Nat} {S : CS} {x1 : Int32} {x2 : Int32} {o : ((CS × Int32 × Int32) ⊕ (CS × Int32))} (Heq : m_cRp_changesInView_B16 N x0 S x1 x2 = some o) (Ka : ∀ b : CS × Int32 × Int32, o = .inl b → ∀ (H : Heap) (locs : List Loc) (ls : Array Slot), va_P D cls (cw ad cc N b.1) H → va_D A (cw ad cc N b.1) → va_S A s.heap H locs → lv_has ls 3 [(0, .ref (ad 4 x0)), (1, .int b.2.1), (2, .int b.2.2)] → W p l e ({ frames := 0, cells := 0, slots := 0, locals := 0 }) s m args below meth c H locs 0 0 Q (F0 m 16 ls [])) (K0 : ∀ b : CS × Int32, o = .inr b → ∀ (H : Heap) (locs : List Loc) (ls : Array Slot), va_P D cls (cw ad cc N b.1) H → va_D A (cw ad cc N b.1) → va_S A s.heap H locs → lv_has ls 3 [(0, .ref (ad 4 x0)), (1, .int b.2)] → W p l e ({ frames := 0, cells := 0, slots := 0, locals := 0 }) s m args below meth c H locs 0 0 Q (F0 m 40 ls [])) : ∀ (H : Heap) (locs : List Loc) (ls : Array Slot), va_P D cls (cw ad cc N S) H → va_D A (cw ad cc N S) → va_S A s.heap H locs → lv_has ls 3 [(0, .ref (ad 4 x0)), (1, .int x1), (2, .int x2)] → W p l e ({ frames := 0, cells := 0, slots := 0, locals := 0 }) s m args below meth c H locs 0 0 Q (F0 m 16 ls []) := by
  intro H locs ls hP hD hS hl
  obtain ⟨hx, hb, hr, hml, hown, hts, hK, hA, hev, hE, hN, hNS⟩ := id hC
  unfold m_cRp_changesInView_B16 at Heq
  refine lv_iload_n hx hb d_cRp_changesInView_16 rfl (lv_at hl 2 rfl) ?_
  refine lv_bipush (v := 8) hx hb d_cRp_changesInView_17 (by decide) ?_
  refine lv_icmp_ge (tgt := 40) hx hb d_cRp_changesInView_19 (by decide) (fun c_1 => ?_) (fun c_1 => ?_)
  · replace Heq := (if_pos c_1).symm.trans Heq
    exact K0 _ (Option.some.inj Heq).symm _ _ _ hP hD hS (lv_sub hl [0, 1] rfl)
  · replace Heq := (if_neg c_1).symm.trans Heq
    refine lv_iload_n hx hb d_cRp_changesInView_22 rfl (lv_at hl 1 rfl) ?_
    refine lv_aload_n hx hb d_cRp_changesInView_23 rfl (lv_at hl 0 rfl) ?_
    obtain ⟨hl_x0_4, Heq⟩ := gl_some Heq
    refine va_get (D := D) (ci := 4) (v := rv ad 0 (S.r 4 4 x0)) (C := R_Rp) (T := F_Rp) (N := 10) hx hb hts i_Rp hown hK hP (cPos N 4 x0) (cw_obj (k := 4) (by decide) hl_x0_4) rfl 4 (by decide) (hts _ kw_215) (fun _ h9 => h9) rfl d_cRp_changesInView_24 ?_
    obtain ⟨j_2, hj_3, hl_4, Heq⟩ := gn_some Heq
    refine w_s (st' := [.ref (ad 0 j_2), .int x1]) (congrArg (fun z9 : Option Nat => [rv ad 0 z9, .int x1]) hj_3) ?_
    refine va_get (D := D) (ci := 0) (v := rv ad 12 (S.r 0 6 j_2)) (C := R_Ch) (T := F_Ch) (N := 7) hx hb hts i_Ch hown hK hP (cPos N 0 j_2) (cw_obj (k := 0) (by decide) hl_4) rfl 6 (by decide) (hts _ kw_1030) (fun _ h9 => h9) rfl d_cRp_changesInView_27 ?_
    refine lv_iload_n hx hb d_cRp_changesInView_30 rfl (lv_at hl 2 rfl) ?_
    obtain ⟨j_5, hj_6, hl_7, Heq⟩ := gn_some Heq
    refine w_s (st' := [.int x2, .ref (ad 12 j_5), .int x1]) (congrArg (fun z9 : Option Nat => [.int x2, rv ad 12 z9, .int x1]) hj_6) ?_
    obtain ⟨hi_8, Heq⟩ := gd_some Heq
    refine va_iald hx hb hK hP (cPos N 12 j_5) 0 (cw_arr (k := 12) (by decide) hl_7) rfl (i := x2) hi_8 d_cRp_changesInView_31 ?_
    refine w_i (y := S.a 12 j_5 x2.toNatClampNeg) rfl ?_
    refine lv_iadd hx hb d_cRp_changesInView_32 ?_
    refine w_i (y := x1 + (S.a 12 j_5 x2.toNatClampNeg)) rfl ?_
    refine lv_istore_n (lv' := [(1, .int (x1 + (S.a 12 j_5 x2.toNatClampNeg))), (0, .ref (ad 4 x0)), (2, .int x2)]) hx hb d_cRp_changesInView_33 rfl hl (by decide) rfl (fun ls hl => ?_)
    refine lv_iinc (v := x2 + 1) (lv' := [(2, .int (x2 + 1)), (1, .int (x1 + (S.a 12 j_5 x2.toNatClampNeg))), (0, .ref (ad 4 x0))]) hx hb d_cRp_changesInView_34 hl (k := 2) rfl rfl (by decide) rfl (fun ls hl => ?_)
    refine lv_goto (tgt := 16) hx hb d_cRp_changesInView_37 (by decide) ?_
    exact Ka _ (Option.some.inj Heq).symm _ _ _ hP hD hS (lv_sub hl [2, 1, 0] rfl)
def m_cRp_changesInView_L16 (N : Nat → Nat) (x0 : Nat) (S : CS) (x1 : Int32) (x2 : Int32) : Option (CS × Int32) := lp (fun a : CS × Int32 × Int32 => m_cRp_changesInView_B16 N x0 a.1 a.2.1 a.2.2) FU (S, x1, x2)
theorem w_cRp_changesInView_L16 {p : Program} {l : Launch} {e : Env} {s : State} {m : MethodId} {args : Array Value} {below : List Frame} {meth : Method} {c : Code} {A : Nat → Prop} {D : va_G} {ad : Nat → Nat → Nat} {cc : Nat → ClassId} {sad sav : Nat → Nat} {Q : State → Prop} (hC : MCc sad sav "JoinedTrees$Replica" prog_6_method_8_code 3 (some .int) p s m args meth c A D cc) {N : Nat → Nat} {x0 : Nat} {S : CS} {x1 : Int32} {x2 : Int32} {o : CS × Int32} (Heq : m_cRp_changesInView_L16 N x0 S x1 x2 = some o) (K0 : ∀ b : CS × Int32, o = b → ∀ (H : Heap) (locs : List Loc) (ls : Array Slot), va_P D cls (cw ad cc N b.1) H → va_D A (cw ad cc N b.1) → va_S A s.heap H locs → lv_has ls 3 [(0, .ref (ad 4 x0)), (1, .int b.2)] → W p l e ({ frames := 0, cells := 0, slots := 0, locals := 0 }) s m args below meth c H locs 0 0 Q (F0 m 40 ls [])) : ∀ (H : Heap) (locs : List Loc) (ls : Array Slot), va_P D cls (cw ad cc N S) H → va_D A (cw ad cc N S) → va_S A s.heap H locs → lv_has ls 3 [(0, .ref (ad 4 x0)), (1, .int x1), (2, .int x2)] → W p l e ({ frames := 0, cells := 0, slots := 0, locals := 0 }) s m args below meth c H locs 0 0 Q (F0 m 16 ls []) := by
  refine lp_w (G := fun a : CS × Int32 × Int32 => ∀ (H : Heap) (locs : List Loc) (ls : Array Slot), va_P D cls (cw ad cc N a.1) H → va_D A (cw ad cc N a.1) → va_S A s.heap H locs → lv_has ls 3 [(0, .ref (ad 4 x0)), (1, .int a.2.1), (2, .int a.2.2)] → W p l e ({ frames := 0, cells := 0, slots := 0, locals := 0 }) s m args below meth c H locs 0 0 Q (F0 m 16 ls [])) ?_ FU (S, x1, x2) Heq
  intro a o1 ho Ka Ke
  exact w_cRp_changesInView_B16 hC ho (fun b h => Ka b h) (fun b h => K0 b (Ke _ h).symm)
def m_cRp_changesInView_J0 (N : Nat → Nat) (x0 : Nat) (S : CS) : Option (CS × Int32) := gl x0 (N 4) (on (S.r 4 4 x0) (some (S, S.i 4 5 x0)) (fun j_1 => ob (m_cRp_changesInView_L16 N x0 S 0 0) (fun b_3 => some (b_3.1, b_3.2))))
theorem d_cRp_changesInView_40 : decode prog_6_method_8_code 40 = .ok (.iload_n 1, 1) := by decide +kernel
theorem d_cRp_changesInView_41 : decode prog_6_method_8_code 41 = .ok (.ireturn, 1) := by decide +kernel
set_option maxHeartbeats 4000000 in
set_option maxRecDepth 100000 in
theorem w_cRp_changesInView_J0 {p : Program} {l : Launch} {e : Env} {s : State} {m : MethodId} {args : Array Value} {below : List Frame} {meth : Method} {c : Code} {A : Nat → Prop} {D : va_G} {ad : Nat → Nat → Nat} {cc : Nat → ClassId} {sad sav : Nat → Nat} {Q : State → Prop} (hC : MCc sad sav "JoinedTrees$Replica" prog_6_method_8_code 3 (some .int) p s m args meth c A D cc) {N : Nat → Nat} {x0 : Nat} {S : CS} {o : CS × Int32} (Heq : m_cRp_changesInView_J0 N x0 S = some o) (Kr : ∀ r : CS × Int32, o = r → ∀ (pc : Nat) (H : Heap) (locs : List Loc) (ls : Array Slot), decode prog_6_method_8_code pc = .ok (.ireturn, 1) → va_P D cls (cw ad cc N r.1) H → va_D A (cw ad cc N r.1) → va_S A s.heap H locs → W p l e ({ frames := 0, cells := 0, slots := 0, locals := 0 }) s m args below meth c H locs 0 0 Q (F0 m pc ls [.int r.2])) : ∀ (H : Heap) (locs : List Loc) (ls : Array Slot), va_P D cls (cw ad cc N S) H → va_D A (cw ad cc N S) → va_S A s.heap H locs → lv_has ls 3 [(0, .ref (ad 4 x0))] → W p l e ({ frames := 0, cells := 0, slots := 0, locals := 0 }) s m args below meth c H locs 0 0 Q (F0 m 0 ls []) := by
  intro H locs ls hP hD hS hl
  obtain ⟨hx, hb, hr, hml, hown, hts, hK, hA, hev, hE, hN, hNS⟩ := id hC
  unfold m_cRp_changesInView_J0 at Heq
  refine lv_aload_n hx hb d_cRp_changesInView_0 rfl (lv_at hl 0 rfl) ?_
  obtain ⟨hl_x0_4, Heq⟩ := gl_some Heq
  refine va_get (D := D) (ci := 4) (v := rv ad 0 (S.r 4 4 x0)) (C := R_Rp) (T := F_Rp) (N := 10) hx hb hts i_Rp hown hK hP (cPos N 4 x0) (cw_obj (k := 4) (by decide) hl_x0_4) rfl 4 (by decide) (hts _ kw_215) (fun _ h9 => h9) rfl d_cRp_changesInView_1 ?_
  rcases on_some Heq with ⟨hj_2, Heq⟩ | ⟨j_1, hj_2, Heq⟩
  · refine w_s (st' := [.null]) (congrArg (fun z9 : Option Nat => [rv ad 0 z9]) hj_2) ?_
    refine lv_ifnonnullN hx hb d_cRp_changesInView_4 ?_
    refine lv_aload_n hx hb d_cRp_changesInView_7 rfl (lv_at hl 0 rfl) ?_
    refine va_get (D := D) (ci := 4) (v := .int (S.i 4 5 x0)) (C := R_Rp) (T := F_Rp) (N := 10) hx hb hts i_Rp hown hK hP (cPos N 4 x0) (cw_obj (k := 4) (by decide) hl_x0_4) rfl 5 (by decide) (hts _ kw_218) (fun _ h9 => h9) rfl d_cRp_changesInView_8 ?_
    exact Kr _ (Option.some.inj Heq).symm 11 _ _ _ d_cRp_changesInView_11 hP hD hS
  · refine w_s (st' := [.ref (ad 0 j_1)]) (congrArg (fun z9 : Option Nat => [rv ad 0 z9]) hj_2) ?_
    refine lv_ifnonnull (tgt := 12) hx hb d_cRp_changesInView_4 (by decide) ?_
    refine lv_iconst (v := 0) hx hb d_cRp_changesInView_12 (by decide) ?_
    refine lv_istore_n (lv' := [(1, .int 0), (0, .ref (ad 4 x0))]) hx hb d_cRp_changesInView_13 rfl hl (by decide) rfl (fun ls hl => ?_)
    refine lv_iconst (v := 0) hx hb d_cRp_changesInView_14 (by decide) ?_
    refine lv_istore_n (lv' := [(2, .int 0), (1, .int 0), (0, .ref (ad 4 x0))]) hx hb d_cRp_changesInView_15 rfl hl (by decide) rfl (fun ls hl => ?_)
    obtain ⟨b_3, h_4, Heq⟩ := ob_some Heq
    refine w_cRp_changesInView_L16 hC h_4 (fun b h => ?_) _ _ _ hP hD hS (lv_sub hl [2, 1, 0] rfl)
    subst h
    intro H locs ls hP hD hS hl
    refine lv_iload_n hx hb d_cRp_changesInView_40 rfl (lv_at hl 1 rfl) ?_
    exact Kr _ (Option.some.inj Heq).symm 41 _ _ _ d_cRp_changesInView_41 hP hD hS
def m_cRp_changesInView (N : Nat → Nat) (x0 : Nat) (S : CS) : Option (CS × Int32) := m_cRp_changesInView_J0 N x0 S
set_option maxHeartbeats 4000000 in
theorem g_cRp_changesInView (l : Launch) (D : va_G) (sz : Nat) {ad : Nat → Nat → Nat} {cc : Nat → ClassId} {sad sav : Nat → Nat} {N : Nat → Nat} {x0 : Nat} {S : CS} {o : CS × Int32} (Heq : m_cRp_changesInView N x0 S = some o) : Met l ⟨"JoinedTrees$Replica", "changesInView", "()I"⟩ (Cond.code ⟨"JoinedTrees$Replica", "changesInView", "()I"⟩ prog_6_method_8_code 3 (some .int) :: gb) ({ frames := 0, cells := 0, slots := 0, locals := 0 }) (cPc sad sav D (cw ad cc N S) (cty cc) sz [.ref (ad 4 x0)]) (va_Qi (fun (r : Int32) (_ : Unit) => r = o.2) (fun _ t => gO D (cw ad cc N o.1) (cty cc) (va_A (cw ad cc N S) sz) t) (va_A (cw ad cc N S) sz)) 0 0 (va_A (cw ad cc N S) sz) := by
  refine Met.ofW (cc := prog_6_method_8_code) (maxL := 3) (ret := (some .int)) (by decide) rfl ?_
  intro p e s m args below meth c s₁ B hml hv
  obtain ⟨rfl, hsz, hP, hK, hD0, hev, hE, hN⟩ := hv
  have hx := B.exec
  have hb := B.bytes
  have hr := B.returns
  have hts : ∀ w9 ∈ gb, w9.before [.ref (ad 4 x0)].toArray s = true := fun w9 h => atoms_spec (ws := Cond.code ⟨"JoinedTrees$Replica", "changesInView", "()I"⟩ prog_6_method_8_code 3 (some .int) :: gb) B.pre w9 (List.mem_cons_of_mem _ h)
  have hown : s.vm.findClass "JoinedTrees$Replica" = some m.cls := findClass_of_methodNamed B.named
  have hlocks := B.notSynchronized
  have hNS := ns_of hP
  subst hsz
  have hD := hD0.self (sz := s.heap.size)
  generalize hAe : va_A (cw ad cc N S) s.heap.size = A at hD hev hE hNS ⊢
  have hA : ∀ q : Nat, s.heap.size ≤ q → A q := fun q h => by rw [← hAe]; exact Or.inr h
  have hS : va_S A s.heap s.heap [] := va_S.rf
  obtain ⟨ls, hl, hle⟩ : ∃ ls : Array Slot, lv_has ls 3 [(0, .ref (ad 4 x0))] ∧ entryFrame m ([.ref (ad 4 x0)] : List Value).toArray 3 = F0 m 0 ls [] := by
    exact ⟨_, lv_entry (n := 3) _ (Nat.le_of_ble_eq_true rfl), lg_entry_eq ..⟩
  rw [hle]
  refine w_cRp_changesInView_J0 ⟨hx, hb, hr, hml, hown, hts, hK, hA, hev, hE, hN, hNS⟩ Heq (fun r h pc H locs ls hd hP hD hS => ?_) _ _ _ hP hD hS (lv_sub hl [0] rfl)
  subst h
  exact W.iret hx hb hr (fun t ht hW => ⟨⟨_, (), rfl, rfl, by rw [ht]; exact hP, va_K.moved hW.alike hK, hD⟩, hS.F ht⟩) hS.2.2 hd
def m_cOp_hasPred_B2 (N : Nat → Nat) (x0 : Nat) (S : CS) (x1 : Option Nat) (x2 : Int32) : Option ((CS × Option Nat × Int32) ⊕ (CS ⊕ (CS × Int32))) := gl x0 (N 3) (on (S.r 3 7 x0) (some (.inr (.inl (S)))) (fun j_1 => gl j_1 (N 15) ((if nI (S.z 15 j_1) ≤ x2 then some (.inr (.inl (S))) else gd x2 (S.z 15 j_1) (gv (S.q 15 j_1 x2.toNatClampNeg) (N 3) (gv x1 (N 3) ((if (S.q 15 j_1 x2.toNatClampNeg) = x1 then some (.inr (.inr (S, 1))) else some (.inl (S, x1, (x2 + 1)))))))))))
theorem d_cOp_hasPred_0 : decode prog_5_method_4_code 0 = .ok (.iconst 0, 1) := by decide +kernel
theorem d_cOp_hasPred_1 : decode prog_5_method_4_code 1 = .ok (.istore_n 2, 1) := by decide +kernel
theorem d_cOp_hasPred_2 : decode prog_5_method_4_code 2 = .ok (.aload_n 0, 1) := by decide +kernel
theorem d_cOp_hasPred_3 : decode prog_5_method_4_code 3 = .ok (.getfield 26, 3) := by decide +kernel
theorem d_cOp_hasPred_6 : decode prog_5_method_4_code 6 = .ok (.ifnull 30, 3) := by decide +kernel
theorem d_cOp_hasPred_9 : decode prog_5_method_4_code 9 = .ok (.iload_n 2, 1) := by decide +kernel
theorem d_cOp_hasPred_10 : decode prog_5_method_4_code 10 = .ok (.aload_n 0, 1) := by decide +kernel
theorem d_cOp_hasPred_11 : decode prog_5_method_4_code 11 = .ok (.getfield 26, 3) := by decide +kernel
theorem d_cOp_hasPred_14 : decode prog_5_method_4_code 14 = .ok (.arraylength, 1) := by decide +kernel
theorem d_cOp_hasPred_15 : decode prog_5_method_4_code 15 = .ok (.if_icmp .ge 21, 3) := by decide +kernel
theorem d_cOp_hasPred_18 : decode prog_5_method_4_code 18 = .ok (.aload_n 0, 1) := by decide +kernel
theorem d_cOp_hasPred_19 : decode prog_5_method_4_code 19 = .ok (.getfield 26, 3) := by decide +kernel
theorem d_cOp_hasPred_22 : decode prog_5_method_4_code 22 = .ok (.iload_n 2, 1) := by decide +kernel
theorem d_cOp_hasPred_23 : decode prog_5_method_4_code 23 = .ok (.aaload, 1) := by decide +kernel
theorem d_cOp_hasPred_24 : decode prog_5_method_4_code 24 = .ok (.aload_n 1, 1) := by decide +kernel
theorem d_cOp_hasPred_25 : decode prog_5_method_4_code 25 = .ok (.if_acmp .ne 5, 3) := by decide +kernel
theorem d_cOp_hasPred_30 : decode prog_5_method_4_code 30 = .ok (.iinc 2 1, 3) := by decide +kernel
theorem d_cOp_hasPred_33 : decode prog_5_method_4_code 33 = .ok (.goto (-31), 3) := by decide +kernel
theorem d_cOp_hasPred_28 : decode prog_5_method_4_code 28 = .ok (.iconst 1, 1) := by decide +kernel
theorem d_cOp_hasPred_29 : decode prog_5_method_4_code 29 = .ok (.ireturn, 1) := by decide +kernel
set_option maxHeartbeats 4000000 in
set_option maxRecDepth 100000 in
theorem w_cOp_hasPred_B2 {p : Program} {l : Launch} {e : Env} {s : State} {m : MethodId} {args : Array Value} {below : List Frame} {meth : Method} {c : Code} {A : Nat → Prop} {D : va_G} {ad : Nat → Nat → Nat} {cc : Nat → ClassId} {sad sav : Nat → Nat} {Q : State → Prop} (hC : MCc sad sav "JoinedTrees$Op" prog_5_method_4_code 3 (some .boolean) p s m args meth c A D cc) {N : Nat → Nat} {x0 : Nat} {S : CS} {x1 : Option Nat} {x2 : Int32} {o : ((CS × Option Nat × Int32) ⊕ (CS ⊕ (CS × Int32)))} (Heq : m_cOp_hasPred_B2 N x0 S x1 x2 = some o) (Ka : ∀ b : CS × Option Nat × Int32, o = .inl b → ∀ (H : Heap) (locs : List Loc) (ls : Array Slot), va_P D cls (cw ad cc N b.1) H → va_D A (cw ad cc N b.1) → va_S A s.heap H locs → lv_has ls 3 [(0, .ref (ad 3 x0)), (1, rv ad 3 b.2.1), (2, .int b.2.2)] → W p l e ({ frames := 0, cells := 0, slots := 0, locals := 0 }) s m args below meth c H locs 0 0 Q (F0 m 2 ls [])) (K0 : ∀ b : CS, o = .inr (.inl b) → ∀ (H : Heap) (locs : List Loc) (ls : Array Slot), va_P D cls (cw ad cc N b) H → va_D A (cw ad cc N b) → va_S A s.heap H locs → lv_has ls 3 [(0, .ref (ad 3 x0))] → W p l e ({ frames := 0, cells := 0, slots := 0, locals := 0 }) s m args below meth c H locs 0 0 Q (F0 m 36 ls [])) (Kr : ∀ r : CS × Int32, o = .inr (.inr r) → ∀ (pc : Nat) (H : Heap) (locs : List Loc) (ls : Array Slot), decode prog_5_method_4_code pc = .ok (.ireturn, 1) → (r.2 = 0 ∨ r.2 = 1) → va_P D cls (cw ad cc N r.1) H → va_D A (cw ad cc N r.1) → va_S A s.heap H locs → W p l e ({ frames := 0, cells := 0, slots := 0, locals := 0 }) s m args below meth c H locs 0 0 Q (F0 m pc ls [.int r.2])) : ∀ (H : Heap) (locs : List Loc) (ls : Array Slot), va_P D cls (cw ad cc N S) H → va_D A (cw ad cc N S) → va_S A s.heap H locs → lv_has ls 3 [(0, .ref (ad 3 x0)), (1, rv ad 3 x1), (2, .int x2)] → W p l e ({ frames := 0, cells := 0, slots := 0, locals := 0 }) s m args below meth c H locs 0 0 Q (F0 m 2 ls []) := by
  intro H locs ls hP hD hS hl
  obtain ⟨hx, hb, hr, hml, hown, hts, hK, hA, hev, hE, hN, hNS⟩ := id hC
  unfold m_cOp_hasPred_B2 at Heq
  refine lv_aload_n hx hb d_cOp_hasPred_2 rfl (lv_at hl 0 rfl) ?_
  obtain ⟨hl_x0_3, Heq⟩ := gl_some Heq
  refine va_get (D := D) (ci := 3) (v := rv ad 15 (S.r 3 7 x0)) (C := R_Op) (T := F_Op) (N := 15) hx hb hts i_Op hown hK hP (cPos N 3 x0) (cw_obj (k := 3) (by decide) hl_x0_3) rfl 7 (by decide) (hts _ kw_74) (fun _ h9 => h9) rfl d_cOp_hasPred_3 ?_
  rcases on_some Heq with ⟨hj_2, Heq⟩ | ⟨j_1, hj_2, Heq⟩
  · refine w_s (st' := [.null]) (congrArg (fun z9 : Option Nat => [rv ad 15 z9]) hj_2) ?_
    refine lv_ifnullN (tgt := 36) hx hb d_cOp_hasPred_6 (by decide) ?_
    exact K0 _ (Option.some.inj Heq).symm _ _ _ hP hD hS (lv_sub hl [0] rfl)
  · refine w_s (st' := [.ref (ad 15 j_1)]) (congrArg (fun z9 : Option Nat => [rv ad 15 z9]) hj_2) ?_
    refine lv_ifnull hx hb d_cOp_hasPred_6 ?_
    refine lv_iload_n hx hb d_cOp_hasPred_9 rfl (lv_at hl 2 rfl) ?_
    refine lv_aload_n hx hb d_cOp_hasPred_10 rfl (lv_at hl 0 rfl) ?_
    refine va_get (D := D) (ci := 3) (v := rv ad 15 (S.r 3 7 x0)) (C := R_Op) (T := F_Op) (N := 15) hx hb hts i_Op hown hK hP (cPos N 3 x0) (cw_obj (k := 3) (by decide) hl_x0_3) rfl 7 (by decide) (hts _ kw_74) (fun _ h9 => h9) rfl d_cOp_hasPred_11 ?_
    refine w_s (st' := [.ref (ad 15 j_1), .int x2]) (congrArg (fun z9 : Option Nat => [rv ad 15 z9, .int x2]) hj_2) ?_
    obtain ⟨hl_j_1_15, Heq⟩ := gl_some Heq
    refine va_alen (v := nI (S.z 15 j_1)) hx hb hK hP (cPos N 15 j_1) 3 (cw_refs (k := 15) (by decide) hl_j_1_15) rfl rfl d_cOp_hasPred_14 ?_
    refine lv_icmp_ge (tgt := 36) hx hb d_cOp_hasPred_15 (by decide) (fun c_3 => ?_) (fun c_3 => ?_)
    · replace Heq := (if_pos c_3).symm.trans Heq
      exact K0 _ (Option.some.inj Heq).symm _ _ _ hP hD hS (lv_sub hl [0] rfl)
    · replace Heq := (if_neg c_3).symm.trans Heq
      refine lv_aload_n hx hb d_cOp_hasPred_18 rfl (lv_at hl 0 rfl) ?_
      refine va_get (D := D) (ci := 3) (v := rv ad 15 (S.r 3 7 x0)) (C := R_Op) (T := F_Op) (N := 15) hx hb hts i_Op hown hK hP (cPos N 3 x0) (cw_obj (k := 3) (by decide) hl_x0_3) rfl 7 (by decide) (hts _ kw_74) (fun _ h9 => h9) rfl d_cOp_hasPred_19 ?_
      refine lv_iload_n hx hb d_cOp_hasPred_22 rfl (lv_at hl 2 rfl) ?_
      refine w_s (st' := [.int x2, .ref (ad 15 j_1)]) (congrArg (fun z9 : Option Nat => [.int x2, rv ad 15 z9]) hj_2) ?_
      obtain ⟨hi_4, Heq⟩ := gd_some Heq
      refine va_aldq hx hb hK hP (cPos N 15 j_1) 3 (cw_refs (k := 15) (by decide) hl_j_1_15) rfl (i := x2) hi_4 d_cOp_hasPred_23 ?_
      refine w_v (y := rv ad 3 (S.q 15 j_1 x2.toNatClampNeg)) (congrArg (rv ad 3) rfl) ?_
      refine tx_aload_n (x := x1.map (ad 3)) hx hb d_cOp_hasPred_24 rfl (lv_at hl 1 rfl) ?_
      refine w_v (y := rv ad 3 x1) rfl ?_
      obtain ⟨hv_5, Heq⟩ := gv_some Heq
      obtain ⟨hv_6, Heq⟩ := gv_some Heq
      have ec_7 := rv_eq hD (k := 3) (by decide) (x := (S.q 15 j_1 x2.toNatClampNeg)) (y := x1) hv_5 hv_6
      refine lv_acmp_ne (rx := (S.q 15 j_1 x2.toNatClampNeg).map (ad 3)) (ry := x1.map (ad 3)) (tgt := 30) hx hb d_cOp_hasPred_25 (by decide) (fun c_7 => ?_) (fun c_7 => ?_)
      · replace Heq := (if_neg (fun q9 => c_7 (ec_7.mpr q9))).symm.trans Heq
        refine lv_iinc (v := x2 + 1) (lv' := [(2, .int (x2 + 1)), (0, .ref (ad 3 x0)), (1, rv ad 3 x1)]) hx hb d_cOp_hasPred_30 hl (k := 2) rfl rfl (by decide) (by simp [rv, rf_cat]) (fun ls hl => ?_)
        refine lv_goto (tgt := 2) hx hb d_cOp_hasPred_33 (by decide) ?_
        exact Ka _ (Option.some.inj Heq).symm _ _ _ hP hD hS (lv_sub hl [1, 2, 0] rfl)
      · replace Heq := (if_pos (ec_7.mp c_7)).symm.trans Heq
        refine lv_iconst (v := 1) hx hb d_cOp_hasPred_28 (by decide) ?_
        exact Kr _ (Option.some.inj Heq).symm 29 _ _ _ d_cOp_hasPred_29 (Or.inr rfl) hP hD hS
def m_cOp_hasPred_L2 (N : Nat → Nat) (x0 : Nat) (S : CS) (x1 : Option Nat) (x2 : Int32) : Option (CS ⊕ (CS × Int32)) := lp (fun a : CS × Option Nat × Int32 => m_cOp_hasPred_B2 N x0 a.1 a.2.1 a.2.2) FU (S, x1, x2)
theorem w_cOp_hasPred_L2 {p : Program} {l : Launch} {e : Env} {s : State} {m : MethodId} {args : Array Value} {below : List Frame} {meth : Method} {c : Code} {A : Nat → Prop} {D : va_G} {ad : Nat → Nat → Nat} {cc : Nat → ClassId} {sad sav : Nat → Nat} {Q : State → Prop} (hC : MCc sad sav "JoinedTrees$Op" prog_5_method_4_code 3 (some .boolean) p s m args meth c A D cc) {N : Nat → Nat} {x0 : Nat} {S : CS} {x1 : Option Nat} {x2 : Int32} {o : (CS ⊕ (CS × Int32))} (Heq : m_cOp_hasPred_L2 N x0 S x1 x2 = some o) (K0 : ∀ b : CS, o = (.inl b) → ∀ (H : Heap) (locs : List Loc) (ls : Array Slot), va_P D cls (cw ad cc N b) H → va_D A (cw ad cc N b) → va_S A s.heap H locs → lv_has ls 3 [(0, .ref (ad 3 x0))] → W p l e ({ frames := 0, cells := 0, slots := 0, locals := 0 }) s m args below meth c H locs 0 0 Q (F0 m 36 ls [])) (Kr : ∀ r : CS × Int32, o = (.inr r) → ∀ (pc : Nat) (H : Heap) (locs : List Loc) (ls : Array Slot), decode prog_5_method_4_code pc = .ok (.ireturn, 1) → (r.2 = 0 ∨ r.2 = 1) → va_P D cls (cw ad cc N r.1) H → va_D A (cw ad cc N r.1) → va_S A s.heap H locs → W p l e ({ frames := 0, cells := 0, slots := 0, locals := 0 }) s m args below meth c H locs 0 0 Q (F0 m pc ls [.int r.2])) : ∀ (H : Heap) (locs : List Loc) (ls : Array Slot), va_P D cls (cw ad cc N S) H → va_D A (cw ad cc N S) → va_S A s.heap H locs → lv_has ls 3 [(0, .ref (ad 3 x0)), (1, rv ad 3 x1), (2, .int x2)] → W p l e ({ frames := 0, cells := 0, slots := 0, locals := 0 }) s m args below meth c H locs 0 0 Q (F0 m 2 ls []) := by
  refine lp_w (G := fun a : CS × Option Nat × Int32 => ∀ (H : Heap) (locs : List Loc) (ls : Array Slot), va_P D cls (cw ad cc N a.1) H → va_D A (cw ad cc N a.1) → va_S A s.heap H locs → lv_has ls 3 [(0, .ref (ad 3 x0)), (1, rv ad 3 a.2.1), (2, .int a.2.2)] → W p l e ({ frames := 0, cells := 0, slots := 0, locals := 0 }) s m args below meth c H locs 0 0 Q (F0 m 2 ls [])) ?_ FU (S, x1, x2) Heq
  intro a o1 ho Ka Ke
  exact w_cOp_hasPred_B2 hC ho (fun b h => Ka b h) (fun b h => K0 b (Ke _ h).symm) (fun r h => Kr r (Ke _ h).symm)
def m_cOp_hasPred_J36 (N : Nat → Nat) (x0 : Nat) (S : CS) : Option (CS × Int32) := some (S, 0)
theorem d_cOp_hasPred_36 : decode prog_5_method_4_code 36 = .ok (.iconst 0, 1) := by decide +kernel
theorem d_cOp_hasPred_37 : decode prog_5_method_4_code 37 = .ok (.ireturn, 1) := by decide +kernel
set_option maxHeartbeats 4000000 in
set_option maxRecDepth 100000 in
theorem w_cOp_hasPred_J36 {p : Program} {l : Launch} {e : Env} {s : State} {m : MethodId} {args : Array Value} {below : List Frame} {meth : Method} {c : Code} {A : Nat → Prop} {D : va_G} {ad : Nat → Nat → Nat} {cc : Nat → ClassId} {sad sav : Nat → Nat} {Q : State → Prop} (hC : MCc sad sav "JoinedTrees$Op" prog_5_method_4_code 3 (some .boolean) p s m args meth c A D cc) {N : Nat → Nat} {x0 : Nat} {S : CS} {o : CS × Int32} (Heq : m_cOp_hasPred_J36 N x0 S = some o) (Kr : ∀ r : CS × Int32, o = r → ∀ (pc : Nat) (H : Heap) (locs : List Loc) (ls : Array Slot), decode prog_5_method_4_code pc = .ok (.ireturn, 1) → (r.2 = 0 ∨ r.2 = 1) → va_P D cls (cw ad cc N r.1) H → va_D A (cw ad cc N r.1) → va_S A s.heap H locs → W p l e ({ frames := 0, cells := 0, slots := 0, locals := 0 }) s m args below meth c H locs 0 0 Q (F0 m pc ls [.int r.2])) : ∀ (H : Heap) (locs : List Loc) (ls : Array Slot), va_P D cls (cw ad cc N S) H → va_D A (cw ad cc N S) → va_S A s.heap H locs → lv_has ls 3 [(0, .ref (ad 3 x0))] → W p l e ({ frames := 0, cells := 0, slots := 0, locals := 0 }) s m args below meth c H locs 0 0 Q (F0 m 36 ls []) := by
  intro H locs ls hP hD hS hl
  obtain ⟨hx, hb, hr, hml, hown, hts, hK, hA, hev, hE, hN, hNS⟩ := id hC
  unfold m_cOp_hasPred_J36 at Heq
  refine lv_iconst (v := 0) hx hb d_cOp_hasPred_36 (by decide) ?_
  exact Kr _ (Option.some.inj Heq).symm 37 _ _ _ d_cOp_hasPred_37 (Or.inl rfl) hP hD hS
def m_cOp_hasPred_J0 (N : Nat → Nat) (x0 : Nat) (S : CS) (x1 : Nat) : Option (CS × Int32) := oe (m_cOp_hasPred_L2 N x0 S (some x1) 0) (fun b_1 => m_cOp_hasPred_J36 N x0 b_1) (fun r_3 => some r_3)
set_option maxHeartbeats 4000000 in
set_option maxRecDepth 100000 in
theorem w_cOp_hasPred_J0 {p : Program} {l : Launch} {e : Env} {s : State} {m : MethodId} {args : Array Value} {below : List Frame} {meth : Method} {c : Code} {A : Nat → Prop} {D : va_G} {ad : Nat → Nat → Nat} {cc : Nat → ClassId} {sad sav : Nat → Nat} {Q : State → Prop} (hC : MCc sad sav "JoinedTrees$Op" prog_5_method_4_code 3 (some .boolean) p s m args meth c A D cc) {N : Nat → Nat} {x0 : Nat} {S : CS} {x1 : Nat} {o : CS × Int32} (Heq : m_cOp_hasPred_J0 N x0 S x1 = some o) (Kr : ∀ r : CS × Int32, o = r → ∀ (pc : Nat) (H : Heap) (locs : List Loc) (ls : Array Slot), decode prog_5_method_4_code pc = .ok (.ireturn, 1) → (r.2 = 0 ∨ r.2 = 1) → va_P D cls (cw ad cc N r.1) H → va_D A (cw ad cc N r.1) → va_S A s.heap H locs → W p l e ({ frames := 0, cells := 0, slots := 0, locals := 0 }) s m args below meth c H locs 0 0 Q (F0 m pc ls [.int r.2])) : ∀ (H : Heap) (locs : List Loc) (ls : Array Slot), va_P D cls (cw ad cc N S) H → va_D A (cw ad cc N S) → va_S A s.heap H locs → lv_has ls 3 [(0, .ref (ad 3 x0)), (1, .ref (ad 3 x1))] → W p l e ({ frames := 0, cells := 0, slots := 0, locals := 0 }) s m args below meth c H locs 0 0 Q (F0 m 0 ls []) := by
  intro H locs ls hP hD hS hl
  obtain ⟨hx, hb, hr, hml, hown, hts, hK, hA, hev, hE, hN, hNS⟩ := id hC
  unfold m_cOp_hasPred_J0 at Heq
  refine lv_iconst (v := 0) hx hb d_cOp_hasPred_0 (by decide) ?_
  refine lv_istore_n (lv' := [(2, .int 0), (0, .ref (ad 3 x0)), (1, .ref (ad 3 x1))]) hx hb d_cOp_hasPred_1 rfl hl (by decide) rfl (fun ls hl => ?_)
  rcases oe_some Heq with ⟨b_1, h_2, Heq⟩ | ⟨r_3, h_2, Heq⟩
  · refine w_cOp_hasPred_L2 hC h_2 (fun b h => ?_) (fun r h => by cases h) _ _ _ hP hD hS (lv_sub hl [1, 2, 0] rfl)
    cases h
    intro H locs ls hP hD hS hl
    exact w_cOp_hasPred_J36 hC Heq Kr _ _ _ hP hD hS (lv_sub hl [0] rfl)
  · refine w_cOp_hasPred_L2 hC h_2 (fun b h => by cases h) (fun r h => ?_) _ _ _ hP hD hS (lv_sub hl [1, 2, 0] rfl)
    cases h
    exact Kr _ (Option.some.inj Heq).symm
def m_cOp_hasPred (N : Nat → Nat) (x0 : Nat) (S : CS) (x1 : Nat) : Option (CS × Int32) := m_cOp_hasPred_J0 N x0 S x1
set_option maxHeartbeats 4000000 in
theorem g_cOp_hasPred (l : Launch) (D : va_G) (sz : Nat) {ad : Nat → Nat → Nat} {cc : Nat → ClassId} {sad sav : Nat → Nat} {N : Nat → Nat} {x0 : Nat} {S : CS} {x1 : Nat} {o : CS × Int32} (Heq : m_cOp_hasPred N x0 S x1 = some o) : Met l ⟨"JoinedTrees$Op", "hasPred", "(LJoinedTrees$Op;)Z"⟩ (Cond.code ⟨"JoinedTrees$Op", "hasPred", "(LJoinedTrees$Op;)Z"⟩ prog_5_method_4_code 3 (some .boolean) :: gb) ({ frames := 0, cells := 0, slots := 0, locals := 0 }) (cPc sad sav D (cw ad cc N S) (cty cc) sz [.ref (ad 3 x0), .ref (ad 3 x1)]) (va_Qi (fun (r : Int32) (_ : Unit) => r = o.2) (fun _ t => gO D (cw ad cc N o.1) (cty cc) (va_A (cw ad cc N S) sz) t) (va_A (cw ad cc N S) sz)) 0 0 (va_A (cw ad cc N S) sz) := by
  refine Met.ofW (cc := prog_5_method_4_code) (maxL := 3) (ret := (some .boolean)) (by decide) rfl ?_
  intro p e s m args below meth c s₁ B hml hv
  obtain ⟨rfl, hsz, hP, hK, hD0, hev, hE, hN⟩ := hv
  have hx := B.exec
  have hb := B.bytes
  have hr := B.returns
  have hts : ∀ w9 ∈ gb, w9.before [.ref (ad 3 x0), .ref (ad 3 x1)].toArray s = true := fun w9 h => atoms_spec (ws := Cond.code ⟨"JoinedTrees$Op", "hasPred", "(LJoinedTrees$Op;)Z"⟩ prog_5_method_4_code 3 (some .boolean) :: gb) B.pre w9 (List.mem_cons_of_mem _ h)
  have hown : s.vm.findClass "JoinedTrees$Op" = some m.cls := findClass_of_methodNamed B.named
  have hlocks := B.notSynchronized
  have hNS := ns_of hP
  subst hsz
  have hD := hD0.self (sz := s.heap.size)
  generalize hAe : va_A (cw ad cc N S) s.heap.size = A at hD hev hE hNS ⊢
  have hA : ∀ q : Nat, s.heap.size ≤ q → A q := fun q h => by rw [← hAe]; exact Or.inr h
  have hS : va_S A s.heap s.heap [] := va_S.rf
  obtain ⟨ls, hl, hle⟩ : ∃ ls : Array Slot, lv_has ls 3 [(0, .ref (ad 3 x0)), (1, .ref (ad 3 x1))] ∧ entryFrame m ([.ref (ad 3 x0), .ref (ad 3 x1)] : List Value).toArray 3 = F0 m 0 ls [] := by
    exact ⟨_, lv_entry (n := 3) _ (Nat.le_of_ble_eq_true rfl), lg_entry_eq ..⟩
  rw [hle]
  refine w_cOp_hasPred_J0 ⟨hx, hb, hr, hml, hown, hts, hK, hA, hev, hE, hN, hNS⟩ Heq (fun r h pc H locs ls hd hz hP hD hS => ?_) _ _ _ hP hD hS (lv_sub hl [0, 1] rfl)
  subst h
  exact W.zret (ty := .boolean) hx hb hr (by rcases hz with hz | hz <;> rw [hz] <;> rfl) (fun t ht hW => ⟨⟨_, (), rfl, rfl, by rw [ht]; exact hP, va_K.moved hW.alike hK, hD⟩, hS.F ht⟩) hS.2.2 hd
