def m_cJT_needKey_J23 (N : Nat → Nat) (x0 : Nat) (S : CS) : Option ((CS) ⊕ (CS × Nat)) := some (.inr (S, 1))
theorem d_cJT_needKey_0 : decode prog_1_method_34_code 0 = .ok (.aload_n 0, 1) := by decide +kernel
theorem d_cJT_needKey_1 : decode prog_1_method_34_code 1 = .ok (.getfield 70, 3) := by decide +kernel
theorem d_cJT_needKey_4 : decode prog_1_method_34_code 4 = .ok (.getfield 80, 3) := by decide +kernel
theorem d_cJT_needKey_7 : decode prog_1_method_34_code 7 = .ok (.iconst 1, 1) := by decide +kernel
theorem d_cJT_needKey_8 : decode prog_1_method_34_code 8 = .ok (.if_icmp .lt 15, 3) := by decide +kernel
theorem d_cJT_needKey_23 : decode prog_1_method_34_code 23 = .ok (.new 93, 3) := by decide +kernel
theorem d_cJT_needKey_26 : decode prog_1_method_34_code 26 = .ok (.dup, 1) := by decide +kernel
theorem d_cJT_needKey_27 : decode prog_1_method_34_code 27 = .ok (.invokespecial 95, 3) := by decide +kernel
theorem d_cJT_needKey_30 : decode prog_1_method_34_code 30 = .ok (.athrow, 1) := by decide +kernel
set_option maxHeartbeats 4000000 in
set_option maxRecDepth 100000 in
theorem w_cJT_needKey_J23 {p : Program} {l : Launch} {e : Env} {s : State} {m : MethodId} {args : Array Value} {below : List Frame} {meth : Method} {c : Code} {A : Nat → Prop} {D : va_G} {ad : Nat → Nat → Nat} {cc : Nat → ClassId} {sad sav : Nat → Nat} {Q : State → Prop} {cR sR : Nat} (hfl : l.flags = flags0) (hC : MCc sad sav "JoinedTrees" prog_1_method_34_code 1 none p s m args meth c A D cc) {N : Nat → Nat} {x0 : Nat} {S : CS} {o : ((CS) ⊕ (CS × Nat))} (Heq : m_cJT_needKey_J23 N x0 S = some o) (Kr : ∀ r : ((CS) ⊕ (CS × Nat)), o = r → (∀ v9 : CS, r = .inl v9 → ∀ (pc : Nat) (H : Heap) (locs : List Loc) (ls : Array Slot), decode prog_1_method_34_code pc = .ok (.return_, 1) → va_P D cls (cw ad cc N v9) H → va_D A (cw ad cc N v9) → va_S A s.heap H locs → W p l e ({ frames := 6, cells := cR, slots := sR, locals := 96 }) s m args below meth c H locs 0 0 Q (F0 m pc ls [])) ∧ (∀ t9 : CS × Nat, r = .inr t9 → (1 ≤ cR ∧ 6 ≤ sR) ∧ (∀ (pc : Nat) (H : Heap) (locs : List Loc) (ls : Array Slot), thD prog_1_method_34_code t9.2 pc → ls.size = 1 → va_P D cls (cw ad cc N t9.1) H → va_D A (cw ad cc N t9.1) → va_S A s.heap H locs → W p l e ({ frames := 6, cells := cR, slots := sR, locals := 96 }) s m args below meth c H locs 0 0 Q (F0 m pc ls [])) ∧ (∀ (pc : Nat) (H : Heap) (locs : List Loc) (ls : Array Slot) (st0 rest9 : List Value) (A9 : Nat → Prop), tx_Thr p l e ({ frames := 6, cells := cR, slots := sR, locals := 96 }) s m args below meth c H locs 0 0 1 6 (F0 m pc ls st0) rest9 (exN t9.2) A9 (fun H1 => va_P D cls (cw ad cc N t9.1) H1) → (∀ q, A9 q → A q) → va_S A s.heap H locs → W p l e ({ frames := 6, cells := cR, slots := sR, locals := 96 }) s m args below meth c H locs 0 0 Q (F0 m pc ls st0)))) : ∀ (H : Heap) (locs : List Loc) (ls : Array Slot), va_P D cls (cw ad cc N S) H → va_D A (cw ad cc N S) → va_S A s.heap H locs → lv_has ls 1 [(0, .ref (ad 11 x0))] → W p l e ({ frames := 6, cells := cR, slots := sR, locals := 96 }) s m args below meth c H locs 0 0 Q (F0 m 23 ls []) := by
  intro H locs ls hP hD hS hl
  obtain ⟨hx, hb, hr, hml, hown, hts, hK, hA, hev, hE, hN, hNS⟩ := id hC
  unfold m_cJT_needKey_J23 at Heq
  exact ((Kr _ (Option.some.inj Heq).symm).2 _ rfl).2.1 23 _ _ _ ⟨⟨show 1 ≤ 1 by decide, show 1 ≤ 5 by decide⟩, d_cJT_needKey_23, d_cJT_needKey_26, d_cJT_needKey_27, d_cJT_needKey_30⟩ hl.1 hP hD hS
def m_cJT_needKey_J0 (N : Nat → Nat) (x0 : Nat) (S : CS) : Option ((CS) ⊕ (CS × Nat)) := gl x0 (N 11) (gn (S.r 11 9 x0) (N 5) (fun j_1 => (if S.i 5 1 j_1 < 1 then m_cJT_needKey_J23 N x0 S else (if S.i 5 1 j_1 ≤ 64 then some (.inl S) else m_cJT_needKey_J23 N x0 S))))
theorem d_cJT_needKey_11 : decode prog_1_method_34_code 11 = .ok (.aload_n 0, 1) := by decide +kernel
theorem d_cJT_needKey_12 : decode prog_1_method_34_code 12 = .ok (.getfield 70, 3) := by decide +kernel
theorem d_cJT_needKey_15 : decode prog_1_method_34_code 15 = .ok (.getfield 80, 3) := by decide +kernel
theorem d_cJT_needKey_18 : decode prog_1_method_34_code 18 = .ok (.bipush 64, 2) := by decide +kernel
theorem d_cJT_needKey_20 : decode prog_1_method_34_code 20 = .ok (.if_icmp .le 11, 3) := by decide +kernel
theorem d_cJT_needKey_31 : decode prog_1_method_34_code 31 = .ok (.return_, 1) := by decide +kernel
set_option maxHeartbeats 4000000 in
set_option maxRecDepth 100000 in
theorem w_cJT_needKey_J0 {p : Program} {l : Launch} {e : Env} {s : State} {m : MethodId} {args : Array Value} {below : List Frame} {meth : Method} {c : Code} {A : Nat → Prop} {D : va_G} {ad : Nat → Nat → Nat} {cc : Nat → ClassId} {sad sav : Nat → Nat} {Q : State → Prop} {cR sR : Nat} (hfl : l.flags = flags0) (hC : MCc sad sav "JoinedTrees" prog_1_method_34_code 1 none p s m args meth c A D cc) {N : Nat → Nat} {x0 : Nat} {S : CS} {o : ((CS) ⊕ (CS × Nat))} (Heq : m_cJT_needKey_J0 N x0 S = some o) (Kr : ∀ r : ((CS) ⊕ (CS × Nat)), o = r → (∀ v9 : CS, r = .inl v9 → ∀ (pc : Nat) (H : Heap) (locs : List Loc) (ls : Array Slot), decode prog_1_method_34_code pc = .ok (.return_, 1) → va_P D cls (cw ad cc N v9) H → va_D A (cw ad cc N v9) → va_S A s.heap H locs → W p l e ({ frames := 6, cells := cR, slots := sR, locals := 96 }) s m args below meth c H locs 0 0 Q (F0 m pc ls [])) ∧ (∀ t9 : CS × Nat, r = .inr t9 → (1 ≤ cR ∧ 6 ≤ sR) ∧ (∀ (pc : Nat) (H : Heap) (locs : List Loc) (ls : Array Slot), thD prog_1_method_34_code t9.2 pc → ls.size = 1 → va_P D cls (cw ad cc N t9.1) H → va_D A (cw ad cc N t9.1) → va_S A s.heap H locs → W p l e ({ frames := 6, cells := cR, slots := sR, locals := 96 }) s m args below meth c H locs 0 0 Q (F0 m pc ls [])) ∧ (∀ (pc : Nat) (H : Heap) (locs : List Loc) (ls : Array Slot) (st0 rest9 : List Value) (A9 : Nat → Prop), tx_Thr p l e ({ frames := 6, cells := cR, slots := sR, locals := 96 }) s m args below meth c H locs 0 0 1 6 (F0 m pc ls st0) rest9 (exN t9.2) A9 (fun H1 => va_P D cls (cw ad cc N t9.1) H1) → (∀ q, A9 q → A q) → va_S A s.heap H locs → W p l e ({ frames := 6, cells := cR, slots := sR, locals := 96 }) s m args below meth c H locs 0 0 Q (F0 m pc ls st0)))) : ∀ (H : Heap) (locs : List Loc) (ls : Array Slot), va_P D cls (cw ad cc N S) H → va_D A (cw ad cc N S) → va_S A s.heap H locs → lv_has ls 1 [(0, .ref (ad 11 x0))] → W p l e ({ frames := 6, cells := cR, slots := sR, locals := 96 }) s m args below meth c H locs 0 0 Q (F0 m 0 ls []) := by
  intro H locs ls hP hD hS hl
  obtain ⟨hx, hb, hr, hml, hown, hts, hK, hA, hev, hE, hN, hNS⟩ := id hC
  unfold m_cJT_needKey_J0 at Heq
  refine lv_aload_n hx hb d_cJT_needKey_0 rfl (lv_at hl 0 rfl) ?_
  obtain ⟨hl_x0_11, Heq⟩ := gl_some Heq
  refine va_get (D := D) (ci := 11) (v := rv ad 5 (S.r 11 9 x0)) (C := R_JT) (T := F_JT) (N := 13) hx hb hts i_JT hown hK hP (cPos N 11 x0) (cw_obj (k := 11) (by decide) hl_x0_11) rfl 9 (by decide) (hts _ kw_430) (fun _ h9 => h9) rfl d_cJT_needKey_1 ?_
  obtain ⟨j_1, hj_2, hl_3, Heq⟩ := gn_some Heq
  refine w_s (st' := [.ref (ad 5 j_1)]) (congrArg (fun z9 : Option Nat => [rv ad 5 z9]) hj_2) ?_
  refine va_get (D := D) (ci := 5) (v := .int (S.i 5 1 j_1)) (C := R_Rw) (T := F_Rw) (N := 3) hx hb hts i_Rw hown hK hP (cPos N 5 j_1) (cw_obj (k := 5) (by decide) hl_3) rfl 1 (by decide) (hts _ kw_143) (fun _ h9 => h9) rfl d_cJT_needKey_4 ?_
  refine lv_iconst (v := 1) hx hb d_cJT_needKey_7 (by decide) ?_
  refine lv_icmp_lt (tgt := 23) hx hb d_cJT_needKey_8 (by decide) (fun c_4 => ?_) (fun c_4 => ?_)
  · replace Heq := (if_pos c_4).symm.trans Heq
    exact w_cJT_needKey_J23 hfl hC Heq Kr _ _ _ hP hD hS (lv_sub hl [0] rfl)
  · replace Heq := (if_neg c_4).symm.trans Heq
    refine lv_aload_n hx hb d_cJT_needKey_11 rfl (lv_at hl 0 rfl) ?_
    refine va_get (D := D) (ci := 11) (v := rv ad 5 (S.r 11 9 x0)) (C := R_JT) (T := F_JT) (N := 13) hx hb hts i_JT hown hK hP (cPos N 11 x0) (cw_obj (k := 11) (by decide) hl_x0_11) rfl 9 (by decide) (hts _ kw_430) (fun _ h9 => h9) rfl d_cJT_needKey_12 ?_
    refine w_s (st' := [.ref (ad 5 j_1)]) (congrArg (fun z9 : Option Nat => [rv ad 5 z9]) hj_2) ?_
    refine va_get (D := D) (ci := 5) (v := .int (S.i 5 1 j_1)) (C := R_Rw) (T := F_Rw) (N := 3) hx hb hts i_Rw hown hK hP (cPos N 5 j_1) (cw_obj (k := 5) (by decide) hl_3) rfl 1 (by decide) (hts _ kw_143) (fun _ h9 => h9) rfl d_cJT_needKey_15 ?_
    refine lv_bipush (v := 64) hx hb d_cJT_needKey_18 (by decide) ?_
    refine lv_icmp_le (tgt := 31) hx hb d_cJT_needKey_20 (by decide) (fun c_5 => ?_) (fun c_5 => ?_)
    · replace Heq := (if_pos c_5).symm.trans Heq
      exact (Kr _ (Option.some.inj Heq).symm).1 _ rfl 31 _ _ _ d_cJT_needKey_31 hP hD hS
    · replace Heq := (if_neg c_5).symm.trans Heq
      exact w_cJT_needKey_J23 hfl hC Heq Kr _ _ _ hP hD hS (lv_sub hl [0] rfl)
def m_cJT_needKey (N : Nat → Nat) (x0 : Nat) (S : CS) : Option ((CS) ⊕ (CS × Nat)) := m_cJT_needKey_J0 N x0 S
set_option maxHeartbeats 4000000 in
theorem g_cJT_needKey (l : Launch) (hfl : l.flags = flags0) (D : va_G) (sz : Nat) {ad : Nat → Nat → Nat} {cc : Nat → ClassId} {sad sav : Nat → Nat} {N : Nat → Nat} {x0 : Nat} {S : CS} {o : CS} (Heq : m_cJT_needKey N x0 S = some (.inl o)) : Met l ⟨"JoinedTrees", "needKey", "()V"⟩ (Cond.code ⟨"JoinedTrees", "needKey", "()V"⟩ prog_1_method_34_code 1 none :: gb) ({ frames := 6, cells := 0, slots := 0, locals := 96 }) (cPc sad sav D (cw ad cc N S) (cty cc) sz [.ref (ad 11 x0)]) (va_Qv (fun _ : Unit => True) (fun _ t => gO D (cw ad cc N o) (cty cc) (va_A (cw ad cc N S) sz) t) (va_A (cw ad cc N S) sz)) 0 0 (va_A (cw ad cc N S) sz) := by
  refine Met.ofW (cc := prog_1_method_34_code) (maxL := 1) (ret := none) (by decide) rfl ?_
  intro p e s m args below meth c s₁ B hml hv
  obtain ⟨rfl, hsz, hP, hK, hD0, hev, hE, hN⟩ := hv
  have hx := B.exec
  have hb := B.bytes
  have hr := B.returns
  have hts : ∀ w9 ∈ gb, w9.before [.ref (ad 11 x0)].toArray s = true := fun w9 h => atoms_spec (ws := Cond.code ⟨"JoinedTrees", "needKey", "()V"⟩ prog_1_method_34_code 1 none :: gb) B.pre w9 (List.mem_cons_of_mem _ h)
  have hown : s.vm.findClass "JoinedTrees" = some m.cls := findClass_of_methodNamed B.named
  have hlocks := B.notSynchronized
  have hNS := ns_of hP
  subst hsz
  have hD := hD0.self (sz := s.heap.size)
  generalize hAe : va_A (cw ad cc N S) s.heap.size = A at hD hev hE hNS ⊢
  have hA : ∀ q : Nat, s.heap.size ≤ q → A q := fun q h => by rw [← hAe]; exact Or.inr h
  have hS : va_S A s.heap s.heap [] := va_S.rf
  obtain ⟨ls, hl, hle⟩ : ∃ ls : Array Slot, lv_has ls 1 [(0, .ref (ad 11 x0))] ∧ entryFrame m ([.ref (ad 11 x0)] : List Value).toArray 1 = F0 m 0 ls [] := by
    exact ⟨_, lv_entry (n := 1) _ (Nat.le_of_ble_eq_true rfl), lg_entry_eq ..⟩
  rw [hle]
  refine w_cJT_needKey_J0 (cR := 0) (sR := 0) hfl ⟨hx, hb, hr, hml, hown, hts, hK, hA, hev, hE, hN, hNS⟩ Heq (fun r h => ⟨fun v9 hv9 pc H locs ls hd hP hD hS => ?_, fun t9 ht9 => (by subst h; cases ht9)⟩) _ _ _ hP hD hS (lv_sub hl [0] rfl)
  subst h
  cases hv9
  exact W.vret hx hb hr (fun t ht hW => ⟨⟨(), rfl, trivial, by rw [ht]; exact hP, va_K.moved hW.alike hK, hD⟩, hS.F ht⟩) hS.2.2 hd
set_option maxHeartbeats 4000000 in
theorem g_cJT_needKey_t (l : Launch) (hfl : l.flags = flags0) (D : va_G) (sz : Nat) {ad : Nat → Nat → Nat} {cc : Nat → ClassId} {sad sav : Nat → Nat} {N : Nat → Nat} {x0 : Nat} {S : CS} {o : CS × Nat} (Heq : m_cJT_needKey N x0 S = some (.inr o)) : MeT l ⟨"JoinedTrees", "needKey", "()V"⟩ (Cond.code ⟨"JoinedTrees", "needKey", "()V"⟩ prog_1_method_34_code 1 none :: gb) ({ frames := 6, cells := 1, slots := 6, locals := 96 }) (cPc sad sav D (cw ad cc N S) (cty cc) sz [.ref (ad 11 x0)]) (exN o.2) (va_A (cw ad cc N S) sz) (fun H1 => va_P D cls (cw ad cc N o.1) H1) 1 6 := by
  refine MeT.ofW (cc := prog_1_method_34_code) (maxL := 1) (ret := none) (by decide) rfl ?_
  intro p e s m args below meth c s₁ B hml hno hv
  obtain ⟨rfl, hsz, hP, hK, hD0, hev, hE, hN⟩ := hv
  have hx := B.exec
  have hb := B.bytes
  have hr := B.returns
  have hts : ∀ w9 ∈ gb, w9.before [.ref (ad 11 x0)].toArray s = true := fun w9 h => atoms_spec (ws := Cond.code ⟨"JoinedTrees", "needKey", "()V"⟩ prog_1_method_34_code 1 none :: gb) B.pre w9 (List.mem_cons_of_mem _ h)
  have hown : s.vm.findClass "JoinedTrees" = some m.cls := findClass_of_methodNamed B.named
  have hlocks := B.notSynchronized
  have hNS := ns_of hP
  subst hsz
  have hD := hD0.self (sz := s.heap.size)
  generalize hAe : va_A (cw ad cc N S) s.heap.size = A at hD hev hE hNS ⊢
  have hA : ∀ q : Nat, s.heap.size ≤ q → A q := fun q h => by rw [← hAe]; exact Or.inr h
  have hS : va_S A s.heap s.heap [] := va_S.rf
  obtain ⟨ls, hl, hle⟩ : ∃ ls : Array Slot, lv_has ls 1 [(0, .ref (ad 11 x0))] ∧ entryFrame m ([.ref (ad 11 x0)] : List Value).toArray 1 = F0 m 0 ls [] := by
    exact ⟨_, lv_entry (n := 1) _ (Nat.le_of_ble_eq_true rfl), lg_entry_eq ..⟩
  rw [hle]
  refine w_cJT_needKey_J0 (cR := 1) (sR := 6) hfl ⟨hx, hb, hr, hml, hown, hts, hK, hA, hev, hE, hN, hNS⟩ Heq (fun r h => ⟨fun v9 hv9 => (by subst h; cases hv9), fun t9 ht9 => ⟨⟨Nat.le_refl _, Nat.le_refl _⟩, fun pc H locs ls hd hsz hP hD hS => ?_, fun pc H locs ls st0 rest9 A9 hr9 hF9 hS => ?_⟩⟩) _ _ _ hP hD hS (lv_sub hl [0] rfl)
  · subst h; cases ht9; exact tx_thr hfl hx hb hno hlocks hown hts hev hN hNS hd (hsz.trans hml.symm) hP hS hA (Nat.le_refl _) (Nat.le_refl _) (Nat.le_of_ble_eq_true rfl) (Nat.le_of_ble_eq_true rfl)
  · subst h; cases ht9; exact tx_on hr9 hno hlocks hS hF9
def m_cJT_objectAt_J20 (N : Nat → Nat) (x0 : Nat) (S : CS) : Option ((CS × Option Nat) ⊕ (CS × Nat)) := some (.inr (S, 3))
theorem d_cJT_objectAt_0 : decode prog_1_method_41_code 0 = .ok (.aload_n 0, 1) := by decide +kernel
theorem d_cJT_objectAt_1 : decode prog_1_method_41_code 1 = .ok (.getfield 30, 3) := by decide +kernel
theorem d_cJT_objectAt_4 : decode prog_1_method_41_code 4 = .ok (.iload_n 1, 1) := by decide +kernel
theorem d_cJT_objectAt_5 : decode prog_1_method_41_code 5 = .ok (.invokevirtual 306, 3) := by decide +kernel
theorem d_cJT_objectAt_8 : decode prog_1_method_41_code 8 = .ok (.astore_n 2, 1) := by decide +kernel
theorem d_cJT_objectAt_9 : decode prog_1_method_41_code 9 = .ok (.aload_n 2, 1) := by decide +kernel
theorem d_cJT_objectAt_10 : decode prog_1_method_41_code 10 = .ok (.ifnull 10, 3) := by decide +kernel
theorem d_cJT_objectAt_20 : decode prog_1_method_41_code 20 = .ok (.new 178, 3) := by decide +kernel
theorem d_cJT_objectAt_23 : decode prog_1_method_41_code 23 = .ok (.dup, 1) := by decide +kernel
theorem d_cJT_objectAt_24 : decode prog_1_method_41_code 24 = .ok (.invokespecial 180, 3) := by decide +kernel
theorem d_cJT_objectAt_27 : decode prog_1_method_41_code 27 = .ok (.athrow, 1) := by decide +kernel
set_option maxHeartbeats 4000000 in
set_option maxRecDepth 100000 in
theorem w_cJT_objectAt_J20 {p : Program} {l : Launch} {e : Env} {s : State} {m : MethodId} {args : Array Value} {below : List Frame} {meth : Method} {c : Code} {A : Nat → Prop} {D : va_G} {ad : Nat → Nat → Nat} {cc : Nat → ClassId} {sad sav : Nat → Nat} {Q : State → Prop} {cR sR : Nat} (hfl : l.flags = flags0) (hC : MCc sad sav "JoinedTrees" prog_1_method_41_code 3 (some (.object "JoinedTrees$Op")) p s m args meth c A D cc) {N : Nat → Nat} {x0 : Nat} {S : CS} {o : ((CS × Option Nat) ⊕ (CS × Nat))} (Heq : m_cJT_objectAt_J20 N x0 S = some o) (Kr : ∀ r : ((CS × Option Nat) ⊕ (CS × Nat)), o = r → (∀ v9 : CS × Option Nat, r = .inl v9 → ∀ (pc : Nat) (H : Heap) (locs : List Loc) (ls : Array Slot), decode prog_1_method_41_code pc = .ok (.areturn, 1) → va_P D cls (cw ad cc N v9.1) H → va_D A (cw ad cc N v9.1) → va_S A s.heap H locs → W p l e ({ frames := 6, cells := cR, slots := sR, locals := 96 }) s m args below meth c H locs 0 0 Q (F0 m pc ls [rv ad 3 v9.2])) ∧ (∀ t9 : CS × Nat, r = .inr t9 → (1 ≤ cR ∧ 6 ≤ sR) ∧ (∀ (pc : Nat) (H : Heap) (locs : List Loc) (ls : Array Slot), thD prog_1_method_41_code t9.2 pc → ls.size = 3 → va_P D cls (cw ad cc N t9.1) H → va_D A (cw ad cc N t9.1) → va_S A s.heap H locs → W p l e ({ frames := 6, cells := cR, slots := sR, locals := 96 }) s m args below meth c H locs 0 0 Q (F0 m pc ls [])) ∧ (∀ (pc : Nat) (H : Heap) (locs : List Loc) (ls : Array Slot) (st0 rest9 : List Value) (A9 : Nat → Prop), tx_Thr p l e ({ frames := 6, cells := cR, slots := sR, locals := 96 }) s m args below meth c H locs 0 0 1 6 (F0 m pc ls st0) rest9 (exN t9.2) A9 (fun H1 => va_P D cls (cw ad cc N t9.1) H1) → (∀ q, A9 q → A q) → va_S A s.heap H locs → W p l e ({ frames := 6, cells := cR, slots := sR, locals := 96 }) s m args below meth c H locs 0 0 Q (F0 m pc ls st0)))) : ∀ (H : Heap) (locs : List Loc) (ls : Array Slot), va_P D cls (cw ad cc N S) H → va_D A (cw ad cc N S) → va_S A s.heap H locs → lv_has ls 3 [(0, .ref (ad 11 x0))] → W p l e ({ frames := 6, cells := cR, slots := sR, locals := 96 }) s m args below meth c H locs 0 0 Q (F0 m 20 ls []) := by
  intro H locs ls hP hD hS hl
  obtain ⟨hx, hb, hr, hml, hown, hts, hK, hA, hev, hE, hN, hNS⟩ := id hC
  unfold m_cJT_objectAt_J20 at Heq
  exact ((Kr _ (Option.some.inj Heq).symm).2 _ rfl).2.1 20 _ _ _ ⟨⟨show 1 ≤ 3 by decide, show 3 ≤ 5 by decide⟩, d_cJT_objectAt_20, d_cJT_objectAt_23, d_cJT_objectAt_24, d_cJT_objectAt_27⟩ hl.1 hP hD hS
def m_cJT_objectAt_J0 (N : Nat → Nat) (x0 : Nat) (S : CS) (x1 : Int32) : Option ((CS × Option Nat) ⊕ (CS × Nat)) := gl x0 (N 11) (gn (S.r 11 2 x0) (N 10) (fun j_1 => ob (m_cVw_opAt N j_1 S x1) (fun o_4 => on o_4.2 (m_cJT_objectAt_J20 N x0 o_4.1) (fun j_6 => gl j_6 (N 3) (ob (m_cOp_isObject N j_6 o_4.1) (fun o_8 => (if o_8.2 = 0 then m_cJT_objectAt_J20 N x0 o_8.1 else some (.inl (o_8.1, o_4.2)))))))))
theorem d_cJT_objectAt_13 : decode prog_1_method_41_code 13 = .ok (.aload_n 2, 1) := by decide +kernel
theorem d_cJT_objectAt_14 : decode prog_1_method_41_code 14 = .ok (.invokevirtual 401, 3) := by decide +kernel
theorem d_cJT_objectAt_17 : decode prog_1_method_41_code 17 = .ok (.ifCond .ne 11, 3) := by decide +kernel
theorem d_cJT_objectAt_28 : decode prog_1_method_41_code 28 = .ok (.aload_n 2, 1) := by decide +kernel
theorem d_cJT_objectAt_29 : decode prog_1_method_41_code 29 = .ok (.areturn, 1) := by decide +kernel
set_option maxHeartbeats 4000000 in
set_option maxRecDepth 100000 in
theorem w_cJT_objectAt_J0 {p : Program} {l : Launch} {e : Env} {s : State} {m : MethodId} {args : Array Value} {below : List Frame} {meth : Method} {c : Code} {A : Nat → Prop} {D : va_G} {ad : Nat → Nat → Nat} {cc : Nat → ClassId} {sad sav : Nat → Nat} {Q : State → Prop} {cR sR : Nat} (hfl : l.flags = flags0) (hC : MCc sad sav "JoinedTrees" prog_1_method_41_code 3 (some (.object "JoinedTrees$Op")) p s m args meth c A D cc) {N : Nat → Nat} {x0 : Nat} {S : CS} {x1 : Int32} {o : ((CS × Option Nat) ⊕ (CS × Nat))} (Heq : m_cJT_objectAt_J0 N x0 S x1 = some o) (Kr : ∀ r : ((CS × Option Nat) ⊕ (CS × Nat)), o = r → (∀ v9 : CS × Option Nat, r = .inl v9 → ∀ (pc : Nat) (H : Heap) (locs : List Loc) (ls : Array Slot), decode prog_1_method_41_code pc = .ok (.areturn, 1) → va_P D cls (cw ad cc N v9.1) H → va_D A (cw ad cc N v9.1) → va_S A s.heap H locs → W p l e ({ frames := 6, cells := cR, slots := sR, locals := 96 }) s m args below meth c H locs 0 0 Q (F0 m pc ls [rv ad 3 v9.2])) ∧ (∀ t9 : CS × Nat, r = .inr t9 → (1 ≤ cR ∧ 6 ≤ sR) ∧ (∀ (pc : Nat) (H : Heap) (locs : List Loc) (ls : Array Slot), thD prog_1_method_41_code t9.2 pc → ls.size = 3 → va_P D cls (cw ad cc N t9.1) H → va_D A (cw ad cc N t9.1) → va_S A s.heap H locs → W p l e ({ frames := 6, cells := cR, slots := sR, locals := 96 }) s m args below meth c H locs 0 0 Q (F0 m pc ls [])) ∧ (∀ (pc : Nat) (H : Heap) (locs : List Loc) (ls : Array Slot) (st0 rest9 : List Value) (A9 : Nat → Prop), tx_Thr p l e ({ frames := 6, cells := cR, slots := sR, locals := 96 }) s m args below meth c H locs 0 0 1 6 (F0 m pc ls st0) rest9 (exN t9.2) A9 (fun H1 => va_P D cls (cw ad cc N t9.1) H1) → (∀ q, A9 q → A q) → va_S A s.heap H locs → W p l e ({ frames := 6, cells := cR, slots := sR, locals := 96 }) s m args below meth c H locs 0 0 Q (F0 m pc ls st0)))) : ∀ (H : Heap) (locs : List Loc) (ls : Array Slot), va_P D cls (cw ad cc N S) H → va_D A (cw ad cc N S) → va_S A s.heap H locs → lv_has ls 3 [(0, .ref (ad 11 x0)), (1, .int x1)] → W p l e ({ frames := 6, cells := cR, slots := sR, locals := 96 }) s m args below meth c H locs 0 0 Q (F0 m 0 ls []) := by
  intro H locs ls hP hD hS hl
  obtain ⟨hx, hb, hr, hml, hown, hts, hK, hA, hev, hE, hN, hNS⟩ := id hC
  unfold m_cJT_objectAt_J0 at Heq
  refine lv_aload_n hx hb d_cJT_objectAt_0 rfl (lv_at hl 0 rfl) ?_
  obtain ⟨hl_x0_11, Heq⟩ := gl_some Heq
  refine va_get (D := D) (ci := 11) (v := rv ad 10 (S.r 11 2 x0)) (C := R_JT) (T := F_JT) (N := 13) hx hb hts i_JT hown hK hP (cPos N 11 x0) (cw_obj (k := 11) (by decide) hl_x0_11) rfl 2 (by decide) (hts _ kw_423) (fun _ h9 => h9) rfl d_cJT_objectAt_1 ?_
  refine lv_iload_n hx hb d_cJT_objectAt_4 rfl (lv_at hl 1 rfl) ?_
  obtain ⟨j_1, hj_2, hl_3, Heq⟩ := gn_some Heq
  refine w_s (st' := [.int x1, .ref (ad 10 j_1)]) (congrArg (fun z9 : Option Nat => [.int x1, rv ad 10 z9]) hj_2) ?_
  obtain ⟨o_4, h_5, Heq⟩ := ob_some Heq
  have hFc := fr_all hD hS hA
  refine va_callq (va_runV (As := [.int x1]) (rest := []) ⟨hx, hb, hml, hown, hts⟩ (g_cVw_opAt l D H.size (ad := ad) (cc := cc) (sad := sad) (sav := sav) h_5) (cw_v 1 hts kw_620 kw_617 kw_618 kw_619 kw_6 rfl rfl (by decide +kernel) ⟨Nat.le_of_ble_eq_true rfl, Nat.le_of_ble_eq_true rfl⟩) ⟨c_blind, va_recv hK hP (ci := 10) (q0 := cPos N 10 j_1) rfl (cw_obj (k := 10) (by decide) hl_3), fun U hU hW => c_pre hU hW hP hK hD hev hE hN hNS hS hFc⟩ rfl rfl hl.1 rfl (lv_room (Nat.le_of_ble_eq_true rfl)) d_cJT_objectAt_5 ⟨Nat.zero_le _, Nat.zero_le _⟩) hS (fun q _ h => hFc q h) hFc (fun rz u t H1 locs ht hvm hw hB hz1 hk1 hS => ?_)
  obtain ⟨hP, -, hD1⟩ := hB
  rw [ht] at hP
  have hD := hD1.weaken (fun _ q _ h => hFc q.1 h)
  generalize H1 = H at hP hS ⊢
  refine W.cs (cells' := 0) (slots' := 0) rfl rfl ?_
  subst hw
  refine w_v (y := rv ad 3 o_4.2) rfl ?_
  refine tx_astore_n (x := o_4.2.map (ad 3)) (lv' := [(2, rv ad 3 o_4.2), (0, .ref (ad 11 x0)), (1, .int x1)]) hx hb d_cJT_objectAt_8 rfl hl (by decide) rfl (fun ls hl => ?_)
  refine tx_aload_n (x := o_4.2.map (ad 3)) hx hb d_cJT_objectAt_9 rfl (lv_at hl 0 rfl) ?_
  refine w_v (y := rv ad 3 o_4.2) rfl ?_
  rcases on_some Heq with ⟨hj_7, Heq⟩ | ⟨j_6, hj_7, Heq⟩
  · refine w_s (st' := [.null]) (congrArg (fun z9 : Option Nat => [rv ad 3 z9]) hj_7) ?_
    refine lv_ifnullN (tgt := 20) hx hb d_cJT_objectAt_10 (by decide) ?_
    exact w_cJT_objectAt_J20 hfl hC Heq Kr _ _ _ hP hD hS (lv_sub hl [1] rfl)
  · refine w_s (st' := [.ref (ad 3 j_6)]) (congrArg (fun z9 : Option Nat => [rv ad 3 z9]) hj_7) ?_
    refine lv_ifnull hx hb d_cJT_objectAt_10 ?_
    refine tx_aload_n (x := o_4.2.map (ad 3)) hx hb d_cJT_objectAt_13 rfl (lv_at hl 0 rfl) ?_
    refine w_v (y := rv ad 3 o_4.2) rfl ?_
    refine w_s (st' := [.ref (ad 3 j_6)]) (congrArg (fun z9 : Option Nat => [rv ad 3 z9]) hj_7) ?_
    obtain ⟨hl_j_6_3, Heq⟩ := gl_some Heq
    obtain ⟨o_8, h_9, Heq⟩ := ob_some Heq
    have hFc := fr_all hD hS hA
    refine va_calli (va_runV (As := []) (rest := []) ⟨hx, hb, hml, hown, hts⟩ (g_cOp_isObject l D H.size (ad := ad) (cc := cc) (sad := sad) (sav := sav) h_9) (cw_v 0 hts kw_628 kw_625 kw_626 kw_627 kw_3 rfl rfl (by decide +kernel) ⟨Nat.le_of_ble_eq_true rfl, Nat.le_of_ble_eq_true rfl⟩) ⟨c_blind, va_recv hK hP (ci := 3) (q0 := cPos N 3 j_6) rfl (cw_obj (k := 3) (by decide) hl_j_6_3), fun U hU hW => c_pre hU hW hP hK hD hev hE hN hNS hS hFc⟩ rfl rfl hl.1 rfl (lv_room (Nat.le_of_ble_eq_true rfl)) d_cJT_objectAt_14 ⟨Nat.zero_le _, Nat.zero_le _⟩) hS (fun q _ h => hFc q h) hFc (fun rz u t H1 locs ht hvm hw hB hz1 hk1 hS => ?_)
    obtain ⟨hP, -, hD1⟩ := hB
    rw [ht] at hP
    have hD := hD1.weaken (fun _ q _ h => hFc q.1 h)
    generalize H1 = H at hP hS ⊢
    refine W.cs (cells' := 0) (slots' := 0) rfl rfl ?_
    subst hw
    refine lv_if_ne (tgt := 28) hx hb d_cJT_objectAt_17 (by decide) (fun c_10 => ?_) (fun c_10 => ?_)
    · replace Heq := (if_neg c_10).symm.trans Heq
      refine tx_aload_n (x := o_4.2.map (ad 3)) hx hb d_cJT_objectAt_28 rfl (lv_at hl 0 rfl) ?_
      refine w_v (y := rv ad 3 o_4.2) rfl ?_
      exact (Kr _ (Option.some.inj Heq).symm).1 _ rfl 29 _ _ _ d_cJT_objectAt_29 hP hD hS
    · replace Heq := (if_pos c_10).symm.trans Heq
      exact w_cJT_objectAt_J20 hfl hC Heq Kr _ _ _ hP hD hS (lv_sub hl [1] rfl)
def m_cJT_objectAt (N : Nat → Nat) (x0 : Nat) (S : CS) (x1 : Int32) : Option ((CS × Option Nat) ⊕ (CS × Nat)) := m_cJT_objectAt_J0 N x0 S x1
set_option maxHeartbeats 4000000 in
theorem g_cJT_objectAt (l : Launch) (hfl : l.flags = flags0) (D : va_G) (sz : Nat) {ad : Nat → Nat → Nat} {cc : Nat → ClassId} {sad sav : Nat → Nat} {N : Nat → Nat} {x0 : Nat} {S : CS} {x1 : Int32} {o : CS × Option Nat} (Heq : m_cJT_objectAt N x0 S x1 = some (.inl o)) : Met l ⟨"JoinedTrees", "objectAt", "(I)LJoinedTrees$Op;"⟩ (Cond.code ⟨"JoinedTrees", "objectAt", "(I)LJoinedTrees$Op;"⟩ prog_1_method_41_code 3 (some (.object "JoinedTrees$Op")) :: gb) ({ frames := 6, cells := 0, slots := 0, locals := 96 }) (cPc sad sav D (cw ad cc N S) (cty cc) sz [.ref (ad 11 x0), .int x1]) (va_Qq (fun (r : Option Nat) (_ : Unit) => r = o.2.map (ad 3)) (fun _ t => gO D (cw ad cc N o.1) (cty cc) (va_A (cw ad cc N S) sz) t) (va_A (cw ad cc N S) sz)) 0 0 (va_A (cw ad cc N S) sz) := by
  refine Met.ofW (cc := prog_1_method_41_code) (maxL := 3) (ret := (some (.object "JoinedTrees$Op"))) (by decide) rfl ?_
  intro p e s m args below meth c s₁ B hml hv
  obtain ⟨rfl, hsz, hP, hK, hD0, hev, hE, hN⟩ := hv
  have hx := B.exec
  have hb := B.bytes
  have hr := B.returns
  have hts : ∀ w9 ∈ gb, w9.before [.ref (ad 11 x0), .int x1].toArray s = true := fun w9 h => atoms_spec (ws := Cond.code ⟨"JoinedTrees", "objectAt", "(I)LJoinedTrees$Op;"⟩ prog_1_method_41_code 3 (some (.object "JoinedTrees$Op")) :: gb) B.pre w9 (List.mem_cons_of_mem _ h)
  have hown : s.vm.findClass "JoinedTrees" = some m.cls := findClass_of_methodNamed B.named
  have hlocks := B.notSynchronized
  have hNS := ns_of hP
  subst hsz
  have hD := hD0.self (sz := s.heap.size)
  generalize hAe : va_A (cw ad cc N S) s.heap.size = A at hD hev hE hNS ⊢
  have hA : ∀ q : Nat, s.heap.size ≤ q → A q := fun q h => by rw [← hAe]; exact Or.inr h
  have hS : va_S A s.heap s.heap [] := va_S.rf
  obtain ⟨ls, hl, hle⟩ : ∃ ls : Array Slot, lv_has ls 3 [(0, .ref (ad 11 x0)), (1, .int x1)] ∧ entryFrame m ([.ref (ad 11 x0), .int x1] : List Value).toArray 3 = F0 m 0 ls [] := by
    exact ⟨_, lv_entry (n := 3) _ (Nat.le_of_ble_eq_true rfl), lg_entry_eq ..⟩
  rw [hle]
  refine w_cJT_objectAt_J0 (cR := 0) (sR := 0) hfl ⟨hx, hb, hr, hml, hown, hts, hK, hA, hev, hE, hN, hNS⟩ Heq (fun r h => ⟨fun v9 hv9 pc H locs ls hd hP hD hS => ?_, fun t9 ht9 => (by subst h; cases ht9)⟩) _ _ _ hP hD hS (lv_sub hl [0, 1] rfl)
  subst h
  cases hv9
  exact W.aret hx hb hr (Or.inl ⟨_, rfl⟩) (va_rf_or _) (fun t ht hW => ⟨⟨_, (), rfl, rfl, by rw [ht]; exact hP, va_K.moved hW.alike hK, hD⟩, hS.F ht⟩) hS.2.2 hd
set_option maxHeartbeats 4000000 in
theorem g_cJT_objectAt_t (l : Launch) (hfl : l.flags = flags0) (D : va_G) (sz : Nat) {ad : Nat → Nat → Nat} {cc : Nat → ClassId} {sad sav : Nat → Nat} {N : Nat → Nat} {x0 : Nat} {S : CS} {x1 : Int32} {o : CS × Nat} (Heq : m_cJT_objectAt N x0 S x1 = some (.inr o)) : MeT l ⟨"JoinedTrees", "objectAt", "(I)LJoinedTrees$Op;"⟩ (Cond.code ⟨"JoinedTrees", "objectAt", "(I)LJoinedTrees$Op;"⟩ prog_1_method_41_code 3 (some (.object "JoinedTrees$Op")) :: gb) ({ frames := 6, cells := 1, slots := 6, locals := 96 }) (cPc sad sav D (cw ad cc N S) (cty cc) sz [.ref (ad 11 x0), .int x1]) (exN o.2) (va_A (cw ad cc N S) sz) (fun H1 => va_P D cls (cw ad cc N o.1) H1) 1 6 := by
  refine MeT.ofW (cc := prog_1_method_41_code) (maxL := 3) (ret := (some (.object "JoinedTrees$Op"))) (by decide) rfl ?_
  intro p e s m args below meth c s₁ B hml hno hv
  obtain ⟨rfl, hsz, hP, hK, hD0, hev, hE, hN⟩ := hv
  have hx := B.exec
  have hb := B.bytes
  have hr := B.returns
  have hts : ∀ w9 ∈ gb, w9.before [.ref (ad 11 x0), .int x1].toArray s = true := fun w9 h => atoms_spec (ws := Cond.code ⟨"JoinedTrees", "objectAt", "(I)LJoinedTrees$Op;"⟩ prog_1_method_41_code 3 (some (.object "JoinedTrees$Op")) :: gb) B.pre w9 (List.mem_cons_of_mem _ h)
  have hown : s.vm.findClass "JoinedTrees" = some m.cls := findClass_of_methodNamed B.named
  have hlocks := B.notSynchronized
  have hNS := ns_of hP
  subst hsz
  have hD := hD0.self (sz := s.heap.size)
  generalize hAe : va_A (cw ad cc N S) s.heap.size = A at hD hev hE hNS ⊢
  have hA : ∀ q : Nat, s.heap.size ≤ q → A q := fun q h => by rw [← hAe]; exact Or.inr h
  have hS : va_S A s.heap s.heap [] := va_S.rf
  obtain ⟨ls, hl, hle⟩ : ∃ ls : Array Slot, lv_has ls 3 [(0, .ref (ad 11 x0)), (1, .int x1)] ∧ entryFrame m ([.ref (ad 11 x0), .int x1] : List Value).toArray 3 = F0 m 0 ls [] := by
    exact ⟨_, lv_entry (n := 3) _ (Nat.le_of_ble_eq_true rfl), lg_entry_eq ..⟩
  rw [hle]
  refine w_cJT_objectAt_J0 (cR := 1) (sR := 6) hfl ⟨hx, hb, hr, hml, hown, hts, hK, hA, hev, hE, hN, hNS⟩ Heq (fun r h => ⟨fun v9 hv9 => (by subst h; cases hv9), fun t9 ht9 => ⟨⟨Nat.le_refl _, Nat.le_refl _⟩, fun pc H locs ls hd hsz hP hD hS => ?_, fun pc H locs ls st0 rest9 A9 hr9 hF9 hS => ?_⟩⟩) _ _ _ hP hD hS (lv_sub hl [0, 1] rfl)
  · subst h; cases ht9; exact tx_thr hfl hx hb hno hlocks hown hts hev hN hNS hd (hsz.trans hml.symm) hP hS hA (Nat.le_refl _) (Nat.le_refl _) (Nat.le_of_ble_eq_true rfl) (Nat.le_of_ble_eq_true rfl)
  · subst h; cases ht9; exact tx_on hr9 hno hlocks hS hF9
def m_cJT_mapAt_J0 (N : Nat → Nat) (x0 : Nat) (S : CS) (x1 : Int32) : Option ((CS × Option Nat) ⊕ (CS × Nat)) := gl x0 (N 11) (oe (m_cJT_objectAt N x0 S x1) (fun o_1 => gn o_1.2 (N 3) (fun j_4 => (if o_1.1.i 3 2 j_4 = 6 then some (.inl (o_1.1, o_1.2)) else some (.inr (o_1.1, 1))))) (fun t_3 => some (.inr t_3)))
theorem d_cJT_mapAt_0 : decode prog_1_method_42_code 0 = .ok (.aload_n 0, 1) := by decide +kernel
theorem d_cJT_mapAt_1 : decode prog_1_method_42_code 1 = .ok (.iload_n 1, 1) := by decide +kernel
theorem d_cJT_mapAt_2 : decode prog_1_method_42_code 2 = .ok (.invokevirtual 168, 3) := by decide +kernel
theorem d_cJT_mapAt_5 : decode prog_1_method_42_code 5 = .ok (.astore_n 2, 1) := by decide +kernel
theorem d_cJT_mapAt_6 : decode prog_1_method_42_code 6 = .ok (.aload_n 2, 1) := by decide +kernel
theorem d_cJT_mapAt_7 : decode prog_1_method_42_code 7 = .ok (.getfield 171, 3) := by decide +kernel
theorem d_cJT_mapAt_10 : decode prog_1_method_42_code 10 = .ok (.bipush 6, 2) := by decide +kernel
theorem d_cJT_mapAt_12 : decode prog_1_method_42_code 12 = .ok (.if_icmp .eq 11, 3) := by decide +kernel
theorem d_cJT_mapAt_23 : decode prog_1_method_42_code 23 = .ok (.aload_n 2, 1) := by decide +kernel
theorem d_cJT_mapAt_24 : decode prog_1_method_42_code 24 = .ok (.areturn, 1) := by decide +kernel
theorem d_cJT_mapAt_15 : decode prog_1_method_42_code 15 = .ok (.new 93, 3) := by decide +kernel
theorem d_cJT_mapAt_18 : decode prog_1_method_42_code 18 = .ok (.dup, 1) := by decide +kernel
theorem d_cJT_mapAt_19 : decode prog_1_method_42_code 19 = .ok (.invokespecial 95, 3) := by decide +kernel
theorem d_cJT_mapAt_22 : decode prog_1_method_42_code 22 = .ok (.athrow, 1) := by decide +kernel
set_option maxHeartbeats 4000000 in
set_option maxRecDepth 100000 in
theorem w_cJT_mapAt_J0 {p : Program} {l : Launch} {e : Env} {s : State} {m : MethodId} {args : Array Value} {below : List Frame} {meth : Method} {c : Code} {A : Nat → Prop} {D : va_G} {ad : Nat → Nat → Nat} {cc : Nat → ClassId} {sad sav : Nat → Nat} {Q : State → Prop} {cR sR : Nat} (hfl : l.flags = flags0) (hC : MCc sad sav "JoinedTrees" prog_1_method_42_code 3 (some (.object "JoinedTrees$Op")) p s m args meth c A D cc) {N : Nat → Nat} {x0 : Nat} {S : CS} {x1 : Int32} {o : ((CS × Option Nat) ⊕ (CS × Nat))} (Heq : m_cJT_mapAt_J0 N x0 S x1 = some o) (Kr : ∀ r : ((CS × Option Nat) ⊕ (CS × Nat)), o = r → (∀ v9 : CS × Option Nat, r = .inl v9 → ∀ (pc : Nat) (H : Heap) (locs : List Loc) (ls : Array Slot), decode prog_1_method_42_code pc = .ok (.areturn, 1) → va_P D cls (cw ad cc N v9.1) H → va_D A (cw ad cc N v9.1) → va_S A s.heap H locs → W p l e ({ frames := 7, cells := cR, slots := sR, locals := 118 }) s m args below meth c H locs 0 0 Q (F0 m pc ls [rv ad 3 v9.2])) ∧ (∀ t9 : CS × Nat, r = .inr t9 → (1 ≤ cR ∧ 6 ≤ sR) ∧ (∀ (pc : Nat) (H : Heap) (locs : List Loc) (ls : Array Slot), thD prog_1_method_42_code t9.2 pc → ls.size = 3 → va_P D cls (cw ad cc N t9.1) H → va_D A (cw ad cc N t9.1) → va_S A s.heap H locs → W p l e ({ frames := 7, cells := cR, slots := sR, locals := 118 }) s m args below meth c H locs 0 0 Q (F0 m pc ls [])) ∧ (∀ (pc : Nat) (H : Heap) (locs : List Loc) (ls : Array Slot) (st0 rest9 : List Value) (A9 : Nat → Prop), tx_Thr p l e ({ frames := 7, cells := cR, slots := sR, locals := 118 }) s m args below meth c H locs 0 0 1 6 (F0 m pc ls st0) rest9 (exN t9.2) A9 (fun H1 => va_P D cls (cw ad cc N t9.1) H1) → (∀ q, A9 q → A q) → va_S A s.heap H locs → W p l e ({ frames := 7, cells := cR, slots := sR, locals := 118 }) s m args below meth c H locs 0 0 Q (F0 m pc ls st0)))) : ∀ (H : Heap) (locs : List Loc) (ls : Array Slot), va_P D cls (cw ad cc N S) H → va_D A (cw ad cc N S) → va_S A s.heap H locs → lv_has ls 3 [(0, .ref (ad 11 x0)), (1, .int x1)] → W p l e ({ frames := 7, cells := cR, slots := sR, locals := 118 }) s m args below meth c H locs 0 0 Q (F0 m 0 ls []) := by
  intro H locs ls hP hD hS hl
  obtain ⟨hx, hb, hr, hml, hown, hts, hK, hA, hev, hE, hN, hNS⟩ := id hC
  unfold m_cJT_mapAt_J0 at Heq
  refine lv_aload_n hx hb d_cJT_mapAt_0 rfl (lv_at hl 0 rfl) ?_
  refine lv_iload_n hx hb d_cJT_mapAt_1 rfl (lv_at hl 1 rfl) ?_
  obtain ⟨hl_x0_11, Heq⟩ := gl_some Heq
  have hFc := fr_all hD hS hA
  rcases oe_some Heq with ⟨o_1, h_2, Heq⟩ | ⟨t_3, h_2, Heq⟩
  case inr => exact ((Kr _ (Option.some.inj Heq).symm).2 _ rfl).2.2 2 _ _ _ _ _ _ (tx_runV (As := [.int x1]) (rest := []) ⟨hx, hb, hml, hown, hts⟩ (g_cJT_objectAt_t l hfl D H.size (ad := ad) (cc := cc) (sad := sad) (sav := sav) h_2) (cw_v 1 hts kw_616 kw_613 kw_615 kp_7 kw_1 rfl rfl (by decide +kernel) ⟨Nat.le_of_ble_eq_true rfl, Nat.le_of_ble_eq_true rfl⟩) ⟨c_blind, va_recv hK hP (ci := 11) (q0 := cPos N 11 x0) rfl (cw_obj (k := 11) (by decide) hl_x0_11), fun U hU hW => c_pre hU hW hP hK hD hev hE hN hNS hS hFc⟩ rfl rfl hl.1 rfl (lv_room (Nat.le_of_ble_eq_true rfl)) d_cJT_mapAt_2 ((Kr _ (Option.some.inj Heq).symm).2 _ rfl).1) hFc hS
  refine va_callq (va_runV (As := [.int x1]) (rest := []) ⟨hx, hb, hml, hown, hts⟩ (g_cJT_objectAt l hfl D H.size (ad := ad) (cc := cc) (sad := sad) (sav := sav) h_2) (cw_v 1 hts kw_616 kw_613 kw_615 kp_7 kw_1 rfl rfl (by decide +kernel) ⟨Nat.le_of_ble_eq_true rfl, Nat.le_of_ble_eq_true rfl⟩) ⟨c_blind, va_recv hK hP (ci := 11) (q0 := cPos N 11 x0) rfl (cw_obj (k := 11) (by decide) hl_x0_11), fun U hU hW => c_pre hU hW hP hK hD hev hE hN hNS hS hFc⟩ rfl rfl hl.1 rfl (lv_room (Nat.le_of_ble_eq_true rfl)) d_cJT_mapAt_2 ⟨Nat.zero_le _, Nat.zero_le _⟩) hS (fun q _ h => hFc q h) hFc (fun rz u t H1 locs ht hvm hw hB hz1 hk1 hS => ?_)
  obtain ⟨hP, -, hD1⟩ := hB
  rw [ht] at hP
  have hD := hD1.weaken (fun _ q _ h => hFc q.1 h)
  generalize H1 = H at hP hS ⊢
  refine W.cs (cells' := 0) (slots' := 0) rfl rfl ?_
  subst hw
  refine w_v (y := rv ad 3 o_1.2) rfl ?_
  refine tx_astore_n (x := o_1.2.map (ad 3)) (lv' := [(2, rv ad 3 o_1.2), (0, .ref (ad 11 x0)), (1, .int x1)]) hx hb d_cJT_mapAt_5 rfl hl (by decide) rfl (fun ls hl => ?_)
  refine tx_aload_n (x := o_1.2.map (ad 3)) hx hb d_cJT_mapAt_6 rfl (lv_at hl 0 rfl) ?_
  refine w_v (y := rv ad 3 o_1.2) rfl ?_
  obtain ⟨j_4, hj_5, hl_6, Heq⟩ := gn_some Heq
  refine w_s (st' := [.ref (ad 3 j_4)]) (congrArg (fun z9 : Option Nat => [rv ad 3 z9]) hj_5) ?_
  refine va_get (D := D) (ci := 3) (v := .int (o_1.1.i 3 2 j_4)) (C := R_Op) (T := F_Op) (N := 15) hx hb hts i_Op hown hK hP (cPos N 3 j_4) (cw_obj (k := 3) (by decide) hl_6) rfl 2 (by decide) (hts _ kw_62) (fun _ h9 => h9) rfl d_cJT_mapAt_7 ?_
  refine lv_bipush (v := 6) hx hb d_cJT_mapAt_10 (by decide) ?_
  refine lv_icmp_eq (tgt := 23) hx hb d_cJT_mapAt_12 (by decide) (fun c_7 => ?_) (fun c_7 => ?_)
  · replace Heq := (if_pos c_7).symm.trans Heq
    refine tx_aload_n (x := o_1.2.map (ad 3)) hx hb d_cJT_mapAt_23 rfl (lv_at hl 0 rfl) ?_
    refine w_v (y := rv ad 3 o_1.2) rfl ?_
    exact (Kr _ (Option.some.inj Heq).symm).1 _ rfl 24 _ _ _ d_cJT_mapAt_24 hP hD hS
  · replace Heq := (if_neg c_7).symm.trans Heq
    exact ((Kr _ (Option.some.inj Heq).symm).2 _ rfl).2.1 15 _ _ _ ⟨⟨show 1 ≤ 1 by decide, show 1 ≤ 5 by decide⟩, d_cJT_mapAt_15, d_cJT_mapAt_18, d_cJT_mapAt_19, d_cJT_mapAt_22⟩ hl.1 hP hD hS
def m_cJT_mapAt (N : Nat → Nat) (x0 : Nat) (S : CS) (x1 : Int32) : Option ((CS × Option Nat) ⊕ (CS × Nat)) := m_cJT_mapAt_J0 N x0 S x1
set_option maxHeartbeats 4000000 in
theorem g_cJT_mapAt (l : Launch) (hfl : l.flags = flags0) (D : va_G) (sz : Nat) {ad : Nat → Nat → Nat} {cc : Nat → ClassId} {sad sav : Nat → Nat} {N : Nat → Nat} {x0 : Nat} {S : CS} {x1 : Int32} {o : CS × Option Nat} (Heq : m_cJT_mapAt N x0 S x1 = some (.inl o)) : Met l ⟨"JoinedTrees", "mapAt", "(I)LJoinedTrees$Op;"⟩ (Cond.code ⟨"JoinedTrees", "mapAt", "(I)LJoinedTrees$Op;"⟩ prog_1_method_42_code 3 (some (.object "JoinedTrees$Op")) :: gb) ({ frames := 7, cells := 0, slots := 0, locals := 118 }) (cPc sad sav D (cw ad cc N S) (cty cc) sz [.ref (ad 11 x0), .int x1]) (va_Qq (fun (r : Option Nat) (_ : Unit) => r = o.2.map (ad 3)) (fun _ t => gO D (cw ad cc N o.1) (cty cc) (va_A (cw ad cc N S) sz) t) (va_A (cw ad cc N S) sz)) 0 0 (va_A (cw ad cc N S) sz) := by
  refine Met.ofW (cc := prog_1_method_42_code) (maxL := 3) (ret := (some (.object "JoinedTrees$Op"))) (by decide) rfl ?_
  intro p e s m args below meth c s₁ B hml hv
  obtain ⟨rfl, hsz, hP, hK, hD0, hev, hE, hN⟩ := hv
  have hx := B.exec
  have hb := B.bytes
  have hr := B.returns
  have hts : ∀ w9 ∈ gb, w9.before [.ref (ad 11 x0), .int x1].toArray s = true := fun w9 h => atoms_spec (ws := Cond.code ⟨"JoinedTrees", "mapAt", "(I)LJoinedTrees$Op;"⟩ prog_1_method_42_code 3 (some (.object "JoinedTrees$Op")) :: gb) B.pre w9 (List.mem_cons_of_mem _ h)
  have hown : s.vm.findClass "JoinedTrees" = some m.cls := findClass_of_methodNamed B.named
  have hlocks := B.notSynchronized
  have hNS := ns_of hP
  subst hsz
  have hD := hD0.self (sz := s.heap.size)
  generalize hAe : va_A (cw ad cc N S) s.heap.size = A at hD hev hE hNS ⊢
  have hA : ∀ q : Nat, s.heap.size ≤ q → A q := fun q h => by rw [← hAe]; exact Or.inr h
  have hS : va_S A s.heap s.heap [] := va_S.rf
  obtain ⟨ls, hl, hle⟩ : ∃ ls : Array Slot, lv_has ls 3 [(0, .ref (ad 11 x0)), (1, .int x1)] ∧ entryFrame m ([.ref (ad 11 x0), .int x1] : List Value).toArray 3 = F0 m 0 ls [] := by
    exact ⟨_, lv_entry (n := 3) _ (Nat.le_of_ble_eq_true rfl), lg_entry_eq ..⟩
  rw [hle]
  refine w_cJT_mapAt_J0 (cR := 0) (sR := 0) hfl ⟨hx, hb, hr, hml, hown, hts, hK, hA, hev, hE, hN, hNS⟩ Heq (fun r h => ⟨fun v9 hv9 pc H locs ls hd hP hD hS => ?_, fun t9 ht9 => (by subst h; cases ht9)⟩) _ _ _ hP hD hS (lv_sub hl [0, 1] rfl)
  subst h
  cases hv9
  exact W.aret hx hb hr (Or.inl ⟨_, rfl⟩) (va_rf_or _) (fun t ht hW => ⟨⟨_, (), rfl, rfl, by rw [ht]; exact hP, va_K.moved hW.alike hK, hD⟩, hS.F ht⟩) hS.2.2 hd
set_option maxHeartbeats 4000000 in
theorem g_cJT_mapAt_t (l : Launch) (hfl : l.flags = flags0) (D : va_G) (sz : Nat) {ad : Nat → Nat → Nat} {cc : Nat → ClassId} {sad sav : Nat → Nat} {N : Nat → Nat} {x0 : Nat} {S : CS} {x1 : Int32} {o : CS × Nat} (Heq : m_cJT_mapAt N x0 S x1 = some (.inr o)) : MeT l ⟨"JoinedTrees", "mapAt", "(I)LJoinedTrees$Op;"⟩ (Cond.code ⟨"JoinedTrees", "mapAt", "(I)LJoinedTrees$Op;"⟩ prog_1_method_42_code 3 (some (.object "JoinedTrees$Op")) :: gb) ({ frames := 7, cells := 1, slots := 6, locals := 118 }) (cPc sad sav D (cw ad cc N S) (cty cc) sz [.ref (ad 11 x0), .int x1]) (exN o.2) (va_A (cw ad cc N S) sz) (fun H1 => va_P D cls (cw ad cc N o.1) H1) 1 6 := by
  refine MeT.ofW (cc := prog_1_method_42_code) (maxL := 3) (ret := (some (.object "JoinedTrees$Op"))) (by decide) rfl ?_
  intro p e s m args below meth c s₁ B hml hno hv
  obtain ⟨rfl, hsz, hP, hK, hD0, hev, hE, hN⟩ := hv
  have hx := B.exec
  have hb := B.bytes
  have hr := B.returns
  have hts : ∀ w9 ∈ gb, w9.before [.ref (ad 11 x0), .int x1].toArray s = true := fun w9 h => atoms_spec (ws := Cond.code ⟨"JoinedTrees", "mapAt", "(I)LJoinedTrees$Op;"⟩ prog_1_method_42_code 3 (some (.object "JoinedTrees$Op")) :: gb) B.pre w9 (List.mem_cons_of_mem _ h)
  have hown : s.vm.findClass "JoinedTrees" = some m.cls := findClass_of_methodNamed B.named
  have hlocks := B.notSynchronized
  have hNS := ns_of hP
  subst hsz
  have hD := hD0.self (sz := s.heap.size)
  generalize hAe : va_A (cw ad cc N S) s.heap.size = A at hD hev hE hNS ⊢
  have hA : ∀ q : Nat, s.heap.size ≤ q → A q := fun q h => by rw [← hAe]; exact Or.inr h
  have hS : va_S A s.heap s.heap [] := va_S.rf
  obtain ⟨ls, hl, hle⟩ : ∃ ls : Array Slot, lv_has ls 3 [(0, .ref (ad 11 x0)), (1, .int x1)] ∧ entryFrame m ([.ref (ad 11 x0), .int x1] : List Value).toArray 3 = F0 m 0 ls [] := by
    exact ⟨_, lv_entry (n := 3) _ (Nat.le_of_ble_eq_true rfl), lg_entry_eq ..⟩
  rw [hle]
  refine w_cJT_mapAt_J0 (cR := 1) (sR := 6) hfl ⟨hx, hb, hr, hml, hown, hts, hK, hA, hev, hE, hN, hNS⟩ Heq (fun r h => ⟨fun v9 hv9 => (by subst h; cases hv9), fun t9 ht9 => ⟨⟨Nat.le_refl _, Nat.le_refl _⟩, fun pc H locs ls hd hsz hP hD hS => ?_, fun pc H locs ls st0 rest9 A9 hr9 hF9 hS => ?_⟩⟩) _ _ _ hP hD hS (lv_sub hl [0, 1] rfl)
  · subst h; cases ht9; exact tx_thr hfl hx hb hno hlocks hown hts hev hN hNS hd (hsz.trans hml.symm) hP hS hA (Nat.le_refl _) (Nat.le_refl _) (Nat.le_of_ble_eq_true rfl) (Nat.le_of_ble_eq_true rfl)
  · subst h; cases ht9; exact tx_on hr9 hno hlocks hS hF9
def m_cJT_needAll_J0 (N : Nat → Nat) (x0 : Nat) (S : CS) (x1 : Nat) : Option ((CS) ⊕ (CS × Nat)) := gl x1 (N 4) (on (S.r 4 4 x1) (some (.inl S)) (fun j_1 => some (.inr (S, 2))))
theorem d_cJT_needAll_0 : decode prog_1_method_37_code 0 = .ok (.aload_n 1, 1) := by decide +kernel
theorem d_cJT_needAll_1 : decode prog_1_method_37_code 1 = .ok (.getfield 271, 3) := by decide +kernel
theorem d_cJT_needAll_4 : decode prog_1_method_37_code 4 = .ok (.ifnull 11, 3) := by decide +kernel
theorem d_cJT_needAll_15 : decode prog_1_method_37_code 15 = .ok (.return_, 1) := by decide +kernel
theorem d_cJT_needAll_7 : decode prog_1_method_37_code 7 = .ok (.new 223, 3) := by decide +kernel
theorem d_cJT_needAll_10 : decode prog_1_method_37_code 10 = .ok (.dup, 1) := by decide +kernel
theorem d_cJT_needAll_11 : decode prog_1_method_37_code 11 = .ok (.invokespecial 225, 3) := by decide +kernel
theorem d_cJT_needAll_14 : decode prog_1_method_37_code 14 = .ok (.athrow, 1) := by decide +kernel
set_option maxHeartbeats 4000000 in
set_option maxRecDepth 100000 in
theorem w_cJT_needAll_J0 {p : Program} {l : Launch} {e : Env} {s : State} {m : MethodId} {args : Array Value} {below : List Frame} {meth : Method} {c : Code} {A : Nat → Prop} {D : va_G} {ad : Nat → Nat → Nat} {cc : Nat → ClassId} {sad sav : Nat → Nat} {Q : State → Prop} {cR sR : Nat} (hfl : l.flags = flags0) (hC : MCc sad sav "JoinedTrees" prog_1_method_37_code 2 none p s m args meth c A D cc) {N : Nat → Nat} {x0 : Nat} {S : CS} {x1 : Nat} {o : ((CS) ⊕ (CS × Nat))} (Heq : m_cJT_needAll_J0 N x0 S x1 = some o) (Kr : ∀ r : ((CS) ⊕ (CS × Nat)), o = r → (∀ v9 : CS, r = .inl v9 → ∀ (pc : Nat) (H : Heap) (locs : List Loc) (ls : Array Slot), decode prog_1_method_37_code pc = .ok (.return_, 1) → va_P D cls (cw ad cc N v9) H → va_D A (cw ad cc N v9) → va_S A s.heap H locs → W p l e ({ frames := 6, cells := cR, slots := sR, locals := 96 }) s m args below meth c H locs 0 0 Q (F0 m pc ls [])) ∧ (∀ t9 : CS × Nat, r = .inr t9 → (1 ≤ cR ∧ 6 ≤ sR) ∧ (∀ (pc : Nat) (H : Heap) (locs : List Loc) (ls : Array Slot), thD prog_1_method_37_code t9.2 pc → ls.size = 2 → va_P D cls (cw ad cc N t9.1) H → va_D A (cw ad cc N t9.1) → va_S A s.heap H locs → W p l e ({ frames := 6, cells := cR, slots := sR, locals := 96 }) s m args below meth c H locs 0 0 Q (F0 m pc ls [])) ∧ (∀ (pc : Nat) (H : Heap) (locs : List Loc) (ls : Array Slot) (st0 rest9 : List Value) (A9 : Nat → Prop), tx_Thr p l e ({ frames := 6, cells := cR, slots := sR, locals := 96 }) s m args below meth c H locs 0 0 1 6 (F0 m pc ls st0) rest9 (exN t9.2) A9 (fun H1 => va_P D cls (cw ad cc N t9.1) H1) → (∀ q, A9 q → A q) → va_S A s.heap H locs → W p l e ({ frames := 6, cells := cR, slots := sR, locals := 96 }) s m args below meth c H locs 0 0 Q (F0 m pc ls st0)))) : ∀ (H : Heap) (locs : List Loc) (ls : Array Slot), va_P D cls (cw ad cc N S) H → va_D A (cw ad cc N S) → va_S A s.heap H locs → lv_has ls 2 [(0, .ref (ad 11 x0)), (1, .ref (ad 4 x1))] → W p l e ({ frames := 6, cells := cR, slots := sR, locals := 96 }) s m args below meth c H locs 0 0 Q (F0 m 0 ls []) := by
  intro H locs ls hP hD hS hl
  obtain ⟨hx, hb, hr, hml, hown, hts, hK, hA, hev, hE, hN, hNS⟩ := id hC
  unfold m_cJT_needAll_J0 at Heq
  refine lv_aload_n hx hb d_cJT_needAll_0 rfl (lv_at hl 1 rfl) ?_
  obtain ⟨hl_x1_4, Heq⟩ := gl_some Heq
  refine va_get (D := D) (ci := 4) (v := rv ad 0 (S.r 4 4 x1)) (C := R_Rp) (T := F_Rp) (N := 10) hx hb hts i_Rp hown hK hP (cPos N 4 x1) (cw_obj (k := 4) (by decide) hl_x1_4) rfl 4 (by decide) (hts _ kw_216) (fun _ h9 => h9) rfl d_cJT_needAll_1 ?_
  rcases on_some Heq with ⟨hj_2, Heq⟩ | ⟨j_1, hj_2, Heq⟩
  · refine w_s (st' := [.null]) (congrArg (fun z9 : Option Nat => [rv ad 0 z9]) hj_2) ?_
    refine lv_ifnullN (tgt := 15) hx hb d_cJT_needAll_4 (by decide) ?_
    exact (Kr _ (Option.some.inj Heq).symm).1 _ rfl 15 _ _ _ d_cJT_needAll_15 hP hD hS
  · refine w_s (st' := [.ref (ad 0 j_1)]) (congrArg (fun z9 : Option Nat => [rv ad 0 z9]) hj_2) ?_
    refine lv_ifnull hx hb d_cJT_needAll_4 ?_
    exact ((Kr _ (Option.some.inj Heq).symm).2 _ rfl).2.1 7 _ _ _ ⟨⟨show 1 ≤ 2 by decide, show 2 ≤ 5 by decide⟩, d_cJT_needAll_7, d_cJT_needAll_10, d_cJT_needAll_11, d_cJT_needAll_14⟩ hl.1 hP hD hS
def m_cJT_needAll (N : Nat → Nat) (x0 : Nat) (S : CS) (x1 : Nat) : Option ((CS) ⊕ (CS × Nat)) := m_cJT_needAll_J0 N x0 S x1
set_option maxHeartbeats 4000000 in
theorem g_cJT_needAll (l : Launch) (hfl : l.flags = flags0) (D : va_G) (sz : Nat) {ad : Nat → Nat → Nat} {cc : Nat → ClassId} {sad sav : Nat → Nat} {N : Nat → Nat} {x0 : Nat} {S : CS} {x1 : Nat} {o : CS} (Heq : m_cJT_needAll N x0 S x1 = some (.inl o)) : Met l ⟨"JoinedTrees", "needAll", "(LJoinedTrees$Replica;)V"⟩ (Cond.code ⟨"JoinedTrees", "needAll", "(LJoinedTrees$Replica;)V"⟩ prog_1_method_37_code 2 none :: gb) ({ frames := 6, cells := 0, slots := 0, locals := 96 }) (cPc sad sav D (cw ad cc N S) (cty cc) sz [.ref (ad 11 x0), .ref (ad 4 x1)]) (va_Qv (fun _ : Unit => True) (fun _ t => gO D (cw ad cc N o) (cty cc) (va_A (cw ad cc N S) sz) t) (va_A (cw ad cc N S) sz)) 0 0 (va_A (cw ad cc N S) sz) := by
  refine Met.ofW (cc := prog_1_method_37_code) (maxL := 2) (ret := none) (by decide) rfl ?_
  intro p e s m args below meth c s₁ B hml hv
  obtain ⟨rfl, hsz, hP, hK, hD0, hev, hE, hN⟩ := hv
  have hx := B.exec
  have hb := B.bytes
  have hr := B.returns
  have hts : ∀ w9 ∈ gb, w9.before [.ref (ad 11 x0), .ref (ad 4 x1)].toArray s = true := fun w9 h => atoms_spec (ws := Cond.code ⟨"JoinedTrees", "needAll", "(LJoinedTrees$Replica;)V"⟩ prog_1_method_37_code 2 none :: gb) B.pre w9 (List.mem_cons_of_mem _ h)
  have hown : s.vm.findClass "JoinedTrees" = some m.cls := findClass_of_methodNamed B.named
  have hlocks := B.notSynchronized
  have hNS := ns_of hP
  subst hsz
  have hD := hD0.self (sz := s.heap.size)
  generalize hAe : va_A (cw ad cc N S) s.heap.size = A at hD hev hE hNS ⊢
  have hA : ∀ q : Nat, s.heap.size ≤ q → A q := fun q h => by rw [← hAe]; exact Or.inr h
  have hS : va_S A s.heap s.heap [] := va_S.rf
  obtain ⟨ls, hl, hle⟩ : ∃ ls : Array Slot, lv_has ls 2 [(0, .ref (ad 11 x0)), (1, .ref (ad 4 x1))] ∧ entryFrame m ([.ref (ad 11 x0), .ref (ad 4 x1)] : List Value).toArray 2 = F0 m 0 ls [] := by
    exact ⟨_, lv_entry (n := 2) _ (Nat.le_of_ble_eq_true rfl), lg_entry_eq ..⟩
  rw [hle]
  refine w_cJT_needAll_J0 (cR := 0) (sR := 0) hfl ⟨hx, hb, hr, hml, hown, hts, hK, hA, hev, hE, hN, hNS⟩ Heq (fun r h => ⟨fun v9 hv9 pc H locs ls hd hP hD hS => ?_, fun t9 ht9 => (by subst h; cases ht9)⟩) _ _ _ hP hD hS (lv_sub hl [0, 1] rfl)
  subst h
  cases hv9
  exact W.vret hx hb hr (fun t ht hW => ⟨⟨(), rfl, trivial, by rw [ht]; exact hP, va_K.moved hW.alike hK, hD⟩, hS.F ht⟩) hS.2.2 hd
set_option maxHeartbeats 4000000 in
theorem g_cJT_needAll_t (l : Launch) (hfl : l.flags = flags0) (D : va_G) (sz : Nat) {ad : Nat → Nat → Nat} {cc : Nat → ClassId} {sad sav : Nat → Nat} {N : Nat → Nat} {x0 : Nat} {S : CS} {x1 : Nat} {o : CS × Nat} (Heq : m_cJT_needAll N x0 S x1 = some (.inr o)) : MeT l ⟨"JoinedTrees", "needAll", "(LJoinedTrees$Replica;)V"⟩ (Cond.code ⟨"JoinedTrees", "needAll", "(LJoinedTrees$Replica;)V"⟩ prog_1_method_37_code 2 none :: gb) ({ frames := 6, cells := 1, slots := 6, locals := 96 }) (cPc sad sav D (cw ad cc N S) (cty cc) sz [.ref (ad 11 x0), .ref (ad 4 x1)]) (exN o.2) (va_A (cw ad cc N S) sz) (fun H1 => va_P D cls (cw ad cc N o.1) H1) 1 6 := by
  refine MeT.ofW (cc := prog_1_method_37_code) (maxL := 2) (ret := none) (by decide) rfl ?_
  intro p e s m args below meth c s₁ B hml hno hv
  obtain ⟨rfl, hsz, hP, hK, hD0, hev, hE, hN⟩ := hv
  have hx := B.exec
  have hb := B.bytes
  have hr := B.returns
  have hts : ∀ w9 ∈ gb, w9.before [.ref (ad 11 x0), .ref (ad 4 x1)].toArray s = true := fun w9 h => atoms_spec (ws := Cond.code ⟨"JoinedTrees", "needAll", "(LJoinedTrees$Replica;)V"⟩ prog_1_method_37_code 2 none :: gb) B.pre w9 (List.mem_cons_of_mem _ h)
  have hown : s.vm.findClass "JoinedTrees" = some m.cls := findClass_of_methodNamed B.named
  have hlocks := B.notSynchronized
  have hNS := ns_of hP
  subst hsz
  have hD := hD0.self (sz := s.heap.size)
  generalize hAe : va_A (cw ad cc N S) s.heap.size = A at hD hev hE hNS ⊢
  have hA : ∀ q : Nat, s.heap.size ≤ q → A q := fun q h => by rw [← hAe]; exact Or.inr h
  have hS : va_S A s.heap s.heap [] := va_S.rf
  obtain ⟨ls, hl, hle⟩ : ∃ ls : Array Slot, lv_has ls 2 [(0, .ref (ad 11 x0)), (1, .ref (ad 4 x1))] ∧ entryFrame m ([.ref (ad 11 x0), .ref (ad 4 x1)] : List Value).toArray 2 = F0 m 0 ls [] := by
    exact ⟨_, lv_entry (n := 2) _ (Nat.le_of_ble_eq_true rfl), lg_entry_eq ..⟩
  rw [hle]
  refine w_cJT_needAll_J0 (cR := 1) (sR := 6) hfl ⟨hx, hb, hr, hml, hown, hts, hK, hA, hev, hE, hN, hNS⟩ Heq (fun r h => ⟨fun v9 hv9 => (by subst h; cases hv9), fun t9 ht9 => ⟨⟨Nat.le_refl _, Nat.le_refl _⟩, fun pc H locs ls hd hsz hP hD hS => ?_, fun pc H locs ls st0 rest9 A9 hr9 hF9 hS => ?_⟩⟩) _ _ _ hP hD hS (lv_sub hl [0, 1] rfl)
  · subst h; cases ht9; exact tx_thr hfl hx hb hno hlocks hown hts hev hN hNS hd (hsz.trans hml.symm) hP hS hA (Nat.le_refl _) (Nat.le_refl _) (Nat.le_of_ble_eq_true rfl) (Nat.le_of_ble_eq_true rfl)
  · subst h; cases ht9; exact tx_on hr9 hno hlocks hS hF9
def m_cJT_needRoom_J33 (N : Nat → Nat) (x0 : Nat) (S : CS) : Option ((CS) ⊕ (CS × Nat)) := some (.inr (S, 4))
theorem d_cJT_needRoom_0 : decode prog_1_method_39_code 0 = .ok (.aload_n 0, 1) := by decide +kernel
theorem d_cJT_needRoom_1 : decode prog_1_method_39_code 1 = .ok (.getfield 12, 3) := by decide +kernel
theorem d_cJT_needRoom_4 : decode prog_1_method_39_code 4 = .ok (.getfield 395, 3) := by decide +kernel
theorem d_cJT_needRoom_7 : decode prog_1_method_39_code 7 = .ok (.iload_n 1, 1) := by decide +kernel
theorem d_cJT_needRoom_8 : decode prog_1_method_39_code 8 = .ok (.iadd, 1) := by decide +kernel
theorem d_cJT_needRoom_9 : decode prog_1_method_39_code 9 = .ok (.sipush 4000, 3) := by decide +kernel
theorem d_cJT_needRoom_12 : decode prog_1_method_39_code 12 = .ok (.if_icmp .gt 21, 3) := by decide +kernel
theorem d_cJT_needRoom_33 : decode prog_1_method_39_code 33 = .ok (.new 87, 3) := by decide +kernel
theorem d_cJT_needRoom_36 : decode prog_1_method_39_code 36 = .ok (.dup, 1) := by decide +kernel
theorem d_cJT_needRoom_37 : decode prog_1_method_39_code 37 = .ok (.invokespecial 89, 3) := by decide +kernel
theorem d_cJT_needRoom_40 : decode prog_1_method_39_code 40 = .ok (.athrow, 1) := by decide +kernel
set_option maxHeartbeats 4000000 in
set_option maxRecDepth 100000 in
theorem w_cJT_needRoom_J33 {p : Program} {l : Launch} {e : Env} {s : State} {m : MethodId} {args : Array Value} {below : List Frame} {meth : Method} {c : Code} {A : Nat → Prop} {D : va_G} {ad : Nat → Nat → Nat} {cc : Nat → ClassId} {sad sav : Nat → Nat} {Q : State → Prop} {cR sR : Nat} (hfl : l.flags = flags0) (hC : MCc sad sav "JoinedTrees" prog_1_method_39_code 3 none p s m args meth c A D cc) {N : Nat → Nat} {x0 : Nat} {S : CS} {o : ((CS) ⊕ (CS × Nat))} (Heq : m_cJT_needRoom_J33 N x0 S = some o) (Kr : ∀ r : ((CS) ⊕ (CS × Nat)), o = r → (∀ v9 : CS, r = .inl v9 → ∀ (pc : Nat) (H : Heap) (locs : List Loc) (ls : Array Slot), decode prog_1_method_39_code pc = .ok (.return_, 1) → va_P D cls (cw ad cc N v9) H → va_D A (cw ad cc N v9) → va_S A s.heap H locs → W p l e ({ frames := 6, cells := cR, slots := sR, locals := 96 }) s m args below meth c H locs 0 0 Q (F0 m pc ls [])) ∧ (∀ t9 : CS × Nat, r = .inr t9 → (1 ≤ cR ∧ 6 ≤ sR) ∧ (∀ (pc : Nat) (H : Heap) (locs : List Loc) (ls : Array Slot), thD prog_1_method_39_code t9.2 pc → ls.size = 3 → va_P D cls (cw ad cc N t9.1) H → va_D A (cw ad cc N t9.1) → va_S A s.heap H locs → W p l e ({ frames := 6, cells := cR, slots := sR, locals := 96 }) s m args below meth c H locs 0 0 Q (F0 m pc ls [])) ∧ (∀ (pc : Nat) (H : Heap) (locs : List Loc) (ls : Array Slot) (st0 rest9 : List Value) (A9 : Nat → Prop), tx_Thr p l e ({ frames := 6, cells := cR, slots := sR, locals := 96 }) s m args below meth c H locs 0 0 1 6 (F0 m pc ls st0) rest9 (exN t9.2) A9 (fun H1 => va_P D cls (cw ad cc N t9.1) H1) → (∀ q, A9 q → A q) → va_S A s.heap H locs → W p l e ({ frames := 6, cells := cR, slots := sR, locals := 96 }) s m args below meth c H locs 0 0 Q (F0 m pc ls st0)))) : ∀ (H : Heap) (locs : List Loc) (ls : Array Slot), va_P D cls (cw ad cc N S) H → va_D A (cw ad cc N S) → va_S A s.heap H locs → lv_has ls 3 [(0, .ref (ad 11 x0))] → W p l e ({ frames := 6, cells := cR, slots := sR, locals := 96 }) s m args below meth c H locs 0 0 Q (F0 m 33 ls []) := by
  intro H locs ls hP hD hS hl
  obtain ⟨hx, hb, hr, hml, hown, hts, hK, hA, hev, hE, hN, hNS⟩ := id hC
  unfold m_cJT_needRoom_J33 at Heq
  exact ((Kr _ (Option.some.inj Heq).symm).2 _ rfl).2.1 33 _ _ _ ⟨⟨show 1 ≤ 4 by decide, show 4 ≤ 5 by decide⟩, d_cJT_needRoom_33, d_cJT_needRoom_36, d_cJT_needRoom_37, d_cJT_needRoom_40⟩ hl.1 hP hD hS
def m_cJT_needRoom_J0 (N : Nat → Nat) (x0 : Nat) (S : CS) (x1 : Int32) (x2 : Int32) : Option ((CS) ⊕ (CS × Nat)) := gl x0 (N 11) (gn (S.r 11 0 x0) (N 8) (fun j_1 => (if 4000 < (S.i 8 5 j_1) + x1 then m_cJT_needRoom_J33 N x0 S else gn (S.r 8 2 j_1) (N 5) (fun j_5 => (if (S.i 5 1 j_5) + x2 ≤ 24576 then some (.inl S) else m_cJT_needRoom_J33 N x0 S)))))
theorem d_cJT_needRoom_15 : decode prog_1_method_39_code 15 = .ok (.aload_n 0, 1) := by decide +kernel
theorem d_cJT_needRoom_16 : decode prog_1_method_39_code 16 = .ok (.getfield 12, 3) := by decide +kernel
theorem d_cJT_needRoom_19 : decode prog_1_method_39_code 19 = .ok (.getfield 287, 3) := by decide +kernel
theorem d_cJT_needRoom_22 : decode prog_1_method_39_code 22 = .ok (.getfield 80, 3) := by decide +kernel
theorem d_cJT_needRoom_25 : decode prog_1_method_39_code 25 = .ok (.iload_n 2, 1) := by decide +kernel
theorem d_cJT_needRoom_26 : decode prog_1_method_39_code 26 = .ok (.iadd, 1) := by decide +kernel
theorem d_cJT_needRoom_27 : decode prog_1_method_39_code 27 = .ok (.sipush 24576, 3) := by decide +kernel
theorem d_cJT_needRoom_30 : decode prog_1_method_39_code 30 = .ok (.if_icmp .le 11, 3) := by decide +kernel
theorem d_cJT_needRoom_41 : decode prog_1_method_39_code 41 = .ok (.return_, 1) := by decide +kernel
set_option maxHeartbeats 4000000 in
set_option maxRecDepth 100000 in
theorem w_cJT_needRoom_J0 {p : Program} {l : Launch} {e : Env} {s : State} {m : MethodId} {args : Array Value} {below : List Frame} {meth : Method} {c : Code} {A : Nat → Prop} {D : va_G} {ad : Nat → Nat → Nat} {cc : Nat → ClassId} {sad sav : Nat → Nat} {Q : State → Prop} {cR sR : Nat} (hfl : l.flags = flags0) (hC : MCc sad sav "JoinedTrees" prog_1_method_39_code 3 none p s m args meth c A D cc) {N : Nat → Nat} {x0 : Nat} {S : CS} {x1 : Int32} {x2 : Int32} {o : ((CS) ⊕ (CS × Nat))} (Heq : m_cJT_needRoom_J0 N x0 S x1 x2 = some o) (Kr : ∀ r : ((CS) ⊕ (CS × Nat)), o = r → (∀ v9 : CS, r = .inl v9 → ∀ (pc : Nat) (H : Heap) (locs : List Loc) (ls : Array Slot), decode prog_1_method_39_code pc = .ok (.return_, 1) → va_P D cls (cw ad cc N v9) H → va_D A (cw ad cc N v9) → va_S A s.heap H locs → W p l e ({ frames := 6, cells := cR, slots := sR, locals := 96 }) s m args below meth c H locs 0 0 Q (F0 m pc ls [])) ∧ (∀ t9 : CS × Nat, r = .inr t9 → (1 ≤ cR ∧ 6 ≤ sR) ∧ (∀ (pc : Nat) (H : Heap) (locs : List Loc) (ls : Array Slot), thD prog_1_method_39_code t9.2 pc → ls.size = 3 → va_P D cls (cw ad cc N t9.1) H → va_D A (cw ad cc N t9.1) → va_S A s.heap H locs → W p l e ({ frames := 6, cells := cR, slots := sR, locals := 96 }) s m args below meth c H locs 0 0 Q (F0 m pc ls [])) ∧ (∀ (pc : Nat) (H : Heap) (locs : List Loc) (ls : Array Slot) (st0 rest9 : List Value) (A9 : Nat → Prop), tx_Thr p l e ({ frames := 6, cells := cR, slots := sR, locals := 96 }) s m args below meth c H locs 0 0 1 6 (F0 m pc ls st0) rest9 (exN t9.2) A9 (fun H1 => va_P D cls (cw ad cc N t9.1) H1) → (∀ q, A9 q → A q) → va_S A s.heap H locs → W p l e ({ frames := 6, cells := cR, slots := sR, locals := 96 }) s m args below meth c H locs 0 0 Q (F0 m pc ls st0)))) : ∀ (H : Heap) (locs : List Loc) (ls : Array Slot), va_P D cls (cw ad cc N S) H → va_D A (cw ad cc N S) → va_S A s.heap H locs → lv_has ls 3 [(0, .ref (ad 11 x0)), (1, .int x1), (2, .int x2)] → W p l e ({ frames := 6, cells := cR, slots := sR, locals := 96 }) s m args below meth c H locs 0 0 Q (F0 m 0 ls []) := by
  intro H locs ls hP hD hS hl
  obtain ⟨hx, hb, hr, hml, hown, hts, hK, hA, hev, hE, hN, hNS⟩ := id hC
  unfold m_cJT_needRoom_J0 at Heq
  refine lv_aload_n hx hb d_cJT_needRoom_0 rfl (lv_at hl 0 rfl) ?_
  obtain ⟨hl_x0_11, Heq⟩ := gl_some Heq
  refine va_get (D := D) (ci := 11) (v := rv ad 8 (S.r 11 0 x0)) (C := R_JT) (T := F_JT) (N := 13) hx hb hts i_JT hown hK hP (cPos N 11 x0) (cw_obj (k := 11) (by decide) hl_x0_11) rfl 0 (by decide) (hts _ kw_421) (fun _ h9 => h9) rfl d_cJT_needRoom_1 ?_
  obtain ⟨j_1, hj_2, hl_3, Heq⟩ := gn_some Heq
  refine w_s (st' := [.ref (ad 8 j_1)]) (congrArg (fun z9 : Option Nat => [rv ad 8 z9]) hj_2) ?_
  refine va_get (D := D) (ci := 8) (v := .int (S.i 8 5 j_1)) (C := R_St) (T := F_St) (N := 6) hx hb hts i_St hown hK hP (cPos N 8 j_1) (cw_obj (k := 8) (by decide) hl_3) rfl 5 (by decide) (hts _ kw_178) (fun _ h9 => h9) rfl d_cJT_needRoom_4 ?_
  refine lv_iload_n hx hb d_cJT_needRoom_7 rfl (lv_at hl 1 rfl) ?_
  refine lv_iadd hx hb d_cJT_needRoom_8 ?_
  refine w_i (y := (S.i 8 5 j_1) + x1) rfl ?_
  refine lv_sipush (v := 4000) hx hb d_cJT_needRoom_9 (by decide) ?_
  refine lv_icmp_gt (tgt := 33) hx hb d_cJT_needRoom_12 (by decide) (fun c_4 => ?_) (fun c_4 => ?_)
  · replace Heq := (if_pos c_4).symm.trans Heq
    exact w_cJT_needRoom_J33 hfl hC Heq Kr _ _ _ hP hD hS (lv_sub hl [0] rfl)
  · replace Heq := (if_neg c_4).symm.trans Heq
    refine lv_aload_n hx hb d_cJT_needRoom_15 rfl (lv_at hl 0 rfl) ?_
    refine va_get (D := D) (ci := 11) (v := rv ad 8 (S.r 11 0 x0)) (C := R_JT) (T := F_JT) (N := 13) hx hb hts i_JT hown hK hP (cPos N 11 x0) (cw_obj (k := 11) (by decide) hl_x0_11) rfl 0 (by decide) (hts _ kw_421) (fun _ h9 => h9) rfl d_cJT_needRoom_16 ?_
    refine w_s (st' := [.ref (ad 8 j_1)]) (congrArg (fun z9 : Option Nat => [rv ad 8 z9]) hj_2) ?_
    refine va_get (D := D) (ci := 8) (v := rv ad 5 (S.r 8 2 j_1)) (C := R_St) (T := F_St) (N := 6) hx hb hts i_St hown hK hP (cPos N 8 j_1) (cw_obj (k := 8) (by decide) hl_3) rfl 2 (by decide) (hts _ kw_170) (fun _ h9 => h9) rfl d_cJT_needRoom_19 ?_
    obtain ⟨j_5, hj_6, hl_7, Heq⟩ := gn_some Heq
    refine w_s (st' := [.ref (ad 5 j_5)]) (congrArg (fun z9 : Option Nat => [rv ad 5 z9]) hj_6) ?_
    refine va_get (D := D) (ci := 5) (v := .int (S.i 5 1 j_5)) (C := R_Rw) (T := F_Rw) (N := 3) hx hb hts i_Rw hown hK hP (cPos N 5 j_5) (cw_obj (k := 5) (by decide) hl_7) rfl 1 (by decide) (hts _ kw_143) (fun _ h9 => h9) rfl d_cJT_needRoom_22 ?_
    refine lv_iload_n hx hb d_cJT_needRoom_25 rfl (lv_at hl 2 rfl) ?_
    refine lv_iadd hx hb d_cJT_needRoom_26 ?_
    refine w_i (y := (S.i 5 1 j_5) + x2) rfl ?_
    refine lv_sipush (v := 24576) hx hb d_cJT_needRoom_27 (by decide) ?_
    refine lv_icmp_le (tgt := 41) hx hb d_cJT_needRoom_30 (by decide) (fun c_8 => ?_) (fun c_8 => ?_)
    · replace Heq := (if_pos c_8).symm.trans Heq
      exact (Kr _ (Option.some.inj Heq).symm).1 _ rfl 41 _ _ _ d_cJT_needRoom_41 hP hD hS
    · replace Heq := (if_neg c_8).symm.trans Heq
      exact w_cJT_needRoom_J33 hfl hC Heq Kr _ _ _ hP hD hS (lv_sub hl [0] rfl)
def m_cJT_needRoom (N : Nat → Nat) (x0 : Nat) (S : CS) (x1 : Int32) (x2 : Int32) : Option ((CS) ⊕ (CS × Nat)) := m_cJT_needRoom_J0 N x0 S x1 x2
set_option maxHeartbeats 4000000 in
theorem g_cJT_needRoom (l : Launch) (hfl : l.flags = flags0) (D : va_G) (sz : Nat) {ad : Nat → Nat → Nat} {cc : Nat → ClassId} {sad sav : Nat → Nat} {N : Nat → Nat} {x0 : Nat} {S : CS} {x1 : Int32} {x2 : Int32} {o : CS} (Heq : m_cJT_needRoom N x0 S x1 x2 = some (.inl o)) : Met l ⟨"JoinedTrees", "needRoom", "(II)V"⟩ (Cond.code ⟨"JoinedTrees", "needRoom", "(II)V"⟩ prog_1_method_39_code 3 none :: gb) ({ frames := 6, cells := 0, slots := 0, locals := 96 }) (cPc sad sav D (cw ad cc N S) (cty cc) sz [.ref (ad 11 x0), .int x1, .int x2]) (va_Qv (fun _ : Unit => True) (fun _ t => gO D (cw ad cc N o) (cty cc) (va_A (cw ad cc N S) sz) t) (va_A (cw ad cc N S) sz)) 0 0 (va_A (cw ad cc N S) sz) := by
  refine Met.ofW (cc := prog_1_method_39_code) (maxL := 3) (ret := none) (by decide) rfl ?_
  intro p e s m args below meth c s₁ B hml hv
  obtain ⟨rfl, hsz, hP, hK, hD0, hev, hE, hN⟩ := hv
  have hx := B.exec
  have hb := B.bytes
  have hr := B.returns
  have hts : ∀ w9 ∈ gb, w9.before [.ref (ad 11 x0), .int x1, .int x2].toArray s = true := fun w9 h => atoms_spec (ws := Cond.code ⟨"JoinedTrees", "needRoom", "(II)V"⟩ prog_1_method_39_code 3 none :: gb) B.pre w9 (List.mem_cons_of_mem _ h)
  have hown : s.vm.findClass "JoinedTrees" = some m.cls := findClass_of_methodNamed B.named
  have hlocks := B.notSynchronized
  have hNS := ns_of hP
  subst hsz
  have hD := hD0.self (sz := s.heap.size)
  generalize hAe : va_A (cw ad cc N S) s.heap.size = A at hD hev hE hNS ⊢
  have hA : ∀ q : Nat, s.heap.size ≤ q → A q := fun q h => by rw [← hAe]; exact Or.inr h
  have hS : va_S A s.heap s.heap [] := va_S.rf
  obtain ⟨ls, hl, hle⟩ : ∃ ls : Array Slot, lv_has ls 3 [(0, .ref (ad 11 x0)), (1, .int x1), (2, .int x2)] ∧ entryFrame m ([.ref (ad 11 x0), .int x1, .int x2] : List Value).toArray 3 = F0 m 0 ls [] := by
    exact ⟨_, lv_entry (n := 3) _ (Nat.le_of_ble_eq_true rfl), lg_entry_eq ..⟩
  rw [hle]
  refine w_cJT_needRoom_J0 (cR := 0) (sR := 0) hfl ⟨hx, hb, hr, hml, hown, hts, hK, hA, hev, hE, hN, hNS⟩ Heq (fun r h => ⟨fun v9 hv9 pc H locs ls hd hP hD hS => ?_, fun t9 ht9 => (by subst h; cases ht9)⟩) _ _ _ hP hD hS (lv_sub hl [0, 1, 2] rfl)
  subst h
  cases hv9
  exact W.vret hx hb hr (fun t ht hW => ⟨⟨(), rfl, trivial, by rw [ht]; exact hP, va_K.moved hW.alike hK, hD⟩, hS.F ht⟩) hS.2.2 hd
set_option maxHeartbeats 4000000 in
theorem g_cJT_needRoom_t (l : Launch) (hfl : l.flags = flags0) (D : va_G) (sz : Nat) {ad : Nat → Nat → Nat} {cc : Nat → ClassId} {sad sav : Nat → Nat} {N : Nat → Nat} {x0 : Nat} {S : CS} {x1 : Int32} {x2 : Int32} {o : CS × Nat} (Heq : m_cJT_needRoom N x0 S x1 x2 = some (.inr o)) : MeT l ⟨"JoinedTrees", "needRoom", "(II)V"⟩ (Cond.code ⟨"JoinedTrees", "needRoom", "(II)V"⟩ prog_1_method_39_code 3 none :: gb) ({ frames := 6, cells := 1, slots := 6, locals := 96 }) (cPc sad sav D (cw ad cc N S) (cty cc) sz [.ref (ad 11 x0), .int x1, .int x2]) (exN o.2) (va_A (cw ad cc N S) sz) (fun H1 => va_P D cls (cw ad cc N o.1) H1) 1 6 := by
  refine MeT.ofW (cc := prog_1_method_39_code) (maxL := 3) (ret := none) (by decide) rfl ?_
  intro p e s m args below meth c s₁ B hml hno hv
  obtain ⟨rfl, hsz, hP, hK, hD0, hev, hE, hN⟩ := hv
  have hx := B.exec
  have hb := B.bytes
  have hr := B.returns
  have hts : ∀ w9 ∈ gb, w9.before [.ref (ad 11 x0), .int x1, .int x2].toArray s = true := fun w9 h => atoms_spec (ws := Cond.code ⟨"JoinedTrees", "needRoom", "(II)V"⟩ prog_1_method_39_code 3 none :: gb) B.pre w9 (List.mem_cons_of_mem _ h)
  have hown : s.vm.findClass "JoinedTrees" = some m.cls := findClass_of_methodNamed B.named
  have hlocks := B.notSynchronized
  have hNS := ns_of hP
  subst hsz
  have hD := hD0.self (sz := s.heap.size)
  generalize hAe : va_A (cw ad cc N S) s.heap.size = A at hD hev hE hNS ⊢
  have hA : ∀ q : Nat, s.heap.size ≤ q → A q := fun q h => by rw [← hAe]; exact Or.inr h
  have hS : va_S A s.heap s.heap [] := va_S.rf
  obtain ⟨ls, hl, hle⟩ : ∃ ls : Array Slot, lv_has ls 3 [(0, .ref (ad 11 x0)), (1, .int x1), (2, .int x2)] ∧ entryFrame m ([.ref (ad 11 x0), .int x1, .int x2] : List Value).toArray 3 = F0 m 0 ls [] := by
    exact ⟨_, lv_entry (n := 3) _ (Nat.le_of_ble_eq_true rfl), lg_entry_eq ..⟩
  rw [hle]
  refine w_cJT_needRoom_J0 (cR := 1) (sR := 6) hfl ⟨hx, hb, hr, hml, hown, hts, hK, hA, hev, hE, hN, hNS⟩ Heq (fun r h => ⟨fun v9 hv9 => (by subst h; cases hv9), fun t9 ht9 => ⟨⟨Nat.le_refl _, Nat.le_refl _⟩, fun pc H locs ls hd hsz hP hD hS => ?_, fun pc H locs ls st0 rest9 A9 hr9 hF9 hS => ?_⟩⟩) _ _ _ hP hD hS (lv_sub hl [0, 1, 2] rfl)
  · subst h; cases ht9; exact tx_thr hfl hx hb hno hlocks hown hts hev hN hNS hd (hsz.trans hml.symm) hP hS hA (Nat.le_refl _) (Nat.le_refl _) (Nat.le_of_ble_eq_true rfl) (Nat.le_of_ble_eq_true rfl)
  · subst h; cases ht9; exact tx_on hr9 hno hlocks hS hF9
def m_cJT_listAt_J0 (N : Nat → Nat) (x0 : Nat) (S : CS) (x1 : Int32) : Option ((CS × Option Nat) ⊕ (CS × Nat)) := gl x0 (N 11) (oe (m_cJT_objectAt N x0 S x1) (fun o_1 => gn o_1.2 (N 3) (fun j_4 => (if o_1.1.i 3 2 j_4 = 6 then some (.inr (o_1.1, 1)) else some (.inl (o_1.1, o_1.2))))) (fun t_3 => some (.inr t_3)))
theorem d_cJT_listAt_0 : decode prog_1_method_43_code 0 = .ok (.aload_n 0, 1) := by decide +kernel
theorem d_cJT_listAt_1 : decode prog_1_method_43_code 1 = .ok (.iload_n 1, 1) := by decide +kernel
theorem d_cJT_listAt_2 : decode prog_1_method_43_code 2 = .ok (.invokevirtual 168, 3) := by decide +kernel
theorem d_cJT_listAt_5 : decode prog_1_method_43_code 5 = .ok (.astore_n 2, 1) := by decide +kernel
theorem d_cJT_listAt_6 : decode prog_1_method_43_code 6 = .ok (.aload_n 2, 1) := by decide +kernel
theorem d_cJT_listAt_7 : decode prog_1_method_43_code 7 = .ok (.getfield 171, 3) := by decide +kernel
theorem d_cJT_listAt_10 : decode prog_1_method_43_code 10 = .ok (.bipush 6, 2) := by decide +kernel
theorem d_cJT_listAt_12 : decode prog_1_method_43_code 12 = .ok (.if_icmp .ne 11, 3) := by decide +kernel
theorem d_cJT_listAt_23 : decode prog_1_method_43_code 23 = .ok (.aload_n 2, 1) := by decide +kernel
theorem d_cJT_listAt_24 : decode prog_1_method_43_code 24 = .ok (.areturn, 1) := by decide +kernel
theorem d_cJT_listAt_15 : decode prog_1_method_43_code 15 = .ok (.new 93, 3) := by decide +kernel
theorem d_cJT_listAt_18 : decode prog_1_method_43_code 18 = .ok (.dup, 1) := by decide +kernel
theorem d_cJT_listAt_19 : decode prog_1_method_43_code 19 = .ok (.invokespecial 95, 3) := by decide +kernel
theorem d_cJT_listAt_22 : decode prog_1_method_43_code 22 = .ok (.athrow, 1) := by decide +kernel
set_option maxHeartbeats 4000000 in
set_option maxRecDepth 100000 in
theorem w_cJT_listAt_J0 {p : Program} {l : Launch} {e : Env} {s : State} {m : MethodId} {args : Array Value} {below : List Frame} {meth : Method} {c : Code} {A : Nat → Prop} {D : va_G} {ad : Nat → Nat → Nat} {cc : Nat → ClassId} {sad sav : Nat → Nat} {Q : State → Prop} {cR sR : Nat} (hfl : l.flags = flags0) (hC : MCc sad sav "JoinedTrees" prog_1_method_43_code 3 (some (.object "JoinedTrees$Op")) p s m args meth c A D cc) {N : Nat → Nat} {x0 : Nat} {S : CS} {x1 : Int32} {o : ((CS × Option Nat) ⊕ (CS × Nat))} (Heq : m_cJT_listAt_J0 N x0 S x1 = some o) (Kr : ∀ r : ((CS × Option Nat) ⊕ (CS × Nat)), o = r → (∀ v9 : CS × Option Nat, r = .inl v9 → ∀ (pc : Nat) (H : Heap) (locs : List Loc) (ls : Array Slot), decode prog_1_method_43_code pc = .ok (.areturn, 1) → va_P D cls (cw ad cc N v9.1) H → va_D A (cw ad cc N v9.1) → va_S A s.heap H locs → W p l e ({ frames := 7, cells := cR, slots := sR, locals := 118 }) s m args below meth c H locs 0 0 Q (F0 m pc ls [rv ad 3 v9.2])) ∧ (∀ t9 : CS × Nat, r = .inr t9 → (1 ≤ cR ∧ 6 ≤ sR) ∧ (∀ (pc : Nat) (H : Heap) (locs : List Loc) (ls : Array Slot), thD prog_1_method_43_code t9.2 pc → ls.size = 3 → va_P D cls (cw ad cc N t9.1) H → va_D A (cw ad cc N t9.1) → va_S A s.heap H locs → W p l e ({ frames := 7, cells := cR, slots := sR, locals := 118 }) s m args below meth c H locs 0 0 Q (F0 m pc ls [])) ∧ (∀ (pc : Nat) (H : Heap) (locs : List Loc) (ls : Array Slot) (st0 rest9 : List Value) (A9 : Nat → Prop), tx_Thr p l e ({ frames := 7, cells := cR, slots := sR, locals := 118 }) s m args below meth c H locs 0 0 1 6 (F0 m pc ls st0) rest9 (exN t9.2) A9 (fun H1 => va_P D cls (cw ad cc N t9.1) H1) → (∀ q, A9 q → A q) → va_S A s.heap H locs → W p l e ({ frames := 7, cells := cR, slots := sR, locals := 118 }) s m args below meth c H locs 0 0 Q (F0 m pc ls st0)))) : ∀ (H : Heap) (locs : List Loc) (ls : Array Slot), va_P D cls (cw ad cc N S) H → va_D A (cw ad cc N S) → va_S A s.heap H locs → lv_has ls 3 [(0, .ref (ad 11 x0)), (1, .int x1)] → W p l e ({ frames := 7, cells := cR, slots := sR, locals := 118 }) s m args below meth c H locs 0 0 Q (F0 m 0 ls []) := by
  intro H locs ls hP hD hS hl
  obtain ⟨hx, hb, hr, hml, hown, hts, hK, hA, hev, hE, hN, hNS⟩ := id hC
  unfold m_cJT_listAt_J0 at Heq
  refine lv_aload_n hx hb d_cJT_listAt_0 rfl (lv_at hl 0 rfl) ?_
  refine lv_iload_n hx hb d_cJT_listAt_1 rfl (lv_at hl 1 rfl) ?_
  obtain ⟨hl_x0_11, Heq⟩ := gl_some Heq
  have hFc := fr_all hD hS hA
  rcases oe_some Heq with ⟨o_1, h_2, Heq⟩ | ⟨t_3, h_2, Heq⟩
  case inr => exact ((Kr _ (Option.some.inj Heq).symm).2 _ rfl).2.2 2 _ _ _ _ _ _ (tx_runV (As := [.int x1]) (rest := []) ⟨hx, hb, hml, hown, hts⟩ (g_cJT_objectAt_t l hfl D H.size (ad := ad) (cc := cc) (sad := sad) (sav := sav) h_2) (cw_v 1 hts kw_616 kw_613 kw_615 kp_7 kw_1 rfl rfl (by decide +kernel) ⟨Nat.le_of_ble_eq_true rfl, Nat.le_of_ble_eq_true rfl⟩) ⟨c_blind, va_recv hK hP (ci := 11) (q0 := cPos N 11 x0) rfl (cw_obj (k := 11) (by decide) hl_x0_11), fun U hU hW => c_pre hU hW hP hK hD hev hE hN hNS hS hFc⟩ rfl rfl hl.1 rfl (lv_room (Nat.le_of_ble_eq_true rfl)) d_cJT_listAt_2 ((Kr _ (Option.some.inj Heq).symm).2 _ rfl).1) hFc hS
  refine va_callq (va_runV (As := [.int x1]) (rest := []) ⟨hx, hb, hml, hown, hts⟩ (g_cJT_objectAt l hfl D H.size (ad := ad) (cc := cc) (sad := sad) (sav := sav) h_2) (cw_v 1 hts kw_616 kw_613 kw_615 kp_7 kw_1 rfl rfl (by decide +kernel) ⟨Nat.le_of_ble_eq_true rfl, Nat.le_of_ble_eq_true rfl⟩) ⟨c_blind, va_recv hK hP (ci := 11) (q0 := cPos N 11 x0) rfl (cw_obj (k := 11) (by decide) hl_x0_11), fun U hU hW => c_pre hU hW hP hK hD hev hE hN hNS hS hFc⟩ rfl rfl hl.1 rfl (lv_room (Nat.le_of_ble_eq_true rfl)) d_cJT_listAt_2 ⟨Nat.zero_le _, Nat.zero_le _⟩) hS (fun q _ h => hFc q h) hFc (fun rz u t H1 locs ht hvm hw hB hz1 hk1 hS => ?_)
  obtain ⟨hP, -, hD1⟩ := hB
  rw [ht] at hP
  have hD := hD1.weaken (fun _ q _ h => hFc q.1 h)
  generalize H1 = H at hP hS ⊢
  refine W.cs (cells' := 0) (slots' := 0) rfl rfl ?_
  subst hw
  refine w_v (y := rv ad 3 o_1.2) rfl ?_
  refine tx_astore_n (x := o_1.2.map (ad 3)) (lv' := [(2, rv ad 3 o_1.2), (0, .ref (ad 11 x0)), (1, .int x1)]) hx hb d_cJT_listAt_5 rfl hl (by decide) rfl (fun ls hl => ?_)
  refine tx_aload_n (x := o_1.2.map (ad 3)) hx hb d_cJT_listAt_6 rfl (lv_at hl 0 rfl) ?_
  refine w_v (y := rv ad 3 o_1.2) rfl ?_
  obtain ⟨j_4, hj_5, hl_6, Heq⟩ := gn_some Heq
  refine w_s (st' := [.ref (ad 3 j_4)]) (congrArg (fun z9 : Option Nat => [rv ad 3 z9]) hj_5) ?_
  refine va_get (D := D) (ci := 3) (v := .int (o_1.1.i 3 2 j_4)) (C := R_Op) (T := F_Op) (N := 15) hx hb hts i_Op hown hK hP (cPos N 3 j_4) (cw_obj (k := 3) (by decide) hl_6) rfl 2 (by decide) (hts _ kw_62) (fun _ h9 => h9) rfl d_cJT_listAt_7 ?_
  refine lv_bipush (v := 6) hx hb d_cJT_listAt_10 (by decide) ?_
  refine lv_icmp_ne (tgt := 23) hx hb d_cJT_listAt_12 (by decide) (fun c_7 => ?_) (fun c_7 => ?_)
  · replace Heq := (if_neg c_7).symm.trans Heq
    refine tx_aload_n (x := o_1.2.map (ad 3)) hx hb d_cJT_listAt_23 rfl (lv_at hl 0 rfl) ?_
    refine w_v (y := rv ad 3 o_1.2) rfl ?_
    exact (Kr _ (Option.some.inj Heq).symm).1 _ rfl 24 _ _ _ d_cJT_listAt_24 hP hD hS
  · replace Heq := (if_pos c_7).symm.trans Heq
    exact ((Kr _ (Option.some.inj Heq).symm).2 _ rfl).2.1 15 _ _ _ ⟨⟨show 1 ≤ 1 by decide, show 1 ≤ 5 by decide⟩, d_cJT_listAt_15, d_cJT_listAt_18, d_cJT_listAt_19, d_cJT_listAt_22⟩ hl.1 hP hD hS
def m_cJT_listAt (N : Nat → Nat) (x0 : Nat) (S : CS) (x1 : Int32) : Option ((CS × Option Nat) ⊕ (CS × Nat)) := m_cJT_listAt_J0 N x0 S x1
set_option maxHeartbeats 4000000 in
theorem g_cJT_listAt (l : Launch) (hfl : l.flags = flags0) (D : va_G) (sz : Nat) {ad : Nat → Nat → Nat} {cc : Nat → ClassId} {sad sav : Nat → Nat} {N : Nat → Nat} {x0 : Nat} {S : CS} {x1 : Int32} {o : CS × Option Nat} (Heq : m_cJT_listAt N x0 S x1 = some (.inl o)) : Met l ⟨"JoinedTrees", "listAt", "(I)LJoinedTrees$Op;"⟩ (Cond.code ⟨"JoinedTrees", "listAt", "(I)LJoinedTrees$Op;"⟩ prog_1_method_43_code 3 (some (.object "JoinedTrees$Op")) :: gb) ({ frames := 7, cells := 0, slots := 0, locals := 118 }) (cPc sad sav D (cw ad cc N S) (cty cc) sz [.ref (ad 11 x0), .int x1]) (va_Qq (fun (r : Option Nat) (_ : Unit) => r = o.2.map (ad 3)) (fun _ t => gO D (cw ad cc N o.1) (cty cc) (va_A (cw ad cc N S) sz) t) (va_A (cw ad cc N S) sz)) 0 0 (va_A (cw ad cc N S) sz) := by
  refine Met.ofW (cc := prog_1_method_43_code) (maxL := 3) (ret := (some (.object "JoinedTrees$Op"))) (by decide) rfl ?_
  intro p e s m args below meth c s₁ B hml hv
  obtain ⟨rfl, hsz, hP, hK, hD0, hev, hE, hN⟩ := hv
  have hx := B.exec
  have hb := B.bytes
  have hr := B.returns
  have hts : ∀ w9 ∈ gb, w9.before [.ref (ad 11 x0), .int x1].toArray s = true := fun w9 h => atoms_spec (ws := Cond.code ⟨"JoinedTrees", "listAt", "(I)LJoinedTrees$Op;"⟩ prog_1_method_43_code 3 (some (.object "JoinedTrees$Op")) :: gb) B.pre w9 (List.mem_cons_of_mem _ h)
  have hown : s.vm.findClass "JoinedTrees" = some m.cls := findClass_of_methodNamed B.named
  have hlocks := B.notSynchronized
  have hNS := ns_of hP
  subst hsz
  have hD := hD0.self (sz := s.heap.size)
  generalize hAe : va_A (cw ad cc N S) s.heap.size = A at hD hev hE hNS ⊢
  have hA : ∀ q : Nat, s.heap.size ≤ q → A q := fun q h => by rw [← hAe]; exact Or.inr h
  have hS : va_S A s.heap s.heap [] := va_S.rf
  obtain ⟨ls, hl, hle⟩ : ∃ ls : Array Slot, lv_has ls 3 [(0, .ref (ad 11 x0)), (1, .int x1)] ∧ entryFrame m ([.ref (ad 11 x0), .int x1] : List Value).toArray 3 = F0 m 0 ls [] := by
    exact ⟨_, lv_entry (n := 3) _ (Nat.le_of_ble_eq_true rfl), lg_entry_eq ..⟩
  rw [hle]
  refine w_cJT_listAt_J0 (cR := 0) (sR := 0) hfl ⟨hx, hb, hr, hml, hown, hts, hK, hA, hev, hE, hN, hNS⟩ Heq (fun r h => ⟨fun v9 hv9 pc H locs ls hd hP hD hS => ?_, fun t9 ht9 => (by subst h; cases ht9)⟩) _ _ _ hP hD hS (lv_sub hl [0, 1] rfl)
  subst h
  cases hv9
  exact W.aret hx hb hr (Or.inl ⟨_, rfl⟩) (va_rf_or _) (fun t ht hW => ⟨⟨_, (), rfl, rfl, by rw [ht]; exact hP, va_K.moved hW.alike hK, hD⟩, hS.F ht⟩) hS.2.2 hd
set_option maxHeartbeats 4000000 in
theorem g_cJT_listAt_t (l : Launch) (hfl : l.flags = flags0) (D : va_G) (sz : Nat) {ad : Nat → Nat → Nat} {cc : Nat → ClassId} {sad sav : Nat → Nat} {N : Nat → Nat} {x0 : Nat} {S : CS} {x1 : Int32} {o : CS × Nat} (Heq : m_cJT_listAt N x0 S x1 = some (.inr o)) : MeT l ⟨"JoinedTrees", "listAt", "(I)LJoinedTrees$Op;"⟩ (Cond.code ⟨"JoinedTrees", "listAt", "(I)LJoinedTrees$Op;"⟩ prog_1_method_43_code 3 (some (.object "JoinedTrees$Op")) :: gb) ({ frames := 7, cells := 1, slots := 6, locals := 118 }) (cPc sad sav D (cw ad cc N S) (cty cc) sz [.ref (ad 11 x0), .int x1]) (exN o.2) (va_A (cw ad cc N S) sz) (fun H1 => va_P D cls (cw ad cc N o.1) H1) 1 6 := by
  refine MeT.ofW (cc := prog_1_method_43_code) (maxL := 3) (ret := (some (.object "JoinedTrees$Op"))) (by decide) rfl ?_
  intro p e s m args below meth c s₁ B hml hno hv
  obtain ⟨rfl, hsz, hP, hK, hD0, hev, hE, hN⟩ := hv
  have hx := B.exec
  have hb := B.bytes
  have hr := B.returns
  have hts : ∀ w9 ∈ gb, w9.before [.ref (ad 11 x0), .int x1].toArray s = true := fun w9 h => atoms_spec (ws := Cond.code ⟨"JoinedTrees", "listAt", "(I)LJoinedTrees$Op;"⟩ prog_1_method_43_code 3 (some (.object "JoinedTrees$Op")) :: gb) B.pre w9 (List.mem_cons_of_mem _ h)
  have hown : s.vm.findClass "JoinedTrees" = some m.cls := findClass_of_methodNamed B.named
  have hlocks := B.notSynchronized
  have hNS := ns_of hP
  subst hsz
  have hD := hD0.self (sz := s.heap.size)
  generalize hAe : va_A (cw ad cc N S) s.heap.size = A at hD hev hE hNS ⊢
  have hA : ∀ q : Nat, s.heap.size ≤ q → A q := fun q h => by rw [← hAe]; exact Or.inr h
  have hS : va_S A s.heap s.heap [] := va_S.rf
  obtain ⟨ls, hl, hle⟩ : ∃ ls : Array Slot, lv_has ls 3 [(0, .ref (ad 11 x0)), (1, .int x1)] ∧ entryFrame m ([.ref (ad 11 x0), .int x1] : List Value).toArray 3 = F0 m 0 ls [] := by
    exact ⟨_, lv_entry (n := 3) _ (Nat.le_of_ble_eq_true rfl), lg_entry_eq ..⟩
  rw [hle]
  refine w_cJT_listAt_J0 (cR := 1) (sR := 6) hfl ⟨hx, hb, hr, hml, hown, hts, hK, hA, hev, hE, hN, hNS⟩ Heq (fun r h => ⟨fun v9 hv9 => (by subst h; cases hv9), fun t9 ht9 => ⟨⟨Nat.le_refl _, Nat.le_refl _⟩, fun pc H locs ls hd hsz hP hD hS => ?_, fun pc H locs ls st0 rest9 A9 hr9 hF9 hS => ?_⟩⟩) _ _ _ hP hD hS (lv_sub hl [0, 1] rfl)
  · subst h; cases ht9; exact tx_thr hfl hx hb hno hlocks hown hts hev hN hNS hd (hsz.trans hml.symm) hP hS hA (Nat.le_refl _) (Nat.le_refl _) (Nat.le_of_ble_eq_true rfl) (Nat.le_of_ble_eq_true rfl)
  · subst h; cases ht9; exact tx_on hr9 hno hlocks hS hF9
def m_cJT_needSpot_J0 (N : Nat → Nat) (x0 : Nat) (S : CS) (x1 : Option Nat) : Option ((CS) ⊕ (CS × Nat)) := on x1 (some (.inr (S, 3))) (fun j_1 => some (.inl S))
theorem d_cJT_needSpot_0 : decode prog_1_method_36_code 0 = .ok (.aload_n 1, 1) := by decide +kernel
theorem d_cJT_needSpot_1 : decode prog_1_method_36_code 1 = .ok (.ifnonnull 11, 3) := by decide +kernel
theorem d_cJT_needSpot_4 : decode prog_1_method_36_code 4 = .ok (.new 178, 3) := by decide +kernel
theorem d_cJT_needSpot_7 : decode prog_1_method_36_code 7 = .ok (.dup, 1) := by decide +kernel
theorem d_cJT_needSpot_8 : decode prog_1_method_36_code 8 = .ok (.invokespecial 180, 3) := by decide +kernel
theorem d_cJT_needSpot_11 : decode prog_1_method_36_code 11 = .ok (.athrow, 1) := by decide +kernel
theorem d_cJT_needSpot_12 : decode prog_1_method_36_code 12 = .ok (.return_, 1) := by decide +kernel
set_option maxHeartbeats 4000000 in
set_option maxRecDepth 100000 in
theorem w_cJT_needSpot_J0 {p : Program} {l : Launch} {e : Env} {s : State} {m : MethodId} {args : Array Value} {below : List Frame} {meth : Method} {c : Code} {A : Nat → Prop} {D : va_G} {ad : Nat → Nat → Nat} {cc : Nat → ClassId} {sad sav : Nat → Nat} {Q : State → Prop} {cR sR : Nat} (hfl : l.flags = flags0) (hC : MCc sad sav "JoinedTrees" prog_1_method_36_code 2 none p s m args meth c A D cc) {N : Nat → Nat} {x0 : Nat} {S : CS} {x1 : Option Nat} {o : ((CS) ⊕ (CS × Nat))} (Heq : m_cJT_needSpot_J0 N x0 S x1 = some o) (Kr : ∀ r : ((CS) ⊕ (CS × Nat)), o = r → (∀ v9 : CS, r = .inl v9 → ∀ (pc : Nat) (H : Heap) (locs : List Loc) (ls : Array Slot), decode prog_1_method_36_code pc = .ok (.return_, 1) → va_P D cls (cw ad cc N v9) H → va_D A (cw ad cc N v9) → va_S A s.heap H locs → W p l e ({ frames := 6, cells := cR, slots := sR, locals := 96 }) s m args below meth c H locs 0 0 Q (F0 m pc ls [])) ∧ (∀ t9 : CS × Nat, r = .inr t9 → (1 ≤ cR ∧ 6 ≤ sR) ∧ (∀ (pc : Nat) (H : Heap) (locs : List Loc) (ls : Array Slot), thD prog_1_method_36_code t9.2 pc → ls.size = 2 → va_P D cls (cw ad cc N t9.1) H → va_D A (cw ad cc N t9.1) → va_S A s.heap H locs → W p l e ({ frames := 6, cells := cR, slots := sR, locals := 96 }) s m args below meth c H locs 0 0 Q (F0 m pc ls [])) ∧ (∀ (pc : Nat) (H : Heap) (locs : List Loc) (ls : Array Slot) (st0 rest9 : List Value) (A9 : Nat → Prop), tx_Thr p l e ({ frames := 6, cells := cR, slots := sR, locals := 96 }) s m args below meth c H locs 0 0 1 6 (F0 m pc ls st0) rest9 (exN t9.2) A9 (fun H1 => va_P D cls (cw ad cc N t9.1) H1) → (∀ q, A9 q → A q) → va_S A s.heap H locs → W p l e ({ frames := 6, cells := cR, slots := sR, locals := 96 }) s m args below meth c H locs 0 0 Q (F0 m pc ls st0)))) : ∀ (H : Heap) (locs : List Loc) (ls : Array Slot), va_P D cls (cw ad cc N S) H → va_D A (cw ad cc N S) → va_S A s.heap H locs → lv_has ls 2 [(0, .ref (ad 11 x0)), (1, rv ad 7 x1)] → W p l e ({ frames := 6, cells := cR, slots := sR, locals := 96 }) s m args below meth c H locs 0 0 Q (F0 m 0 ls []) := by
  intro H locs ls hP hD hS hl
  obtain ⟨hx, hb, hr, hml, hown, hts, hK, hA, hev, hE, hN, hNS⟩ := id hC
  unfold m_cJT_needSpot_J0 at Heq
  refine tx_aload_n (x := x1.map (ad 7)) hx hb d_cJT_needSpot_0 rfl (lv_at hl 1 rfl) ?_
  refine w_v (y := rv ad 7 x1) rfl ?_
  rcases on_some Heq with ⟨hj_2, Heq⟩ | ⟨j_1, hj_2, Heq⟩
  · refine w_s (st' := [.null]) (congrArg (fun z9 : Option Nat => [rv ad 7 z9]) hj_2) ?_
    refine lv_ifnonnullN hx hb d_cJT_needSpot_1 ?_
    exact ((Kr _ (Option.some.inj Heq).symm).2 _ rfl).2.1 4 _ _ _ ⟨⟨show 1 ≤ 3 by decide, show 3 ≤ 5 by decide⟩, d_cJT_needSpot_4, d_cJT_needSpot_7, d_cJT_needSpot_8, d_cJT_needSpot_11⟩ hl.1 hP hD hS
  · refine w_s (st' := [.ref (ad 7 j_1)]) (congrArg (fun z9 : Option Nat => [rv ad 7 z9]) hj_2) ?_
    refine lv_ifnonnull (tgt := 12) hx hb d_cJT_needSpot_1 (by decide) ?_
    exact (Kr _ (Option.some.inj Heq).symm).1 _ rfl 12 _ _ _ d_cJT_needSpot_12 hP hD hS
def m_cJT_needSpot (N : Nat → Nat) (x0 : Nat) (S : CS) (x1 : Option Nat) : Option ((CS) ⊕ (CS × Nat)) := m_cJT_needSpot_J0 N x0 S x1
set_option maxHeartbeats 4000000 in
theorem g_cJT_needSpot (l : Launch) (hfl : l.flags = flags0) (D : va_G) (sz : Nat) {ad : Nat → Nat → Nat} {cc : Nat → ClassId} {sad sav : Nat → Nat} {N : Nat → Nat} {x0 : Nat} {S : CS} {x1 : Option Nat} {o : CS} (Heq : m_cJT_needSpot N x0 S x1 = some (.inl o)) : Met l ⟨"JoinedTrees", "needSpot", "(LJoinedTrees$Spot;)V"⟩ (Cond.code ⟨"JoinedTrees", "needSpot", "(LJoinedTrees$Spot;)V"⟩ prog_1_method_36_code 2 none :: gb) ({ frames := 6, cells := 0, slots := 0, locals := 96 }) (cPc sad sav D (cw ad cc N S) (cty cc) sz [.ref (ad 11 x0), rv ad 7 x1]) (va_Qv (fun _ : Unit => True) (fun _ t => gO D (cw ad cc N o) (cty cc) (va_A (cw ad cc N S) sz) t) (va_A (cw ad cc N S) sz)) 0 0 (va_A (cw ad cc N S) sz) := by
  refine Met.ofW (cc := prog_1_method_36_code) (maxL := 2) (ret := none) (by decide) rfl ?_
  intro p e s m args below meth c s₁ B hml hv
  obtain ⟨rfl, hsz, hP, hK, hD0, hev, hE, hN⟩ := hv
  have hx := B.exec
  have hb := B.bytes
  have hr := B.returns
  have hts : ∀ w9 ∈ gb, w9.before [.ref (ad 11 x0), rv ad 7 x1].toArray s = true := fun w9 h => atoms_spec (ws := Cond.code ⟨"JoinedTrees", "needSpot", "(LJoinedTrees$Spot;)V"⟩ prog_1_method_36_code 2 none :: gb) B.pre w9 (List.mem_cons_of_mem _ h)
  have hown : s.vm.findClass "JoinedTrees" = some m.cls := findClass_of_methodNamed B.named
  have hlocks := B.notSynchronized
  have hNS := ns_of hP
  subst hsz
  have hD := hD0.self (sz := s.heap.size)
  generalize hAe : va_A (cw ad cc N S) s.heap.size = A at hD hev hE hNS ⊢
  have hA : ∀ q : Nat, s.heap.size ≤ q → A q := fun q h => by rw [← hAe]; exact Or.inr h
  have hS : va_S A s.heap s.heap [] := va_S.rf
  obtain ⟨ls, hl, hle⟩ : ∃ ls : Array Slot, lv_has ls 2 [(0, .ref (ad 11 x0)), (1, rv ad 7 x1)] ∧ entryFrame m ([.ref (ad 11 x0), rv ad 7 x1] : List Value).toArray 2 = F0 m 0 ls [] := by
    rcases x1 with _ | x1
    all_goals exact ⟨_, lv_entry (n := 2) _ (Nat.le_of_ble_eq_true rfl), lg_entry_eq ..⟩
  rw [hle]
  refine w_cJT_needSpot_J0 (cR := 0) (sR := 0) hfl ⟨hx, hb, hr, hml, hown, hts, hK, hA, hev, hE, hN, hNS⟩ Heq (fun r h => ⟨fun v9 hv9 pc H locs ls hd hP hD hS => ?_, fun t9 ht9 => (by subst h; cases ht9)⟩) _ _ _ hP hD hS (lv_sub hl [0, 1] rfl)
  subst h
  cases hv9
  exact W.vret hx hb hr (fun t ht hW => ⟨⟨(), rfl, trivial, by rw [ht]; exact hP, va_K.moved hW.alike hK, hD⟩, hS.F ht⟩) hS.2.2 hd
set_option maxHeartbeats 4000000 in
theorem g_cJT_needSpot_t (l : Launch) (hfl : l.flags = flags0) (D : va_G) (sz : Nat) {ad : Nat → Nat → Nat} {cc : Nat → ClassId} {sad sav : Nat → Nat} {N : Nat → Nat} {x0 : Nat} {S : CS} {x1 : Option Nat} {o : CS × Nat} (Heq : m_cJT_needSpot N x0 S x1 = some (.inr o)) : MeT l ⟨"JoinedTrees", "needSpot", "(LJoinedTrees$Spot;)V"⟩ (Cond.code ⟨"JoinedTrees", "needSpot", "(LJoinedTrees$Spot;)V"⟩ prog_1_method_36_code 2 none :: gb) ({ frames := 6, cells := 1, slots := 6, locals := 96 }) (cPc sad sav D (cw ad cc N S) (cty cc) sz [.ref (ad 11 x0), rv ad 7 x1]) (exN o.2) (va_A (cw ad cc N S) sz) (fun H1 => va_P D cls (cw ad cc N o.1) H1) 1 6 := by
  refine MeT.ofW (cc := prog_1_method_36_code) (maxL := 2) (ret := none) (by decide) rfl ?_
  intro p e s m args below meth c s₁ B hml hno hv
  obtain ⟨rfl, hsz, hP, hK, hD0, hev, hE, hN⟩ := hv
  have hx := B.exec
  have hb := B.bytes
  have hr := B.returns
  have hts : ∀ w9 ∈ gb, w9.before [.ref (ad 11 x0), rv ad 7 x1].toArray s = true := fun w9 h => atoms_spec (ws := Cond.code ⟨"JoinedTrees", "needSpot", "(LJoinedTrees$Spot;)V"⟩ prog_1_method_36_code 2 none :: gb) B.pre w9 (List.mem_cons_of_mem _ h)
  have hown : s.vm.findClass "JoinedTrees" = some m.cls := findClass_of_methodNamed B.named
  have hlocks := B.notSynchronized
  have hNS := ns_of hP
  subst hsz
  have hD := hD0.self (sz := s.heap.size)
  generalize hAe : va_A (cw ad cc N S) s.heap.size = A at hD hev hE hNS ⊢
  have hA : ∀ q : Nat, s.heap.size ≤ q → A q := fun q h => by rw [← hAe]; exact Or.inr h
  have hS : va_S A s.heap s.heap [] := va_S.rf
  obtain ⟨ls, hl, hle⟩ : ∃ ls : Array Slot, lv_has ls 2 [(0, .ref (ad 11 x0)), (1, rv ad 7 x1)] ∧ entryFrame m ([.ref (ad 11 x0), rv ad 7 x1] : List Value).toArray 2 = F0 m 0 ls [] := by
    rcases x1 with _ | x1
    all_goals exact ⟨_, lv_entry (n := 2) _ (Nat.le_of_ble_eq_true rfl), lg_entry_eq ..⟩
  rw [hle]
  refine w_cJT_needSpot_J0 (cR := 1) (sR := 6) hfl ⟨hx, hb, hr, hml, hown, hts, hK, hA, hev, hE, hN, hNS⟩ Heq (fun r h => ⟨fun v9 hv9 => (by subst h; cases hv9), fun t9 ht9 => ⟨⟨Nat.le_refl _, Nat.le_refl _⟩, fun pc H locs ls hd hsz hP hD hS => ?_, fun pc H locs ls st0 rest9 A9 hr9 hF9 hS => ?_⟩⟩) _ _ _ hP hD hS (lv_sub hl [0, 1] rfl)
  · subst h; cases ht9; exact tx_thr hfl hx hb hno hlocks hown hts hev hN hNS hd (hsz.trans hml.symm) hP hS hA (Nat.le_refl _) (Nat.le_refl _) (Nat.le_of_ble_eq_true rfl) (Nat.le_of_ble_eq_true rfl)
  · subst h; cases ht9; exact tx_on hr9 hno hlocks hS hF9
def m_cJT_elementBefore_J25 (N : Nat → Nat) (x0 : Nat) (S : CS) (t0 : Option Nat) : Option ((CS × Option Nat) ⊕ (CS × Nat)) := gl x0 (N 11) (oe (m_cJT_needSpot N x0 S t0) (fun o_1 => gn t0 (N 7) (fun j_4 => some (.inl (o_1, (o_1.r 7 0 j_4))))) (fun t_3 => some (.inr t_3)))
theorem d_cJT_elementBefore_0 : decode prog_1_method_45_code 0 = .ok (.iload_n 2, 1) := by decide +kernel
theorem d_cJT_elementBefore_1 : decode prog_1_method_45_code 1 = .ok (.ifCond .ne 5, 3) := by decide +kernel
theorem d_cJT_elementBefore_6 : decode prog_1_method_45_code 6 = .ok (.iload_n 2, 1) := by decide +kernel
theorem d_cJT_elementBefore_7 : decode prog_1_method_45_code 7 = .ok (.ifCond .ge 7, 3) := by decide +kernel
theorem d_cJT_elementBefore_14 : decode prog_1_method_45_code 14 = .ok (.aload_n 0, 1) := by decide +kernel
theorem d_cJT_elementBefore_15 : decode prog_1_method_45_code 15 = .ok (.getfield 30, 3) := by decide +kernel
theorem d_cJT_elementBefore_18 : decode prog_1_method_45_code 18 = .ok (.aload_n 1, 1) := by decide +kernel
theorem d_cJT_elementBefore_19 : decode prog_1_method_45_code 19 = .ok (.iload_n 2, 1) := by decide +kernel
theorem d_cJT_elementBefore_20 : decode prog_1_method_45_code 20 = .ok (.iconst 1, 1) := by decide +kernel
theorem d_cJT_elementBefore_21 : decode prog_1_method_45_code 21 = .ok (.isub, 1) := by decide +kernel
theorem d_cJT_elementBefore_22 : decode prog_1_method_45_code 22 = .ok (.invokevirtual 148, 3) := by decide +kernel
theorem d_cJT_elementBefore_25 : decode prog_1_method_45_code 25 = .ok (.astore_n 3, 1) := by decide +kernel
theorem d_cJT_elementBefore_26 : decode prog_1_method_45_code 26 = .ok (.aload_n 0, 1) := by decide +kernel
theorem d_cJT_elementBefore_27 : decode prog_1_method_45_code 27 = .ok (.aload_n 3, 1) := by decide +kernel
theorem d_cJT_elementBefore_28 : decode prog_1_method_45_code 28 = .ok (.invokevirtual 152, 3) := by decide +kernel
theorem d_cJT_elementBefore_31 : decode prog_1_method_45_code 31 = .ok (.aload_n 3, 1) := by decide +kernel
theorem d_cJT_elementBefore_32 : decode prog_1_method_45_code 32 = .ok (.getfield 278, 3) := by decide +kernel
theorem d_cJT_elementBefore_35 : decode prog_1_method_45_code 35 = .ok (.areturn, 1) := by decide +kernel
set_option maxHeartbeats 4000000 in
set_option maxRecDepth 100000 in
theorem w_cJT_elementBefore_J25 {p : Program} {l : Launch} {e : Env} {s : State} {m : MethodId} {args : Array Value} {below : List Frame} {meth : Method} {c : Code} {A : Nat → Prop} {D : va_G} {ad : Nat → Nat → Nat} {cc : Nat → ClassId} {sad sav : Nat → Nat} {Q : State → Prop} {cR sR : Nat} (hfl : l.flags = flags0) (hC : MCc sad sav "JoinedTrees" prog_1_method_45_code 4 (some (.object "JoinedTrees$Op")) p s m args meth c A D cc) {N : Nat → Nat} {x0 : Nat} {S : CS} {t0 : Option Nat} {o : ((CS × Option Nat) ⊕ (CS × Nat))} (Heq : m_cJT_elementBefore_J25 N x0 S t0 = some o) (Kr : ∀ r : ((CS × Option Nat) ⊕ (CS × Nat)), o = r → (∀ v9 : CS × Option Nat, r = .inl v9 → ∀ (pc : Nat) (H : Heap) (locs : List Loc) (ls : Array Slot), decode prog_1_method_45_code pc = .ok (.areturn, 1) → va_P D cls (cw ad cc N v9.1) H → va_D A (cw ad cc N v9.1) → va_S A s.heap H locs → W p l e ({ frames := 7, cells := cR, slots := sR, locals := 117 }) s m args below meth c H locs 0 0 Q (F0 m pc ls [rv ad 3 v9.2])) ∧ (∀ t9 : CS × Nat, r = .inr t9 → (1 ≤ cR ∧ 6 ≤ sR) ∧ (∀ (pc : Nat) (H : Heap) (locs : List Loc) (ls : Array Slot), thD prog_1_method_45_code t9.2 pc → ls.size = 4 → va_P D cls (cw ad cc N t9.1) H → va_D A (cw ad cc N t9.1) → va_S A s.heap H locs → W p l e ({ frames := 7, cells := cR, slots := sR, locals := 117 }) s m args below meth c H locs 0 0 Q (F0 m pc ls [])) ∧ (∀ (pc : Nat) (H : Heap) (locs : List Loc) (ls : Array Slot) (st0 rest9 : List Value) (A9 : Nat → Prop), tx_Thr p l e ({ frames := 7, cells := cR, slots := sR, locals := 117 }) s m args below meth c H locs 0 0 1 6 (F0 m pc ls st0) rest9 (exN t9.2) A9 (fun H1 => va_P D cls (cw ad cc N t9.1) H1) → (∀ q, A9 q → A q) → va_S A s.heap H locs → W p l e ({ frames := 7, cells := cR, slots := sR, locals := 117 }) s m args below meth c H locs 0 0 Q (F0 m pc ls st0)))) : ∀ (H : Heap) (locs : List Loc) (ls : Array Slot), va_P D cls (cw ad cc N S) H → va_D A (cw ad cc N S) → va_S A s.heap H locs → lv_has ls 4 [(0, .ref (ad 11 x0))] → W p l e ({ frames := 7, cells := cR, slots := sR, locals := 117 }) s m args below meth c H locs 0 0 Q (F0 m 25 ls [rv ad 7 t0]) := by
  intro H locs ls hP hD hS hl
  obtain ⟨hx, hb, hr, hml, hown, hts, hK, hA, hev, hE, hN, hNS⟩ := id hC
  unfold m_cJT_elementBefore_J25 at Heq
  refine tx_astore_n (x := t0.map (ad 7)) (lv' := [(3, rv ad 7 t0), (0, .ref (ad 11 x0))]) hx hb d_cJT_elementBefore_25 rfl hl (by decide) rfl (fun ls hl => ?_)
  refine lv_aload_n hx hb d_cJT_elementBefore_26 rfl (lv_at hl 1 rfl) ?_
  refine tx_aload_n (x := t0.map (ad 7)) hx hb d_cJT_elementBefore_27 rfl (lv_at hl 0 rfl) ?_
  refine w_v (y := rv ad 7 t0) rfl ?_
  obtain ⟨hl_x0_11, Heq⟩ := gl_some Heq
  refine w_s (st' := [rv ad 7 t0, .ref (ad 11 x0)]) rfl ?_
  have hFc := fr_all hD hS hA
  rcases oe_some Heq with ⟨o_1, h_2, Heq⟩ | ⟨t_3, h_2, Heq⟩
  case inr => exact ((Kr _ (Option.some.inj Heq).symm).2 _ rfl).2.2 28 _ _ _ _ _ _ (tx_runV (As := [rv ad 7 t0]) (rest := []) ⟨hx, hb, hml, hown, hts⟩ (g_cJT_needSpot_t l hfl D H.size (ad := ad) (cc := cc) (sad := sad) (sav := sav) h_2) (cw_v 1 hts kw_789 kw_786 kw_788 kp_14 kw_1 rfl rfl (by decide +kernel) ⟨Nat.le_of_ble_eq_true rfl, Nat.le_of_ble_eq_true rfl⟩) ⟨c_blind, va_recv hK hP (ci := 11) (q0 := cPos N 11 x0) rfl (cw_obj (k := 11) (by decide) hl_x0_11), fun U hU hW => c_pre hU hW hP hK hD hev hE hN hNS hS hFc⟩ rfl rfl hl.1 rfl (lv_room (Nat.le_of_ble_eq_true rfl)) d_cJT_elementBefore_28 ((Kr _ (Option.some.inj Heq).symm).2 _ rfl).1) hFc hS
  refine va_callv (va_runV (As := [rv ad 7 t0]) (rest := []) ⟨hx, hb, hml, hown, hts⟩ (g_cJT_needSpot l hfl D H.size (ad := ad) (cc := cc) (sad := sad) (sav := sav) h_2) (cw_v 1 hts kw_789 kw_786 kw_788 kp_14 kw_1 rfl rfl (by decide +kernel) ⟨Nat.le_of_ble_eq_true rfl, Nat.le_of_ble_eq_true rfl⟩) ⟨c_blind, va_recv hK hP (ci := 11) (q0 := cPos N 11 x0) rfl (cw_obj (k := 11) (by decide) hl_x0_11), fun U hU hW => c_pre hU hW hP hK hD hev hE hN hNS hS hFc⟩ rfl rfl hl.1 rfl (lv_room (Nat.le_of_ble_eq_true rfl)) d_cJT_elementBefore_28 ⟨Nat.zero_le _, Nat.zero_le _⟩) hS (fun q _ h => hFc q h) hFc (fun u t H1 locs ht hvm hw hB hz1 hk1 hS => ?_)
  obtain ⟨hP, -, hD1⟩ := hB
  rw [ht] at hP
  have hD := hD1.weaken (fun _ q _ h => hFc q.1 h)
  generalize H1 = H at hP hS ⊢
  refine W.cs (cells' := 0) (slots' := 0) rfl rfl ?_
  refine tx_aload_n (x := t0.map (ad 7)) hx hb d_cJT_elementBefore_31 rfl (lv_at hl 0 rfl) ?_
  refine w_v (y := rv ad 7 t0) rfl ?_
  obtain ⟨j_4, hj_5, hl_6, Heq⟩ := gn_some Heq
  refine w_s (st' := [.ref (ad 7 j_4)]) (congrArg (fun z9 : Option Nat => [rv ad 7 z9]) hj_5) ?_
  refine va_get (D := D) (ci := 7) (v := rv ad 3 (o_1.r 7 0 j_4)) (C := R_Sp) (T := F_Sp) (N := 3) hx hb hts i_Sp hown hK hP (cPos N 7 j_4) (cw_obj (k := 7) (by decide) hl_6) rfl 0 (by decide) (hts _ kw_743) (fun _ h9 => h9) rfl d_cJT_elementBefore_32 ?_
  exact (Kr _ (Option.some.inj Heq).symm).1 _ rfl 35 _ _ _ d_cJT_elementBefore_35 hP hD hS
def m_cJT_elementBefore_J0 (N : Nat → Nat) (x0 : Nat) (S : CS) (x1 : Nat) (x2 : Int32) : Option ((CS × Option Nat) ⊕ (CS × Nat)) := (if x2 = 0 then some (.inl (S, none)) else (if 0 ≤ x2 then gl x0 (N 11) (gl x1 (N 3) (gn (S.r 11 2 x0) (N 10) (fun j_3 => ob (m_cVw_spotAt N j_3 S x1 (x2 - 1)) (fun o_6 => m_cJT_elementBefore_J25 N x0 o_6.1 o_6.2)))) else m_cJT_elementBefore_J25 N x0 S none))
theorem d_cJT_elementBefore_10 : decode prog_1_method_45_code 10 = .ok (.aconst_null, 1) := by decide +kernel
theorem d_cJT_elementBefore_11 : decode prog_1_method_45_code 11 = .ok (.goto 14, 3) := by decide +kernel
theorem d_cJT_elementBefore_4 : decode prog_1_method_45_code 4 = .ok (.aconst_null, 1) := by decide +kernel
theorem d_cJT_elementBefore_5 : decode prog_1_method_45_code 5 = .ok (.areturn, 1) := by decide +kernel
set_option maxHeartbeats 4000000 in
set_option maxRecDepth 100000 in
theorem w_cJT_elementBefore_J0 {p : Program} {l : Launch} {e : Env} {s : State} {m : MethodId} {args : Array Value} {below : List Frame} {meth : Method} {c : Code} {A : Nat → Prop} {D : va_G} {ad : Nat → Nat → Nat} {cc : Nat → ClassId} {sad sav : Nat → Nat} {Q : State → Prop} {cR sR : Nat} (hfl : l.flags = flags0) (hC : MCc sad sav "JoinedTrees" prog_1_method_45_code 4 (some (.object "JoinedTrees$Op")) p s m args meth c A D cc) {N : Nat → Nat} {x0 : Nat} {S : CS} {x1 : Nat} {x2 : Int32} {o : ((CS × Option Nat) ⊕ (CS × Nat))} (Heq : m_cJT_elementBefore_J0 N x0 S x1 x2 = some o) (Kr : ∀ r : ((CS × Option Nat) ⊕ (CS × Nat)), o = r → (∀ v9 : CS × Option Nat, r = .inl v9 → ∀ (pc : Nat) (H : Heap) (locs : List Loc) (ls : Array Slot), decode prog_1_method_45_code pc = .ok (.areturn, 1) → va_P D cls (cw ad cc N v9.1) H → va_D A (cw ad cc N v9.1) → va_S A s.heap H locs → W p l e ({ frames := 7, cells := cR, slots := sR, locals := 117 }) s m args below meth c H locs 0 0 Q (F0 m pc ls [rv ad 3 v9.2])) ∧ (∀ t9 : CS × Nat, r = .inr t9 → (1 ≤ cR ∧ 6 ≤ sR) ∧ (∀ (pc : Nat) (H : Heap) (locs : List Loc) (ls : Array Slot), thD prog_1_method_45_code t9.2 pc → ls.size = 4 → va_P D cls (cw ad cc N t9.1) H → va_D A (cw ad cc N t9.1) → va_S A s.heap H locs → W p l e ({ frames := 7, cells := cR, slots := sR, locals := 117 }) s m args below meth c H locs 0 0 Q (F0 m pc ls [])) ∧ (∀ (pc : Nat) (H : Heap) (locs : List Loc) (ls : Array Slot) (st0 rest9 : List Value) (A9 : Nat → Prop), tx_Thr p l e ({ frames := 7, cells := cR, slots := sR, locals := 117 }) s m args below meth c H locs 0 0 1 6 (F0 m pc ls st0) rest9 (exN t9.2) A9 (fun H1 => va_P D cls (cw ad cc N t9.1) H1) → (∀ q, A9 q → A q) → va_S A s.heap H locs → W p l e ({ frames := 7, cells := cR, slots := sR, locals := 117 }) s m args below meth c H locs 0 0 Q (F0 m pc ls st0)))) : ∀ (H : Heap) (locs : List Loc) (ls : Array Slot), va_P D cls (cw ad cc N S) H → va_D A (cw ad cc N S) → va_S A s.heap H locs → lv_has ls 4 [(0, .ref (ad 11 x0)), (1, .ref (ad 3 x1)), (2, .int x2)] → W p l e ({ frames := 7, cells := cR, slots := sR, locals := 117 }) s m args below meth c H locs 0 0 Q (F0 m 0 ls []) := by
  intro H locs ls hP hD hS hl
  obtain ⟨hx, hb, hr, hml, hown, hts, hK, hA, hev, hE, hN, hNS⟩ := id hC
  unfold m_cJT_elementBefore_J0 at Heq
  refine lv_iload_n hx hb d_cJT_elementBefore_0 rfl (lv_at hl 2 rfl) ?_
  refine lv_if_ne (tgt := 6) hx hb d_cJT_elementBefore_1 (by decide) (fun c_1 => ?_) (fun c_1 => ?_)
  · replace Heq := (if_neg c_1).symm.trans Heq
    refine lv_iload_n hx hb d_cJT_elementBefore_6 rfl (lv_at hl 2 rfl) ?_
    refine lv_if_ge (tgt := 14) hx hb d_cJT_elementBefore_7 (by decide) (fun c_2 => ?_) (fun c_2 => ?_)
    · replace Heq := (if_pos c_2).symm.trans Heq
      refine lv_aload_n hx hb d_cJT_elementBefore_14 rfl (lv_at hl 0 rfl) ?_
      obtain ⟨hl_x0_11, Heq⟩ := gl_some Heq
      refine va_get (D := D) (ci := 11) (v := rv ad 10 (S.r 11 2 x0)) (C := R_JT) (T := F_JT) (N := 13) hx hb hts i_JT hown hK hP (cPos N 11 x0) (cw_obj (k := 11) (by decide) hl_x0_11) rfl 2 (by decide) (hts _ kw_423) (fun _ h9 => h9) rfl d_cJT_elementBefore_15 ?_
      refine lv_aload_n hx hb d_cJT_elementBefore_18 rfl (lv_at hl 1 rfl) ?_
      refine lv_iload_n hx hb d_cJT_elementBefore_19 rfl (lv_at hl 2 rfl) ?_
      refine lv_iconst (v := 1) hx hb d_cJT_elementBefore_20 (by decide) ?_
      refine lv_isub hx hb d_cJT_elementBefore_21 ?_
      refine w_i (y := x2 - 1) rfl ?_
      obtain ⟨hl_x1_3, Heq⟩ := gl_some Heq
      obtain ⟨j_3, hj_4, hl_5, Heq⟩ := gn_some Heq
      refine w_s (st' := [.int (x2 - 1), .ref (ad 3 x1), .ref (ad 10 j_3)]) (congrArg (fun z9 : Option Nat => [.int (x2 - 1), .ref (ad 3 x1), rv ad 10 z9]) hj_4) ?_
      obtain ⟨o_6, h_7, Heq⟩ := ob_some Heq
      have hFc := fr_all hD hS hA
      refine va_callq (va_runV (As := [.ref (ad 3 x1), .int (x2 - 1)]) (rest := []) ⟨hx, hb, hml, hown, hts⟩ (g_cVw_spotAt l D H.size (ad := ad) (cc := cc) (sad := sad) (sav := sav) h_7) (cw_v 2 hts kw_780 kw_777 kw_778 kw_779 kw_6 rfl rfl (by decide +kernel) ⟨Nat.le_of_ble_eq_true rfl, Nat.le_of_ble_eq_true rfl⟩) ⟨c_blind, va_recv hK hP (ci := 10) (q0 := cPos N 10 j_3) rfl (cw_obj (k := 10) (by decide) hl_5), fun U hU hW => c_pre hU hW hP hK hD hev hE hN hNS hS hFc⟩ rfl rfl hl.1 rfl (lv_room (Nat.le_of_ble_eq_true rfl)) d_cJT_elementBefore_22 ⟨Nat.zero_le _, Nat.zero_le _⟩) hS (fun q _ h => hFc q h) hFc (fun rz u t H1 locs ht hvm hw hB hz1 hk1 hS => ?_)
      obtain ⟨hP, -, hD1⟩ := hB
      rw [ht] at hP
      have hD := hD1.weaken (fun _ q _ h => hFc q.1 h)
      generalize H1 = H at hP hS ⊢
      refine W.cs (cells' := 0) (slots' := 0) rfl rfl ?_
      subst hw
      refine w_v (y := rv ad 7 o_6.2) rfl ?_
      exact w_cJT_elementBefore_J25 hfl hC Heq Kr _ _ _ hP hD hS (lv_sub hl [0] rfl)
    · replace Heq := (if_neg c_2).symm.trans Heq
      refine lv_null hx hb d_cJT_elementBefore_10 ?_
      refine lv_goto (tgt := 25) hx hb d_cJT_elementBefore_11 (by decide) ?_
      exact w_cJT_elementBefore_J25 hfl hC Heq Kr _ _ _ hP hD hS (lv_sub hl [0] rfl)
  · replace Heq := (if_pos c_1).symm.trans Heq
    refine lv_null hx hb d_cJT_elementBefore_4 ?_
    exact (Kr _ (Option.some.inj Heq).symm).1 _ rfl 5 _ _ _ d_cJT_elementBefore_5 hP hD hS
def m_cJT_elementBefore (N : Nat → Nat) (x0 : Nat) (S : CS) (x1 : Nat) (x2 : Int32) : Option ((CS × Option Nat) ⊕ (CS × Nat)) := m_cJT_elementBefore_J0 N x0 S x1 x2
set_option maxHeartbeats 4000000 in
theorem g_cJT_elementBefore (l : Launch) (hfl : l.flags = flags0) (D : va_G) (sz : Nat) {ad : Nat → Nat → Nat} {cc : Nat → ClassId} {sad sav : Nat → Nat} {N : Nat → Nat} {x0 : Nat} {S : CS} {x1 : Nat} {x2 : Int32} {o : CS × Option Nat} (Heq : m_cJT_elementBefore N x0 S x1 x2 = some (.inl o)) : Met l ⟨"JoinedTrees", "elementBefore", "(LJoinedTrees$Op;I)LJoinedTrees$Op;"⟩ (Cond.code ⟨"JoinedTrees", "elementBefore", "(LJoinedTrees$Op;I)LJoinedTrees$Op;"⟩ prog_1_method_45_code 4 (some (.object "JoinedTrees$Op")) :: gb) ({ frames := 7, cells := 0, slots := 0, locals := 117 }) (cPc sad sav D (cw ad cc N S) (cty cc) sz [.ref (ad 11 x0), .ref (ad 3 x1), .int x2]) (va_Qq (fun (r : Option Nat) (_ : Unit) => r = o.2.map (ad 3)) (fun _ t => gO D (cw ad cc N o.1) (cty cc) (va_A (cw ad cc N S) sz) t) (va_A (cw ad cc N S) sz)) 0 0 (va_A (cw ad cc N S) sz) := by
  refine Met.ofW (cc := prog_1_method_45_code) (maxL := 4) (ret := (some (.object "JoinedTrees$Op"))) (by decide) rfl ?_
  intro p e s m args below meth c s₁ B hml hv
  obtain ⟨rfl, hsz, hP, hK, hD0, hev, hE, hN⟩ := hv
  have hx := B.exec
  have hb := B.bytes
  have hr := B.returns
  have hts : ∀ w9 ∈ gb, w9.before [.ref (ad 11 x0), .ref (ad 3 x1), .int x2].toArray s = true := fun w9 h => atoms_spec (ws := Cond.code ⟨"JoinedTrees", "elementBefore", "(LJoinedTrees$Op;I)LJoinedTrees$Op;"⟩ prog_1_method_45_code 4 (some (.object "JoinedTrees$Op")) :: gb) B.pre w9 (List.mem_cons_of_mem _ h)
  have hown : s.vm.findClass "JoinedTrees" = some m.cls := findClass_of_methodNamed B.named
  have hlocks := B.notSynchronized
  have hNS := ns_of hP
  subst hsz
  have hD := hD0.self (sz := s.heap.size)
  generalize hAe : va_A (cw ad cc N S) s.heap.size = A at hD hev hE hNS ⊢
  have hA : ∀ q : Nat, s.heap.size ≤ q → A q := fun q h => by rw [← hAe]; exact Or.inr h
  have hS : va_S A s.heap s.heap [] := va_S.rf
  obtain ⟨ls, hl, hle⟩ : ∃ ls : Array Slot, lv_has ls 4 [(0, .ref (ad 11 x0)), (1, .ref (ad 3 x1)), (2, .int x2)] ∧ entryFrame m ([.ref (ad 11 x0), .ref (ad 3 x1), .int x2] : List Value).toArray 4 = F0 m 0 ls [] := by
    exact ⟨_, lv_entry (n := 4) _ (Nat.le_of_ble_eq_true rfl), lg_entry_eq ..⟩
  rw [hle]
  refine w_cJT_elementBefore_J0 (cR := 0) (sR := 0) hfl ⟨hx, hb, hr, hml, hown, hts, hK, hA, hev, hE, hN, hNS⟩ Heq (fun r h => ⟨fun v9 hv9 pc H locs ls hd hP hD hS => ?_, fun t9 ht9 => (by subst h; cases ht9)⟩) _ _ _ hP hD hS (lv_sub hl [0, 1, 2] rfl)
  subst h
  cases hv9
  exact W.aret hx hb hr (Or.inl ⟨_, rfl⟩) (va_rf_or _) (fun t ht hW => ⟨⟨_, (), rfl, rfl, by rw [ht]; exact hP, va_K.moved hW.alike hK, hD⟩, hS.F ht⟩) hS.2.2 hd
set_option maxHeartbeats 4000000 in
theorem g_cJT_elementBefore_t (l : Launch) (hfl : l.flags = flags0) (D : va_G) (sz : Nat) {ad : Nat → Nat → Nat} {cc : Nat → ClassId} {sad sav : Nat → Nat} {N : Nat → Nat} {x0 : Nat} {S : CS} {x1 : Nat} {x2 : Int32} {o : CS × Nat} (Heq : m_cJT_elementBefore N x0 S x1 x2 = some (.inr o)) : MeT l ⟨"JoinedTrees", "elementBefore", "(LJoinedTrees$Op;I)LJoinedTrees$Op;"⟩ (Cond.code ⟨"JoinedTrees", "elementBefore", "(LJoinedTrees$Op;I)LJoinedTrees$Op;"⟩ prog_1_method_45_code 4 (some (.object "JoinedTrees$Op")) :: gb) ({ frames := 7, cells := 1, slots := 6, locals := 117 }) (cPc sad sav D (cw ad cc N S) (cty cc) sz [.ref (ad 11 x0), .ref (ad 3 x1), .int x2]) (exN o.2) (va_A (cw ad cc N S) sz) (fun H1 => va_P D cls (cw ad cc N o.1) H1) 1 6 := by
  refine MeT.ofW (cc := prog_1_method_45_code) (maxL := 4) (ret := (some (.object "JoinedTrees$Op"))) (by decide) rfl ?_
  intro p e s m args below meth c s₁ B hml hno hv
  obtain ⟨rfl, hsz, hP, hK, hD0, hev, hE, hN⟩ := hv
  have hx := B.exec
  have hb := B.bytes
  have hr := B.returns
  have hts : ∀ w9 ∈ gb, w9.before [.ref (ad 11 x0), .ref (ad 3 x1), .int x2].toArray s = true := fun w9 h => atoms_spec (ws := Cond.code ⟨"JoinedTrees", "elementBefore", "(LJoinedTrees$Op;I)LJoinedTrees$Op;"⟩ prog_1_method_45_code 4 (some (.object "JoinedTrees$Op")) :: gb) B.pre w9 (List.mem_cons_of_mem _ h)
  have hown : s.vm.findClass "JoinedTrees" = some m.cls := findClass_of_methodNamed B.named
  have hlocks := B.notSynchronized
  have hNS := ns_of hP
  subst hsz
  have hD := hD0.self (sz := s.heap.size)
  generalize hAe : va_A (cw ad cc N S) s.heap.size = A at hD hev hE hNS ⊢
  have hA : ∀ q : Nat, s.heap.size ≤ q → A q := fun q h => by rw [← hAe]; exact Or.inr h
  have hS : va_S A s.heap s.heap [] := va_S.rf
  obtain ⟨ls, hl, hle⟩ : ∃ ls : Array Slot, lv_has ls 4 [(0, .ref (ad 11 x0)), (1, .ref (ad 3 x1)), (2, .int x2)] ∧ entryFrame m ([.ref (ad 11 x0), .ref (ad 3 x1), .int x2] : List Value).toArray 4 = F0 m 0 ls [] := by
    exact ⟨_, lv_entry (n := 4) _ (Nat.le_of_ble_eq_true rfl), lg_entry_eq ..⟩
  rw [hle]
  refine w_cJT_elementBefore_J0 (cR := 1) (sR := 6) hfl ⟨hx, hb, hr, hml, hown, hts, hK, hA, hev, hE, hN, hNS⟩ Heq (fun r h => ⟨fun v9 hv9 => (by subst h; cases hv9), fun t9 ht9 => ⟨⟨Nat.le_refl _, Nat.le_refl _⟩, fun pc H locs ls hd hsz hP hD hS => ?_, fun pc H locs ls st0 rest9 A9 hr9 hF9 hS => ?_⟩⟩) _ _ _ hP hD hS (lv_sub hl [0, 1, 2] rfl)
  · subst h; cases ht9; exact tx_thr hfl hx hb hno hlocks hown hts hev hN hNS hd (hsz.trans hml.symm) hP hS hA (Nat.le_refl _) (Nat.le_refl _) (Nat.le_of_ble_eq_true rfl) (Nat.le_of_ble_eq_true rfl)
  · subst h; cases ht9; exact tx_on hr9 hno hlocks hS hF9
