def m_cJT_needPlace_J31 (N : Nat → Nat) (x0 : Nat) (S : CS) : Option ((CS) ⊕ (CS × Nat)) := some (.inl S)
theorem d_cJT_needPlace_0 : decode prog_1_method_35_code 0 = .ok (.iload_n 1, 1) := by decide +kernel
theorem d_cJT_needPlace_1 : decode prog_1_method_35_code 1 = .ok (.iload_n 2, 1) := by decide +kernel
theorem d_cJT_needPlace_2 : decode prog_1_method_35_code 2 = .ok (.iconst (-1), 1) := by decide +kernel
theorem d_cJT_needPlace_3 : decode prog_1_method_35_code 3 = .ok (.if_icmp .ne 7, 3) := by decide +kernel
theorem d_cJT_needPlace_10 : decode prog_1_method_35_code 10 = .ok (.iconst 0, 1) := by decide +kernel
theorem d_cJT_needPlace_11 : decode prog_1_method_35_code 11 = .ok (.if_icmp .eq 11, 3) := by decide +kernel
theorem d_cJT_needPlace_22 : decode prog_1_method_35_code 22 = .ok (.iload_n 2, 1) := by decide +kernel
theorem d_cJT_needPlace_23 : decode prog_1_method_35_code 23 = .ok (.iconst (-1), 1) := by decide +kernel
theorem d_cJT_needPlace_24 : decode prog_1_method_35_code 24 = .ok (.if_icmp .ne 7, 3) := by decide +kernel
theorem d_cJT_needPlace_31 : decode prog_1_method_35_code 31 = .ok (.return_, 1) := by decide +kernel
set_option maxHeartbeats 4000000 in
set_option maxRecDepth 100000 in
theorem w_cJT_needPlace_J31 {p : Program} {l : Launch} {e : Env} {s : State} {m : MethodId} {args : Array Value} {below : List Frame} {meth : Method} {c : Code} {A : Nat → Prop} {D : va_G} {ad : Nat → Nat → Nat} {cc : Nat → ClassId} {sad sav : Nat → Nat} {Q : State → Prop} {cR sR : Nat} (hfl : l.flags = flags0) (hC : MCc sad sav "JoinedTrees" prog_1_method_35_code 3 none p s m args meth c A D cc) {N : Nat → Nat} {x0 : Nat} {S : CS} {o : ((CS) ⊕ (CS × Nat))} (Heq : m_cJT_needPlace_J31 N x0 S = some o) (Kr : ∀ r : ((CS) ⊕ (CS × Nat)), o = r → (∀ v9 : CS, r = .inl v9 → ∀ (pc : Nat) (H : Heap) (locs : List Loc) (ls : Array Slot), decode prog_1_method_35_code pc = .ok (.return_, 1) → va_P D cls (cw ad cc N v9) H → va_D A (cw ad cc N v9) → va_S A s.heap H locs → W p l e ({ frames := 7, cells := cR, slots := sR, locals := 116 }) s m args below meth c H locs 0 0 Q (F0 m pc ls [])) ∧ (∀ t9 : CS × Nat, r = .inr t9 → (1 ≤ cR ∧ 6 ≤ sR) ∧ (∀ (pc : Nat) (H : Heap) (locs : List Loc) (ls : Array Slot), thD prog_1_method_35_code t9.2 pc → ls.size = 3 → va_P D cls (cw ad cc N t9.1) H → va_D A (cw ad cc N t9.1) → va_S A s.heap H locs → W p l e ({ frames := 7, cells := cR, slots := sR, locals := 116 }) s m args below meth c H locs 0 0 Q (F0 m pc ls [])) ∧ (∀ (pc : Nat) (H : Heap) (locs : List Loc) (ls : Array Slot) (st0 rest9 : List Value) (A9 : Nat → Prop), tx_Thr p l e ({ frames := 7, cells := cR, slots := sR, locals := 116 }) s m args below meth c H locs 0 0 1 6 (F0 m pc ls st0) rest9 (exN t9.2) A9 (fun H1 => va_P D cls (cw ad cc N t9.1) H1) → (∀ q, A9 q → A q) → va_S A s.heap H locs → W p l e ({ frames := 7, cells := cR, slots := sR, locals := 116 }) s m args below meth c H locs 0 0 Q (F0 m pc ls st0)))) : ∀ (H : Heap) (locs : List Loc) (ls : Array Slot), va_P D cls (cw ad cc N S) H → va_D A (cw ad cc N S) → va_S A s.heap H locs → lv_has ls 3 [(0, .ref (ad 11 x0))] → W p l e ({ frames := 7, cells := cR, slots := sR, locals := 116 }) s m args below meth c H locs 0 0 Q (F0 m 31 ls []) := by
  intro H locs ls hP hD hS hl
  obtain ⟨hx, hb, hr, hml, hown, hts, hK, hA, hev, hE, hN, hNS⟩ := id hC
  unfold m_cJT_needPlace_J31 at Heq
  exact (Kr _ (Option.some.inj Heq).symm).1 _ rfl 31 _ _ _ d_cJT_needPlace_31 hP hD hS
def m_cJT_needPlace_J11 (N : Nat → Nat) (x0 : Nat) (S : CS) (x2 : Int32) (t0 : Int32) (t1 : Int32) : Option ((CS) ⊕ (CS × Nat)) := (if t1 = t0 then (if x2 = (-1) then gl x0 (N 11) (oe (m_cJT_needKey N x0 S) (fun o_3 => m_cJT_needPlace_J31 N x0 o_3) (fun t_5 => some (.inr t_5))) else m_cJT_needPlace_J31 N x0 S) else some (.inr (S, 1)))
theorem d_cJT_needPlace_27 : decode prog_1_method_35_code 27 = .ok (.aload_n 0, 1) := by decide +kernel
theorem d_cJT_needPlace_28 : decode prog_1_method_35_code 28 = .ok (.invokevirtual 113, 3) := by decide +kernel
theorem d_cJT_needPlace_14 : decode prog_1_method_35_code 14 = .ok (.new 93, 3) := by decide +kernel
theorem d_cJT_needPlace_17 : decode prog_1_method_35_code 17 = .ok (.dup, 1) := by decide +kernel
theorem d_cJT_needPlace_18 : decode prog_1_method_35_code 18 = .ok (.invokespecial 95, 3) := by decide +kernel
theorem d_cJT_needPlace_21 : decode prog_1_method_35_code 21 = .ok (.athrow, 1) := by decide +kernel
set_option maxHeartbeats 4000000 in
set_option maxRecDepth 100000 in
theorem w_cJT_needPlace_J11 {p : Program} {l : Launch} {e : Env} {s : State} {m : MethodId} {args : Array Value} {below : List Frame} {meth : Method} {c : Code} {A : Nat → Prop} {D : va_G} {ad : Nat → Nat → Nat} {cc : Nat → ClassId} {sad sav : Nat → Nat} {Q : State → Prop} {cR sR : Nat} (hfl : l.flags = flags0) (hC : MCc sad sav "JoinedTrees" prog_1_method_35_code 3 none p s m args meth c A D cc) {N : Nat → Nat} {x0 : Nat} {S : CS} {x2 : Int32} {t0 : Int32} {t1 : Int32} {o : ((CS) ⊕ (CS × Nat))} (Heq : m_cJT_needPlace_J11 N x0 S x2 t0 t1 = some o) (Kr : ∀ r : ((CS) ⊕ (CS × Nat)), o = r → (∀ v9 : CS, r = .inl v9 → ∀ (pc : Nat) (H : Heap) (locs : List Loc) (ls : Array Slot), decode prog_1_method_35_code pc = .ok (.return_, 1) → va_P D cls (cw ad cc N v9) H → va_D A (cw ad cc N v9) → va_S A s.heap H locs → W p l e ({ frames := 7, cells := cR, slots := sR, locals := 116 }) s m args below meth c H locs 0 0 Q (F0 m pc ls [])) ∧ (∀ t9 : CS × Nat, r = .inr t9 → (1 ≤ cR ∧ 6 ≤ sR) ∧ (∀ (pc : Nat) (H : Heap) (locs : List Loc) (ls : Array Slot), thD prog_1_method_35_code t9.2 pc → ls.size = 3 → va_P D cls (cw ad cc N t9.1) H → va_D A (cw ad cc N t9.1) → va_S A s.heap H locs → W p l e ({ frames := 7, cells := cR, slots := sR, locals := 116 }) s m args below meth c H locs 0 0 Q (F0 m pc ls [])) ∧ (∀ (pc : Nat) (H : Heap) (locs : List Loc) (ls : Array Slot) (st0 rest9 : List Value) (A9 : Nat → Prop), tx_Thr p l e ({ frames := 7, cells := cR, slots := sR, locals := 116 }) s m args below meth c H locs 0 0 1 6 (F0 m pc ls st0) rest9 (exN t9.2) A9 (fun H1 => va_P D cls (cw ad cc N t9.1) H1) → (∀ q, A9 q → A q) → va_S A s.heap H locs → W p l e ({ frames := 7, cells := cR, slots := sR, locals := 116 }) s m args below meth c H locs 0 0 Q (F0 m pc ls st0)))) : ∀ (H : Heap) (locs : List Loc) (ls : Array Slot), va_P D cls (cw ad cc N S) H → va_D A (cw ad cc N S) → va_S A s.heap H locs → lv_has ls 3 [(0, .ref (ad 11 x0)), (2, .int x2)] → W p l e ({ frames := 7, cells := cR, slots := sR, locals := 116 }) s m args below meth c H locs 0 0 Q (F0 m 11 ls [.int t0, .int t1]) := by
  intro H locs ls hP hD hS hl
  obtain ⟨hx, hb, hr, hml, hown, hts, hK, hA, hev, hE, hN, hNS⟩ := id hC
  unfold m_cJT_needPlace_J11 at Heq
  refine lv_icmp_eq (tgt := 22) hx hb d_cJT_needPlace_11 (by decide) (fun c_1 => ?_) (fun c_1 => ?_)
  · replace Heq := (if_pos c_1).symm.trans Heq
    refine lv_iload_n hx hb d_cJT_needPlace_22 rfl (lv_at hl 1 rfl) ?_
    refine lv_iconst (v := (-1)) hx hb d_cJT_needPlace_23 (by decide) ?_
    refine lv_icmp_ne (tgt := 31) hx hb d_cJT_needPlace_24 (by decide) (fun c_2 => ?_) (fun c_2 => ?_)
    · replace Heq := (if_neg c_2).symm.trans Heq
      exact w_cJT_needPlace_J31 hfl hC Heq Kr _ _ _ hP hD hS (lv_sub hl [0] rfl)
    · replace Heq := (if_pos c_2).symm.trans Heq
      refine lv_aload_n hx hb d_cJT_needPlace_27 rfl (lv_at hl 0 rfl) ?_
      obtain ⟨hl_x0_11, Heq⟩ := gl_some Heq
      have hFc := fr_all hD hS hA
      rcases oe_some Heq with ⟨o_3, h_4, Heq⟩ | ⟨t_5, h_4, Heq⟩
      case inr => exact ((Kr _ (Option.some.inj Heq).symm).2 _ rfl).2.2 28 _ _ _ _ _ _ (tx_runV (As := []) (rest := []) ⟨hx, hb, hml, hown, hts⟩ (g_cJT_needKey_t l hfl D H.size (ad := ad) (cc := cc) (sad := sad) (sav := sav) h_4) (cw_v 0 hts kw_608 kw_605 kw_607 kp_5 kw_1 rfl rfl (by decide +kernel) ⟨Nat.le_of_ble_eq_true rfl, Nat.le_of_ble_eq_true rfl⟩) ⟨c_blind, va_recv hK hP (ci := 11) (q0 := cPos N 11 x0) rfl (cw_obj (k := 11) (by decide) hl_x0_11), fun U hU hW => c_pre hU hW hP hK hD hev hE hN hNS hS hFc⟩ rfl rfl hl.1 rfl (lv_room (Nat.le_of_ble_eq_true rfl)) d_cJT_needPlace_28 ((Kr _ (Option.some.inj Heq).symm).2 _ rfl).1) hFc hS
      refine va_callv (va_runV (As := []) (rest := []) ⟨hx, hb, hml, hown, hts⟩ (g_cJT_needKey l hfl D H.size (ad := ad) (cc := cc) (sad := sad) (sav := sav) h_4) (cw_v 0 hts kw_608 kw_605 kw_607 kp_5 kw_1 rfl rfl (by decide +kernel) ⟨Nat.le_of_ble_eq_true rfl, Nat.le_of_ble_eq_true rfl⟩) ⟨c_blind, va_recv hK hP (ci := 11) (q0 := cPos N 11 x0) rfl (cw_obj (k := 11) (by decide) hl_x0_11), fun U hU hW => c_pre hU hW hP hK hD hev hE hN hNS hS hFc⟩ rfl rfl hl.1 rfl (lv_room (Nat.le_of_ble_eq_true rfl)) d_cJT_needPlace_28 ⟨Nat.zero_le _, Nat.zero_le _⟩) hS (fun q _ h => hFc q h) hFc (fun u t H1 locs ht hvm hw hB hz1 hk1 hS => ?_)
      obtain ⟨hP, -, hD1⟩ := hB
      rw [ht] at hP
      have hD := hD1.weaken (fun _ q _ h => hFc q.1 h)
      generalize H1 = H at hP hS ⊢
      refine W.cs (cells' := 0) (slots' := 0) rfl rfl ?_
      exact w_cJT_needPlace_J31 hfl hC Heq Kr _ _ _ hP hD hS (lv_sub hl [0] rfl)
  · replace Heq := (if_neg c_1).symm.trans Heq
    exact ((Kr _ (Option.some.inj Heq).symm).2 _ rfl).2.1 14 _ _ _ ⟨⟨show 1 ≤ 1 by decide, show 1 ≤ 5 by decide⟩, d_cJT_needPlace_14, d_cJT_needPlace_17, d_cJT_needPlace_18, d_cJT_needPlace_21⟩ hl.1 hP hD hS
def m_cJT_needPlace_J0 (N : Nat → Nat) (x0 : Nat) (S : CS) (x1 : Int32) (x2 : Int32) : Option ((CS) ⊕ (CS × Nat)) := (if x2 = (-1) then m_cJT_needPlace_J11 N x0 S x2 1 x1 else m_cJT_needPlace_J11 N x0 S x2 0 x1)
theorem d_cJT_needPlace_6 : decode prog_1_method_35_code 6 = .ok (.iconst 1, 1) := by decide +kernel
theorem d_cJT_needPlace_7 : decode prog_1_method_35_code 7 = .ok (.goto 4, 3) := by decide +kernel
set_option maxHeartbeats 4000000 in
set_option maxRecDepth 100000 in
theorem w_cJT_needPlace_J0 {p : Program} {l : Launch} {e : Env} {s : State} {m : MethodId} {args : Array Value} {below : List Frame} {meth : Method} {c : Code} {A : Nat → Prop} {D : va_G} {ad : Nat → Nat → Nat} {cc : Nat → ClassId} {sad sav : Nat → Nat} {Q : State → Prop} {cR sR : Nat} (hfl : l.flags = flags0) (hC : MCc sad sav "JoinedTrees" prog_1_method_35_code 3 none p s m args meth c A D cc) {N : Nat → Nat} {x0 : Nat} {S : CS} {x1 : Int32} {x2 : Int32} {o : ((CS) ⊕ (CS × Nat))} (Heq : m_cJT_needPlace_J0 N x0 S x1 x2 = some o) (Kr : ∀ r : ((CS) ⊕ (CS × Nat)), o = r → (∀ v9 : CS, r = .inl v9 → ∀ (pc : Nat) (H : Heap) (locs : List Loc) (ls : Array Slot), decode prog_1_method_35_code pc = .ok (.return_, 1) → va_P D cls (cw ad cc N v9) H → va_D A (cw ad cc N v9) → va_S A s.heap H locs → W p l e ({ frames := 7, cells := cR, slots := sR, locals := 116 }) s m args below meth c H locs 0 0 Q (F0 m pc ls [])) ∧ (∀ t9 : CS × Nat, r = .inr t9 → (1 ≤ cR ∧ 6 ≤ sR) ∧ (∀ (pc : Nat) (H : Heap) (locs : List Loc) (ls : Array Slot), thD prog_1_method_35_code t9.2 pc → ls.size = 3 → va_P D cls (cw ad cc N t9.1) H → va_D A (cw ad cc N t9.1) → va_S A s.heap H locs → W p l e ({ frames := 7, cells := cR, slots := sR, locals := 116 }) s m args below meth c H locs 0 0 Q (F0 m pc ls [])) ∧ (∀ (pc : Nat) (H : Heap) (locs : List Loc) (ls : Array Slot) (st0 rest9 : List Value) (A9 : Nat → Prop), tx_Thr p l e ({ frames := 7, cells := cR, slots := sR, locals := 116 }) s m args below meth c H locs 0 0 1 6 (F0 m pc ls st0) rest9 (exN t9.2) A9 (fun H1 => va_P D cls (cw ad cc N t9.1) H1) → (∀ q, A9 q → A q) → va_S A s.heap H locs → W p l e ({ frames := 7, cells := cR, slots := sR, locals := 116 }) s m args below meth c H locs 0 0 Q (F0 m pc ls st0)))) : ∀ (H : Heap) (locs : List Loc) (ls : Array Slot), va_P D cls (cw ad cc N S) H → va_D A (cw ad cc N S) → va_S A s.heap H locs → lv_has ls 3 [(0, .ref (ad 11 x0)), (1, .int x1), (2, .int x2)] → W p l e ({ frames := 7, cells := cR, slots := sR, locals := 116 }) s m args below meth c H locs 0 0 Q (F0 m 0 ls []) := by
  intro H locs ls hP hD hS hl
  obtain ⟨hx, hb, hr, hml, hown, hts, hK, hA, hev, hE, hN, hNS⟩ := id hC
  unfold m_cJT_needPlace_J0 at Heq
  refine lv_iload_n hx hb d_cJT_needPlace_0 rfl (lv_at hl 1 rfl) ?_
  refine lv_iload_n hx hb d_cJT_needPlace_1 rfl (lv_at hl 2 rfl) ?_
  refine lv_iconst (v := (-1)) hx hb d_cJT_needPlace_2 (by decide) ?_
  refine lv_icmp_ne (tgt := 10) hx hb d_cJT_needPlace_3 (by decide) (fun c_1 => ?_) (fun c_1 => ?_)
  · replace Heq := (if_neg c_1).symm.trans Heq
    refine lv_iconst (v := 0) hx hb d_cJT_needPlace_10 (by decide) ?_
    exact w_cJT_needPlace_J11 hfl hC Heq Kr _ _ _ hP hD hS (lv_sub hl [0, 2] rfl)
  · replace Heq := (if_pos c_1).symm.trans Heq
    refine lv_iconst (v := 1) hx hb d_cJT_needPlace_6 (by decide) ?_
    refine lv_goto (tgt := 11) hx hb d_cJT_needPlace_7 (by decide) ?_
    exact w_cJT_needPlace_J11 hfl hC Heq Kr _ _ _ hP hD hS (lv_sub hl [0, 2] rfl)
def m_cJT_needPlace (N : Nat → Nat) (x0 : Nat) (S : CS) (x1 : Int32) (x2 : Int32) : Option ((CS) ⊕ (CS × Nat)) := m_cJT_needPlace_J0 N x0 S x1 x2
set_option maxHeartbeats 4000000 in
theorem g_cJT_needPlace (l : Launch) (hfl : l.flags = flags0) (D : va_G) (sz : Nat) {ad : Nat → Nat → Nat} {cc : Nat → ClassId} {sad sav : Nat → Nat} {N : Nat → Nat} {x0 : Nat} {S : CS} {x1 : Int32} {x2 : Int32} {o : CS} (Heq : m_cJT_needPlace N x0 S x1 x2 = some (.inl o)) : Met l ⟨"JoinedTrees", "needPlace", "(II)V"⟩ (Cond.code ⟨"JoinedTrees", "needPlace", "(II)V"⟩ prog_1_method_35_code 3 none :: gb) ({ frames := 7, cells := 0, slots := 0, locals := 116 }) (cPc sad sav D (cw ad cc N S) (cty cc) sz [.ref (ad 11 x0), .int x1, .int x2]) (va_Qv (fun _ : Unit => True) (fun _ t => gO D (cw ad cc N o) (cty cc) (va_A (cw ad cc N S) sz) t) (va_A (cw ad cc N S) sz)) 0 0 (va_A (cw ad cc N S) sz) := by
  refine Met.ofW (cc := prog_1_method_35_code) (maxL := 3) (ret := none) (by decide) rfl ?_
  intro p e s m args below meth c s₁ B hml hv
  obtain ⟨rfl, hsz, hP, hK, hD0, hev, hE, hN⟩ := hv
  have hx := B.exec
  have hb := B.bytes
  have hr := B.returns
  have hts : ∀ w9 ∈ gb, w9.before [.ref (ad 11 x0), .int x1, .int x2].toArray s = true := fun w9 h => atoms_spec (ws := Cond.code ⟨"JoinedTrees", "needPlace", "(II)V"⟩ prog_1_method_35_code 3 none :: gb) B.pre w9 (List.mem_cons_of_mem _ h)
  have hown : s.vm.findClass "JoinedTrees" = some m.cls := findClass_of_methodNamed B.named
  have hlocks := B.notSynchronized
  have hNS := ns_of hP
  subst hsz
  have hD := hD0.self (sz := s.heap.size)
  generalize hAe : va_A (cw ad cc N S) s.heap.size = A at hD hev hE hNS ⊢
  have hA : ∀ q : Nat, s.heap.size ≤ q → A q := fun q h => by rw [← hAe]; exact Or.inr h
  have hS : va_S A s.heap s.heap [] := va_S.rf
  obtain ⟨ls, hl, hle⟩ : ∃ ls : Array Slot, lv_has ls 3 [(0, .ref (ad 11 x0)), (1, .int x1), (2, .int x2)] ∧ entryFrame m ([.ref (ad 11 x0), .int x1, .int x2] : List Value).toArray 3 = F0 m 0 ls [] := by
    exact ⟨_, lv_entry (n := 3) _ (Nat.le_of_ble_eq_true rfl), lg_entry_eq ..⟩
  rw [hle]
  refine w_cJT_needPlace_J0 (cR := 0) (sR := 0) hfl ⟨hx, hb, hr, hml, hown, hts, hK, hA, hev, hE, hN, hNS⟩ Heq (fun r h => ⟨fun v9 hv9 pc H locs ls hd hP hD hS => ?_, fun t9 ht9 => (by subst h; cases ht9)⟩) _ _ _ hP hD hS (lv_sub hl [0, 1, 2] rfl)
  subst h
  cases hv9
  exact W.vret hx hb hr (fun t ht hW => ⟨⟨(), rfl, trivial, by rw [ht]; exact hP, va_K.moved hW.alike hK, hD⟩, hS.F ht⟩) hS.2.2 hd
set_option maxHeartbeats 4000000 in
theorem g_cJT_needPlace_t (l : Launch) (hfl : l.flags = flags0) (D : va_G) (sz : Nat) {ad : Nat → Nat → Nat} {cc : Nat → ClassId} {sad sav : Nat → Nat} {N : Nat → Nat} {x0 : Nat} {S : CS} {x1 : Int32} {x2 : Int32} {o : CS × Nat} (Heq : m_cJT_needPlace N x0 S x1 x2 = some (.inr o)) : MeT l ⟨"JoinedTrees", "needPlace", "(II)V"⟩ (Cond.code ⟨"JoinedTrees", "needPlace", "(II)V"⟩ prog_1_method_35_code 3 none :: gb) ({ frames := 7, cells := 1, slots := 6, locals := 116 }) (cPc sad sav D (cw ad cc N S) (cty cc) sz [.ref (ad 11 x0), .int x1, .int x2]) (exN o.2) (va_A (cw ad cc N S) sz) (fun H1 => va_P D cls (cw ad cc N o.1) H1) 1 6 := by
  refine MeT.ofW (cc := prog_1_method_35_code) (maxL := 3) (ret := none) (by decide) rfl ?_
  intro p e s m args below meth c s₁ B hml hno hv
  obtain ⟨rfl, hsz, hP, hK, hD0, hev, hE, hN⟩ := hv
  have hx := B.exec
  have hb := B.bytes
  have hr := B.returns
  have hts : ∀ w9 ∈ gb, w9.before [.ref (ad 11 x0), .int x1, .int x2].toArray s = true := fun w9 h => atoms_spec (ws := Cond.code ⟨"JoinedTrees", "needPlace", "(II)V"⟩ prog_1_method_35_code 3 none :: gb) B.pre w9 (List.mem_cons_of_mem _ h)
  have hown : s.vm.findClass "JoinedTrees" = some m.cls := findClass_of_methodNamed B.named
  have hlocks := B.notSynchronized
  have hNS := ns_of hP
  subst hsz
  have hD := hD0.self (sz := s.heap.size)
  generalize hAe : va_A (cw ad cc N S) s.heap.size = A at hD hev hE hNS ⊢
  have hA : ∀ q : Nat, s.heap.size ≤ q → A q := fun q h => by rw [← hAe]; exact Or.inr h
  have hS : va_S A s.heap s.heap [] := va_S.rf
  obtain ⟨ls, hl, hle⟩ : ∃ ls : Array Slot, lv_has ls 3 [(0, .ref (ad 11 x0)), (1, .int x1), (2, .int x2)] ∧ entryFrame m ([.ref (ad 11 x0), .int x1, .int x2] : List Value).toArray 3 = F0 m 0 ls [] := by
    exact ⟨_, lv_entry (n := 3) _ (Nat.le_of_ble_eq_true rfl), lg_entry_eq ..⟩
  rw [hle]
  refine w_cJT_needPlace_J0 (cR := 1) (sR := 6) hfl ⟨hx, hb, hr, hml, hown, hts, hK, hA, hev, hE, hN, hNS⟩ Heq (fun r h => ⟨fun v9 hv9 => (by subst h; cases hv9), fun t9 ht9 => ⟨⟨Nat.le_refl _, Nat.le_refl _⟩, fun pc H locs ls hd hsz hP hD hS => ?_, fun pc H locs ls st0 rest9 A9 hr9 hF9 hS => ?_⟩⟩) _ _ _ hP hD hS (lv_sub hl [0, 1, 2] rfl)
  · subst h; cases ht9; exact tx_thr hfl hx hb hno hlocks hown hts hev hN hNS hd (hsz.trans hml.symm) hP hS hA (Nat.le_refl _) (Nat.le_refl _) (Nat.le_of_ble_eq_true rfl) (Nat.le_of_ble_eq_true rfl)
  · subst h; cases ht9; exact tx_on hr9 hno hlocks hS hF9
def m_cJT_placeAt_J61 (N : Nat → Nat) (x0 : Nat) (S : CS) : Option ((CS × Option Nat) ⊕ (CS × Nat)) := some (.inr (S, 3))
theorem d_cJT_placeAt_0 : decode prog_1_method_44_code 0 = .ok (.iload_n 2, 1) := by decide +kernel
theorem d_cJT_placeAt_1 : decode prog_1_method_44_code 1 = .ok (.iconst (-1), 1) := by decide +kernel
theorem d_cJT_placeAt_2 : decode prog_1_method_44_code 2 = .ok (.if_icmp .ne 30, 3) := by decide +kernel
theorem d_cJT_placeAt_32 : decode prog_1_method_44_code 32 = .ok (.aload_n 0, 1) := by decide +kernel
theorem d_cJT_placeAt_33 : decode prog_1_method_44_code 33 = .ok (.getfield 30, 3) := by decide +kernel
theorem d_cJT_placeAt_36 : decode prog_1_method_44_code 36 = .ok (.aload_n 0, 1) := by decide +kernel
theorem d_cJT_placeAt_37 : decode prog_1_method_44_code 37 = .ok (.iload_n 1, 1) := by decide +kernel
theorem d_cJT_placeAt_38 : decode prog_1_method_44_code 38 = .ok (.invokevirtual 145, 3) := by decide +kernel
theorem d_cJT_placeAt_41 : decode prog_1_method_44_code 41 = .ok (.iload_n 2, 1) := by decide +kernel
theorem d_cJT_placeAt_42 : decode prog_1_method_44_code 42 = .ok (.invokevirtual 148, 3) := by decide +kernel
theorem d_cJT_placeAt_45 : decode prog_1_method_44_code 45 = .ok (.astore_n 3, 1) := by decide +kernel
theorem d_cJT_placeAt_46 : decode prog_1_method_44_code 46 = .ok (.aload_n 3, 1) := by decide +kernel
theorem d_cJT_placeAt_47 : decode prog_1_method_44_code 47 = .ok (.ifnull 14, 3) := by decide +kernel
theorem d_cJT_placeAt_61 : decode prog_1_method_44_code 61 = .ok (.new 178, 3) := by decide +kernel
theorem d_cJT_placeAt_64 : decode prog_1_method_44_code 64 = .ok (.dup, 1) := by decide +kernel
theorem d_cJT_placeAt_65 : decode prog_1_method_44_code 65 = .ok (.invokespecial 180, 3) := by decide +kernel
theorem d_cJT_placeAt_68 : decode prog_1_method_44_code 68 = .ok (.athrow, 1) := by decide +kernel
set_option maxHeartbeats 4000000 in
set_option maxRecDepth 100000 in
theorem w_cJT_placeAt_J61 {p : Program} {l : Launch} {e : Env} {s : State} {m : MethodId} {args : Array Value} {below : List Frame} {meth : Method} {c : Code} {A : Nat → Prop} {D : va_G} {ad : Nat → Nat → Nat} {cc : Nat → ClassId} {sad sav : Nat → Nat} {Q : State → Prop} {cR sR : Nat} (hfl : l.flags = flags0) (hC : MCc sad sav "JoinedTrees" prog_1_method_44_code 4 (some (.object "JoinedTrees$Spot")) p s m args meth c A D cc) {N : Nat → Nat} {x0 : Nat} {S : CS} {o : ((CS × Option Nat) ⊕ (CS × Nat))} (Heq : m_cJT_placeAt_J61 N x0 S = some o) (Kr : ∀ r : ((CS × Option Nat) ⊕ (CS × Nat)), o = r → (∀ v9 : CS × Option Nat, r = .inl v9 → ∀ (pc : Nat) (H : Heap) (locs : List Loc) (ls : Array Slot), decode prog_1_method_44_code pc = .ok (.areturn, 1) → va_P D cls (cw ad cc N v9.1) H → va_D A (cw ad cc N v9.1) → va_S A s.heap H locs → W p l e ({ frames := 8, cells := cR, slots := sR, locals := 140 }) s m args below meth c H locs 0 0 Q (F0 m pc ls [rv ad 7 v9.2])) ∧ (∀ t9 : CS × Nat, r = .inr t9 → (1 ≤ cR ∧ 6 ≤ sR) ∧ (∀ (pc : Nat) (H : Heap) (locs : List Loc) (ls : Array Slot), thD prog_1_method_44_code t9.2 pc → ls.size = 4 → va_P D cls (cw ad cc N t9.1) H → va_D A (cw ad cc N t9.1) → va_S A s.heap H locs → W p l e ({ frames := 8, cells := cR, slots := sR, locals := 140 }) s m args below meth c H locs 0 0 Q (F0 m pc ls [])) ∧ (∀ (pc : Nat) (H : Heap) (locs : List Loc) (ls : Array Slot) (st0 rest9 : List Value) (A9 : Nat → Prop), tx_Thr p l e ({ frames := 8, cells := cR, slots := sR, locals := 140 }) s m args below meth c H locs 0 0 1 6 (F0 m pc ls st0) rest9 (exN t9.2) A9 (fun H1 => va_P D cls (cw ad cc N t9.1) H1) → (∀ q, A9 q → A q) → va_S A s.heap H locs → W p l e ({ frames := 8, cells := cR, slots := sR, locals := 140 }) s m args below meth c H locs 0 0 Q (F0 m pc ls st0)))) : ∀ (H : Heap) (locs : List Loc) (ls : Array Slot), va_P D cls (cw ad cc N S) H → va_D A (cw ad cc N S) → va_S A s.heap H locs → lv_has ls 4 [(0, .ref (ad 11 x0))] → W p l e ({ frames := 8, cells := cR, slots := sR, locals := 140 }) s m args below meth c H locs 0 0 Q (F0 m 61 ls []) := by
  intro H locs ls hP hD hS hl
  obtain ⟨hx, hb, hr, hml, hown, hts, hK, hA, hev, hE, hN, hNS⟩ := id hC
  unfold m_cJT_placeAt_J61 at Heq
  exact ((Kr _ (Option.some.inj Heq).symm).2 _ rfl).2.1 61 _ _ _ ⟨⟨show 1 ≤ 3 by decide, show 3 ≤ 5 by decide⟩, d_cJT_placeAt_61, d_cJT_placeAt_64, d_cJT_placeAt_65, d_cJT_placeAt_68⟩ hl.1 hP hD hS
def m_cJT_placeAt_J45 (N : Nat → Nat) (x0 : Nat) (S : CS) (t0 : Option Nat) : Option ((CS × Option Nat) ⊕ (CS × Nat)) := on t0 (m_cJT_placeAt_J61 N x0 S) (fun j_1 => gl x0 (N 11) (gl j_1 (N 7) (gn (S.r 11 2 x0) (N 10) (fun j_3 => ob (m_cVw_top N j_3 S j_1) (fun o_6 => on o_6.2 (m_cJT_placeAt_J61 N x0 o_6.1) (fun j_8 => some (.inl (o_6.1, t0))))))))
theorem d_cJT_placeAt_50 : decode prog_1_method_44_code 50 = .ok (.aload_n 0, 1) := by decide +kernel
theorem d_cJT_placeAt_51 : decode prog_1_method_44_code 51 = .ok (.getfield 30, 3) := by decide +kernel
theorem d_cJT_placeAt_54 : decode prog_1_method_44_code 54 = .ok (.aload_n 3, 1) := by decide +kernel
theorem d_cJT_placeAt_55 : decode prog_1_method_44_code 55 = .ok (.invokevirtual 408, 3) := by decide +kernel
theorem d_cJT_placeAt_58 : decode prog_1_method_44_code 58 = .ok (.ifnonnull 11, 3) := by decide +kernel
theorem d_cJT_placeAt_69 : decode prog_1_method_44_code 69 = .ok (.aload_n 3, 1) := by decide +kernel
theorem d_cJT_placeAt_70 : decode prog_1_method_44_code 70 = .ok (.areturn, 1) := by decide +kernel
set_option maxHeartbeats 4000000 in
set_option maxRecDepth 100000 in
theorem w_cJT_placeAt_J45 {p : Program} {l : Launch} {e : Env} {s : State} {m : MethodId} {args : Array Value} {below : List Frame} {meth : Method} {c : Code} {A : Nat → Prop} {D : va_G} {ad : Nat → Nat → Nat} {cc : Nat → ClassId} {sad sav : Nat → Nat} {Q : State → Prop} {cR sR : Nat} (hfl : l.flags = flags0) (hC : MCc sad sav "JoinedTrees" prog_1_method_44_code 4 (some (.object "JoinedTrees$Spot")) p s m args meth c A D cc) {N : Nat → Nat} {x0 : Nat} {S : CS} {t0 : Option Nat} {o : ((CS × Option Nat) ⊕ (CS × Nat))} (Heq : m_cJT_placeAt_J45 N x0 S t0 = some o) (Kr : ∀ r : ((CS × Option Nat) ⊕ (CS × Nat)), o = r → (∀ v9 : CS × Option Nat, r = .inl v9 → ∀ (pc : Nat) (H : Heap) (locs : List Loc) (ls : Array Slot), decode prog_1_method_44_code pc = .ok (.areturn, 1) → va_P D cls (cw ad cc N v9.1) H → va_D A (cw ad cc N v9.1) → va_S A s.heap H locs → W p l e ({ frames := 8, cells := cR, slots := sR, locals := 140 }) s m args below meth c H locs 0 0 Q (F0 m pc ls [rv ad 7 v9.2])) ∧ (∀ t9 : CS × Nat, r = .inr t9 → (1 ≤ cR ∧ 6 ≤ sR) ∧ (∀ (pc : Nat) (H : Heap) (locs : List Loc) (ls : Array Slot), thD prog_1_method_44_code t9.2 pc → ls.size = 4 → va_P D cls (cw ad cc N t9.1) H → va_D A (cw ad cc N t9.1) → va_S A s.heap H locs → W p l e ({ frames := 8, cells := cR, slots := sR, locals := 140 }) s m args below meth c H locs 0 0 Q (F0 m pc ls [])) ∧ (∀ (pc : Nat) (H : Heap) (locs : List Loc) (ls : Array Slot) (st0 rest9 : List Value) (A9 : Nat → Prop), tx_Thr p l e ({ frames := 8, cells := cR, slots := sR, locals := 140 }) s m args below meth c H locs 0 0 1 6 (F0 m pc ls st0) rest9 (exN t9.2) A9 (fun H1 => va_P D cls (cw ad cc N t9.1) H1) → (∀ q, A9 q → A q) → va_S A s.heap H locs → W p l e ({ frames := 8, cells := cR, slots := sR, locals := 140 }) s m args below meth c H locs 0 0 Q (F0 m pc ls st0)))) : ∀ (H : Heap) (locs : List Loc) (ls : Array Slot), va_P D cls (cw ad cc N S) H → va_D A (cw ad cc N S) → va_S A s.heap H locs → lv_has ls 4 [(0, .ref (ad 11 x0))] → W p l e ({ frames := 8, cells := cR, slots := sR, locals := 140 }) s m args below meth c H locs 0 0 Q (F0 m 45 ls [rv ad 7 t0]) := by
  intro H locs ls hP hD hS hl
  obtain ⟨hx, hb, hr, hml, hown, hts, hK, hA, hev, hE, hN, hNS⟩ := id hC
  unfold m_cJT_placeAt_J45 at Heq
  refine tx_astore_n (x := t0.map (ad 7)) (lv' := [(3, rv ad 7 t0), (0, .ref (ad 11 x0))]) hx hb d_cJT_placeAt_45 rfl hl (by decide) rfl (fun ls hl => ?_)
  refine tx_aload_n (x := t0.map (ad 7)) hx hb d_cJT_placeAt_46 rfl (lv_at hl 0 rfl) ?_
  refine w_v (y := rv ad 7 t0) rfl ?_
  rcases on_some Heq with ⟨hj_2, Heq⟩ | ⟨j_1, hj_2, Heq⟩
  · refine w_s (st' := [.null]) (congrArg (fun z9 : Option Nat => [rv ad 7 z9]) hj_2) ?_
    refine lv_ifnullN (tgt := 61) hx hb d_cJT_placeAt_47 (by decide) ?_
    exact w_cJT_placeAt_J61 hfl hC Heq Kr _ _ _ hP hD hS (lv_sub hl [1] rfl)
  · refine w_s (st' := [.ref (ad 7 j_1)]) (congrArg (fun z9 : Option Nat => [rv ad 7 z9]) hj_2) ?_
    refine lv_ifnull hx hb d_cJT_placeAt_47 ?_
    refine lv_aload_n hx hb d_cJT_placeAt_50 rfl (lv_at hl 1 rfl) ?_
    obtain ⟨hl_x0_11, Heq⟩ := gl_some Heq
    refine va_get (D := D) (ci := 11) (v := rv ad 10 (S.r 11 2 x0)) (C := R_JT) (T := F_JT) (N := 13) hx hb hts i_JT hown hK hP (cPos N 11 x0) (cw_obj (k := 11) (by decide) hl_x0_11) rfl 2 (by decide) (hts _ kw_423) (fun _ h9 => h9) rfl d_cJT_placeAt_51 ?_
    refine tx_aload_n (x := t0.map (ad 7)) hx hb d_cJT_placeAt_54 rfl (lv_at hl 0 rfl) ?_
    refine w_v (y := rv ad 7 t0) rfl ?_
    refine w_s (st' := [.ref (ad 7 j_1), rv ad 10 (S.r 11 2 x0)]) (congrArg (fun z9 : Option Nat => [rv ad 7 z9, rv ad 10 (S.r 11 2 x0)]) hj_2) ?_
    obtain ⟨hl_j_1_7, Heq⟩ := gl_some Heq
    obtain ⟨j_3, hj_4, hl_5, Heq⟩ := gn_some Heq
    refine w_s (st' := [.ref (ad 7 j_1), .ref (ad 10 j_3)]) (congrArg (fun z9 : Option Nat => [.ref (ad 7 j_1), rv ad 10 z9]) hj_4) ?_
    obtain ⟨o_6, h_7, Heq⟩ := ob_some Heq
    have hFc := fr_all hD hS hA
    refine va_callq (va_runV (As := [.ref (ad 7 j_1)]) (rest := []) ⟨hx, hb, hml, hown, hts⟩ (g_cVw_top l D H.size (ad := ad) (cc := cc) (sad := sad) (sav := sav) h_7) (cw_v 1 hts kw_784 kw_828 kw_782 kw_783 kw_6 rfl rfl (by decide +kernel) ⟨Nat.le_of_ble_eq_true rfl, Nat.le_of_ble_eq_true rfl⟩) ⟨c_blind, va_recv hK hP (ci := 10) (q0 := cPos N 10 j_3) rfl (cw_obj (k := 10) (by decide) hl_5), fun U hU hW => c_pre hU hW hP hK hD hev hE hN hNS hS hFc⟩ rfl rfl hl.1 rfl (lv_room (Nat.le_of_ble_eq_true rfl)) d_cJT_placeAt_55 ⟨Nat.zero_le _, Nat.zero_le _⟩) hS (fun q _ h => hFc q h) hFc (fun rz u t H1 locs ht hvm hw hB hz1 hk1 hS => ?_)
    obtain ⟨hP, -, hD1⟩ := hB
    rw [ht] at hP
    have hD := hD1.weaken (fun _ q _ h => hFc q.1 h)
    generalize H1 = H at hP hS ⊢
    refine W.cs (cells' := 0) (slots' := 0) rfl rfl ?_
    subst hw
    refine w_v (y := rv ad 3 o_6.2) rfl ?_
    rcases on_some Heq with ⟨hj_9, Heq⟩ | ⟨j_8, hj_9, Heq⟩
    · refine w_s (st' := [.null]) (congrArg (fun z9 : Option Nat => [rv ad 3 z9]) hj_9) ?_
      refine lv_ifnonnullN hx hb d_cJT_placeAt_58 ?_
      exact w_cJT_placeAt_J61 hfl hC Heq Kr _ _ _ hP hD hS (lv_sub hl [1] rfl)
    · refine w_s (st' := [.ref (ad 3 j_8)]) (congrArg (fun z9 : Option Nat => [rv ad 3 z9]) hj_9) ?_
      refine lv_ifnonnull (tgt := 69) hx hb d_cJT_placeAt_58 (by decide) ?_
      refine tx_aload_n (x := t0.map (ad 7)) hx hb d_cJT_placeAt_69 rfl (lv_at hl 0 rfl) ?_
      refine w_v (y := rv ad 7 t0) rfl ?_
      exact (Kr _ (Option.some.inj Heq).symm).1 _ rfl 70 _ _ _ d_cJT_placeAt_70 hP hD hS
def m_cJT_placeAt_J0 (N : Nat → Nat) (x0 : Nat) (S : CS) (x1 : Int32) (x2 : Int32) : Option ((CS × Option Nat) ⊕ (CS × Nat)) := (if x2 = (-1) then gl x0 (N 11) (oe (m_cJT_mapAt N x0 S x1) (fun o_13 => gn (o_13.1.r 11 9 x0) (N 5) (fun j_16 => gn o_13.2 (N 3) (fun j_19 => gn (S.r 11 0 x0) (N 8) (fun j_22 => ob (m_cSt_spotWith N j_22 o_13.1 j_19 j_16 0 (o_13.1.i 5 1 j_16)) (fun o_25 => m_cJT_placeAt_J45 N x0 o_25.1 o_25.2))))) (fun t_15 => some (.inr t_15))) else gl x0 (N 11) (oe (m_cJT_listAt N x0 S x1) (fun o_2 => gn o_2.2 (N 3) (fun j_5 => gn (S.r 11 2 x0) (N 10) (fun j_8 => ob (m_cVw_spotAt N j_8 o_2.1 j_5 x2) (fun o_11 => m_cJT_placeAt_J45 N x0 o_11.1 o_11.2)))) (fun t_4 => some (.inr t_4))))
theorem d_cJT_placeAt_5 : decode prog_1_method_44_code 5 = .ok (.aload_n 0, 1) := by decide +kernel
theorem d_cJT_placeAt_6 : decode prog_1_method_44_code 6 = .ok (.getfield 12, 3) := by decide +kernel
theorem d_cJT_placeAt_9 : decode prog_1_method_44_code 9 = .ok (.aload_n 0, 1) := by decide +kernel
theorem d_cJT_placeAt_10 : decode prog_1_method_44_code 10 = .ok (.iload_n 1, 1) := by decide +kernel
theorem d_cJT_placeAt_11 : decode prog_1_method_44_code 11 = .ok (.invokevirtual 116, 3) := by decide +kernel
theorem d_cJT_placeAt_14 : decode prog_1_method_44_code 14 = .ok (.aload_n 0, 1) := by decide +kernel
theorem d_cJT_placeAt_15 : decode prog_1_method_44_code 15 = .ok (.getfield 70, 3) := by decide +kernel
theorem d_cJT_placeAt_18 : decode prog_1_method_44_code 18 = .ok (.iconst 0, 1) := by decide +kernel
theorem d_cJT_placeAt_19 : decode prog_1_method_44_code 19 = .ok (.aload_n 0, 1) := by decide +kernel
theorem d_cJT_placeAt_20 : decode prog_1_method_44_code 20 = .ok (.getfield 70, 3) := by decide +kernel
theorem d_cJT_placeAt_23 : decode prog_1_method_44_code 23 = .ok (.getfield 80, 3) := by decide +kernel
theorem d_cJT_placeAt_26 : decode prog_1_method_44_code 26 = .ok (.invokevirtual 404, 3) := by decide +kernel
theorem d_cJT_placeAt_29 : decode prog_1_method_44_code 29 = .ok (.goto 16, 3) := by decide +kernel
set_option maxHeartbeats 4000000 in
set_option maxRecDepth 100000 in
theorem w_cJT_placeAt_J0 {p : Program} {l : Launch} {e : Env} {s : State} {m : MethodId} {args : Array Value} {below : List Frame} {meth : Method} {c : Code} {A : Nat → Prop} {D : va_G} {ad : Nat → Nat → Nat} {cc : Nat → ClassId} {sad sav : Nat → Nat} {Q : State → Prop} {cR sR : Nat} (hfl : l.flags = flags0) (hC : MCc sad sav "JoinedTrees" prog_1_method_44_code 4 (some (.object "JoinedTrees$Spot")) p s m args meth c A D cc) {N : Nat → Nat} {x0 : Nat} {S : CS} {x1 : Int32} {x2 : Int32} {o : ((CS × Option Nat) ⊕ (CS × Nat))} (Heq : m_cJT_placeAt_J0 N x0 S x1 x2 = some o) (Kr : ∀ r : ((CS × Option Nat) ⊕ (CS × Nat)), o = r → (∀ v9 : CS × Option Nat, r = .inl v9 → ∀ (pc : Nat) (H : Heap) (locs : List Loc) (ls : Array Slot), decode prog_1_method_44_code pc = .ok (.areturn, 1) → va_P D cls (cw ad cc N v9.1) H → va_D A (cw ad cc N v9.1) → va_S A s.heap H locs → W p l e ({ frames := 8, cells := cR, slots := sR, locals := 140 }) s m args below meth c H locs 0 0 Q (F0 m pc ls [rv ad 7 v9.2])) ∧ (∀ t9 : CS × Nat, r = .inr t9 → (1 ≤ cR ∧ 6 ≤ sR) ∧ (∀ (pc : Nat) (H : Heap) (locs : List Loc) (ls : Array Slot), thD prog_1_method_44_code t9.2 pc → ls.size = 4 → va_P D cls (cw ad cc N t9.1) H → va_D A (cw ad cc N t9.1) → va_S A s.heap H locs → W p l e ({ frames := 8, cells := cR, slots := sR, locals := 140 }) s m args below meth c H locs 0 0 Q (F0 m pc ls [])) ∧ (∀ (pc : Nat) (H : Heap) (locs : List Loc) (ls : Array Slot) (st0 rest9 : List Value) (A9 : Nat → Prop), tx_Thr p l e ({ frames := 8, cells := cR, slots := sR, locals := 140 }) s m args below meth c H locs 0 0 1 6 (F0 m pc ls st0) rest9 (exN t9.2) A9 (fun H1 => va_P D cls (cw ad cc N t9.1) H1) → (∀ q, A9 q → A q) → va_S A s.heap H locs → W p l e ({ frames := 8, cells := cR, slots := sR, locals := 140 }) s m args below meth c H locs 0 0 Q (F0 m pc ls st0)))) : ∀ (H : Heap) (locs : List Loc) (ls : Array Slot), va_P D cls (cw ad cc N S) H → va_D A (cw ad cc N S) → va_S A s.heap H locs → lv_has ls 4 [(0, .ref (ad 11 x0)), (1, .int x1), (2, .int x2)] → W p l e ({ frames := 8, cells := cR, slots := sR, locals := 140 }) s m args below meth c H locs 0 0 Q (F0 m 0 ls []) := by
  intro H locs ls hP hD hS hl
  obtain ⟨hx, hb, hr, hml, hown, hts, hK, hA, hev, hE, hN, hNS⟩ := id hC
  unfold m_cJT_placeAt_J0 at Heq
  refine lv_iload_n hx hb d_cJT_placeAt_0 rfl (lv_at hl 2 rfl) ?_
  refine lv_iconst (v := (-1)) hx hb d_cJT_placeAt_1 (by decide) ?_
  refine lv_icmp_ne (tgt := 32) hx hb d_cJT_placeAt_2 (by decide) (fun c_1 => ?_) (fun c_1 => ?_)
  · replace Heq := (if_neg c_1).symm.trans Heq
    refine lv_aload_n hx hb d_cJT_placeAt_32 rfl (lv_at hl 0 rfl) ?_
    obtain ⟨hl_x0_11, Heq⟩ := gl_some Heq
    refine va_get (D := D) (ci := 11) (v := rv ad 10 (S.r 11 2 x0)) (C := R_JT) (T := F_JT) (N := 13) hx hb hts i_JT hown hK hP (cPos N 11 x0) (cw_obj (k := 11) (by decide) hl_x0_11) rfl 2 (by decide) (hts _ kw_423) (fun _ h9 => h9) rfl d_cJT_placeAt_33 ?_
    refine lv_aload_n hx hb d_cJT_placeAt_36 rfl (lv_at hl 0 rfl) ?_
    refine lv_iload_n hx hb d_cJT_placeAt_37 rfl (lv_at hl 1 rfl) ?_
    have hFc := fr_all hD hS hA
    rcases oe_some Heq with ⟨o_2, h_3, Heq⟩ | ⟨t_4, h_3, Heq⟩
    case inr => exact ((Kr _ (Option.some.inj Heq).symm).2 _ rfl).2.2 38 _ _ _ _ _ _ (tx_runV (As := [.int x1]) (rest := [rv ad 10 (S.r 11 2 x0)]) ⟨hx, hb, hml, hown, hts⟩ (g_cJT_listAt_t l hfl D H.size (ad := ad) (cc := cc) (sad := sad) (sav := sav) h_3) (cw_v 1 hts kw_776 kw_773 kw_775 kp_13 kw_1 rfl rfl (by decide +kernel) ⟨Nat.le_of_ble_eq_true rfl, Nat.le_of_ble_eq_true rfl⟩) ⟨c_blind, va_recv hK hP (ci := 11) (q0 := cPos N 11 x0) rfl (cw_obj (k := 11) (by decide) hl_x0_11), fun U hU hW => c_pre hU hW hP hK hD hev hE hN hNS hS hFc⟩ rfl rfl hl.1 rfl (lv_room (by simp only [List.map_cons, List.map_nil, List.sum_cons, List.sum_nil, rv_cat]; exact Nat.le_of_ble_eq_true rfl)) d_cJT_placeAt_38 ((Kr _ (Option.some.inj Heq).symm).2 _ rfl).1) hFc hS
    refine va_callq (va_runV (As := [.int x1]) (rest := [rv ad 10 (S.r 11 2 x0)]) ⟨hx, hb, hml, hown, hts⟩ (g_cJT_listAt l hfl D H.size (ad := ad) (cc := cc) (sad := sad) (sav := sav) h_3) (cw_v 1 hts kw_776 kw_773 kw_775 kp_13 kw_1 rfl rfl (by decide +kernel) ⟨Nat.le_of_ble_eq_true rfl, Nat.le_of_ble_eq_true rfl⟩) ⟨c_blind, va_recv hK hP (ci := 11) (q0 := cPos N 11 x0) rfl (cw_obj (k := 11) (by decide) hl_x0_11), fun U hU hW => c_pre hU hW hP hK hD hev hE hN hNS hS hFc⟩ rfl rfl hl.1 rfl (lv_room (by simp only [List.map_cons, List.map_nil, List.sum_cons, List.sum_nil, rv_cat]; exact Nat.le_of_ble_eq_true rfl)) d_cJT_placeAt_38 ⟨Nat.zero_le _, Nat.zero_le _⟩) hS (fun q _ h => hFc q h) hFc (fun rz u t H1 locs ht hvm hw hB hz1 hk1 hS => ?_)
    obtain ⟨hP, -, hD1⟩ := hB
    rw [ht] at hP
    have hD := hD1.weaken (fun _ q _ h => hFc q.1 h)
    generalize H1 = H at hP hS ⊢
    refine W.cs (cells' := 0) (slots' := 0) rfl rfl ?_
    subst hw
    refine w_v (y := rv ad 3 o_2.2) rfl ?_
    refine lv_iload_n hx hb d_cJT_placeAt_41 rfl (lv_at hl 2 rfl) ?_
    obtain ⟨j_5, hj_6, hl_7, Heq⟩ := gn_some Heq
    refine w_s (st' := [.int x2, .ref (ad 3 j_5), rv ad 10 (S.r 11 2 x0)]) (congrArg (fun z9 : Option Nat => [.int x2, rv ad 3 z9, rv ad 10 (S.r 11 2 x0)]) hj_6) ?_
    obtain ⟨j_8, hj_9, hl_10, Heq⟩ := gn_some Heq
    refine w_s (st' := [.int x2, .ref (ad 3 j_5), .ref (ad 10 j_8)]) (congrArg (fun z9 : Option Nat => [.int x2, .ref (ad 3 j_5), rv ad 10 z9]) hj_9) ?_
    obtain ⟨o_11, h_12, Heq⟩ := ob_some Heq
    have hFc := fr_all hD hS hA
    refine va_callq (va_runV (As := [.ref (ad 3 j_5), .int x2]) (rest := []) ⟨hx, hb, hml, hown, hts⟩ (g_cVw_spotAt l D H.size (ad := ad) (cc := cc) (sad := sad) (sav := sav) h_12) (cw_v 2 hts kw_780 kw_777 kw_778 kw_779 kw_6 rfl rfl (by decide +kernel) ⟨Nat.le_of_ble_eq_true rfl, Nat.le_of_ble_eq_true rfl⟩) ⟨c_blind, va_recv hK hP (ci := 10) (q0 := cPos N 10 j_8) rfl (cw_obj (k := 10) (by decide) hl_10), fun U hU hW => c_pre hU hW hP hK hD hev hE hN hNS hS hFc⟩ rfl rfl hl.1 rfl (lv_room (Nat.le_of_ble_eq_true rfl)) d_cJT_placeAt_42 ⟨Nat.zero_le _, Nat.zero_le _⟩) hS (fun q _ h => hFc q h) hFc (fun rz u t H1 locs ht hvm hw hB hz1 hk1 hS => ?_)
    obtain ⟨hP, -, hD1⟩ := hB
    rw [ht] at hP
    have hD := hD1.weaken (fun _ q _ h => hFc q.1 h)
    generalize H1 = H at hP hS ⊢
    refine W.cs (cells' := 0) (slots' := 0) rfl rfl ?_
    subst hw
    refine w_v (y := rv ad 7 o_11.2) rfl ?_
    exact w_cJT_placeAt_J45 hfl hC Heq Kr _ _ _ hP hD hS (lv_sub hl [0] rfl)
  · replace Heq := (if_pos c_1).symm.trans Heq
    refine lv_aload_n hx hb d_cJT_placeAt_5 rfl (lv_at hl 0 rfl) ?_
    obtain ⟨hl_x0_11, Heq⟩ := gl_some Heq
    refine va_get (D := D) (ci := 11) (v := rv ad 8 (S.r 11 0 x0)) (C := R_JT) (T := F_JT) (N := 13) hx hb hts i_JT hown hK hP (cPos N 11 x0) (cw_obj (k := 11) (by decide) hl_x0_11) rfl 0 (by decide) (hts _ kw_421) (fun _ h9 => h9) rfl d_cJT_placeAt_6 ?_
    refine lv_aload_n hx hb d_cJT_placeAt_9 rfl (lv_at hl 0 rfl) ?_
    refine lv_iload_n hx hb d_cJT_placeAt_10 rfl (lv_at hl 1 rfl) ?_
    have hFc := fr_all hD hS hA
    rcases oe_some Heq with ⟨o_13, h_14, Heq⟩ | ⟨t_15, h_14, Heq⟩
    case inr => exact ((Kr _ (Option.some.inj Heq).symm).2 _ rfl).2.2 11 _ _ _ _ _ _ (tx_runV (As := [.int x1]) (rest := [rv ad 8 (S.r 11 0 x0)]) ⟨hx, hb, hml, hown, hts⟩ (g_cJT_mapAt_t l hfl D H.size (ad := ad) (cc := cc) (sad := sad) (sav := sav) h_14) (cw_v 1 hts kw_612 kw_609 kw_611 kp_6 kw_1 rfl rfl (by decide +kernel) ⟨Nat.le_of_ble_eq_true rfl, Nat.le_of_ble_eq_true rfl⟩) ⟨c_blind, va_recv hK hP (ci := 11) (q0 := cPos N 11 x0) rfl (cw_obj (k := 11) (by decide) hl_x0_11), fun U hU hW => c_pre hU hW hP hK hD hev hE hN hNS hS hFc⟩ rfl rfl hl.1 rfl (lv_room (by simp only [List.map_cons, List.map_nil, List.sum_cons, List.sum_nil, rv_cat]; exact Nat.le_of_ble_eq_true rfl)) d_cJT_placeAt_11 ((Kr _ (Option.some.inj Heq).symm).2 _ rfl).1) hFc hS
    refine va_callq (va_runV (As := [.int x1]) (rest := [rv ad 8 (S.r 11 0 x0)]) ⟨hx, hb, hml, hown, hts⟩ (g_cJT_mapAt l hfl D H.size (ad := ad) (cc := cc) (sad := sad) (sav := sav) h_14) (cw_v 1 hts kw_612 kw_609 kw_611 kp_6 kw_1 rfl rfl (by decide +kernel) ⟨Nat.le_of_ble_eq_true rfl, Nat.le_of_ble_eq_true rfl⟩) ⟨c_blind, va_recv hK hP (ci := 11) (q0 := cPos N 11 x0) rfl (cw_obj (k := 11) (by decide) hl_x0_11), fun U hU hW => c_pre hU hW hP hK hD hev hE hN hNS hS hFc⟩ rfl rfl hl.1 rfl (lv_room (by simp only [List.map_cons, List.map_nil, List.sum_cons, List.sum_nil, rv_cat]; exact Nat.le_of_ble_eq_true rfl)) d_cJT_placeAt_11 ⟨Nat.zero_le _, Nat.zero_le _⟩) hS (fun q _ h => hFc q h) hFc (fun rz u t H1 locs ht hvm hw hB hz1 hk1 hS => ?_)
    obtain ⟨hP, -, hD1⟩ := hB
    rw [ht] at hP
    have hD := hD1.weaken (fun _ q _ h => hFc q.1 h)
    generalize H1 = H at hP hS ⊢
    refine W.cs (cells' := 0) (slots' := 0) rfl rfl ?_
    subst hw
    refine w_v (y := rv ad 3 o_13.2) rfl ?_
    refine lv_aload_n hx hb d_cJT_placeAt_14 rfl (lv_at hl 0 rfl) ?_
    refine va_get (D := D) (ci := 11) (v := rv ad 5 (o_13.1.r 11 9 x0)) (C := R_JT) (T := F_JT) (N := 13) hx hb hts i_JT hown hK hP (cPos N 11 x0) (cw_obj (k := 11) (by decide) hl_x0_11) rfl 9 (by decide) (hts _ kw_430) (fun _ h9 => h9) rfl d_cJT_placeAt_15 ?_
    refine lv_iconst (v := 0) hx hb d_cJT_placeAt_18 (by decide) ?_
    refine lv_aload_n hx hb d_cJT_placeAt_19 rfl (lv_at hl 0 rfl) ?_
    refine va_get (D := D) (ci := 11) (v := rv ad 5 (o_13.1.r 11 9 x0)) (C := R_JT) (T := F_JT) (N := 13) hx hb hts i_JT hown hK hP (cPos N 11 x0) (cw_obj (k := 11) (by decide) hl_x0_11) rfl 9 (by decide) (hts _ kw_430) (fun _ h9 => h9) rfl d_cJT_placeAt_20 ?_
    obtain ⟨j_16, hj_17, hl_18, Heq⟩ := gn_some Heq
    refine w_s (st' := [.ref (ad 5 j_16), .int 0, rv ad 5 (o_13.1.r 11 9 x0), rv ad 3 o_13.2, rv ad 8 (S.r 11 0 x0)]) (congrArg (fun z9 : Option Nat => [rv ad 5 z9, .int 0, rv ad 5 (o_13.1.r 11 9 x0), rv ad 3 o_13.2, rv ad 8 (S.r 11 0 x0)]) hj_17) ?_
    refine va_get (D := D) (ci := 5) (v := .int (o_13.1.i 5 1 j_16)) (C := R_Rw) (T := F_Rw) (N := 3) hx hb hts i_Rw hown hK hP (cPos N 5 j_16) (cw_obj (k := 5) (by decide) hl_18) rfl 1 (by decide) (hts _ kw_143) (fun _ h9 => h9) rfl d_cJT_placeAt_23 ?_
    refine w_s (st' := [.int (o_13.1.i 5 1 j_16), .int 0, .ref (ad 5 j_16), rv ad 3 o_13.2, rv ad 8 (S.r 11 0 x0)]) (congrArg (fun z9 : Option Nat => [.int (o_13.1.i 5 1 j_16), .int 0, rv ad 5 z9, rv ad 3 o_13.2, rv ad 8 (S.r 11 0 x0)]) hj_17) ?_
    obtain ⟨j_19, hj_20, hl_21, Heq⟩ := gn_some Heq
    refine w_s (st' := [.int (o_13.1.i 5 1 j_16), .int 0, .ref (ad 5 j_16), .ref (ad 3 j_19), rv ad 8 (S.r 11 0 x0)]) (congrArg (fun z9 : Option Nat => [.int (o_13.1.i 5 1 j_16), .int 0, .ref (ad 5 j_16), rv ad 3 z9, rv ad 8 (S.r 11 0 x0)]) hj_20) ?_
    obtain ⟨j_22, hj_23, hl_24, Heq⟩ := gn_some Heq
    refine w_s (st' := [.int (o_13.1.i 5 1 j_16), .int 0, .ref (ad 5 j_16), .ref (ad 3 j_19), .ref (ad 8 j_22)]) (congrArg (fun z9 : Option Nat => [.int (o_13.1.i 5 1 j_16), .int 0, .ref (ad 5 j_16), .ref (ad 3 j_19), rv ad 8 z9]) hj_23) ?_
    obtain ⟨o_25, h_26, Heq⟩ := ob_some Heq
    have hFc := fr_all hD hS hA
    refine va_callq (va_runV (As := [.ref (ad 3 j_19), .ref (ad 5 j_16), .int 0, .int (o_13.1.i 5 1 j_16)]) (rest := []) ⟨hx, hb, hml, hown, hts⟩ (g_cSt_spotWith l D H.size (ad := ad) (cc := cc) (sad := sad) (sav := sav) h_26) (cw_v 4 hts kw_677 kw_674 kw_675 kw_676 kw_2 rfl rfl (by decide +kernel) ⟨Nat.le_of_ble_eq_true rfl, Nat.le_of_ble_eq_true rfl⟩) ⟨c_blind, va_recv hK hP (ci := 8) (q0 := cPos N 8 j_22) rfl (cw_obj (k := 8) (by decide) hl_24), fun U hU hW => c_pre hU hW hP hK hD hev hE hN hNS hS hFc⟩ rfl rfl hl.1 rfl (lv_room (Nat.le_of_ble_eq_true rfl)) d_cJT_placeAt_26 ⟨Nat.zero_le _, Nat.zero_le _⟩) hS (fun q _ h => hFc q h) hFc (fun rz u t H1 locs ht hvm hw hB hz1 hk1 hS => ?_)
    obtain ⟨hP, -, hD1⟩ := hB
    rw [ht] at hP
    have hD := hD1.weaken (fun _ q _ h => hFc q.1 h)
    generalize H1 = H at hP hS ⊢
    refine W.cs (cells' := 0) (slots' := 0) rfl rfl ?_
    subst hw
    refine w_v (y := rv ad 7 o_25.2) rfl ?_
    refine lv_goto (tgt := 45) hx hb d_cJT_placeAt_29 (by decide) ?_
    exact w_cJT_placeAt_J45 hfl hC Heq Kr _ _ _ hP hD hS (lv_sub hl [0] rfl)
def m_cJT_placeAt (N : Nat → Nat) (x0 : Nat) (S : CS) (x1 : Int32) (x2 : Int32) : Option ((CS × Option Nat) ⊕ (CS × Nat)) := m_cJT_placeAt_J0 N x0 S x1 x2
set_option maxHeartbeats 4000000 in
theorem g_cJT_placeAt (l : Launch) (hfl : l.flags = flags0) (D : va_G) (sz : Nat) {ad : Nat → Nat → Nat} {cc : Nat → ClassId} {sad sav : Nat → Nat} {N : Nat → Nat} {x0 : Nat} {S : CS} {x1 : Int32} {x2 : Int32} {o : CS × Option Nat} (Heq : m_cJT_placeAt N x0 S x1 x2 = some (.inl o)) : Met l ⟨"JoinedTrees", "placeAt", "(II)LJoinedTrees$Spot;"⟩ (Cond.code ⟨"JoinedTrees", "placeAt", "(II)LJoinedTrees$Spot;"⟩ prog_1_method_44_code 4 (some (.object "JoinedTrees$Spot")) :: gb) ({ frames := 8, cells := 0, slots := 0, locals := 140 }) (cPc sad sav D (cw ad cc N S) (cty cc) sz [.ref (ad 11 x0), .int x1, .int x2]) (va_Qq (fun (r : Option Nat) (_ : Unit) => r = o.2.map (ad 7)) (fun _ t => gO D (cw ad cc N o.1) (cty cc) (va_A (cw ad cc N S) sz) t) (va_A (cw ad cc N S) sz)) 0 0 (va_A (cw ad cc N S) sz) := by
  refine Met.ofW (cc := prog_1_method_44_code) (maxL := 4) (ret := (some (.object "JoinedTrees$Spot"))) (by decide) rfl ?_
  intro p e s m args below meth c s₁ B hml hv
  obtain ⟨rfl, hsz, hP, hK, hD0, hev, hE, hN⟩ := hv
  have hx := B.exec
  have hb := B.bytes
  have hr := B.returns
  have hts : ∀ w9 ∈ gb, w9.before [.ref (ad 11 x0), .int x1, .int x2].toArray s = true := fun w9 h => atoms_spec (ws := Cond.code ⟨"JoinedTrees", "placeAt", "(II)LJoinedTrees$Spot;"⟩ prog_1_method_44_code 4 (some (.object "JoinedTrees$Spot")) :: gb) B.pre w9 (List.mem_cons_of_mem _ h)
  have hown : s.vm.findClass "JoinedTrees" = some m.cls := findClass_of_methodNamed B.named
  have hlocks := B.notSynchronized
  have hNS := ns_of hP
  subst hsz
  have hD := hD0.self (sz := s.heap.size)
  generalize hAe : va_A (cw ad cc N S) s.heap.size = A at hD hev hE hNS ⊢
  have hA : ∀ q : Nat, s.heap.size ≤ q → A q := fun q h => by rw [← hAe]; exact Or.inr h
  have hS : va_S A s.heap s.heap [] := va_S.rf
  obtain ⟨ls, hl, hle⟩ : ∃ ls : Array Slot, lv_has ls 4 [(0, .ref (ad 11 x0)), (1, .int x1), (2, .int x2)] ∧ entryFrame m ([.ref (ad 11 x0), .int x1, .int x2] : List Value).toArray 4 = F0 m 0 ls [] := by
    exact ⟨_, lv_entry (n := 4) _ (Nat.le_of_ble_eq_true rfl), lg_entry_eq ..⟩
  rw [hle]
  refine w_cJT_placeAt_J0 (cR := 0) (sR := 0) hfl ⟨hx, hb, hr, hml, hown, hts, hK, hA, hev, hE, hN, hNS⟩ Heq (fun r h => ⟨fun v9 hv9 pc H locs ls hd hP hD hS => ?_, fun t9 ht9 => (by subst h; cases ht9)⟩) _ _ _ hP hD hS (lv_sub hl [0, 1, 2] rfl)
  subst h
  cases hv9
  exact W.aret hx hb hr (Or.inl ⟨_, rfl⟩) (va_rf_or _) (fun t ht hW => ⟨⟨_, (), rfl, rfl, by rw [ht]; exact hP, va_K.moved hW.alike hK, hD⟩, hS.F ht⟩) hS.2.2 hd
set_option maxHeartbeats 4000000 in
theorem g_cJT_placeAt_t (l : Launch) (hfl : l.flags = flags0) (D : va_G) (sz : Nat) {ad : Nat → Nat → Nat} {cc : Nat → ClassId} {sad sav : Nat → Nat} {N : Nat → Nat} {x0 : Nat} {S : CS} {x1 : Int32} {x2 : Int32} {o : CS × Nat} (Heq : m_cJT_placeAt N x0 S x1 x2 = some (.inr o)) : MeT l ⟨"JoinedTrees", "placeAt", "(II)LJoinedTrees$Spot;"⟩ (Cond.code ⟨"JoinedTrees", "placeAt", "(II)LJoinedTrees$Spot;"⟩ prog_1_method_44_code 4 (some (.object "JoinedTrees$Spot")) :: gb) ({ frames := 8, cells := 1, slots := 6, locals := 140 }) (cPc sad sav D (cw ad cc N S) (cty cc) sz [.ref (ad 11 x0), .int x1, .int x2]) (exN o.2) (va_A (cw ad cc N S) sz) (fun H1 => va_P D cls (cw ad cc N o.1) H1) 1 6 := by
  refine MeT.ofW (cc := prog_1_method_44_code) (maxL := 4) (ret := (some (.object "JoinedTrees$Spot"))) (by decide) rfl ?_
  intro p e s m args below meth c s₁ B hml hno hv
  obtain ⟨rfl, hsz, hP, hK, hD0, hev, hE, hN⟩ := hv
  have hx := B.exec
  have hb := B.bytes
  have hr := B.returns
  have hts : ∀ w9 ∈ gb, w9.before [.ref (ad 11 x0), .int x1, .int x2].toArray s = true := fun w9 h => atoms_spec (ws := Cond.code ⟨"JoinedTrees", "placeAt", "(II)LJoinedTrees$Spot;"⟩ prog_1_method_44_code 4 (some (.object "JoinedTrees$Spot")) :: gb) B.pre w9 (List.mem_cons_of_mem _ h)
  have hown : s.vm.findClass "JoinedTrees" = some m.cls := findClass_of_methodNamed B.named
  have hlocks := B.notSynchronized
  have hNS := ns_of hP
  subst hsz
  have hD := hD0.self (sz := s.heap.size)
  generalize hAe : va_A (cw ad cc N S) s.heap.size = A at hD hev hE hNS ⊢
  have hA : ∀ q : Nat, s.heap.size ≤ q → A q := fun q h => by rw [← hAe]; exact Or.inr h
  have hS : va_S A s.heap s.heap [] := va_S.rf
  obtain ⟨ls, hl, hle⟩ : ∃ ls : Array Slot, lv_has ls 4 [(0, .ref (ad 11 x0)), (1, .int x1), (2, .int x2)] ∧ entryFrame m ([.ref (ad 11 x0), .int x1, .int x2] : List Value).toArray 4 = F0 m 0 ls [] := by
    exact ⟨_, lv_entry (n := 4) _ (Nat.le_of_ble_eq_true rfl), lg_entry_eq ..⟩
  rw [hle]
  refine w_cJT_placeAt_J0 (cR := 1) (sR := 6) hfl ⟨hx, hb, hr, hml, hown, hts, hK, hA, hev, hE, hN, hNS⟩ Heq (fun r h => ⟨fun v9 hv9 => (by subst h; cases hv9), fun t9 ht9 => ⟨⟨Nat.le_refl _, Nat.le_refl _⟩, fun pc H locs ls hd hsz hP hD hS => ?_, fun pc H locs ls st0 rest9 A9 hr9 hF9 hS => ?_⟩⟩) _ _ _ hP hD hS (lv_sub hl [0, 1, 2] rfl)
  · subst h; cases ht9; exact tx_thr hfl hx hb hno hlocks hown hts hev hN hNS hd (hsz.trans hml.symm) hP hS hA (Nat.le_refl _) (Nat.le_refl _) (Nat.le_of_ble_eq_true rfl) (Nat.le_of_ble_eq_true rfl)
  · subst h; cases ht9; exact tx_on hr9 hno hlocks hS hF9
def m_cJT_drop_B14 (N : Nat → Nat) (x0 : Nat) (S : CS) (x2 : Option Nat) (x3 : Int32) (x4 : Int32) : Option ((CS × Option Nat × Int32 × Int32) ⊕ (CS × Option Nat × Int32)) := (if x3 ≤ x4 then some (.inr (S, x2, x3)) else gl x0 (N 11) (gn x2 (N 4) (fun j_2 => gn (S.r 11 0 x0) (N 8) (fun j_5 => ob (m_cSt_forget N j_5 S ((8 * ((S.i 4 8 j_2) - x4)) + (S.i 4 0 j_2))) (fun o_8 => some (.inl (o_8, x2, x3, (x4 + 1))))))))
theorem d_cJT_drop_0 : decode prog_1_method_12_code 0 = .ok (.aload_n 0, 1) := by decide +kernel
theorem d_cJT_drop_1 : decode prog_1_method_12_code 1 = .ok (.iload_n 1, 1) := by decide +kernel
theorem d_cJT_drop_2 : decode prog_1_method_12_code 2 = .ok (.invokevirtual 105, 3) := by decide +kernel
theorem d_cJT_drop_5 : decode prog_1_method_12_code 5 = .ok (.astore_n 2, 1) := by decide +kernel
theorem d_cJT_drop_6 : decode prog_1_method_12_code 6 = .ok (.aload_n 2, 1) := by decide +kernel
theorem d_cJT_drop_7 : decode prog_1_method_12_code 7 = .ok (.getfield 220, 3) := by decide +kernel
theorem d_cJT_drop_10 : decode prog_1_method_12_code 10 = .ok (.istore_n 3, 1) := by decide +kernel
theorem d_cJT_drop_11 : decode prog_1_method_12_code 11 = .ok (.iconst 0, 1) := by decide +kernel
theorem d_cJT_drop_12 : decode prog_1_method_12_code 12 = .ok (.istore 4, 2) := by decide +kernel
theorem d_cJT_drop_14 : decode prog_1_method_12_code 14 = .ok (.iload 4, 2) := by decide +kernel
theorem d_cJT_drop_16 : decode prog_1_method_12_code 16 = .ok (.iload_n 3, 1) := by decide +kernel
theorem d_cJT_drop_17 : decode prog_1_method_12_code 17 = .ok (.if_icmp .ge 31, 3) := by decide +kernel
theorem d_cJT_drop_20 : decode prog_1_method_12_code 20 = .ok (.aload_n 0, 1) := by decide +kernel
theorem d_cJT_drop_21 : decode prog_1_method_12_code 21 = .ok (.getfield 12, 3) := by decide +kernel
theorem d_cJT_drop_24 : decode prog_1_method_12_code 24 = .ok (.bipush 8, 2) := by decide +kernel
theorem d_cJT_drop_26 : decode prog_1_method_12_code 26 = .ok (.aload_n 2, 1) := by decide +kernel
theorem d_cJT_drop_27 : decode prog_1_method_12_code 27 = .ok (.getfield 233, 3) := by decide +kernel
theorem d_cJT_drop_30 : decode prog_1_method_12_code 30 = .ok (.iload 4, 2) := by decide +kernel
theorem d_cJT_drop_32 : decode prog_1_method_12_code 32 = .ok (.isub, 1) := by decide +kernel
theorem d_cJT_drop_33 : decode prog_1_method_12_code 33 = .ok (.imul, 1) := by decide +kernel
theorem d_cJT_drop_34 : decode prog_1_method_12_code 34 = .ok (.aload_n 2, 1) := by decide +kernel
theorem d_cJT_drop_35 : decode prog_1_method_12_code 35 = .ok (.getfield 236, 3) := by decide +kernel
theorem d_cJT_drop_38 : decode prog_1_method_12_code 38 = .ok (.iadd, 1) := by decide +kernel
theorem d_cJT_drop_39 : decode prog_1_method_12_code 39 = .ok (.invokevirtual 239, 3) := by decide +kernel
theorem d_cJT_drop_42 : decode prog_1_method_12_code 42 = .ok (.iinc 4 1, 3) := by decide +kernel
theorem d_cJT_drop_45 : decode prog_1_method_12_code 45 = .ok (.goto (-31), 3) := by decide +kernel
set_option maxHeartbeats 4000000 in
set_option maxRecDepth 100000 in
theorem w_cJT_drop_B14 {p : Program} {l : Launch} {e : Env} {s : State} {m : MethodId} {args : Array Value} {below : List Frame} {meth : Method} {c : Code} {A : Nat → Prop} {D : va_G} {ad : Nat → Nat → Nat} {cc : Nat → ClassId} {sad sav : Nat → Nat} {Q : State → Prop} {cR sR : Nat} (hfl : l.flags = flags0) (hC : MCc sad sav "JoinedTrees" prog_1_method_12_code 5 (some .int) p s m args meth c A D cc) {N : Nat → Nat} {x0 : Nat} {S : CS} {x2 : Option Nat} {x3 : Int32} {x4 : Int32} {o : ((CS × Option Nat × Int32 × Int32) ⊕ (CS × Option Nat × Int32))} (Heq : m_cJT_drop_B14 N x0 S x2 x3 x4 = some o) (Ka : ∀ b : CS × Option Nat × Int32 × Int32, o = .inl b → ∀ (H : Heap) (locs : List Loc) (ls : Array Slot), va_P D cls (cw ad cc N b.1) H → va_D A (cw ad cc N b.1) → va_S A s.heap H locs → lv_has ls 5 [(0, .ref (ad 11 x0)), (2, rv ad 4 b.2.1), (3, .int b.2.2.1), (4, .int b.2.2.2)] → W p l e ({ frames := 7, cells := cR, slots := sR, locals := 117 }) s m args below meth c H locs 0 0 Q (F0 m 14 ls [])) (K0 : ∀ b : CS × Option Nat × Int32, o = .inr b → ∀ (H : Heap) (locs : List Loc) (ls : Array Slot), va_P D cls (cw ad cc N b.1) H → va_D A (cw ad cc N b.1) → va_S A s.heap H locs → lv_has ls 5 [(0, .ref (ad 11 x0)), (2, rv ad 4 b.2.1), (3, .int b.2.2)] → W p l e ({ frames := 7, cells := cR, slots := sR, locals := 117 }) s m args below meth c H locs 0 0 Q (F0 m 48 ls [])) : ∀ (H : Heap) (locs : List Loc) (ls : Array Slot), va_P D cls (cw ad cc N S) H → va_D A (cw ad cc N S) → va_S A s.heap H locs → lv_has ls 5 [(0, .ref (ad 11 x0)), (2, rv ad 4 x2), (3, .int x3), (4, .int x4)] → W p l e ({ frames := 7, cells := cR, slots := sR, locals := 117 }) s m args below meth c H locs 0 0 Q (F0 m 14 ls []) := by
  intro H locs ls hP hD hS hl
  obtain ⟨hx, hb, hr, hml, hown, hts, hK, hA, hev, hE, hN, hNS⟩ := id hC
  unfold m_cJT_drop_B14 at Heq
  refine lv_iload hx hb d_cJT_drop_14 (lv_at hl 3 rfl) ?_
  refine lv_iload_n hx hb d_cJT_drop_16 rfl (lv_at hl 2 rfl) ?_
  refine lv_icmp_ge (tgt := 48) hx hb d_cJT_drop_17 (by decide) (fun c_1 => ?_) (fun c_1 => ?_)
  · replace Heq := (if_pos c_1).symm.trans Heq
    exact K0 _ (Option.some.inj Heq).symm _ _ _ hP hD hS (lv_sub hl [0, 1, 2] rfl)
  · replace Heq := (if_neg c_1).symm.trans Heq
    refine lv_aload_n hx hb d_cJT_drop_20 rfl (lv_at hl 0 rfl) ?_
    obtain ⟨hl_x0_11, Heq⟩ := gl_some Heq
    refine va_get (D := D) (ci := 11) (v := rv ad 8 (S.r 11 0 x0)) (C := R_JT) (T := F_JT) (N := 13) hx hb hts i_JT hown hK hP (cPos N 11 x0) (cw_obj (k := 11) (by decide) hl_x0_11) rfl 0 (by decide) (hts _ kw_421) (fun _ h9 => h9) rfl d_cJT_drop_21 ?_
    refine lv_bipush (v := 8) hx hb d_cJT_drop_24 (by decide) ?_
    refine tx_aload_n (x := x2.map (ad 4)) hx hb d_cJT_drop_26 rfl (lv_at hl 1 rfl) ?_
    refine w_v (y := rv ad 4 x2) rfl ?_
    obtain ⟨j_2, hj_3, hl_4, Heq⟩ := gn_some Heq
    refine w_s (st' := [.ref (ad 4 j_2), .int 8, rv ad 8 (S.r 11 0 x0)]) (congrArg (fun z9 : Option Nat => [rv ad 4 z9, .int 8, rv ad 8 (S.r 11 0 x0)]) hj_3) ?_
    refine va_get (D := D) (ci := 4) (v := .int (S.i 4 8 j_2)) (C := R_Rp) (T := F_Rp) (N := 10) hx hb hts i_Rp hown hK hP (cPos N 4 j_2) (cw_obj (k := 4) (by decide) hl_4) rfl 8 (by decide) (hts _ kw_227) (fun _ h9 => h9) rfl d_cJT_drop_27 ?_
    refine lv_iload hx hb d_cJT_drop_30 (lv_at hl 3 rfl) ?_
    refine lv_isub hx hb d_cJT_drop_32 ?_
    refine w_i (y := (S.i 4 8 j_2) - x4) rfl ?_
    refine lv_imul hx hb d_cJT_drop_33 ?_
    refine w_i (y := 8 * ((S.i 4 8 j_2) - x4)) rfl ?_
    refine tx_aload_n (x := x2.map (ad 4)) hx hb d_cJT_drop_34 rfl (lv_at hl 1 rfl) ?_
    refine w_v (y := rv ad 4 x2) rfl ?_
    refine w_s (st' := [.ref (ad 4 j_2), .int (8 * ((S.i 4 8 j_2) - x4)), rv ad 8 (S.r 11 0 x0)]) (congrArg (fun z9 : Option Nat => [rv ad 4 z9, .int (8 * ((S.i 4 8 j_2) - x4)), rv ad 8 (S.r 11 0 x0)]) hj_3) ?_
    refine va_get (D := D) (ci := 4) (v := .int (S.i 4 0 j_2)) (C := R_Rp) (T := F_Rp) (N := 10) hx hb hts i_Rp hown hK hP (cPos N 4 j_2) (cw_obj (k := 4) (by decide) hl_4) rfl 0 (by decide) (hts _ kw_204) (fun _ h9 => h9) rfl d_cJT_drop_35 ?_
    refine lv_iadd hx hb d_cJT_drop_38 ?_
    refine w_i (y := (8 * ((S.i 4 8 j_2) - x4)) + (S.i 4 0 j_2)) rfl ?_
    obtain ⟨j_5, hj_6, hl_7, Heq⟩ := gn_some Heq
    refine w_s (st' := [.int ((8 * ((S.i 4 8 j_2) - x4)) + (S.i 4 0 j_2)), .ref (ad 8 j_5)]) (congrArg (fun z9 : Option Nat => [.int ((8 * ((S.i 4 8 j_2) - x4)) + (S.i 4 0 j_2)), rv ad 8 z9]) hj_6) ?_
    obtain ⟨o_8, h_9, Heq⟩ := ob_some Heq
    have hFc := fr_all hD hS hA
    refine va_callv (va_runV (As := [.int ((8 * ((S.i 4 8 j_2) - x4)) + (S.i 4 0 j_2))]) (rest := []) ⟨hx, hb, hml, hown, hts⟩ (g_cSt_forget l D H.size (ad := ad) (cc := cc) (sad := sad) (sav := sav) h_9) (cw_v 1 hts kw_1068 kw_1065 kw_1066 kw_1067 kw_2 rfl rfl (by decide +kernel) ⟨Nat.le_of_ble_eq_true rfl, Nat.le_of_ble_eq_true rfl⟩) ⟨c_blind, va_recv hK hP (ci := 8) (q0 := cPos N 8 j_5) rfl (cw_obj (k := 8) (by decide) hl_7), fun U hU hW => c_pre hU hW hP hK hD hev hE hN hNS hS hFc⟩ rfl rfl hl.1 rfl (lv_room (Nat.le_of_ble_eq_true rfl)) d_cJT_drop_39 ⟨Nat.zero_le _, Nat.zero_le _⟩) hS (fun q _ h => hFc q h) hFc (fun u t H1 locs ht hvm hw hB hz1 hk1 hS => ?_)
    obtain ⟨hP, -, hD1⟩ := hB
    rw [ht] at hP
    have hD := hD1.weaken (fun _ q _ h => hFc q.1 h)
    generalize H1 = H at hP hS ⊢
    refine W.cs (cells' := 0) (slots' := 0) rfl rfl ?_
    refine lv_iinc (v := x4 + 1) (lv' := [(4, .int (x4 + 1)), (0, .ref (ad 11 x0)), (2, rv ad 4 x2), (3, .int x3)]) hx hb d_cJT_drop_42 hl (k := 3) rfl rfl (by decide) rfl (fun ls hl => ?_)
    refine lv_goto (tgt := 14) hx hb d_cJT_drop_45 (by decide) ?_
    exact Ka _ (Option.some.inj Heq).symm _ _ _ hP hD hS (lv_sub hl [1, 2, 3, 0] rfl)
def m_cJT_drop_L14 (N : Nat → Nat) (x0 : Nat) (S : CS) (x2 : Option Nat) (x3 : Int32) (x4 : Int32) : Option (CS × Option Nat × Int32) := lp (fun a : CS × Option Nat × Int32 × Int32 => m_cJT_drop_B14 N x0 a.1 a.2.1 a.2.2.1 a.2.2.2) FU (S, x2, x3, x4)
theorem w_cJT_drop_L14 {p : Program} {l : Launch} {e : Env} {s : State} {m : MethodId} {args : Array Value} {below : List Frame} {meth : Method} {c : Code} {A : Nat → Prop} {D : va_G} {ad : Nat → Nat → Nat} {cc : Nat → ClassId} {sad sav : Nat → Nat} {Q : State → Prop} {cR sR : Nat} (hfl : l.flags = flags0) (hC : MCc sad sav "JoinedTrees" prog_1_method_12_code 5 (some .int) p s m args meth c A D cc) {N : Nat → Nat} {x0 : Nat} {S : CS} {x2 : Option Nat} {x3 : Int32} {x4 : Int32} {o : CS × Option Nat × Int32} (Heq : m_cJT_drop_L14 N x0 S x2 x3 x4 = some o) (K0 : ∀ b : CS × Option Nat × Int32, o = b → ∀ (H : Heap) (locs : List Loc) (ls : Array Slot), va_P D cls (cw ad cc N b.1) H → va_D A (cw ad cc N b.1) → va_S A s.heap H locs → lv_has ls 5 [(0, .ref (ad 11 x0)), (2, rv ad 4 b.2.1), (3, .int b.2.2)] → W p l e ({ frames := 7, cells := cR, slots := sR, locals := 117 }) s m args below meth c H locs 0 0 Q (F0 m 48 ls [])) : ∀ (H : Heap) (locs : List Loc) (ls : Array Slot), va_P D cls (cw ad cc N S) H → va_D A (cw ad cc N S) → va_S A s.heap H locs → lv_has ls 5 [(0, .ref (ad 11 x0)), (2, rv ad 4 x2), (3, .int x3), (4, .int x4)] → W p l e ({ frames := 7, cells := cR, slots := sR, locals := 117 }) s m args below meth c H locs 0 0 Q (F0 m 14 ls []) := by
  refine lp_w (G := fun a : CS × Option Nat × Int32 × Int32 => ∀ (H : Heap) (locs : List Loc) (ls : Array Slot), va_P D cls (cw ad cc N a.1) H → va_D A (cw ad cc N a.1) → va_S A s.heap H locs → lv_has ls 5 [(0, .ref (ad 11 x0)), (2, rv ad 4 a.2.1), (3, .int a.2.2.1), (4, .int a.2.2.2)] → W p l e ({ frames := 7, cells := cR, slots := sR, locals := 117 }) s m args below meth c H locs 0 0 Q (F0 m 14 ls [])) ?_ FU (S, x2, x3, x4) Heq
  intro a o1 ho Ka Ke
  exact w_cJT_drop_B14 hfl hC ho (fun b h => Ka b h) (fun b h => K0 b (Ke _ h).symm)
def m_cJT_drop_J0 (N : Nat → Nat) (x0 : Nat) (S : CS) (x1 : Int32) : Option ((CS × Int32) ⊕ (CS × Nat)) := gl x0 (N 11) (oe (m_cJT_shown N x0 S x1) (fun o_1 => gn o_1.2 (N 4) (fun j_4 => ob (m_cJT_drop_L14 N x0 o_1.1 o_1.2 (o_1.1.i 4 9 j_4) 0) (fun b_7 => gn b_7.2.1 (N 4) (fun j_9 => some (.inl ((((b_7.1.setI 4 8 j_9 ((b_7.1.i 4 8 j_9) - b_7.2.2)).setI 4 7 j_9 ((b_7.1.i 4 7 j_9) - b_7.2.2)).setI 4 9 j_9 0), b_7.2.2)))))) (fun t_3 => some (.inr t_3)))
theorem d_cJT_drop_48 : decode prog_1_method_12_code 48 = .ok (.aload_n 2, 1) := by decide +kernel
theorem d_cJT_drop_49 : decode prog_1_method_12_code 49 = .ok (.dup, 1) := by decide +kernel
theorem d_cJT_drop_50 : decode prog_1_method_12_code 50 = .ok (.getfield 233, 3) := by decide +kernel
theorem d_cJT_drop_53 : decode prog_1_method_12_code 53 = .ok (.iload_n 3, 1) := by decide +kernel
theorem d_cJT_drop_54 : decode prog_1_method_12_code 54 = .ok (.isub, 1) := by decide +kernel
theorem d_cJT_drop_55 : decode prog_1_method_12_code 55 = .ok (.putfield 233, 3) := by decide +kernel
theorem d_cJT_drop_58 : decode prog_1_method_12_code 58 = .ok (.aload_n 2, 1) := by decide +kernel
theorem d_cJT_drop_59 : decode prog_1_method_12_code 59 = .ok (.dup, 1) := by decide +kernel
theorem d_cJT_drop_60 : decode prog_1_method_12_code 60 = .ok (.getfield 242, 3) := by decide +kernel
theorem d_cJT_drop_63 : decode prog_1_method_12_code 63 = .ok (.iload_n 3, 1) := by decide +kernel
theorem d_cJT_drop_64 : decode prog_1_method_12_code 64 = .ok (.isub, 1) := by decide +kernel
theorem d_cJT_drop_65 : decode prog_1_method_12_code 65 = .ok (.putfield 242, 3) := by decide +kernel
theorem d_cJT_drop_68 : decode prog_1_method_12_code 68 = .ok (.aload_n 2, 1) := by decide +kernel
theorem d_cJT_drop_69 : decode prog_1_method_12_code 69 = .ok (.iconst 0, 1) := by decide +kernel
theorem d_cJT_drop_70 : decode prog_1_method_12_code 70 = .ok (.putfield 220, 3) := by decide +kernel
theorem d_cJT_drop_73 : decode prog_1_method_12_code 73 = .ok (.iload_n 3, 1) := by decide +kernel
theorem d_cJT_drop_74 : decode prog_1_method_12_code 74 = .ok (.ireturn, 1) := by decide +kernel
set_option maxHeartbeats 4000000 in
set_option maxRecDepth 100000 in
theorem w_cJT_drop_J0 {p : Program} {l : Launch} {e : Env} {s : State} {m : MethodId} {args : Array Value} {below : List Frame} {meth : Method} {c : Code} {A : Nat → Prop} {D : va_G} {ad : Nat → Nat → Nat} {cc : Nat → ClassId} {sad sav : Nat → Nat} {Q : State → Prop} {cR sR : Nat} (hfl : l.flags = flags0) (hC : MCc sad sav "JoinedTrees" prog_1_method_12_code 5 (some .int) p s m args meth c A D cc) {N : Nat → Nat} {x0 : Nat} {S : CS} {x1 : Int32} {o : ((CS × Int32) ⊕ (CS × Nat))} (Heq : m_cJT_drop_J0 N x0 S x1 = some o) (Kr : ∀ r : ((CS × Int32) ⊕ (CS × Nat)), o = r → (∀ v9 : CS × Int32, r = .inl v9 → ∀ (pc : Nat) (H : Heap) (locs : List Loc) (ls : Array Slot), decode prog_1_method_12_code pc = .ok (.ireturn, 1) → va_P D cls (cw ad cc N v9.1) H → va_D A (cw ad cc N v9.1) → va_S A s.heap H locs → W p l e ({ frames := 7, cells := cR, slots := sR, locals := 117 }) s m args below meth c H locs 0 0 Q (F0 m pc ls [.int v9.2])) ∧ (∀ t9 : CS × Nat, r = .inr t9 → (1 ≤ cR ∧ 6 ≤ sR) ∧ (∀ (pc : Nat) (H : Heap) (locs : List Loc) (ls : Array Slot), thD prog_1_method_12_code t9.2 pc → ls.size = 5 → va_P D cls (cw ad cc N t9.1) H → va_D A (cw ad cc N t9.1) → va_S A s.heap H locs → W p l e ({ frames := 7, cells := cR, slots := sR, locals := 117 }) s m args below meth c H locs 0 0 Q (F0 m pc ls [])) ∧ (∀ (pc : Nat) (H : Heap) (locs : List Loc) (ls : Array Slot) (st0 rest9 : List Value) (A9 : Nat → Prop), tx_Thr p l e ({ frames := 7, cells := cR, slots := sR, locals := 117 }) s m args below meth c H locs 0 0 1 6 (F0 m pc ls st0) rest9 (exN t9.2) A9 (fun H1 => va_P D cls (cw ad cc N t9.1) H1) → (∀ q, A9 q → A q) → va_S A s.heap H locs → W p l e ({ frames := 7, cells := cR, slots := sR, locals := 117 }) s m args below meth c H locs 0 0 Q (F0 m pc ls st0)))) : ∀ (H : Heap) (locs : List Loc) (ls : Array Slot), va_P D cls (cw ad cc N S) H → va_D A (cw ad cc N S) → va_S A s.heap H locs → lv_has ls 5 [(0, .ref (ad 11 x0)), (1, .int x1)] → W p l e ({ frames := 7, cells := cR, slots := sR, locals := 117 }) s m args below meth c H locs 0 0 Q (F0 m 0 ls []) := by
  intro H locs ls hP hD hS hl
  obtain ⟨hx, hb, hr, hml, hown, hts, hK, hA, hev, hE, hN, hNS⟩ := id hC
  unfold m_cJT_drop_J0 at Heq
  refine lv_aload_n hx hb d_cJT_drop_0 rfl (lv_at hl 0 rfl) ?_
  refine lv_iload_n hx hb d_cJT_drop_1 rfl (lv_at hl 1 rfl) ?_
  obtain ⟨hl_x0_11, Heq⟩ := gl_some Heq
  have hFc := fr_all hD hS hA
  rcases oe_some Heq with ⟨o_1, h_2, Heq⟩ | ⟨t_3, h_2, Heq⟩
  case inr => exact ((Kr _ (Option.some.inj Heq).symm).2 _ rfl).2.2 2 _ _ _ _ _ _ (tx_runV (As := [.int x1]) (rest := []) ⟨hx, hb, hml, hown, hts⟩ (g_cJT_shown_t l hfl D H.size (ad := ad) (cc := cc) (sad := sad) (sav := sav) h_2) (cw_v 1 hts kw_593 kw_590 kw_592 kp_3 kw_1 rfl rfl (by decide +kernel) ⟨Nat.le_of_ble_eq_true rfl, Nat.le_of_ble_eq_true rfl⟩) ⟨c_blind, va_recv hK hP (ci := 11) (q0 := cPos N 11 x0) rfl (cw_obj (k := 11) (by decide) hl_x0_11), fun U hU hW => c_pre hU hW hP hK hD hev hE hN hNS hS hFc⟩ rfl rfl hl.1 rfl (lv_room (Nat.le_of_ble_eq_true rfl)) d_cJT_drop_2 ((Kr _ (Option.some.inj Heq).symm).2 _ rfl).1) hFc hS
  refine va_callq (va_runV (As := [.int x1]) (rest := []) ⟨hx, hb, hml, hown, hts⟩ (g_cJT_shown l hfl D H.size (ad := ad) (cc := cc) (sad := sad) (sav := sav) h_2) (cw_v 1 hts kw_593 kw_590 kw_592 kp_3 kw_1 rfl rfl (by decide +kernel) ⟨Nat.le_of_ble_eq_true rfl, Nat.le_of_ble_eq_true rfl⟩) ⟨c_blind, va_recv hK hP (ci := 11) (q0 := cPos N 11 x0) rfl (cw_obj (k := 11) (by decide) hl_x0_11), fun U hU hW => c_pre hU hW hP hK hD hev hE hN hNS hS hFc⟩ rfl rfl hl.1 rfl (lv_room (Nat.le_of_ble_eq_true rfl)) d_cJT_drop_2 ⟨Nat.zero_le _, Nat.zero_le _⟩) hS (fun q _ h => hFc q h) hFc (fun rz u t H1 locs ht hvm hw hB hz1 hk1 hS => ?_)
  obtain ⟨hP, -, hD1⟩ := hB
  rw [ht] at hP
  have hD := hD1.weaken (fun _ q _ h => hFc q.1 h)
  generalize H1 = H at hP hS ⊢
  refine W.cs (cells' := 0) (slots' := 0) rfl rfl ?_
  subst hw
  refine w_v (y := rv ad 4 o_1.2) rfl ?_
  refine tx_astore_n (x := o_1.2.map (ad 4)) (lv' := [(2, rv ad 4 o_1.2), (0, .ref (ad 11 x0)), (1, .int x1)]) hx hb d_cJT_drop_5 rfl hl (by decide) rfl (fun ls hl => ?_)
  refine tx_aload_n (x := o_1.2.map (ad 4)) hx hb d_cJT_drop_6 rfl (lv_at hl 0 rfl) ?_
  refine w_v (y := rv ad 4 o_1.2) rfl ?_
  obtain ⟨j_4, hj_5, hl_6, Heq⟩ := gn_some Heq
  refine w_s (st' := [.ref (ad 4 j_4)]) (congrArg (fun z9 : Option Nat => [rv ad 4 z9]) hj_5) ?_
  refine va_get (D := D) (ci := 4) (v := .int (o_1.1.i 4 9 j_4)) (C := R_Rp) (T := F_Rp) (N := 10) hx hb hts i_Rp hown hK hP (cPos N 4 j_4) (cw_obj (k := 4) (by decide) hl_6) rfl 9 (by decide) (hts _ kw_230) (fun _ h9 => h9) rfl d_cJT_drop_7 ?_
  refine lv_istore_n (i := 3) (lv' := [(3, .int (o_1.1.i 4 9 j_4)), (2, rv ad 4 o_1.2), (0, .ref (ad 11 x0)), (1, .int x1)]) hx hb d_cJT_drop_10 rfl hl (by decide) (by simp [rv, rf_cat]) (fun ls hl => ?_)
  refine lv_iconst (v := 0) hx hb d_cJT_drop_11 (by decide) ?_
  refine lv_istore (lv' := [(4, .int 0), (3, .int (o_1.1.i 4 9 j_4)), (2, rv ad 4 o_1.2), (0, .ref (ad 11 x0)), (1, .int x1)]) hx hb d_cJT_drop_12 hl (by decide) rfl (fun ls hl => ?_)
  obtain ⟨b_7, h_8, Heq⟩ := ob_some Heq
  refine w_cJT_drop_L14 hfl hC h_8 (fun b h => ?_) _ _ _ hP hD hS (lv_sub hl [3, 2, 1, 0] rfl)
  subst h
  intro H locs ls hP hD hS hl
  refine tx_aload_n (x := b_7.2.1.map (ad 4)) hx hb d_cJT_drop_48 rfl (lv_at hl 1 rfl) ?_
  refine w_v (y := rv ad 4 b_7.2.1) rfl ?_
  refine lv_dup hx hb d_cJT_drop_49 (by first | rfl | exact rv_cat) ?_
  obtain ⟨j_9, hj_10, hl_11, Heq⟩ := gn_some Heq
  refine w_s (st' := [.ref (ad 4 j_9), rv ad 4 b_7.2.1]) (congrArg (fun z9 : Option Nat => [rv ad 4 z9, rv ad 4 b_7.2.1]) hj_10) ?_
  refine va_get (D := D) (ci := 4) (v := .int (b_7.1.i 4 8 j_9)) (C := R_Rp) (T := F_Rp) (N := 10) hx hb hts i_Rp hown hK hP (cPos N 4 j_9) (cw_obj (k := 4) (by decide) hl_11) rfl 8 (by decide) (hts _ kw_227) (fun _ h9 => h9) rfl d_cJT_drop_50 ?_
  refine lv_iload_n hx hb d_cJT_drop_53 rfl (lv_at hl 2 rfl) ?_
  refine lv_isub hx hb d_cJT_drop_54 ?_
  refine w_i (y := (b_7.1.i 4 8 j_9) - b_7.2.2) rfl ?_
  refine w_s (st' := [.int ((b_7.1.i 4 8 j_9) - b_7.2.2), .ref (ad 4 j_9)]) (congrArg (fun z9 : Option Nat => [.int ((b_7.1.i 4 8 j_9) - b_7.2.2), rv ad 4 z9]) hj_10) ?_
  refine va_put (D := D) (ci := 4) (v := .int ((b_7.1.i 4 8 j_9) - b_7.2.2)) (ty := .int) (C := R_Rp) (T := F_Rp) (N := 10) hx hb hts i_Rp t_Rp t_Rp_ok n_Rp hown hK hP hD hS (cPos N 4 j_9) (cw_obj (k := 4) (by decide) hl_11) rfl 8 (by decide) (hts _ kw_227) (fun _ h9 => h9) rfl (by decide +kernel) rfl rfl (Nat.le_of_ble_eq_true rfl) d_cJT_drop_55 (fun H locs hP hD hS => ?_)
  have hD := (congrArg (fun w9 => va_D A w9) (cw_setI (ad := ad) (cc := cc) (S := b_7.1) (k := 4) (f := 8) (v := (b_7.1.i 4 8 j_9) - b_7.2.2) (by decide) rfl hl_11)).mp hD
  have hP := (congrArg (fun w9 => va_P D cls w9 H) (cw_setI (ad := ad) (cc := cc) (S := b_7.1) (k := 4) (f := 8) (v := (b_7.1.i 4 8 j_9) - b_7.2.2) (by decide) rfl hl_11)).mp hP
  refine tx_aload_n (x := b_7.2.1.map (ad 4)) hx hb d_cJT_drop_58 rfl (lv_at hl 1 rfl) ?_
  refine w_v (y := rv ad 4 b_7.2.1) rfl ?_
  refine lv_dup hx hb d_cJT_drop_59 (by first | rfl | exact rv_cat) ?_
  refine w_s (st' := [.ref (ad 4 j_9), rv ad 4 b_7.2.1]) (congrArg (fun z9 : Option Nat => [rv ad 4 z9, rv ad 4 b_7.2.1]) hj_10) ?_
  refine va_get (D := D) (ci := 4) (v := .int ((b_7.1.setI 4 8 j_9 ((b_7.1.i 4 8 j_9) - b_7.2.2)).i 4 7 j_9)) (C := R_Rp) (T := F_Rp) (N := 10) hx hb hts i_Rp hown hK hP (cPos N 4 j_9) (cw_obj (k := 4) (by decide) hl_11) rfl 7 (by decide) (hts _ kw_224) (fun _ h9 => h9) rfl d_cJT_drop_60 ?_
  refine w_i (y := b_7.1.i 4 7 j_9) rfl ?_
  refine lv_iload_n hx hb d_cJT_drop_63 rfl (lv_at hl 2 rfl) ?_
  refine lv_isub hx hb d_cJT_drop_64 ?_
  refine w_i (y := (b_7.1.i 4 7 j_9) - b_7.2.2) rfl ?_
  refine w_s (st' := [.int ((b_7.1.i 4 7 j_9) - b_7.2.2), .ref (ad 4 j_9)]) (congrArg (fun z9 : Option Nat => [.int ((b_7.1.i 4 7 j_9) - b_7.2.2), rv ad 4 z9]) hj_10) ?_
  refine va_put (D := D) (ci := 4) (v := .int ((b_7.1.i 4 7 j_9) - b_7.2.2)) (ty := .int) (C := R_Rp) (T := F_Rp) (N := 10) hx hb hts i_Rp t_Rp t_Rp_ok n_Rp hown hK hP hD hS (cPos N 4 j_9) (cw_obj (k := 4) (by decide) hl_11) rfl 7 (by decide) (hts _ kw_224) (fun _ h9 => h9) rfl (by decide +kernel) rfl rfl (Nat.le_of_ble_eq_true rfl) d_cJT_drop_65 (fun H locs hP hD hS => ?_)
  have hD := (congrArg (fun w9 => va_D A w9) (cw_setI (ad := ad) (cc := cc) (S := (b_7.1.setI 4 8 j_9 ((b_7.1.i 4 8 j_9) - b_7.2.2))) (k := 4) (f := 7) (v := (b_7.1.i 4 7 j_9) - b_7.2.2) (by decide) rfl hl_11)).mp hD
  have hP := (congrArg (fun w9 => va_P D cls w9 H) (cw_setI (ad := ad) (cc := cc) (S := (b_7.1.setI 4 8 j_9 ((b_7.1.i 4 8 j_9) - b_7.2.2))) (k := 4) (f := 7) (v := (b_7.1.i 4 7 j_9) - b_7.2.2) (by decide) rfl hl_11)).mp hP
  refine tx_aload_n (x := b_7.2.1.map (ad 4)) hx hb d_cJT_drop_68 rfl (lv_at hl 1 rfl) ?_
  refine w_v (y := rv ad 4 b_7.2.1) rfl ?_
  refine lv_iconst (v := 0) hx hb d_cJT_drop_69 (by decide) ?_
  refine w_s (st' := [.int 0, .ref (ad 4 j_9)]) (congrArg (fun z9 : Option Nat => [.int 0, rv ad 4 z9]) hj_10) ?_
  refine va_put (D := D) (ci := 4) (v := .int 0) (ty := .int) (C := R_Rp) (T := F_Rp) (N := 10) hx hb hts i_Rp t_Rp t_Rp_ok n_Rp hown hK hP hD hS (cPos N 4 j_9) (cw_obj (k := 4) (by decide) hl_11) rfl 9 (by decide) (hts _ kw_230) (fun _ h9 => h9) rfl (by decide +kernel) rfl rfl (Nat.le_of_ble_eq_true rfl) d_cJT_drop_70 (fun H locs hP hD hS => ?_)
  have hD := (congrArg (fun w9 => va_D A w9) (cw_setI (ad := ad) (cc := cc) (S := ((b_7.1.setI 4 8 j_9 ((b_7.1.i 4 8 j_9) - b_7.2.2)).setI 4 7 j_9 ((b_7.1.i 4 7 j_9) - b_7.2.2))) (k := 4) (f := 9) (v := 0) (by decide) rfl hl_11)).mp hD
  have hP := (congrArg (fun w9 => va_P D cls w9 H) (cw_setI (ad := ad) (cc := cc) (S := ((b_7.1.setI 4 8 j_9 ((b_7.1.i 4 8 j_9) - b_7.2.2)).setI 4 7 j_9 ((b_7.1.i 4 7 j_9) - b_7.2.2))) (k := 4) (f := 9) (v := 0) (by decide) rfl hl_11)).mp hP
  refine lv_iload_n hx hb d_cJT_drop_73 rfl (lv_at hl 2 rfl) ?_
  exact (Kr _ (Option.some.inj Heq).symm).1 _ rfl 74 _ _ _ d_cJT_drop_74 hP hD hS
def m_cJT_drop (N : Nat → Nat) (x0 : Nat) (S : CS) (x1 : Int32) : Option ((CS × Int32) ⊕ (CS × Nat)) := m_cJT_drop_J0 N x0 S x1
set_option maxHeartbeats 4000000 in
theorem g_cJT_drop (l : Launch) (hfl : l.flags = flags0) (D : va_G) (sz : Nat) {ad : Nat → Nat → Nat} {cc : Nat → ClassId} {sad sav : Nat → Nat} {N : Nat → Nat} {x0 : Nat} {S : CS} {x1 : Int32} {o : CS × Int32} (Heq : m_cJT_drop N x0 S x1 = some (.inl o)) : Met l ⟨"JoinedTrees", "drop", "(I)I"⟩ (Cond.code ⟨"JoinedTrees", "drop", "(I)I"⟩ prog_1_method_12_code 5 (some .int) :: gb) ({ frames := 7, cells := 0, slots := 0, locals := 117 }) (cPc sad sav D (cw ad cc N S) (cty cc) sz [.ref (ad 11 x0), .int x1]) (va_Qi (fun (r : Int32) (_ : Unit) => r = o.2) (fun _ t => gO D (cw ad cc N o.1) (cty cc) (va_A (cw ad cc N S) sz) t) (va_A (cw ad cc N S) sz)) 0 0 (va_A (cw ad cc N S) sz) := by
  refine Met.ofW (cc := prog_1_method_12_code) (maxL := 5) (ret := (some .int)) (by decide) rfl ?_
  intro p e s m args below meth c s₁ B hml hv
  obtain ⟨rfl, hsz, hP, hK, hD0, hev, hE, hN⟩ := hv
  have hx := B.exec
  have hb := B.bytes
  have hr := B.returns
  have hts : ∀ w9 ∈ gb, w9.before [.ref (ad 11 x0), .int x1].toArray s = true := fun w9 h => atoms_spec (ws := Cond.code ⟨"JoinedTrees", "drop", "(I)I"⟩ prog_1_method_12_code 5 (some .int) :: gb) B.pre w9 (List.mem_cons_of_mem _ h)
  have hown : s.vm.findClass "JoinedTrees" = some m.cls := findClass_of_methodNamed B.named
  have hlocks := B.notSynchronized
  have hNS := ns_of hP
  subst hsz
  have hD := hD0.self (sz := s.heap.size)
  generalize hAe : va_A (cw ad cc N S) s.heap.size = A at hD hev hE hNS ⊢
  have hA : ∀ q : Nat, s.heap.size ≤ q → A q := fun q h => by rw [← hAe]; exact Or.inr h
  have hS : va_S A s.heap s.heap [] := va_S.rf
  obtain ⟨ls, hl, hle⟩ : ∃ ls : Array Slot, lv_has ls 5 [(0, .ref (ad 11 x0)), (1, .int x1)] ∧ entryFrame m ([.ref (ad 11 x0), .int x1] : List Value).toArray 5 = F0 m 0 ls [] := by
    exact ⟨_, lv_entry (n := 5) _ (Nat.le_of_ble_eq_true rfl), lg_entry_eq ..⟩
  rw [hle]
  refine w_cJT_drop_J0 (cR := 0) (sR := 0) hfl ⟨hx, hb, hr, hml, hown, hts, hK, hA, hev, hE, hN, hNS⟩ Heq (fun r h => ⟨fun v9 hv9 pc H locs ls hd hP hD hS => ?_, fun t9 ht9 => (by subst h; cases ht9)⟩) _ _ _ hP hD hS (lv_sub hl [0, 1] rfl)
  subst h
  cases hv9
  exact W.iret hx hb hr (fun t ht hW => ⟨⟨_, (), rfl, rfl, by rw [ht]; exact hP, va_K.moved hW.alike hK, hD⟩, hS.F ht⟩) hS.2.2 hd
set_option maxHeartbeats 4000000 in
theorem g_cJT_drop_t (l : Launch) (hfl : l.flags = flags0) (D : va_G) (sz : Nat) {ad : Nat → Nat → Nat} {cc : Nat → ClassId} {sad sav : Nat → Nat} {N : Nat → Nat} {x0 : Nat} {S : CS} {x1 : Int32} {o : CS × Nat} (Heq : m_cJT_drop N x0 S x1 = some (.inr o)) : MeT l ⟨"JoinedTrees", "drop", "(I)I"⟩ (Cond.code ⟨"JoinedTrees", "drop", "(I)I"⟩ prog_1_method_12_code 5 (some .int) :: gb) ({ frames := 7, cells := 1, slots := 6, locals := 117 }) (cPc sad sav D (cw ad cc N S) (cty cc) sz [.ref (ad 11 x0), .int x1]) (exN o.2) (va_A (cw ad cc N S) sz) (fun H1 => va_P D cls (cw ad cc N o.1) H1) 1 6 := by
  refine MeT.ofW (cc := prog_1_method_12_code) (maxL := 5) (ret := (some .int)) (by decide) rfl ?_
  intro p e s m args below meth c s₁ B hml hno hv
  obtain ⟨rfl, hsz, hP, hK, hD0, hev, hE, hN⟩ := hv
  have hx := B.exec
  have hb := B.bytes
  have hr := B.returns
  have hts : ∀ w9 ∈ gb, w9.before [.ref (ad 11 x0), .int x1].toArray s = true := fun w9 h => atoms_spec (ws := Cond.code ⟨"JoinedTrees", "drop", "(I)I"⟩ prog_1_method_12_code 5 (some .int) :: gb) B.pre w9 (List.mem_cons_of_mem _ h)
  have hown : s.vm.findClass "JoinedTrees" = some m.cls := findClass_of_methodNamed B.named
  have hlocks := B.notSynchronized
  have hNS := ns_of hP
  subst hsz
  have hD := hD0.self (sz := s.heap.size)
  generalize hAe : va_A (cw ad cc N S) s.heap.size = A at hD hev hE hNS ⊢
  have hA : ∀ q : Nat, s.heap.size ≤ q → A q := fun q h => by rw [← hAe]; exact Or.inr h
  have hS : va_S A s.heap s.heap [] := va_S.rf
  obtain ⟨ls, hl, hle⟩ : ∃ ls : Array Slot, lv_has ls 5 [(0, .ref (ad 11 x0)), (1, .int x1)] ∧ entryFrame m ([.ref (ad 11 x0), .int x1] : List Value).toArray 5 = F0 m 0 ls [] := by
    exact ⟨_, lv_entry (n := 5) _ (Nat.le_of_ble_eq_true rfl), lg_entry_eq ..⟩
  rw [hle]
  refine w_cJT_drop_J0 (cR := 1) (sR := 6) hfl ⟨hx, hb, hr, hml, hown, hts, hK, hA, hev, hE, hN, hNS⟩ Heq (fun r h => ⟨fun v9 hv9 => (by subst h; cases hv9), fun t9 ht9 => ⟨⟨Nat.le_refl _, Nat.le_refl _⟩, fun pc H locs ls hd hsz hP hD hS => ?_, fun pc H locs ls st0 rest9 A9 hr9 hF9 hS => ?_⟩⟩) _ _ _ hP hD hS (lv_sub hl [0, 1] rfl)
  · subst h; cases ht9; exact tx_thr hfl hx hb hno hlocks hown hts hev hN hNS hd (hsz.trans hml.symm) hP hS hA (Nat.le_refl _) (Nat.le_refl _) (Nat.le_of_ble_eq_true rfl) (Nat.le_of_ble_eq_true rfl)
  · subst h; cases ht9; exact tx_on hr9 hno hlocks hS hF9
def m_cJT_needNoneOpen_J0 (N : Nat → Nat) (x0 : Nat) (S : CS) (x1 : Nat) : Option ((CS) ⊕ (CS × Nat)) := gl x1 (N 4) ((if S.i 4 9 x1 ≤ 0 then some (.inl S) else some (.inr (S, 2))))
theorem d_cJT_needNoneOpen_0 : decode prog_1_method_38_code 0 = .ok (.aload_n 1, 1) := by decide +kernel
theorem d_cJT_needNoneOpen_1 : decode prog_1_method_38_code 1 = .ok (.getfield 220, 3) := by decide +kernel
theorem d_cJT_needNoneOpen_4 : decode prog_1_method_38_code 4 = .ok (.ifCond .le 11, 3) := by decide +kernel
theorem d_cJT_needNoneOpen_15 : decode prog_1_method_38_code 15 = .ok (.return_, 1) := by decide +kernel
theorem d_cJT_needNoneOpen_7 : decode prog_1_method_38_code 7 = .ok (.new 223, 3) := by decide +kernel
theorem d_cJT_needNoneOpen_10 : decode prog_1_method_38_code 10 = .ok (.dup, 1) := by decide +kernel
theorem d_cJT_needNoneOpen_11 : decode prog_1_method_38_code 11 = .ok (.invokespecial 225, 3) := by decide +kernel
theorem d_cJT_needNoneOpen_14 : decode prog_1_method_38_code 14 = .ok (.athrow, 1) := by decide +kernel
set_option maxHeartbeats 4000000 in
set_option maxRecDepth 100000 in
theorem w_cJT_needNoneOpen_J0 {p : Program} {l : Launch} {e : Env} {s : State} {m : MethodId} {args : Array Value} {below : List Frame} {meth : Method} {c : Code} {A : Nat → Prop} {D : va_G} {ad : Nat → Nat → Nat} {cc : Nat → ClassId} {sad sav : Nat → Nat} {Q : State → Prop} {cR sR : Nat} (hfl : l.flags = flags0) (hC : MCc sad sav "JoinedTrees" prog_1_method_38_code 2 none p s m args meth c A D cc) {N : Nat → Nat} {x0 : Nat} {S : CS} {x1 : Nat} {o : ((CS) ⊕ (CS × Nat))} (Heq : m_cJT_needNoneOpen_J0 N x0 S x1 = some o) (Kr : ∀ r : ((CS) ⊕ (CS × Nat)), o = r → (∀ v9 : CS, r = .inl v9 → ∀ (pc : Nat) (H : Heap) (locs : List Loc) (ls : Array Slot), decode prog_1_method_38_code pc = .ok (.return_, 1) → va_P D cls (cw ad cc N v9) H → va_D A (cw ad cc N v9) → va_S A s.heap H locs → W p l e ({ frames := 6, cells := cR, slots := sR, locals := 96 }) s m args below meth c H locs 0 0 Q (F0 m pc ls [])) ∧ (∀ t9 : CS × Nat, r = .inr t9 → (1 ≤ cR ∧ 6 ≤ sR) ∧ (∀ (pc : Nat) (H : Heap) (locs : List Loc) (ls : Array Slot), thD prog_1_method_38_code t9.2 pc → ls.size = 2 → va_P D cls (cw ad cc N t9.1) H → va_D A (cw ad cc N t9.1) → va_S A s.heap H locs → W p l e ({ frames := 6, cells := cR, slots := sR, locals := 96 }) s m args below meth c H locs 0 0 Q (F0 m pc ls [])) ∧ (∀ (pc : Nat) (H : Heap) (locs : List Loc) (ls : Array Slot) (st0 rest9 : List Value) (A9 : Nat → Prop), tx_Thr p l e ({ frames := 6, cells := cR, slots := sR, locals := 96 }) s m args below meth c H locs 0 0 1 6 (F0 m pc ls st0) rest9 (exN t9.2) A9 (fun H1 => va_P D cls (cw ad cc N t9.1) H1) → (∀ q, A9 q → A q) → va_S A s.heap H locs → W p l e ({ frames := 6, cells := cR, slots := sR, locals := 96 }) s m args below meth c H locs 0 0 Q (F0 m pc ls st0)))) : ∀ (H : Heap) (locs : List Loc) (ls : Array Slot), va_P D cls (cw ad cc N S) H → va_D A (cw ad cc N S) → va_S A s.heap H locs → lv_has ls 2 [(0, .ref (ad 11 x0)), (1, .ref (ad 4 x1))] → W p l e ({ frames := 6, cells := cR, slots := sR, locals := 96 }) s m args below meth c H locs 0 0 Q (F0 m 0 ls []) := by
  intro H locs ls hP hD hS hl
  obtain ⟨hx, hb, hr, hml, hown, hts, hK, hA, hev, hE, hN, hNS⟩ := id hC
  unfold m_cJT_needNoneOpen_J0 at Heq
  refine lv_aload_n hx hb d_cJT_needNoneOpen_0 rfl (lv_at hl 1 rfl) ?_
  obtain ⟨hl_x1_4, Heq⟩ := gl_some Heq
  refine va_get (D := D) (ci := 4) (v := .int (S.i 4 9 x1)) (C := R_Rp) (T := F_Rp) (N := 10) hx hb hts i_Rp hown hK hP (cPos N 4 x1) (cw_obj (k := 4) (by decide) hl_x1_4) rfl 9 (by decide) (hts _ kw_230) (fun _ h9 => h9) rfl d_cJT_needNoneOpen_1 ?_
  refine lv_if_le (tgt := 15) hx hb d_cJT_needNoneOpen_4 (by decide) (fun c_1 => ?_) (fun c_1 => ?_)
  · replace Heq := (if_pos c_1).symm.trans Heq
    exact (Kr _ (Option.some.inj Heq).symm).1 _ rfl 15 _ _ _ d_cJT_needNoneOpen_15 hP hD hS
  · replace Heq := (if_neg c_1).symm.trans Heq
    exact ((Kr _ (Option.some.inj Heq).symm).2 _ rfl).2.1 7 _ _ _ ⟨⟨show 1 ≤ 2 by decide, show 2 ≤ 5 by decide⟩, d_cJT_needNoneOpen_7, d_cJT_needNoneOpen_10, d_cJT_needNoneOpen_11, d_cJT_needNoneOpen_14⟩ hl.1 hP hD hS
def m_cJT_needNoneOpen (N : Nat → Nat) (x0 : Nat) (S : CS) (x1 : Nat) : Option ((CS) ⊕ (CS × Nat)) := m_cJT_needNoneOpen_J0 N x0 S x1
set_option maxHeartbeats 4000000 in
theorem g_cJT_needNoneOpen (l : Launch) (hfl : l.flags = flags0) (D : va_G) (sz : Nat) {ad : Nat → Nat → Nat} {cc : Nat → ClassId} {sad sav : Nat → Nat} {N : Nat → Nat} {x0 : Nat} {S : CS} {x1 : Nat} {o : CS} (Heq : m_cJT_needNoneOpen N x0 S x1 = some (.inl o)) : Met l ⟨"JoinedTrees", "needNoneOpen", "(LJoinedTrees$Replica;)V"⟩ (Cond.code ⟨"JoinedTrees", "needNoneOpen", "(LJoinedTrees$Replica;)V"⟩ prog_1_method_38_code 2 none :: gb) ({ frames := 6, cells := 0, slots := 0, locals := 96 }) (cPc sad sav D (cw ad cc N S) (cty cc) sz [.ref (ad 11 x0), .ref (ad 4 x1)]) (va_Qv (fun _ : Unit => True) (fun _ t => gO D (cw ad cc N o) (cty cc) (va_A (cw ad cc N S) sz) t) (va_A (cw ad cc N S) sz)) 0 0 (va_A (cw ad cc N S) sz) := by
  refine Met.ofW (cc := prog_1_method_38_code) (maxL := 2) (ret := none) (by decide) rfl ?_
  intro p e s m args below meth c s₁ B hml hv
  obtain ⟨rfl, hsz, hP, hK, hD0, hev, hE, hN⟩ := hv
  have hx := B.exec
  have hb := B.bytes
  have hr := B.returns
  have hts : ∀ w9 ∈ gb, w9.before [.ref (ad 11 x0), .ref (ad 4 x1)].toArray s = true := fun w9 h => atoms_spec (ws := Cond.code ⟨"JoinedTrees", "needNoneOpen", "(LJoinedTrees$Replica;)V"⟩ prog_1_method_38_code 2 none :: gb) B.pre w9 (List.mem_cons_of_mem _ h)
  have hown : s.vm.findClass "JoinedTrees" = some m.cls := findClass_of_methodNamed B.named
  have hlocks := B.notSynchronized
  have hNS := ns_of hP
  subst hsz
  have hD := hD0.self (sz := s.heap.size)
  generalize hAe : va_A (cw ad cc N S) s.heap.size = A at hD hev hE hNS ⊢
  have hA : ∀ q : Nat, s.heap.size ≤ q → A q := fun q h => by rw [← hAe]; exact Or.inr h
  have hS : va_S A s.heap s.heap [] := va_S.rf
  obtain ⟨ls, hl, hle⟩ : ∃ ls : Array Slot, lv_has ls 2 [(0, .ref (ad 11 x0)), (1, .ref (ad 4 x1))] ∧ entryFrame m ([.ref (ad 11 x0), .ref (ad 4 x1)] : List Value).toArray 2 = F0 m 0 ls [] := by
    exact ⟨_, lv_entry (n := 2) _ (Nat.le_of_ble_eq_true rfl), lg_entry_eq ..⟩
  rw [hle]
  refine w_cJT_needNoneOpen_J0 (cR := 0) (sR := 0) hfl ⟨hx, hb, hr, hml, hown, hts, hK, hA, hev, hE, hN, hNS⟩ Heq (fun r h => ⟨fun v9 hv9 pc H locs ls hd hP hD hS => ?_, fun t9 ht9 => (by subst h; cases ht9)⟩) _ _ _ hP hD hS (lv_sub hl [0, 1] rfl)
  subst h
  cases hv9
  exact W.vret hx hb hr (fun t ht hW => ⟨⟨(), rfl, trivial, by rw [ht]; exact hP, va_K.moved hW.alike hK, hD⟩, hS.F ht⟩) hS.2.2 hd
set_option maxHeartbeats 4000000 in
theorem g_cJT_needNoneOpen_t (l : Launch) (hfl : l.flags = flags0) (D : va_G) (sz : Nat) {ad : Nat → Nat → Nat} {cc : Nat → ClassId} {sad sav : Nat → Nat} {N : Nat → Nat} {x0 : Nat} {S : CS} {x1 : Nat} {o : CS × Nat} (Heq : m_cJT_needNoneOpen N x0 S x1 = some (.inr o)) : MeT l ⟨"JoinedTrees", "needNoneOpen", "(LJoinedTrees$Replica;)V"⟩ (Cond.code ⟨"JoinedTrees", "needNoneOpen", "(LJoinedTrees$Replica;)V"⟩ prog_1_method_38_code 2 none :: gb) ({ frames := 6, cells := 1, slots := 6, locals := 96 }) (cPc sad sav D (cw ad cc N S) (cty cc) sz [.ref (ad 11 x0), .ref (ad 4 x1)]) (exN o.2) (va_A (cw ad cc N S) sz) (fun H1 => va_P D cls (cw ad cc N o.1) H1) 1 6 := by
  refine MeT.ofW (cc := prog_1_method_38_code) (maxL := 2) (ret := none) (by decide) rfl ?_
  intro p e s m args below meth c s₁ B hml hno hv
  obtain ⟨rfl, hsz, hP, hK, hD0, hev, hE, hN⟩ := hv
  have hx := B.exec
  have hb := B.bytes
  have hr := B.returns
  have hts : ∀ w9 ∈ gb, w9.before [.ref (ad 11 x0), .ref (ad 4 x1)].toArray s = true := fun w9 h => atoms_spec (ws := Cond.code ⟨"JoinedTrees", "needNoneOpen", "(LJoinedTrees$Replica;)V"⟩ prog_1_method_38_code 2 none :: gb) B.pre w9 (List.mem_cons_of_mem _ h)
  have hown : s.vm.findClass "JoinedTrees" = some m.cls := findClass_of_methodNamed B.named
  have hlocks := B.notSynchronized
  have hNS := ns_of hP
  subst hsz
  have hD := hD0.self (sz := s.heap.size)
  generalize hAe : va_A (cw ad cc N S) s.heap.size = A at hD hev hE hNS ⊢
  have hA : ∀ q : Nat, s.heap.size ≤ q → A q := fun q h => by rw [← hAe]; exact Or.inr h
  have hS : va_S A s.heap s.heap [] := va_S.rf
  obtain ⟨ls, hl, hle⟩ : ∃ ls : Array Slot, lv_has ls 2 [(0, .ref (ad 11 x0)), (1, .ref (ad 4 x1))] ∧ entryFrame m ([.ref (ad 11 x0), .ref (ad 4 x1)] : List Value).toArray 2 = F0 m 0 ls [] := by
    exact ⟨_, lv_entry (n := 2) _ (Nat.le_of_ble_eq_true rfl), lg_entry_eq ..⟩
  rw [hle]
  refine w_cJT_needNoneOpen_J0 (cR := 1) (sR := 6) hfl ⟨hx, hb, hr, hml, hown, hts, hK, hA, hev, hE, hN, hNS⟩ Heq (fun r h => ⟨fun v9 hv9 => (by subst h; cases hv9), fun t9 ht9 => ⟨⟨Nat.le_refl _, Nat.le_refl _⟩, fun pc H locs ls hd hsz hP hD hS => ?_, fun pc H locs ls st0 rest9 A9 hr9 hF9 hS => ?_⟩⟩) _ _ _ hP hD hS (lv_sub hl [0, 1] rfl)
  · subst h; cases ht9; exact tx_thr hfl hx hb hno hlocks hown hts hev hN hNS hd (hsz.trans hml.symm) hP hS hA (Nat.le_refl _) (Nat.le_refl _) (Nat.le_of_ble_eq_true rfl) (Nat.le_of_ble_eq_true rfl)
  · subst h; cases ht9; exact tx_on hr9 hno hlocks hS hF9
def m_cJT_send_J24 (N : Nat → Nat) (x0 : Nat) (S : CS) : Option ((CS × Int32) ⊕ (CS × Nat)) := some (.inr (S, 1))
theorem d_cJT_send_0 : decode prog_1_method_13_code 0 = .ok (.aload_n 0, 1) := by decide +kernel
theorem d_cJT_send_1 : decode prog_1_method_13_code 1 = .ok (.iload_n 1, 1) := by decide +kernel
theorem d_cJT_send_2 : decode prog_1_method_13_code 2 = .ok (.invokevirtual 105, 3) := by decide +kernel
theorem d_cJT_send_5 : decode prog_1_method_13_code 5 = .ok (.astore 5, 2) := by decide +kernel
theorem d_cJT_send_7 : decode prog_1_method_13_code 7 = .ok (.aload_n 0, 1) := by decide +kernel
theorem d_cJT_send_8 : decode prog_1_method_13_code 8 = .ok (.iload_n 2, 1) := by decide +kernel
theorem d_cJT_send_9 : decode prog_1_method_13_code 9 = .ok (.invokevirtual 105, 3) := by decide +kernel
theorem d_cJT_send_12 : decode prog_1_method_13_code 12 = .ok (.astore 6, 2) := by decide +kernel
theorem d_cJT_send_14 : decode prog_1_method_13_code 14 = .ok (.iload_n 3, 1) := by decide +kernel
theorem d_cJT_send_15 : decode prog_1_method_13_code 15 = .ok (.ifCond .lt 9, 3) := by decide +kernel
theorem d_cJT_send_24 : decode prog_1_method_13_code 24 = .ok (.new 93, 3) := by decide +kernel
theorem d_cJT_send_27 : decode prog_1_method_13_code 27 = .ok (.dup, 1) := by decide +kernel
theorem d_cJT_send_28 : decode prog_1_method_13_code 28 = .ok (.invokespecial 95, 3) := by decide +kernel
theorem d_cJT_send_31 : decode prog_1_method_13_code 31 = .ok (.athrow, 1) := by decide +kernel
set_option maxHeartbeats 4000000 in
set_option maxRecDepth 100000 in
theorem w_cJT_send_J24 {p : Program} {l : Launch} {e : Env} {s : State} {m : MethodId} {args : Array Value} {below : List Frame} {meth : Method} {c : Code} {A : Nat → Prop} {D : va_G} {ad : Nat → Nat → Nat} {cc : Nat → ClassId} {sad sav : Nat → Nat} {Q : State → Prop} {cR sR : Nat} (hfl : l.flags = flags0) (hC : MCc sad sav "JoinedTrees" prog_1_method_13_code 8 (some .int) p s m args meth c A D cc) {N : Nat → Nat} {x0 : Nat} {S : CS} {o : ((CS × Int32) ⊕ (CS × Nat))} (Heq : m_cJT_send_J24 N x0 S = some o) (Kr : ∀ r : ((CS × Int32) ⊕ (CS × Nat)), o = r → (∀ v9 : CS × Int32, r = .inl v9 → ∀ (pc : Nat) (H : Heap) (locs : List Loc) (ls : Array Slot), decode prog_1_method_13_code pc = .ok (.ireturn, 1) → va_P D cls (cw ad cc N v9.1) H → va_D A (cw ad cc N v9.1) → va_S A s.heap H locs → W p l e ({ frames := 7, cells := cR, slots := sR, locals := 117 }) s m args below meth c H locs 0 0 Q (F0 m pc ls [.int v9.2])) ∧ (∀ t9 : CS × Nat, r = .inr t9 → (1 ≤ cR ∧ 6 ≤ sR) ∧ (∀ (pc : Nat) (H : Heap) (locs : List Loc) (ls : Array Slot), thD prog_1_method_13_code t9.2 pc → ls.size = 8 → va_P D cls (cw ad cc N t9.1) H → va_D A (cw ad cc N t9.1) → va_S A s.heap H locs → W p l e ({ frames := 7, cells := cR, slots := sR, locals := 117 }) s m args below meth c H locs 0 0 Q (F0 m pc ls [])) ∧ (∀ (pc : Nat) (H : Heap) (locs : List Loc) (ls : Array Slot) (st0 rest9 : List Value) (A9 : Nat → Prop), tx_Thr p l e ({ frames := 7, cells := cR, slots := sR, locals := 117 }) s m args below meth c H locs 0 0 1 6 (F0 m pc ls st0) rest9 (exN t9.2) A9 (fun H1 => va_P D cls (cw ad cc N t9.1) H1) → (∀ q, A9 q → A q) → va_S A s.heap H locs → W p l e ({ frames := 7, cells := cR, slots := sR, locals := 117 }) s m args below meth c H locs 0 0 Q (F0 m pc ls st0)))) : ∀ (H : Heap) (locs : List Loc) (ls : Array Slot), va_P D cls (cw ad cc N S) H → va_D A (cw ad cc N S) → va_S A s.heap H locs → lv_has ls 8 [(0, .ref (ad 11 x0))] → W p l e ({ frames := 7, cells := cR, slots := sR, locals := 117 }) s m args below meth c H locs 0 0 Q (F0 m 24 ls []) := by
  intro H locs ls hP hD hS hl
  obtain ⟨hx, hb, hr, hml, hown, hts, hK, hA, hev, hE, hN, hNS⟩ := id hC
  unfold m_cJT_send_J24 at Heq
  exact ((Kr _ (Option.some.inj Heq).symm).2 _ rfl).2.1 24 _ _ _ ⟨⟨show 1 ≤ 1 by decide, show 1 ≤ 5 by decide⟩, d_cJT_send_24, d_cJT_send_27, d_cJT_send_28, d_cJT_send_31⟩ hl.1 hP hD hS
def m_cJT_send_J59 (N : Nat → Nat) (x0 : Nat) (S : CS) : Option ((CS × Int32) ⊕ (CS × Nat)) := some (.inr (S, 3))
theorem d_cJT_send_18 : decode prog_1_method_13_code 18 = .ok (.iload_n 3, 1) := by decide +kernel
theorem d_cJT_send_19 : decode prog_1_method_13_code 19 = .ok (.bipush 8, 2) := by decide +kernel
theorem d_cJT_send_21 : decode prog_1_method_13_code 21 = .ok (.if_icmp .lt 11, 3) := by decide +kernel
theorem d_cJT_send_32 : decode prog_1_method_13_code 32 = .ok (.aload_n 0, 1) := by decide +kernel
theorem d_cJT_send_33 : decode prog_1_method_13_code 33 = .ok (.getfield 12, 3) := by decide +kernel
theorem d_cJT_send_36 : decode prog_1_method_13_code 36 = .ok (.iload_n 3, 1) := by decide +kernel
theorem d_cJT_send_37 : decode prog_1_method_13_code 37 = .ok (.iload 4, 2) := by decide +kernel
theorem d_cJT_send_39 : decode prog_1_method_13_code 39 = .ok (.invokevirtual 245, 3) := by decide +kernel
theorem d_cJT_send_42 : decode prog_1_method_13_code 42 = .ok (.astore 7, 2) := by decide +kernel
theorem d_cJT_send_44 : decode prog_1_method_13_code 44 = .ok (.aload 7, 2) := by decide +kernel
theorem d_cJT_send_46 : decode prog_1_method_13_code 46 = .ok (.ifnull 13, 3) := by decide +kernel
theorem d_cJT_send_59 : decode prog_1_method_13_code 59 = .ok (.new 178, 3) := by decide +kernel
theorem d_cJT_send_62 : decode prog_1_method_13_code 62 = .ok (.dup, 1) := by decide +kernel
theorem d_cJT_send_63 : decode prog_1_method_13_code 63 = .ok (.invokespecial 180, 3) := by decide +kernel
theorem d_cJT_send_66 : decode prog_1_method_13_code 66 = .ok (.athrow, 1) := by decide +kernel
set_option maxHeartbeats 4000000 in
set_option maxRecDepth 100000 in
theorem w_cJT_send_J59 {p : Program} {l : Launch} {e : Env} {s : State} {m : MethodId} {args : Array Value} {below : List Frame} {meth : Method} {c : Code} {A : Nat → Prop} {D : va_G} {ad : Nat → Nat → Nat} {cc : Nat → ClassId} {sad sav : Nat → Nat} {Q : State → Prop} {cR sR : Nat} (hfl : l.flags = flags0) (hC : MCc sad sav "JoinedTrees" prog_1_method_13_code 8 (some .int) p s m args meth c A D cc) {N : Nat → Nat} {x0 : Nat} {S : CS} {o : ((CS × Int32) ⊕ (CS × Nat))} (Heq : m_cJT_send_J59 N x0 S = some o) (Kr : ∀ r : ((CS × Int32) ⊕ (CS × Nat)), o = r → (∀ v9 : CS × Int32, r = .inl v9 → ∀ (pc : Nat) (H : Heap) (locs : List Loc) (ls : Array Slot), decode prog_1_method_13_code pc = .ok (.ireturn, 1) → va_P D cls (cw ad cc N v9.1) H → va_D A (cw ad cc N v9.1) → va_S A s.heap H locs → W p l e ({ frames := 7, cells := cR, slots := sR, locals := 117 }) s m args below meth c H locs 0 0 Q (F0 m pc ls [.int v9.2])) ∧ (∀ t9 : CS × Nat, r = .inr t9 → (1 ≤ cR ∧ 6 ≤ sR) ∧ (∀ (pc : Nat) (H : Heap) (locs : List Loc) (ls : Array Slot), thD prog_1_method_13_code t9.2 pc → ls.size = 8 → va_P D cls (cw ad cc N t9.1) H → va_D A (cw ad cc N t9.1) → va_S A s.heap H locs → W p l e ({ frames := 7, cells := cR, slots := sR, locals := 117 }) s m args below meth c H locs 0 0 Q (F0 m pc ls [])) ∧ (∀ (pc : Nat) (H : Heap) (locs : List Loc) (ls : Array Slot) (st0 rest9 : List Value) (A9 : Nat → Prop), tx_Thr p l e ({ frames := 7, cells := cR, slots := sR, locals := 117 }) s m args below meth c H locs 0 0 1 6 (F0 m pc ls st0) rest9 (exN t9.2) A9 (fun H1 => va_P D cls (cw ad cc N t9.1) H1) → (∀ q, A9 q → A q) → va_S A s.heap H locs → W p l e ({ frames := 7, cells := cR, slots := sR, locals := 117 }) s m args below meth c H locs 0 0 Q (F0 m pc ls st0)))) : ∀ (H : Heap) (locs : List Loc) (ls : Array Slot), va_P D cls (cw ad cc N S) H → va_D A (cw ad cc N S) → va_S A s.heap H locs → lv_has ls 8 [(0, .ref (ad 11 x0))] → W p l e ({ frames := 7, cells := cR, slots := sR, locals := 117 }) s m args below meth c H locs 0 0 Q (F0 m 59 ls []) := by
  intro H locs ls hP hD hS hl
  obtain ⟨hx, hb, hr, hml, hown, hts, hK, hA, hev, hE, hN, hNS⟩ := id hC
  unfold m_cJT_send_J59 at Heq
  exact ((Kr _ (Option.some.inj Heq).symm).2 _ rfl).2.1 59 _ _ _ ⟨⟨show 1 ≤ 3 by decide, show 3 ≤ 5 by decide⟩, d_cJT_send_59, d_cJT_send_62, d_cJT_send_63, d_cJT_send_66⟩ hl.1 hP hD hS
def m_cJT_send_J0 (N : Nat → Nat) (x0 : Nat) (S : CS) (x1 : Int32) (x2 : Int32) (x3 : Int32) (x4 : Int32) : Option ((CS × Int32) ⊕ (CS × Nat)) := gl x0 (N 11) (oe (m_cJT_shown N x0 S x1) (fun o_1 => oe (m_cJT_shown N x0 o_1.1 x2) (fun o_4 => (if x3 < 0 then m_cJT_send_J24 N x0 o_4.1 else (if x3 < 8 then gn (o_4.1.r 11 0 x0) (N 8) (fun j_9 => ob (m_cSt_changeAt N j_9 o_4.1 x3 x4) (fun o_12 => on o_12.2 (m_cJT_send_J59 N x0 o_12.1) (fun j_14 => gl j_14 (N 0) (gn o_1.2 (N 4) (fun j_16 => ob (m_cRp_holds N j_16 o_12.1 j_14) (fun o_19 => (if o_19.2 = 0 then m_cJT_send_J59 N x0 o_19.1 else gn o_4.2 (N 4) (fun j_22 => oe (m_cJT_needNoneOpen N x0 o_19.1 j_22) (fun o_25 => ob (m_cRp_expect N j_22 o_25 j_14) (fun o_28 => gn (o_28.r 11 0 x0) (N 8) (fun j_30 => ob (m_cSt_settle N j_30 o_28 j_22) (fun o_33 => some (.inl (o_33.1, o_33.2)))))) (fun t_27 => some (.inr t_27)))))))))) else m_cJT_send_J24 N x0 o_4.1))) (fun t_6 => some (.inr t_6))) (fun t_3 => some (.inr t_3)))
theorem d_cJT_send_49 : decode prog_1_method_13_code 49 = .ok (.aload 5, 2) := by decide +kernel
theorem d_cJT_send_51 : decode prog_1_method_13_code 51 = .ok (.aload 7, 2) := by decide +kernel
theorem d_cJT_send_53 : decode prog_1_method_13_code 53 = .ok (.invokevirtual 249, 3) := by decide +kernel
theorem d_cJT_send_56 : decode prog_1_method_13_code 56 = .ok (.ifCond .ne 11, 3) := by decide +kernel
theorem d_cJT_send_67 : decode prog_1_method_13_code 67 = .ok (.aload_n 0, 1) := by decide +kernel
theorem d_cJT_send_68 : decode prog_1_method_13_code 68 = .ok (.aload 6, 2) := by decide +kernel
theorem d_cJT_send_70 : decode prog_1_method_13_code 70 = .ok (.invokevirtual 253, 3) := by decide +kernel
theorem d_cJT_send_73 : decode prog_1_method_13_code 73 = .ok (.aload 6, 2) := by decide +kernel
theorem d_cJT_send_75 : decode prog_1_method_13_code 75 = .ok (.aload 7, 2) := by decide +kernel
theorem d_cJT_send_77 : decode prog_1_method_13_code 77 = .ok (.invokevirtual 256, 3) := by decide +kernel
theorem d_cJT_send_80 : decode prog_1_method_13_code 80 = .ok (.aload_n 0, 1) := by decide +kernel
theorem d_cJT_send_81 : decode prog_1_method_13_code 81 = .ok (.getfield 12, 3) := by decide +kernel
theorem d_cJT_send_84 : decode prog_1_method_13_code 84 = .ok (.aload 6, 2) := by decide +kernel
theorem d_cJT_send_86 : decode prog_1_method_13_code 86 = .ok (.invokevirtual 260, 3) := by decide +kernel
theorem d_cJT_send_89 : decode prog_1_method_13_code 89 = .ok (.ireturn, 1) := by decide +kernel
set_option maxHeartbeats 4000000 in
set_option maxRecDepth 100000 in
theorem w_cJT_send_J0 {p : Program} {l : Launch} {e : Env} {s : State} {m : MethodId} {args : Array Value} {below : List Frame} {meth : Method} {c : Code} {A : Nat → Prop} {D : va_G} {ad : Nat → Nat → Nat} {cc : Nat → ClassId} {sad sav : Nat → Nat} {Q : State → Prop} {cR sR : Nat} (hfl : l.flags = flags0) (hC : MCc sad sav "JoinedTrees" prog_1_method_13_code 8 (some .int) p s m args meth c A D cc) {N : Nat → Nat} {x0 : Nat} {S : CS} {x1 : Int32} {x2 : Int32} {x3 : Int32} {x4 : Int32} {o : ((CS × Int32) ⊕ (CS × Nat))} (Heq : m_cJT_send_J0 N x0 S x1 x2 x3 x4 = some o) (Kr : ∀ r : ((CS × Int32) ⊕ (CS × Nat)), o = r → (∀ v9 : CS × Int32, r = .inl v9 → ∀ (pc : Nat) (H : Heap) (locs : List Loc) (ls : Array Slot), decode prog_1_method_13_code pc = .ok (.ireturn, 1) → va_P D cls (cw ad cc N v9.1) H → va_D A (cw ad cc N v9.1) → va_S A s.heap H locs → W p l e ({ frames := 7, cells := cR, slots := sR, locals := 117 }) s m args below meth c H locs 0 0 Q (F0 m pc ls [.int v9.2])) ∧ (∀ t9 : CS × Nat, r = .inr t9 → (1 ≤ cR ∧ 6 ≤ sR) ∧ (∀ (pc : Nat) (H : Heap) (locs : List Loc) (ls : Array Slot), thD prog_1_method_13_code t9.2 pc → ls.size = 8 → va_P D cls (cw ad cc N t9.1) H → va_D A (cw ad cc N t9.1) → va_S A s.heap H locs → W p l e ({ frames := 7, cells := cR, slots := sR, locals := 117 }) s m args below meth c H locs 0 0 Q (F0 m pc ls [])) ∧ (∀ (pc : Nat) (H : Heap) (locs : List Loc) (ls : Array Slot) (st0 rest9 : List Value) (A9 : Nat → Prop), tx_Thr p l e ({ frames := 7, cells := cR, slots := sR, locals := 117 }) s m args below meth c H locs 0 0 1 6 (F0 m pc ls st0) rest9 (exN t9.2) A9 (fun H1 => va_P D cls (cw ad cc N t9.1) H1) → (∀ q, A9 q → A q) → va_S A s.heap H locs → W p l e ({ frames := 7, cells := cR, slots := sR, locals := 117 }) s m args below meth c H locs 0 0 Q (F0 m pc ls st0)))) : ∀ (H : Heap) (locs : List Loc) (ls : Array Slot), va_P D cls (cw ad cc N S) H → va_D A (cw ad cc N S) → va_S A s.heap H locs → lv_has ls 8 [(0, .ref (ad 11 x0)), (1, .int x1), (2, .int x2), (3, .int x3), (4, .int x4)] → W p l e ({ frames := 7, cells := cR, slots := sR, locals := 117 }) s m args below meth c H locs 0 0 Q (F0 m 0 ls []) := by
  intro H locs ls hP hD hS hl
  obtain ⟨hx, hb, hr, hml, hown, hts, hK, hA, hev, hE, hN, hNS⟩ := id hC
  unfold m_cJT_send_J0 at Heq
  refine lv_aload_n hx hb d_cJT_send_0 rfl (lv_at hl 0 rfl) ?_
  refine lv_iload_n hx hb d_cJT_send_1 rfl (lv_at hl 1 rfl) ?_
  obtain ⟨hl_x0_11, Heq⟩ := gl_some Heq
  have hFc := fr_all hD hS hA
  rcases oe_some Heq with ⟨o_1, h_2, Heq⟩ | ⟨t_3, h_2, Heq⟩
  case inr => exact ((Kr _ (Option.some.inj Heq).symm).2 _ rfl).2.2 2 _ _ _ _ _ _ (tx_runV (As := [.int x1]) (rest := []) ⟨hx, hb, hml, hown, hts⟩ (g_cJT_shown_t l hfl D H.size (ad := ad) (cc := cc) (sad := sad) (sav := sav) h_2) (cw_v 1 hts kw_593 kw_590 kw_592 kp_3 kw_1 rfl rfl (by decide +kernel) ⟨Nat.le_of_ble_eq_true rfl, Nat.le_of_ble_eq_true rfl⟩) ⟨c_blind, va_recv hK hP (ci := 11) (q0 := cPos N 11 x0) rfl (cw_obj (k := 11) (by decide) hl_x0_11), fun U hU hW => c_pre hU hW hP hK hD hev hE hN hNS hS hFc⟩ rfl rfl hl.1 rfl (lv_room (Nat.le_of_ble_eq_true rfl)) d_cJT_send_2 ((Kr _ (Option.some.inj Heq).symm).2 _ rfl).1) hFc hS
  refine va_callq (va_runV (As := [.int x1]) (rest := []) ⟨hx, hb, hml, hown, hts⟩ (g_cJT_shown l hfl D H.size (ad := ad) (cc := cc) (sad := sad) (sav := sav) h_2) (cw_v 1 hts kw_593 kw_590 kw_592 kp_3 kw_1 rfl rfl (by decide +kernel) ⟨Nat.le_of_ble_eq_true rfl, Nat.le_of_ble_eq_true rfl⟩) ⟨c_blind, va_recv hK hP (ci := 11) (q0 := cPos N 11 x0) rfl (cw_obj (k := 11) (by decide) hl_x0_11), fun U hU hW => c_pre hU hW hP hK hD hev hE hN hNS hS hFc⟩ rfl rfl hl.1 rfl (lv_room (Nat.le_of_ble_eq_true rfl)) d_cJT_send_2 ⟨Nat.zero_le _, Nat.zero_le _⟩) hS (fun q _ h => hFc q h) hFc (fun rz u t H1 locs ht hvm hw hB hz1 hk1 hS => ?_)
  obtain ⟨hP, -, hD1⟩ := hB
  rw [ht] at hP
  have hD := hD1.weaken (fun _ q _ h => hFc q.1 h)
  generalize H1 = H at hP hS ⊢
  refine W.cs (cells' := 0) (slots' := 0) rfl rfl ?_
  subst hw
  refine w_v (y := rv ad 4 o_1.2) rfl ?_
  refine tx_astore (x := o_1.2.map (ad 4)) (lv' := [(5, rv ad 4 o_1.2), (0, .ref (ad 11 x0)), (1, .int x1), (2, .int x2), (3, .int x3), (4, .int x4)]) hx hb d_cJT_send_5 hl (by decide) rfl (fun ls hl => ?_)
  refine lv_aload_n hx hb d_cJT_send_7 rfl (lv_at hl 1 rfl) ?_
  refine lv_iload_n hx hb d_cJT_send_8 rfl (lv_at hl 3 rfl) ?_
  have hFc := fr_all hD hS hA
  rcases oe_some Heq with ⟨o_4, h_5, Heq⟩ | ⟨t_6, h_5, Heq⟩
  case inr => exact ((Kr _ (Option.some.inj Heq).symm).2 _ rfl).2.2 9 _ _ _ _ _ _ (tx_runV (As := [.int x2]) (rest := []) ⟨hx, hb, hml, hown, hts⟩ (g_cJT_shown_t l hfl D H.size (ad := ad) (cc := cc) (sad := sad) (sav := sav) h_5) (cw_v 1 hts kw_593 kw_590 kw_592 kp_3 kw_1 rfl rfl (by decide +kernel) ⟨Nat.le_of_ble_eq_true rfl, Nat.le_of_ble_eq_true rfl⟩) ⟨c_blind, va_recv hK hP (ci := 11) (q0 := cPos N 11 x0) rfl (cw_obj (k := 11) (by decide) hl_x0_11), fun U hU hW => c_pre hU hW hP hK hD hev hE hN hNS hS hFc⟩ rfl rfl hl.1 rfl (lv_room (Nat.le_of_ble_eq_true rfl)) d_cJT_send_9 ((Kr _ (Option.some.inj Heq).symm).2 _ rfl).1) hFc hS
  refine va_callq (va_runV (As := [.int x2]) (rest := []) ⟨hx, hb, hml, hown, hts⟩ (g_cJT_shown l hfl D H.size (ad := ad) (cc := cc) (sad := sad) (sav := sav) h_5) (cw_v 1 hts kw_593 kw_590 kw_592 kp_3 kw_1 rfl rfl (by decide +kernel) ⟨Nat.le_of_ble_eq_true rfl, Nat.le_of_ble_eq_true rfl⟩) ⟨c_blind, va_recv hK hP (ci := 11) (q0 := cPos N 11 x0) rfl (cw_obj (k := 11) (by decide) hl_x0_11), fun U hU hW => c_pre hU hW hP hK hD hev hE hN hNS hS hFc⟩ rfl rfl hl.1 rfl (lv_room (Nat.le_of_ble_eq_true rfl)) d_cJT_send_9 ⟨Nat.zero_le _, Nat.zero_le _⟩) hS (fun q _ h => hFc q h) hFc (fun rz u t H1 locs ht hvm hw hB hz1 hk1 hS => ?_)
  obtain ⟨hP, -, hD1⟩ := hB
  rw [ht] at hP
  have hD := hD1.weaken (fun _ q _ h => hFc q.1 h)
  generalize H1 = H at hP hS ⊢
  refine W.cs (cells' := 0) (slots' := 0) rfl rfl ?_
  subst hw
  refine w_v (y := rv ad 4 o_4.2) rfl ?_
  refine tx_astore (x := o_4.2.map (ad 4)) (lv' := [(6, rv ad 4 o_4.2), (5, rv ad 4 o_1.2), (0, .ref (ad 11 x0)), (1, .int x1), (2, .int x2), (3, .int x3), (4, .int x4)]) hx hb d_cJT_send_12 hl (by decide) (by simp [rv, rf_cat]) (fun ls hl => ?_)
  refine lv_iload_n hx hb d_cJT_send_14 rfl (lv_at hl 5 rfl) ?_
  refine lv_if_lt (tgt := 24) hx hb d_cJT_send_15 (by decide) (fun c_7 => ?_) (fun c_7 => ?_)
  · replace Heq := (if_pos c_7).symm.trans Heq
    exact w_cJT_send_J24 hfl hC Heq Kr _ _ _ hP hD hS (lv_sub hl [2] rfl)
  · replace Heq := (if_neg c_7).symm.trans Heq
    refine lv_iload_n hx hb d_cJT_send_18 rfl (lv_at hl 5 rfl) ?_
    refine lv_bipush (v := 8) hx hb d_cJT_send_19 (by decide) ?_
    refine lv_icmp_lt (tgt := 32) hx hb d_cJT_send_21 (by decide) (fun c_8 => ?_) (fun c_8 => ?_)
    · replace Heq := (if_pos c_8).symm.trans Heq
      refine lv_aload_n hx hb d_cJT_send_32 rfl (lv_at hl 2 rfl) ?_
      refine va_get (D := D) (ci := 11) (v := rv ad 8 (o_4.1.r 11 0 x0)) (C := R_JT) (T := F_JT) (N := 13) hx hb hts i_JT hown hK hP (cPos N 11 x0) (cw_obj (k := 11) (by decide) hl_x0_11) rfl 0 (by decide) (hts _ kw_421) (fun _ h9 => h9) rfl d_cJT_send_33 ?_
      refine lv_iload_n hx hb d_cJT_send_36 rfl (lv_at hl 5 rfl) ?_
      refine lv_iload hx hb d_cJT_send_37 (lv_at hl 6 rfl) ?_
      obtain ⟨j_9, hj_10, hl_11, Heq⟩ := gn_some Heq
      refine w_s (st' := [.int x4, .int x3, .ref (ad 8 j_9)]) (congrArg (fun z9 : Option Nat => [.int x4, .int x3, rv ad 8 z9]) hj_10) ?_
      obtain ⟨o_12, h_13, Heq⟩ := ob_some Heq
      have hFc := fr_all hD hS hA
      refine va_callq (va_runV (As := [.int x3, .int x4]) (rest := []) ⟨hx, hb, hml, hown, hts⟩ (g_cSt_changeAt l D H.size (ad := ad) (cc := cc) (sad := sad) (sav := sav) h_13) (cw_v 2 hts kw_1079 kw_1076 kw_1077 kw_1078 kw_2 rfl rfl (by decide +kernel) ⟨Nat.le_of_ble_eq_true rfl, Nat.le_of_ble_eq_true rfl⟩) ⟨c_blind, va_recv hK hP (ci := 8) (q0 := cPos N 8 j_9) rfl (cw_obj (k := 8) (by decide) hl_11), fun U hU hW => c_pre hU hW hP hK hD hev hE hN hNS hS hFc⟩ rfl rfl hl.1 rfl (lv_room (Nat.le_of_ble_eq_true rfl)) d_cJT_send_39 ⟨Nat.zero_le _, Nat.zero_le _⟩) hS (fun q _ h => hFc q h) hFc (fun rz u t H1 locs ht hvm hw hB hz1 hk1 hS => ?_)
      obtain ⟨hP, -, hD1⟩ := hB
      rw [ht] at hP
      have hD := hD1.weaken (fun _ q _ h => hFc q.1 h)
      generalize H1 = H at hP hS ⊢
      refine W.cs (cells' := 0) (slots' := 0) rfl rfl ?_
      subst hw
      refine w_v (y := rv ad 0 o_12.2) rfl ?_
      refine tx_astore (x := o_12.2.map (ad 0)) (lv' := [(7, rv ad 0 o_12.2), (6, rv ad 4 o_4.2), (5, rv ad 4 o_1.2), (0, .ref (ad 11 x0)), (1, .int x1), (2, .int x2), (3, .int x3), (4, .int x4)]) hx hb d_cJT_send_42 hl (by decide) (by simp [rv, rf_cat]) (fun ls hl => ?_)
      refine tx_aload (x := o_12.2.map (ad 0)) hx hb d_cJT_send_44 (lv_at hl 0 rfl) ?_
      refine w_v (y := rv ad 0 o_12.2) rfl ?_
      rcases on_some Heq with ⟨hj_15, Heq⟩ | ⟨j_14, hj_15, Heq⟩
      · refine w_s (st' := [.null]) (congrArg (fun z9 : Option Nat => [rv ad 0 z9]) hj_15) ?_
        refine lv_ifnullN (tgt := 59) hx hb d_cJT_send_46 (by decide) ?_
        exact w_cJT_send_J59 hfl hC Heq Kr _ _ _ hP hD hS (lv_sub hl [3] rfl)
      · refine w_s (st' := [.ref (ad 0 j_14)]) (congrArg (fun z9 : Option Nat => [rv ad 0 z9]) hj_15) ?_
        refine lv_ifnull hx hb d_cJT_send_46 ?_
        refine tx_aload (x := o_1.2.map (ad 4)) hx hb d_cJT_send_49 (lv_at hl 2 rfl) ?_
        refine w_v (y := rv ad 4 o_1.2) rfl ?_
        refine tx_aload (x := o_12.2.map (ad 0)) hx hb d_cJT_send_51 (lv_at hl 0 rfl) ?_
        refine w_v (y := rv ad 0 o_12.2) rfl ?_
        refine w_s (st' := [.ref (ad 0 j_14), rv ad 4 o_1.2]) (congrArg (fun z9 : Option Nat => [rv ad 0 z9, rv ad 4 o_1.2]) hj_15) ?_
        obtain ⟨hl_j_14_0, Heq⟩ := gl_some Heq
        obtain ⟨j_16, hj_17, hl_18, Heq⟩ := gn_some Heq
        refine w_s (st' := [.ref (ad 0 j_14), .ref (ad 4 j_16)]) (congrArg (fun z9 : Option Nat => [.ref (ad 0 j_14), rv ad 4 z9]) hj_17) ?_
        obtain ⟨o_19, h_20, Heq⟩ := ob_some Heq
        have hFc := fr_all hD hS hA
        refine va_calli (va_runV (As := [.ref (ad 0 j_14)]) (rest := []) ⟨hx, hb, hml, hown, hts⟩ (g_cRp_holds l D H.size (ad := ad) (cc := cc) (sad := sad) (sav := sav) h_20) (cw_v 1 hts kw_1083 kw_1080 kw_1081 kw_1082 kw_5 rfl rfl (by decide +kernel) ⟨Nat.le_of_ble_eq_true rfl, Nat.le_of_ble_eq_true rfl⟩) ⟨c_blind, va_recv hK hP (ci := 4) (q0 := cPos N 4 j_16) rfl (cw_obj (k := 4) (by decide) hl_18), fun U hU hW => c_pre hU hW hP hK hD hev hE hN hNS hS hFc⟩ rfl rfl hl.1 rfl (lv_room (Nat.le_of_ble_eq_true rfl)) d_cJT_send_53 ⟨Nat.zero_le _, Nat.zero_le _⟩) hS (fun q _ h => hFc q h) hFc (fun rz u t H1 locs ht hvm hw hB hz1 hk1 hS => ?_)
        obtain ⟨hP, -, hD1⟩ := hB
        rw [ht] at hP
        have hD := hD1.weaken (fun _ q _ h => hFc q.1 h)
        generalize H1 = H at hP hS ⊢
        refine W.cs (cells' := 0) (slots' := 0) rfl rfl ?_
        subst hw
        refine lv_if_ne (tgt := 67) hx hb d_cJT_send_56 (by decide) (fun c_21 => ?_) (fun c_21 => ?_)
        · replace Heq := (if_neg c_21).symm.trans Heq
          refine lv_aload_n hx hb d_cJT_send_67 rfl (lv_at hl 3 rfl) ?_
          refine tx_aload (x := o_4.2.map (ad 4)) hx hb d_cJT_send_68 (lv_at hl 1 rfl) ?_
          refine w_v (y := rv ad 4 o_4.2) rfl ?_
          obtain ⟨j_22, hj_23, hl_24, Heq⟩ := gn_some Heq
          refine w_s (st' := [.ref (ad 4 j_22), .ref (ad 11 x0)]) (congrArg (fun z9 : Option Nat => [rv ad 4 z9, .ref (ad 11 x0)]) hj_23) ?_
          have hFc := fr_all hD hS hA
          rcases oe_some Heq with ⟨o_25, h_26, Heq⟩ | ⟨t_27, h_26, Heq⟩
          case inr => exact ((Kr _ (Option.some.inj Heq).symm).2 _ rfl).2.2 70 _ _ _ _ _ _ (tx_runV (As := [.ref (ad 4 j_22)]) (rest := []) ⟨hx, hb, hml, hown, hts⟩ (g_cJT_needNoneOpen_t l hfl D H.size (ad := ad) (cc := cc) (sad := sad) (sav := sav) h_26) (cw_v 1 hts kw_1087 kw_1084 kw_1086 kp_22 kw_1 rfl rfl (by decide +kernel) ⟨Nat.le_of_ble_eq_true rfl, Nat.le_of_ble_eq_true rfl⟩) ⟨c_blind, va_recv hK hP (ci := 11) (q0 := cPos N 11 x0) rfl (cw_obj (k := 11) (by decide) hl_x0_11), fun U hU hW => c_pre hU hW hP hK hD hev hE hN hNS hS hFc⟩ rfl rfl hl.1 rfl (lv_room (Nat.le_of_ble_eq_true rfl)) d_cJT_send_70 ((Kr _ (Option.some.inj Heq).symm).2 _ rfl).1) hFc hS
          refine va_callv (va_runV (As := [.ref (ad 4 j_22)]) (rest := []) ⟨hx, hb, hml, hown, hts⟩ (g_cJT_needNoneOpen l hfl D H.size (ad := ad) (cc := cc) (sad := sad) (sav := sav) h_26) (cw_v 1 hts kw_1087 kw_1084 kw_1086 kp_22 kw_1 rfl rfl (by decide +kernel) ⟨Nat.le_of_ble_eq_true rfl, Nat.le_of_ble_eq_true rfl⟩) ⟨c_blind, va_recv hK hP (ci := 11) (q0 := cPos N 11 x0) rfl (cw_obj (k := 11) (by decide) hl_x0_11), fun U hU hW => c_pre hU hW hP hK hD hev hE hN hNS hS hFc⟩ rfl rfl hl.1 rfl (lv_room (Nat.le_of_ble_eq_true rfl)) d_cJT_send_70 ⟨Nat.zero_le _, Nat.zero_le _⟩) hS (fun q _ h => hFc q h) hFc (fun u t H1 locs ht hvm hw hB hz1 hk1 hS => ?_)
          obtain ⟨hP, -, hD1⟩ := hB
          rw [ht] at hP
          have hD := hD1.weaken (fun _ q _ h => hFc q.1 h)
          generalize H1 = H at hP hS ⊢
          refine W.cs (cells' := 0) (slots' := 0) rfl rfl ?_
          refine tx_aload (x := o_4.2.map (ad 4)) hx hb d_cJT_send_73 (lv_at hl 1 rfl) ?_
          refine w_v (y := rv ad 4 o_4.2) rfl ?_
          refine tx_aload (x := o_12.2.map (ad 0)) hx hb d_cJT_send_75 (lv_at hl 0 rfl) ?_
          refine w_v (y := rv ad 0 o_12.2) rfl ?_
          refine w_s (st' := [.ref (ad 0 j_14), rv ad 4 o_4.2]) (congrArg (fun z9 : Option Nat => [rv ad 0 z9, rv ad 4 o_4.2]) hj_15) ?_
          refine w_s (st' := [.ref (ad 0 j_14), .ref (ad 4 j_22)]) (congrArg (fun z9 : Option Nat => [.ref (ad 0 j_14), rv ad 4 z9]) hj_23) ?_
          obtain ⟨o_28, h_29, Heq⟩ := ob_some Heq
          have hFc := fr_all hD hS hA
          refine va_callv (va_runV (As := [.ref (ad 0 j_14)]) (rest := []) ⟨hx, hb, hml, hown, hts⟩ (g_cRp_expect l D H.size (ad := ad) (cc := cc) (sad := sad) (sav := sav) h_29) (cw_v 1 hts kw_1091 kw_1088 kw_1089 kw_1090 kw_5 rfl rfl (by decide +kernel) ⟨Nat.le_of_ble_eq_true rfl, Nat.le_of_ble_eq_true rfl⟩) ⟨c_blind, va_recv hK hP (ci := 4) (q0 := cPos N 4 j_22) rfl (cw_obj (k := 4) (by decide) hl_24), fun U hU hW => c_pre hU hW hP hK hD hev hE hN hNS hS hFc⟩ rfl rfl hl.1 rfl (lv_room (Nat.le_of_ble_eq_true rfl)) d_cJT_send_77 ⟨Nat.zero_le _, Nat.zero_le _⟩) hS (fun q _ h => hFc q h) hFc (fun u t H1 locs ht hvm hw hB hz1 hk1 hS => ?_)
          obtain ⟨hP, -, hD1⟩ := hB
          rw [ht] at hP
          have hD := hD1.weaken (fun _ q _ h => hFc q.1 h)
          generalize H1 = H at hP hS ⊢
          refine W.cs (cells' := 0) (slots' := 0) rfl rfl ?_
          refine lv_aload_n hx hb d_cJT_send_80 rfl (lv_at hl 3 rfl) ?_
          refine va_get (D := D) (ci := 11) (v := rv ad 8 (o_28.r 11 0 x0)) (C := R_JT) (T := F_JT) (N := 13) hx hb hts i_JT hown hK hP (cPos N 11 x0) (cw_obj (k := 11) (by decide) hl_x0_11) rfl 0 (by decide) (hts _ kw_421) (fun _ h9 => h9) rfl d_cJT_send_81 ?_
          refine tx_aload (x := o_4.2.map (ad 4)) hx hb d_cJT_send_84 (lv_at hl 1 rfl) ?_
          refine w_v (y := rv ad 4 o_4.2) rfl ?_
          refine w_s (st' := [.ref (ad 4 j_22), rv ad 8 (o_28.r 11 0 x0)]) (congrArg (fun z9 : Option Nat => [rv ad 4 z9, rv ad 8 (o_28.r 11 0 x0)]) hj_23) ?_
          obtain ⟨j_30, hj_31, hl_32, Heq⟩ := gn_some Heq
          refine w_s (st' := [.ref (ad 4 j_22), .ref (ad 8 j_30)]) (congrArg (fun z9 : Option Nat => [.ref (ad 4 j_22), rv ad 8 z9]) hj_31) ?_
          obtain ⟨o_33, h_34, Heq⟩ := ob_some Heq
          have hFc := fr_all hD hS hA
          refine va_calli (va_runV (As := [.ref (ad 4 j_22)]) (rest := []) ⟨hx, hb, hml, hown, hts⟩ (g_cSt_settle l D H.size (ad := ad) (cc := cc) (sad := sad) (sav := sav) h_34) (cw_v 1 hts kw_1096 kw_1093 kw_1094 kw_1095 kw_2 rfl rfl (by decide +kernel) ⟨Nat.le_of_ble_eq_true rfl, Nat.le_of_ble_eq_true rfl⟩) ⟨c_blind, va_recv hK hP (ci := 8) (q0 := cPos N 8 j_30) rfl (cw_obj (k := 8) (by decide) hl_32), fun U hU hW => c_pre hU hW hP hK hD hev hE hN hNS hS hFc⟩ rfl rfl hl.1 rfl (lv_room (Nat.le_of_ble_eq_true rfl)) d_cJT_send_86 ⟨Nat.zero_le _, Nat.zero_le _⟩) hS (fun q _ h => hFc q h) hFc (fun rz u t H1 locs ht hvm hw hB hz1 hk1 hS => ?_)
          obtain ⟨hP, -, hD1⟩ := hB
          rw [ht] at hP
          have hD := hD1.weaken (fun _ q _ h => hFc q.1 h)
          generalize H1 = H at hP hS ⊢
          refine W.cs (cells' := 0) (slots' := 0) rfl rfl ?_
          subst hw
          exact (Kr _ (Option.some.inj Heq).symm).1 _ rfl 89 _ _ _ d_cJT_send_89 hP hD hS
        · replace Heq := (if_pos c_21).symm.trans Heq
          exact w_cJT_send_J59 hfl hC Heq Kr _ _ _ hP hD hS (lv_sub hl [3] rfl)
    · replace Heq := (if_neg c_8).symm.trans Heq
      exact w_cJT_send_J24 hfl hC Heq Kr _ _ _ hP hD hS (lv_sub hl [2] rfl)
def m_cJT_send (N : Nat → Nat) (x0 : Nat) (S : CS) (x1 : Int32) (x2 : Int32) (x3 : Int32) (x4 : Int32) : Option ((CS × Int32) ⊕ (CS × Nat)) := m_cJT_send_J0 N x0 S x1 x2 x3 x4
set_option maxHeartbeats 4000000 in
theorem g_cJT_send (l : Launch) (hfl : l.flags = flags0) (D : va_G) (sz : Nat) {ad : Nat → Nat → Nat} {cc : Nat → ClassId} {sad sav : Nat → Nat} {N : Nat → Nat} {x0 : Nat} {S : CS} {x1 : Int32} {x2 : Int32} {x3 : Int32} {x4 : Int32} {o : CS × Int32} (Heq : m_cJT_send N x0 S x1 x2 x3 x4 = some (.inl o)) : Met l ⟨"JoinedTrees", "send", "(IIII)I"⟩ (Cond.code ⟨"JoinedTrees", "send", "(IIII)I"⟩ prog_1_method_13_code 8 (some .int) :: gb) ({ frames := 7, cells := 0, slots := 0, locals := 117 }) (cPc sad sav D (cw ad cc N S) (cty cc) sz [.ref (ad 11 x0), .int x1, .int x2, .int x3, .int x4]) (va_Qi (fun (r : Int32) (_ : Unit) => r = o.2) (fun _ t => gO D (cw ad cc N o.1) (cty cc) (va_A (cw ad cc N S) sz) t) (va_A (cw ad cc N S) sz)) 0 0 (va_A (cw ad cc N S) sz) := by
  refine Met.ofW (cc := prog_1_method_13_code) (maxL := 8) (ret := (some .int)) (by decide) rfl ?_
  intro p e s m args below meth c s₁ B hml hv
  obtain ⟨rfl, hsz, hP, hK, hD0, hev, hE, hN⟩ := hv
  have hx := B.exec
  have hb := B.bytes
  have hr := B.returns
  have hts : ∀ w9 ∈ gb, w9.before [.ref (ad 11 x0), .int x1, .int x2, .int x3, .int x4].toArray s = true := fun w9 h => atoms_spec (ws := Cond.code ⟨"JoinedTrees", "send", "(IIII)I"⟩ prog_1_method_13_code 8 (some .int) :: gb) B.pre w9 (List.mem_cons_of_mem _ h)
  have hown : s.vm.findClass "JoinedTrees" = some m.cls := findClass_of_methodNamed B.named
  have hlocks := B.notSynchronized
  have hNS := ns_of hP
  subst hsz
  have hD := hD0.self (sz := s.heap.size)
  generalize hAe : va_A (cw ad cc N S) s.heap.size = A at hD hev hE hNS ⊢
  have hA : ∀ q : Nat, s.heap.size ≤ q → A q := fun q h => by rw [← hAe]; exact Or.inr h
  have hS : va_S A s.heap s.heap [] := va_S.rf
  obtain ⟨ls, hl, hle⟩ : ∃ ls : Array Slot, lv_has ls 8 [(0, .ref (ad 11 x0)), (1, .int x1), (2, .int x2), (3, .int x3), (4, .int x4)] ∧ entryFrame m ([.ref (ad 11 x0), .int x1, .int x2, .int x3, .int x4] : List Value).toArray 8 = F0 m 0 ls [] := by
    exact ⟨_, lv_entry (n := 8) _ (Nat.le_of_ble_eq_true rfl), lg_entry_eq ..⟩
  rw [hle]
  refine w_cJT_send_J0 (cR := 0) (sR := 0) hfl ⟨hx, hb, hr, hml, hown, hts, hK, hA, hev, hE, hN, hNS⟩ Heq (fun r h => ⟨fun v9 hv9 pc H locs ls hd hP hD hS => ?_, fun t9 ht9 => (by subst h; cases ht9)⟩) _ _ _ hP hD hS (lv_sub hl [0, 1, 2, 3, 4] rfl)
  subst h
  cases hv9
  exact W.iret hx hb hr (fun t ht hW => ⟨⟨_, (), rfl, rfl, by rw [ht]; exact hP, va_K.moved hW.alike hK, hD⟩, hS.F ht⟩) hS.2.2 hd
set_option maxHeartbeats 4000000 in
theorem g_cJT_send_t (l : Launch) (hfl : l.flags = flags0) (D : va_G) (sz : Nat) {ad : Nat → Nat → Nat} {cc : Nat → ClassId} {sad sav : Nat → Nat} {N : Nat → Nat} {x0 : Nat} {S : CS} {x1 : Int32} {x2 : Int32} {x3 : Int32} {x4 : Int32} {o : CS × Nat} (Heq : m_cJT_send N x0 S x1 x2 x3 x4 = some (.inr o)) : MeT l ⟨"JoinedTrees", "send", "(IIII)I"⟩ (Cond.code ⟨"JoinedTrees", "send", "(IIII)I"⟩ prog_1_method_13_code 8 (some .int) :: gb) ({ frames := 7, cells := 1, slots := 6, locals := 117 }) (cPc sad sav D (cw ad cc N S) (cty cc) sz [.ref (ad 11 x0), .int x1, .int x2, .int x3, .int x4]) (exN o.2) (va_A (cw ad cc N S) sz) (fun H1 => va_P D cls (cw ad cc N o.1) H1) 1 6 := by
  refine MeT.ofW (cc := prog_1_method_13_code) (maxL := 8) (ret := (some .int)) (by decide) rfl ?_
  intro p e s m args below meth c s₁ B hml hno hv
  obtain ⟨rfl, hsz, hP, hK, hD0, hev, hE, hN⟩ := hv
  have hx := B.exec
  have hb := B.bytes
  have hr := B.returns
  have hts : ∀ w9 ∈ gb, w9.before [.ref (ad 11 x0), .int x1, .int x2, .int x3, .int x4].toArray s = true := fun w9 h => atoms_spec (ws := Cond.code ⟨"JoinedTrees", "send", "(IIII)I"⟩ prog_1_method_13_code 8 (some .int) :: gb) B.pre w9 (List.mem_cons_of_mem _ h)
  have hown : s.vm.findClass "JoinedTrees" = some m.cls := findClass_of_methodNamed B.named
  have hlocks := B.notSynchronized
  have hNS := ns_of hP
  subst hsz
  have hD := hD0.self (sz := s.heap.size)
  generalize hAe : va_A (cw ad cc N S) s.heap.size = A at hD hev hE hNS ⊢
  have hA : ∀ q : Nat, s.heap.size ≤ q → A q := fun q h => by rw [← hAe]; exact Or.inr h
  have hS : va_S A s.heap s.heap [] := va_S.rf
  obtain ⟨ls, hl, hle⟩ : ∃ ls : Array Slot, lv_has ls 8 [(0, .ref (ad 11 x0)), (1, .int x1), (2, .int x2), (3, .int x3), (4, .int x4)] ∧ entryFrame m ([.ref (ad 11 x0), .int x1, .int x2, .int x3, .int x4] : List Value).toArray 8 = F0 m 0 ls [] := by
    exact ⟨_, lv_entry (n := 8) _ (Nat.le_of_ble_eq_true rfl), lg_entry_eq ..⟩
  rw [hle]
  refine w_cJT_send_J0 (cR := 1) (sR := 6) hfl ⟨hx, hb, hr, hml, hown, hts, hK, hA, hev, hE, hN, hNS⟩ Heq (fun r h => ⟨fun v9 hv9 => (by subst h; cases hv9), fun t9 ht9 => ⟨⟨Nat.le_refl _, Nat.le_refl _⟩, fun pc H locs ls hd hsz hP hD hS => ?_, fun pc H locs ls st0 rest9 A9 hr9 hF9 hS => ?_⟩⟩) _ _ _ hP hD hS (lv_sub hl [0, 1, 2, 3, 4] rfl)
  · subst h; cases ht9; exact tx_thr hfl hx hb hno hlocks hown hts hev hN hNS hd (hsz.trans hml.symm) hP hS hA (Nat.le_refl _) (Nat.le_refl _) (Nat.le_of_ble_eq_true rfl) (Nat.le_of_ble_eq_true rfl)
  · subst h; cases ht9; exact tx_on hr9 hno hlocks hS hF9
