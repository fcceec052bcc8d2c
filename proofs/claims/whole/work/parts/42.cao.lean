def m_cSv_changesTold_J0 (N : Nat → Nat) (x0 : Nat) (S : CS) : Option (CS × Int32) := gl x0 (N 6) (gn (S.r 6 1 x0) (N 5) (fun j_1 => ob (m_cRw_at N j_1 S 0) (fun o_4 => (if 128 ≤ o_4.2 then gn (o_4.1.r 6 1 x0) (N 5) (fun j_7 => ob (m_cRw_at N j_7 o_4.1 1) (fun o_10 => some (o_10.1, (o_4.2 &&& 127) ||| ((if (0 : Int32) < o_10.2 then o_10.2 else 0) <<< ((7 : Int32) &&& 31))))) else some (o_4.1, if (0 : Int32) < o_4.2 then o_4.2 else 0)))))
theorem d_cSv_changesTold_0 : decode prog_8_method_4_code 0 = .ok (.aload_n 0, 1) := by decide +kernel
theorem d_cSv_changesTold_1 : decode prog_8_method_4_code 1 = .ok (.getfield 19, 3) := by decide +kernel
theorem d_cSv_changesTold_4 : decode prog_8_method_4_code 4 = .ok (.iconst 0, 1) := by decide +kernel
theorem d_cSv_changesTold_5 : decode prog_8_method_4_code 5 = .ok (.invokevirtual 84, 3) := by decide +kernel
theorem d_cSv_changesTold_8 : decode prog_8_method_4_code 8 = .ok (.istore_n 1, 1) := by decide +kernel
theorem d_cSv_changesTold_9 : decode prog_8_method_4_code 9 = .ok (.iload_n 1, 1) := by decide +kernel
theorem d_cSv_changesTold_10 : decode prog_8_method_4_code 10 = .ok (.sipush 128, 3) := by decide +kernel
theorem d_cSv_changesTold_13 : decode prog_8_method_4_code 13 = .ok (.if_icmp .ge 9, 3) := by decide +kernel
theorem d_cSv_changesTold_22 : decode prog_8_method_4_code 22 = .ok (.iload_n 1, 1) := by decide +kernel
theorem d_cSv_changesTold_23 : decode prog_8_method_4_code 23 = .ok (.bipush 127, 2) := by decide +kernel
theorem d_cSv_changesTold_25 : decode prog_8_method_4_code 25 = .ok (.iand, 1) := by decide +kernel
theorem d_cSv_changesTold_26 : decode prog_8_method_4_code 26 = .ok (.iconst 0, 1) := by decide +kernel
theorem d_cSv_changesTold_27 : decode prog_8_method_4_code 27 = .ok (.aload_n 0, 1) := by decide +kernel
theorem d_cSv_changesTold_28 : decode prog_8_method_4_code 28 = .ok (.getfield 19, 3) := by decide +kernel
theorem d_cSv_changesTold_31 : decode prog_8_method_4_code 31 = .ok (.iconst 1, 1) := by decide +kernel
theorem d_cSv_changesTold_32 : decode prog_8_method_4_code 32 = .ok (.invokevirtual 84, 3) := by decide +kernel
theorem d_cSv_changesTold_35 : decode prog_8_method_4_code 35 = .ok (.invokestatic 89, 3) := by decide +kernel
theorem d_cSv_changesTold_38 : decode prog_8_method_4_code 38 = .ok (.bipush 7, 2) := by decide +kernel
theorem d_cSv_changesTold_40 : decode prog_8_method_4_code 40 = .ok (.ishl, 1) := by decide +kernel
theorem d_cSv_changesTold_41 : decode prog_8_method_4_code 41 = .ok (.ior, 1) := by decide +kernel
theorem d_cSv_changesTold_42 : decode prog_8_method_4_code 42 = .ok (.ireturn, 1) := by decide +kernel
theorem d_cSv_changesTold_16 : decode prog_8_method_4_code 16 = .ok (.iconst 0, 1) := by decide +kernel
theorem d_cSv_changesTold_17 : decode prog_8_method_4_code 17 = .ok (.iload_n 1, 1) := by decide +kernel
theorem d_cSv_changesTold_18 : decode prog_8_method_4_code 18 = .ok (.invokestatic 89, 3) := by decide +kernel
theorem d_cSv_changesTold_21 : decode prog_8_method_4_code 21 = .ok (.ireturn, 1) := by decide +kernel
set_option maxHeartbeats 4000000 in
set_option maxRecDepth 100000 in
theorem w_cSv_changesTold_J0 {p : Program} {l : Launch} {e : Env} {s : State} {m : MethodId} {args : Array Value} {below : List Frame} {meth : Method} {c : Code} {A : Nat → Prop} {D : va_G} {ad : Nat → Nat → Nat} {cc : Nat → ClassId} {sad sav : Nat → Nat} {Q : State → Prop} (hC : MCc sad sav "JoinedTrees$Saver" prog_8_method_4_code 2 (some .int) p s m args meth c A D cc) {N : Nat → Nat} {x0 : Nat} {S : CS} {o : CS × Int32} (Heq : m_cSv_changesTold_J0 N x0 S = some o) (Kr : ∀ r : CS × Int32, o = r → ∀ (pc : Nat) (H : Heap) (locs : List Loc) (ls : Array Slot), decode prog_8_method_4_code pc = .ok (.ireturn, 1) → va_P D cls (cw ad cc N r.1) H → va_D A (cw ad cc N r.1) → va_S A s.heap H locs → W p l e ({ frames := 1, cells := 0, slots := 0, locals := 24 }) s m args below meth c H locs 0 0 Q (F0 m pc ls [.int r.2])) : ∀ (H : Heap) (locs : List Loc) (ls : Array Slot), va_P D cls (cw ad cc N S) H → va_D A (cw ad cc N S) → va_S A s.heap H locs → lv_has ls 2 [(0, .ref (ad 6 x0))] → W p l e ({ frames := 1, cells := 0, slots := 0, locals := 24 }) s m args below meth c H locs 0 0 Q (F0 m 0 ls []) := by
  intro H locs ls hP hD hS hl
  obtain ⟨hx, hb, hr, hml, hown, hts, hK, hA, hev, hE, hN, hNS⟩ := id hC
  unfold m_cSv_changesTold_J0 at Heq
  refine lv_aload_n hx hb d_cSv_changesTold_0 rfl (lv_at hl 0 rfl) ?_
  obtain ⟨hl_x0_6, Heq⟩ := gl_some Heq
  refine va_get (D := D) (ci := 6) (v := rv ad 5 (S.r 6 1 x0)) (C := R_Sv) (T := F_Sv) (N := 6) hx hb hts i_Sv hown hK hP (cPos N 6 x0) (cw_obj (k := 6) (by decide) hl_x0_6) rfl 1 (by decide) (hts _ kw_402) (fun _ h9 => h9) rfl d_cSv_changesTold_1 ?_
  refine lv_iconst (v := 0) hx hb d_cSv_changesTold_4 (by decide) ?_
  obtain ⟨j_1, hj_2, hl_3, Heq⟩ := gn_some Heq
  refine w_s (st' := [.int 0, .ref (ad 5 j_1)]) (congrArg (fun z9 : Option Nat => [.int 0, rv ad 5 z9]) hj_2) ?_
  obtain ⟨o_4, h_5, Heq⟩ := ob_some Heq
  have hFc := fr_all hD hS hA
  refine va_calli (va_runV (As := [.int 0]) (rest := []) ⟨hx, hb, hml, hown, hts⟩ (g_cRw_at l D H.size (ad := ad) (cc := cc) (sad := sad) (sav := sav) h_5) (cw_v 1 hts kw_689 kw_1290 kw_687 kw_688 kw_4 rfl rfl (by decide +kernel) ⟨Nat.le_of_ble_eq_true rfl, Nat.le_of_ble_eq_true rfl⟩) ⟨c_blind, va_recv hK hP (ci := 5) (q0 := cPos N 5 j_1) rfl (cw_obj (k := 5) (by decide) hl_3), fun U hU hW => c_pre hU hW hP hK hD hev hE hN hNS hS hFc⟩ rfl rfl hl.1 rfl (lv_room (Nat.le_of_ble_eq_true rfl)) d_cSv_changesTold_5 ⟨Nat.le_of_ble_eq_true rfl, Nat.le_of_ble_eq_true rfl⟩) hS (fun q _ h => hFc q h) hFc (fun rz u t H1 locs ht hvm hw hB hz1 hk1 hS => ?_)
  obtain ⟨hP, -, hD1⟩ := hB
  rw [ht] at hP
  have hD := hD1.weaken (fun _ q _ h => hFc q.1 h)
  generalize H1 = H at hP hS ⊢
  refine W.cs (cells' := 0) (slots' := 0) rfl rfl ?_
  subst hw
  refine lv_istore_n (lv' := [(1, .int o_4.2), (0, .ref (ad 6 x0))]) hx hb d_cSv_changesTold_8 rfl hl (by decide) rfl (fun ls hl => ?_)
  refine lv_iload_n hx hb d_cSv_changesTold_9 rfl (lv_at hl 0 rfl) ?_
  refine lv_sipush (v := 128) hx hb d_cSv_changesTold_10 (by decide) ?_
  refine lv_icmp_ge (tgt := 22) hx hb d_cSv_changesTold_13 (by decide) (fun c_6 => ?_) (fun c_6 => ?_)
  · replace Heq := (if_pos c_6).symm.trans Heq
    refine lv_iload_n hx hb d_cSv_changesTold_22 rfl (lv_at hl 0 rfl) ?_
    refine lv_bipush (v := 127) hx hb d_cSv_changesTold_23 (by decide) ?_
    refine lv_iand hx hb d_cSv_changesTold_25 ?_
    refine w_i (y := o_4.2 &&& 127) rfl ?_
    refine lv_iconst (v := 0) hx hb d_cSv_changesTold_26 (by decide) ?_
    refine lv_aload_n hx hb d_cSv_changesTold_27 rfl (lv_at hl 1 rfl) ?_
    refine va_get (D := D) (ci := 6) (v := rv ad 5 (o_4.1.r 6 1 x0)) (C := R_Sv) (T := F_Sv) (N := 6) hx hb hts i_Sv hown hK hP (cPos N 6 x0) (cw_obj (k := 6) (by decide) hl_x0_6) rfl 1 (by decide) (hts _ kw_402) (fun _ h9 => h9) rfl d_cSv_changesTold_28 ?_
    refine lv_iconst (v := 1) hx hb d_cSv_changesTold_31 (by decide) ?_
    obtain ⟨j_7, hj_8, hl_9, Heq⟩ := gn_some Heq
    refine w_s (st' := [.int 1, .ref (ad 5 j_7), .int 0, .int (o_4.2 &&& 127)]) (congrArg (fun z9 : Option Nat => [.int 1, rv ad 5 z9, .int 0, .int (o_4.2 &&& 127)]) hj_8) ?_
    obtain ⟨o_10, h_11, Heq⟩ := ob_some Heq
    have hFc := fr_all hD hS hA
    refine va_calli (va_runV (As := [.int 1]) (rest := [.int 0, .int (o_4.2 &&& 127)]) ⟨hx, hb, hml, hown, hts⟩ (g_cRw_at l D H.size (ad := ad) (cc := cc) (sad := sad) (sav := sav) h_11) (cw_v 1 hts kw_689 kw_1290 kw_687 kw_688 kw_4 rfl rfl (by decide +kernel) ⟨Nat.le_of_ble_eq_true rfl, Nat.le_of_ble_eq_true rfl⟩) ⟨c_blind, va_recv hK hP (ci := 5) (q0 := cPos N 5 j_7) rfl (cw_obj (k := 5) (by decide) hl_9), fun U hU hW => c_pre hU hW hP hK hD hev hE hN hNS hS hFc⟩ rfl rfl hl.1 rfl (lv_room (Nat.le_of_ble_eq_true rfl)) d_cSv_changesTold_32 ⟨Nat.le_of_ble_eq_true rfl, Nat.le_of_ble_eq_true rfl⟩) hS (fun q _ h => hFc q h) hFc (fun rz u t H1 locs ht hvm hw hB hz1 hk1 hS => ?_)
    obtain ⟨hP, -, hD1⟩ := hB
    rw [ht] at hP
    have hD := hD1.weaken (fun _ q _ h => hFc q.1 h)
    generalize H1 = H at hP hS ⊢
    refine W.cs (cells' := 0) (slots' := 0) rfl rfl ?_
    subst hw
    refine va_mmax hx hb (hml.trans hl.1.symm) hown (hts _ kw_1312) (hts _ kw_1102) (hts _ kw_21) (hts _ kw_1103) (Nat.le_of_ble_eq_true rfl) (Nat.le_of_ble_eq_true rfl) (Nat.le_of_ble_eq_true rfl) (Nat.le_of_ble_eq_true rfl) d_cSv_changesTold_35 ?_
    refine lv_bipush (v := 7) hx hb d_cSv_changesTold_38 (by decide) ?_
    refine lv_ishl hx hb d_cSv_changesTold_40 ?_
    refine w_i (y := (if (0 : Int32) < o_10.2 then o_10.2 else 0) <<< ((7 : Int32) &&& 31)) rfl ?_
    refine lv_ior hx hb d_cSv_changesTold_41 ?_
    refine w_i (y := (o_4.2 &&& 127) ||| ((if (0 : Int32) < o_10.2 then o_10.2 else 0) <<< ((7 : Int32) &&& 31))) rfl ?_
    exact Kr _ (Option.some.inj Heq).symm 42 _ _ _ d_cSv_changesTold_42 hP hD hS
  · replace Heq := (if_neg c_6).symm.trans Heq
    refine lv_iconst (v := 0) hx hb d_cSv_changesTold_16 (by decide) ?_
    refine lv_iload_n hx hb d_cSv_changesTold_17 rfl (lv_at hl 0 rfl) ?_
    refine va_mmax hx hb (hml.trans hl.1.symm) hown (hts _ kw_1312) (hts _ kw_1102) (hts _ kw_21) (hts _ kw_1103) (Nat.le_of_ble_eq_true rfl) (Nat.le_of_ble_eq_true rfl) (Nat.le_of_ble_eq_true rfl) (Nat.le_of_ble_eq_true rfl) d_cSv_changesTold_18 ?_
    exact Kr _ (Option.some.inj Heq).symm 21 _ _ _ d_cSv_changesTold_21 hP hD hS
def m_cSv_changesTold (N : Nat → Nat) (x0 : Nat) (S : CS) : Option (CS × Int32) := m_cSv_changesTold_J0 N x0 S
set_option maxHeartbeats 4000000 in
theorem g_cSv_changesTold (l : Launch) (D : va_G) (sz : Nat) {ad : Nat → Nat → Nat} {cc : Nat → ClassId} {sad sav : Nat → Nat} {N : Nat → Nat} {x0 : Nat} {S : CS} {o : CS × Int32} (Heq : m_cSv_changesTold N x0 S = some o) : Met l ⟨"JoinedTrees$Saver", "changesTold", "()I"⟩ (Cond.code ⟨"JoinedTrees$Saver", "changesTold", "()I"⟩ prog_8_method_4_code 2 (some .int) :: gb) ({ frames := 1, cells := 0, slots := 0, locals := 24 }) (cPc sad sav D (cw ad cc N S) (cty cc) sz [.ref (ad 6 x0)]) (va_Qi (fun (r : Int32) (_ : Unit) => r = o.2) (fun _ t => gO D (cw ad cc N o.1) (cty cc) (va_A (cw ad cc N S) sz) t) (va_A (cw ad cc N S) sz)) 0 0 (va_A (cw ad cc N S) sz) := by
  refine Met.ofW (cc := prog_8_method_4_code) (maxL := 2) (ret := (some .int)) (by decide) rfl ?_
  intro p e s m args below meth c s₁ B hml hv
  obtain ⟨rfl, hsz, hP, hK, hD0, hev, hE, hN⟩ := hv
  have hx := B.exec
  have hb := B.bytes
  have hr := B.returns
  have hts : ∀ w9 ∈ gb, w9.before [.ref (ad 6 x0)].toArray s = true := fun w9 h => atoms_spec (ws := Cond.code ⟨"JoinedTrees$Saver", "changesTold", "()I"⟩ prog_8_method_4_code 2 (some .int) :: gb) B.pre w9 (List.mem_cons_of_mem _ h)
  have hown : s.vm.findClass "JoinedTrees$Saver" = some m.cls := findClass_of_methodNamed B.named
  have hlocks := B.notSynchronized
  have hNS := ns_of hP
  subst hsz
  have hD := hD0.self (sz := s.heap.size)
  generalize hAe : va_A (cw ad cc N S) s.heap.size = A at hD hev hE hNS ⊢
  have hA : ∀ q : Nat, s.heap.size ≤ q → A q := fun q h => by rw [← hAe]; exact Or.inr h
  have hS : va_S A s.heap s.heap [] := va_S.rf
  obtain ⟨ls, hl, hle⟩ : ∃ ls : Array Slot, lv_has ls 2 [(0, .ref (ad 6 x0))] ∧ entryFrame m ([.ref (ad 6 x0)] : List Value).toArray 2 = F0 m 0 ls [] := by
    exact ⟨_, lv_entry (n := 2) _ (Nat.le_of_ble_eq_true rfl), lg_entry_eq ..⟩
  rw [hle]
  refine w_cSv_changesTold_J0 ⟨hx, hb, hr, hml, hown, hts, hK, hA, hev, hE, hN, hNS⟩ Heq (fun r h pc H locs ls hd hP hD hS => ?_) _ _ _ hP hD hS (lv_sub hl [0] rfl)
  subst h
  exact W.iret hx hb hr (fun t ht hW => ⟨⟨_, (), rfl, rfl, by rw [ht]; exact hP, va_K.moved hW.alike hK, hD⟩, hS.F ht⟩) hS.2.2 hd
def m_cSv_isRight_J119 (N : Nat → Nat) (x0 : Nat) (S : CS) (x1 : Int32) (x2 : Int32) (x3 : Int32) : Option ((CS × Int32 × Int32 × Int32) ⊕ (CS × Int32 × Int32)) := some (.inl (S, x1, x2, (x3 + 1)))
theorem d_cSv_isRight_0 : decode prog_8_method_3_code 0 = .ok (.aload_n 0, 1) := by decide +kernel
theorem d_cSv_isRight_1 : decode prog_8_method_3_code 1 = .ok (.iconst 1, 1) := by decide +kernel
theorem d_cSv_isRight_2 : decode prog_8_method_3_code 2 = .ok (.putfield 23, 3) := by decide +kernel
theorem d_cSv_isRight_5 : decode prog_8_method_3_code 5 = .ok (.aload_n 0, 1) := by decide +kernel
theorem d_cSv_isRight_6 : decode prog_8_method_3_code 6 = .ok (.iconst 0, 1) := by decide +kernel
theorem d_cSv_isRight_7 : decode prog_8_method_3_code 7 = .ok (.putfield 74, 3) := by decide +kernel
theorem d_cSv_isRight_10 : decode prog_8_method_3_code 10 = .ok (.aload_n 0, 1) := by decide +kernel
theorem d_cSv_isRight_11 : decode prog_8_method_3_code 11 = .ok (.iconst 0, 1) := by decide +kernel
theorem d_cSv_isRight_12 : decode prog_8_method_3_code 12 = .ok (.putfield 77, 3) := by decide +kernel
theorem d_cSv_isRight_15 : decode prog_8_method_3_code 15 = .ok (.aload_n 0, 1) := by decide +kernel
theorem d_cSv_isRight_16 : decode prog_8_method_3_code 16 = .ok (.invokevirtual 80, 3) := by decide +kernel
theorem d_cSv_isRight_19 : decode prog_8_method_3_code 19 = .ok (.istore_n 1, 1) := by decide +kernel
theorem d_cSv_isRight_20 : decode prog_8_method_3_code 20 = .ok (.aload_n 0, 1) := by decide +kernel
theorem d_cSv_isRight_21 : decode prog_8_method_3_code 21 = .ok (.iload_n 1, 1) := by decide +kernel
theorem d_cSv_isRight_22 : decode prog_8_method_3_code 22 = .ok (.i2l, 1) := by decide +kernel
theorem d_cSv_isRight_23 : decode prog_8_method_3_code 23 = .ok (.invokevirtual 38, 3) := by decide +kernel
theorem d_cSv_isRight_26 : decode prog_8_method_3_code 26 = .ok (.iconst 0, 1) := by decide +kernel
theorem d_cSv_isRight_27 : decode prog_8_method_3_code 27 = .ok (.istore_n 2, 1) := by decide +kernel
theorem d_cSv_isRight_28 : decode prog_8_method_3_code 28 = .ok (.iload_n 2, 1) := by decide +kernel
theorem d_cSv_isRight_29 : decode prog_8_method_3_code 29 = .ok (.bipush 8, 2) := by decide +kernel
theorem d_cSv_isRight_31 : decode prog_8_method_3_code 31 = .ok (.if_icmp .ge 100, 3) := by decide +kernel
theorem d_cSv_isRight_34 : decode prog_8_method_3_code 34 = .ok (.aload_n 0, 1) := by decide +kernel
theorem d_cSv_isRight_35 : decode prog_8_method_3_code 35 = .ok (.getfield 9, 3) := by decide +kernel
theorem d_cSv_isRight_38 : decode prog_8_method_3_code 38 = .ok (.iload_n 2, 1) := by decide +kernel
theorem d_cSv_isRight_39 : decode prog_8_method_3_code 39 = .ok (.iconst 0, 1) := by decide +kernel
theorem d_cSv_isRight_40 : decode prog_8_method_3_code 40 = .ok (.iastore, 1) := by decide +kernel
theorem d_cSv_isRight_41 : decode prog_8_method_3_code 41 = .ok (.iconst 0, 1) := by decide +kernel
theorem d_cSv_isRight_42 : decode prog_8_method_3_code 42 = .ok (.istore_n 3, 1) := by decide +kernel
theorem d_cSv_isRight_43 : decode prog_8_method_3_code 43 = .ok (.iload_n 3, 1) := by decide +kernel
theorem d_cSv_isRight_44 : decode prog_8_method_3_code 44 = .ok (.aload_n 0, 1) := by decide +kernel
theorem d_cSv_isRight_45 : decode prog_8_method_3_code 45 = .ok (.getfield 15, 3) := by decide +kernel
theorem d_cSv_isRight_48 : decode prog_8_method_3_code 48 = .ok (.getfield 42, 3) := by decide +kernel
theorem d_cSv_isRight_51 : decode prog_8_method_3_code 51 = .ok (.if_icmp .ge 74, 3) := by decide +kernel
theorem d_cSv_isRight_54 : decode prog_8_method_3_code 54 = .ok (.aload_n 0, 1) := by decide +kernel
theorem d_cSv_isRight_55 : decode prog_8_method_3_code 55 = .ok (.getfield 74, 3) := by decide +kernel
theorem d_cSv_isRight_58 : decode prog_8_method_3_code 58 = .ok (.ifCond .ne 67, 3) := by decide +kernel
theorem d_cSv_isRight_61 : decode prog_8_method_3_code 61 = .ok (.iload_n 1, 1) := by decide +kernel
theorem d_cSv_isRight_62 : decode prog_8_method_3_code 62 = .ok (.ifCond .le 63, 3) := by decide +kernel
theorem d_cSv_isRight_65 : decode prog_8_method_3_code 65 = .ok (.aload_n 0, 1) := by decide +kernel
theorem d_cSv_isRight_66 : decode prog_8_method_3_code 66 = .ok (.getfield 15, 3) := by decide +kernel
theorem d_cSv_isRight_69 : decode prog_8_method_3_code 69 = .ok (.getfield 47, 3) := by decide +kernel
theorem d_cSv_isRight_72 : decode prog_8_method_3_code 72 = .ok (.iload_n 3, 1) := by decide +kernel
theorem d_cSv_isRight_73 : decode prog_8_method_3_code 73 = .ok (.aaload, 1) := by decide +kernel
theorem d_cSv_isRight_74 : decode prog_8_method_3_code 74 = .ok (.astore 4, 2) := by decide +kernel
theorem d_cSv_isRight_76 : decode prog_8_method_3_code 76 = .ok (.aload 4, 2) := by decide +kernel
theorem d_cSv_isRight_78 : decode prog_8_method_3_code 78 = .ok (.getfield 50, 3) := by decide +kernel
theorem d_cSv_isRight_81 : decode prog_8_method_3_code 81 = .ok (.iload_n 2, 1) := by decide +kernel
theorem d_cSv_isRight_82 : decode prog_8_method_3_code 82 = .ok (.if_icmp .ne 37, 3) := by decide +kernel
theorem d_cSv_isRight_119 : decode prog_8_method_3_code 119 = .ok (.iinc 3 1, 3) := by decide +kernel
theorem d_cSv_isRight_122 : decode prog_8_method_3_code 122 = .ok (.goto (-79), 3) := by decide +kernel
set_option maxHeartbeats 4000000 in
set_option maxRecDepth 100000 in
theorem w_cSv_isRight_J119 {p : Program} {l : Launch} {e : Env} {s : State} {m : MethodId} {args : Array Value} {below : List Frame} {meth : Method} {c : Code} {A : Nat → Prop} {D : va_G} {ad : Nat → Nat → Nat} {cc : Nat → ClassId} {sad sav : Nat → Nat} {Q : State → Prop} (hC : MCc sad sav "JoinedTrees$Saver" prog_8_method_3_code 5 (some .boolean) p s m args meth c A D cc) {N : Nat → Nat} {x0 : Nat} {S : CS} {x1 : Int32} {x2 : Int32} {x3 : Int32} {o : ((CS × Int32 × Int32 × Int32) ⊕ (CS × Int32 × Int32))} (Heq : m_cSv_isRight_J119 N x0 S x1 x2 x3 = some o) (Ka : ∀ b : CS × Int32 × Int32 × Int32, o = .inl b → ∀ (H : Heap) (locs : List Loc) (ls : Array Slot), va_P D cls (cw ad cc N b.1) H → va_D A (cw ad cc N b.1) → va_S A s.heap H locs → lv_has ls 5 [(0, .ref (ad 6 x0)), (1, .int b.2.1), (2, .int b.2.2.1), (3, .int b.2.2.2)] → W p l e ({ frames := 5, cells := 0, slots := 0, locals := 113 }) s m args below meth c H locs 0 0 Q (F0 m 43 ls [])) (K0 : ∀ b : CS × Int32 × Int32, o = .inr b → ∀ (H : Heap) (locs : List Loc) (ls : Array Slot), va_P D cls (cw ad cc N b.1) H → va_D A (cw ad cc N b.1) → va_S A s.heap H locs → lv_has ls 5 [(0, .ref (ad 6 x0)), (1, .int b.2.1), (2, .int b.2.2)] → W p l e ({ frames := 5, cells := 0, slots := 0, locals := 113 }) s m args below meth c H locs 0 0 Q (F0 m 125 ls [])) : ∀ (H : Heap) (locs : List Loc) (ls : Array Slot), va_P D cls (cw ad cc N S) H → va_D A (cw ad cc N S) → va_S A s.heap H locs → lv_has ls 5 [(0, .ref (ad 6 x0)), (1, .int x1), (2, .int x2), (3, .int x3)] → W p l e ({ frames := 5, cells := 0, slots := 0, locals := 113 }) s m args below meth c H locs 0 0 Q (F0 m 119 ls []) := by
  intro H locs ls hP hD hS hl
  obtain ⟨hx, hb, hr, hml, hown, hts, hK, hA, hev, hE, hN, hNS⟩ := id hC
  unfold m_cSv_isRight_J119 at Heq
  refine lv_iinc (v := x3 + 1) (lv' := [(3, .int (x3 + 1)), (0, .ref (ad 6 x0)), (1, .int x1), (2, .int x2)]) hx hb d_cSv_isRight_119 hl (k := 3) rfl rfl (by decide) rfl (fun ls hl => ?_)
  refine lv_goto (tgt := 43) hx hb d_cSv_isRight_122 (by decide) ?_
  exact Ka _ (Option.some.inj Heq).symm _ _ _ hP hD hS (lv_sub hl [1, 2, 3, 0] rfl)
def m_cSv_isRight_B43 (N : Nat → Nat) (x0 : Nat) (S : CS) (x1 : Int32) (x2 : Int32) (x3 : Int32) : Option ((CS × Int32 × Int32 × Int32) ⊕ (CS × Int32 × Int32)) := gl x0 (N 6) (gn (S.r 6 0 x0) (N 8) (fun j_1 => (if S.i 8 4 j_1 ≤ x3 then some (.inr (S, x1, x2)) else (if S.i 6 4 x0 = 0 then (if x1 ≤ 0 then some (.inr (S, x1, x2)) else gn (S.r 8 3 j_1) (N 16) (fun j_7 => gd x3 (S.z 16 j_7) (gn (S.q 16 j_7 x3.toNatClampNeg) (N 0) (fun j_11 => (if S.i 0 0 j_11 = x2 then gn (S.r 6 1 x0) (N 5) (fun j_15 => ob (m_cRw_at N j_15 S (S.i 6 5 x0)) (fun o_18 => (if o_18.2 = x2 then ob (m_cSv_emitChange N x0 o_18.1 j_11) (fun o_21 => gn (o_21.r 6 2 x0) (N 12) (fun j_23 => gd x2 (o_21.z 12 j_23) (gd x2 (o_21.z 12 j_23) (m_cSv_isRight_J119 N x0 (o_21.setA 12 j_23 x2.toNatClampNeg ((o_21.a 12 j_23 x2.toNatClampNeg) + 1)) (x1 + (-1)) x2 x3)))) else m_cSv_isRight_J119 N x0 o_18.1 x1 x2 x3))) else m_cSv_isRight_J119 N x0 S x1 x2 x3))))) else some (.inr (S, x1, x2))))))
theorem d_cSv_isRight_85 : decode prog_8_method_3_code 85 = .ok (.aload_n 0, 1) := by decide +kernel
theorem d_cSv_isRight_86 : decode prog_8_method_3_code 86 = .ok (.getfield 19, 3) := by decide +kernel
theorem d_cSv_isRight_89 : decode prog_8_method_3_code 89 = .ok (.aload_n 0, 1) := by decide +kernel
theorem d_cSv_isRight_90 : decode prog_8_method_3_code 90 = .ok (.getfield 77, 3) := by decide +kernel
theorem d_cSv_isRight_93 : decode prog_8_method_3_code 93 = .ok (.invokevirtual 84, 3) := by decide +kernel
theorem d_cSv_isRight_96 : decode prog_8_method_3_code 96 = .ok (.iload_n 2, 1) := by decide +kernel
theorem d_cSv_isRight_97 : decode prog_8_method_3_code 97 = .ok (.if_icmp .ne 22, 3) := by decide +kernel
theorem d_cSv_isRight_100 : decode prog_8_method_3_code 100 = .ok (.aload_n 0, 1) := by decide +kernel
theorem d_cSv_isRight_101 : decode prog_8_method_3_code 101 = .ok (.aload 4, 2) := by decide +kernel
theorem d_cSv_isRight_103 : decode prog_8_method_3_code 103 = .ok (.invokevirtual 59, 3) := by decide +kernel
theorem d_cSv_isRight_106 : decode prog_8_method_3_code 106 = .ok (.aload_n 0, 1) := by decide +kernel
theorem d_cSv_isRight_107 : decode prog_8_method_3_code 107 = .ok (.getfield 9, 3) := by decide +kernel
theorem d_cSv_isRight_110 : decode prog_8_method_3_code 110 = .ok (.iload_n 2, 1) := by decide +kernel
theorem d_cSv_isRight_111 : decode prog_8_method_3_code 111 = .ok (.dup2, 1) := by decide +kernel
theorem d_cSv_isRight_112 : decode prog_8_method_3_code 112 = .ok (.iaload, 1) := by decide +kernel
theorem d_cSv_isRight_113 : decode prog_8_method_3_code 113 = .ok (.iconst 1, 1) := by decide +kernel
theorem d_cSv_isRight_114 : decode prog_8_method_3_code 114 = .ok (.iadd, 1) := by decide +kernel
theorem d_cSv_isRight_115 : decode prog_8_method_3_code 115 = .ok (.iastore, 1) := by decide +kernel
theorem d_cSv_isRight_116 : decode prog_8_method_3_code 116 = .ok (.iinc 1 (-1), 3) := by decide +kernel
set_option maxHeartbeats 4000000 in
set_option maxRecDepth 100000 in
theorem w_cSv_isRight_B43 {p : Program} {l : Launch} {e : Env} {s : State} {m : MethodId} {args : Array Value} {below : List Frame} {meth : Method} {c : Code} {A : Nat → Prop} {D : va_G} {ad : Nat → Nat → Nat} {cc : Nat → ClassId} {sad sav : Nat → Nat} {Q : State → Prop} (hC : MCc sad sav "JoinedTrees$Saver" prog_8_method_3_code 5 (some .boolean) p s m args meth c A D cc) {N : Nat → Nat} {x0 : Nat} {S : CS} {x1 : Int32} {x2 : Int32} {x3 : Int32} {o : ((CS × Int32 × Int32 × Int32) ⊕ (CS × Int32 × Int32))} (Heq : m_cSv_isRight_B43 N x0 S x1 x2 x3 = some o) (Ka : ∀ b : CS × Int32 × Int32 × Int32, o = .inl b → ∀ (H : Heap) (locs : List Loc) (ls : Array Slot), va_P D cls (cw ad cc N b.1) H → va_D A (cw ad cc N b.1) → va_S A s.heap H locs → lv_has ls 5 [(0, .ref (ad 6 x0)), (1, .int b.2.1), (2, .int b.2.2.1), (3, .int b.2.2.2)] → W p l e ({ frames := 5, cells := 0, slots := 0, locals := 113 }) s m args below meth c H locs 0 0 Q (F0 m 43 ls [])) (K0 : ∀ b : CS × Int32 × Int32, o = .inr b → ∀ (H : Heap) (locs : List Loc) (ls : Array Slot), va_P D cls (cw ad cc N b.1) H → va_D A (cw ad cc N b.1) → va_S A s.heap H locs → lv_has ls 5 [(0, .ref (ad 6 x0)), (1, .int b.2.1), (2, .int b.2.2)] → W p l e ({ frames := 5, cells := 0, slots := 0, locals := 113 }) s m args below meth c H locs 0 0 Q (F0 m 125 ls [])) : ∀ (H : Heap) (locs : List Loc) (ls : Array Slot), va_P D cls (cw ad cc N S) H → va_D A (cw ad cc N S) → va_S A s.heap H locs → lv_has ls 5 [(0, .ref (ad 6 x0)), (1, .int x1), (2, .int x2), (3, .int x3)] → W p l e ({ frames := 5, cells := 0, slots := 0, locals := 113 }) s m args below meth c H locs 0 0 Q (F0 m 43 ls []) := by
  intro H locs ls hP hD hS hl
  obtain ⟨hx, hb, hr, hml, hown, hts, hK, hA, hev, hE, hN, hNS⟩ := id hC
  unfold m_cSv_isRight_B43 at Heq
  refine lv_iload_n hx hb d_cSv_isRight_43 rfl (lv_at hl 3 rfl) ?_
  refine lv_aload_n hx hb d_cSv_isRight_44 rfl (lv_at hl 0 rfl) ?_
  obtain ⟨hl_x0_6, Heq⟩ := gl_some Heq
  refine va_get (D := D) (ci := 6) (v := rv ad 8 (S.r 6 0 x0)) (C := R_Sv) (T := F_Sv) (N := 6) hx hb hts i_Sv hown hK hP (cPos N 6 x0) (cw_obj (k := 6) (by decide) hl_x0_6) rfl 0 (by decide) (hts _ kw_401) (fun _ h9 => h9) rfl d_cSv_isRight_45 ?_
  obtain ⟨j_1, hj_2, hl_3, Heq⟩ := gn_some Heq
  refine w_s (st' := [.ref (ad 8 j_1), .int x3]) (congrArg (fun z9 : Option Nat => [rv ad 8 z9, .int x3]) hj_2) ?_
  refine va_get (D := D) (ci := 8) (v := .int (S.i 8 4 j_1)) (C := R_St) (T := F_St) (N := 6) hx hb hts i_St hown hK hP (cPos N 8 j_1) (cw_obj (k := 8) (by decide) hl_3) rfl 4 (by decide) (hts _ kw_174) (fun _ h9 => h9) rfl d_cSv_isRight_48 ?_
  refine lv_icmp_ge (tgt := 125) hx hb d_cSv_isRight_51 (by decide) (fun c_4 => ?_) (fun c_4 => ?_)
  · replace Heq := (if_pos c_4).symm.trans Heq
    exact K0 _ (Option.some.inj Heq).symm _ _ _ hP hD hS (lv_sub hl [0, 1, 2] rfl)
  · replace Heq := (if_neg c_4).symm.trans Heq
    refine lv_aload_n hx hb d_cSv_isRight_54 rfl (lv_at hl 0 rfl) ?_
    refine va_get (D := D) (ci := 6) (v := .int (S.i 6 4 x0)) (C := R_Sv) (T := F_Sv) (N := 6) hx hb hts i_Sv hown hK hP (cPos N 6 x0) (cw_obj (k := 6) (by decide) hl_x0_6) rfl 4 (by decide) (hts _ kw_406) (fun _ h9 => h9) rfl d_cSv_isRight_55 ?_
    refine lv_if_ne (tgt := 125) hx hb d_cSv_isRight_58 (by decide) (fun c_5 => ?_) (fun c_5 => ?_)
    · replace Heq := (if_neg c_5).symm.trans Heq
      exact K0 _ (Option.some.inj Heq).symm _ _ _ hP hD hS (lv_sub hl [0, 1, 2] rfl)
    · replace Heq := (if_pos c_5).symm.trans Heq
      refine lv_iload_n hx hb d_cSv_isRight_61 rfl (lv_at hl 1 rfl) ?_
      refine lv_if_le (tgt := 125) hx hb d_cSv_isRight_62 (by decide) (fun c_6 => ?_) (fun c_6 => ?_)
      · replace Heq := (if_pos c_6).symm.trans Heq
        exact K0 _ (Option.some.inj Heq).symm _ _ _ hP hD hS (lv_sub hl [0, 1, 2] rfl)
      · replace Heq := (if_neg c_6).symm.trans Heq
        refine lv_aload_n hx hb d_cSv_isRight_65 rfl (lv_at hl 0 rfl) ?_
        refine va_get (D := D) (ci := 6) (v := rv ad 8 (S.r 6 0 x0)) (C := R_Sv) (T := F_Sv) (N := 6) hx hb hts i_Sv hown hK hP (cPos N 6 x0) (cw_obj (k := 6) (by decide) hl_x0_6) rfl 0 (by decide) (hts _ kw_401) (fun _ h9 => h9) rfl d_cSv_isRight_66 ?_
        refine w_s (st' := [.ref (ad 8 j_1)]) (congrArg (fun z9 : Option Nat => [rv ad 8 z9]) hj_2) ?_
        refine va_get (D := D) (ci := 8) (v := rv ad 16 (S.r 8 3 j_1)) (C := R_St) (T := F_St) (N := 6) hx hb hts i_St hown hK hP (cPos N 8 j_1) (cw_obj (k := 8) (by decide) hl_3) rfl 3 (by decide) (hts _ kw_172) (fun _ h9 => h9) rfl d_cSv_isRight_69 ?_
        refine lv_iload_n hx hb d_cSv_isRight_72 rfl (lv_at hl 3 rfl) ?_
        obtain ⟨j_7, hj_8, hl_9, Heq⟩ := gn_some Heq
        refine w_s (st' := [.int x3, .ref (ad 16 j_7)]) (congrArg (fun z9 : Option Nat => [.int x3, rv ad 16 z9]) hj_8) ?_
        obtain ⟨hi_10, Heq⟩ := gd_some Heq
        refine va_aldq hx hb hK hP (cPos N 16 j_7) 4 (cw_refs (k := 16) (by decide) hl_9) rfl (i := x3) hi_10 d_cSv_isRight_73 ?_
        refine w_v (y := rv ad 0 (S.q 16 j_7 x3.toNatClampNeg)) (congrArg (rv ad 0) rfl) ?_
        refine tx_astore (x := (S.q 16 j_7 x3.toNatClampNeg).map (ad 0)) (lv' := [(4, rv ad 0 (S.q 16 j_7 x3.toNatClampNeg)), (0, .ref (ad 6 x0)), (1, .int x1), (2, .int x2), (3, .int x3)]) hx hb d_cSv_isRight_74 hl (by decide) rfl (fun ls hl => ?_)
        refine tx_aload (x := (S.q 16 j_7 x3.toNatClampNeg).map (ad 0)) hx hb d_cSv_isRight_76 (lv_at hl 0 rfl) ?_
        refine w_v (y := rv ad 0 (S.q 16 j_7 x3.toNatClampNeg)) rfl ?_
        obtain ⟨j_11, hj_12, hl_13, Heq⟩ := gn_some Heq
        refine w_s (st' := [.ref (ad 0 j_11)]) (congrArg (fun z9 : Option Nat => [rv ad 0 z9]) hj_12) ?_
        refine va_get (D := D) (ci := 0) (v := .int (S.i 0 0 j_11)) (C := R_Ch) (T := F_Ch) (N := 7) hx hb hts i_Ch hown hK hP (cPos N 0 j_11) (cw_obj (k := 0) (by decide) hl_13) rfl 0 (by decide) (hts _ kw_1010) (fun _ h9 => h9) rfl d_cSv_isRight_78 ?_
        refine lv_iload_n hx hb d_cSv_isRight_81 rfl (lv_at hl 3 rfl) ?_
        refine lv_icmp_ne (tgt := 119) hx hb d_cSv_isRight_82 (by decide) (fun c_14 => ?_) (fun c_14 => ?_)
        · replace Heq := (if_neg c_14).symm.trans Heq
          exact w_cSv_isRight_J119 hC Heq Ka K0 _ _ _ hP hD hS (lv_sub hl [1, 2, 3, 4] rfl)
        · replace Heq := (if_pos c_14).symm.trans Heq
          refine lv_aload_n hx hb d_cSv_isRight_85 rfl (lv_at hl 1 rfl) ?_
          refine va_get (D := D) (ci := 6) (v := rv ad 5 (S.r 6 1 x0)) (C := R_Sv) (T := F_Sv) (N := 6) hx hb hts i_Sv hown hK hP (cPos N 6 x0) (cw_obj (k := 6) (by decide) hl_x0_6) rfl 1 (by decide) (hts _ kw_402) (fun _ h9 => h9) rfl d_cSv_isRight_86 ?_
          refine lv_aload_n hx hb d_cSv_isRight_89 rfl (lv_at hl 1 rfl) ?_
          refine va_get (D := D) (ci := 6) (v := .int (S.i 6 5 x0)) (C := R_Sv) (T := F_Sv) (N := 6) hx hb hts i_Sv hown hK hP (cPos N 6 x0) (cw_obj (k := 6) (by decide) hl_x0_6) rfl 5 (by decide) (hts _ kw_407) (fun _ h9 => h9) rfl d_cSv_isRight_90 ?_
          obtain ⟨j_15, hj_16, hl_17, Heq⟩ := gn_some Heq
          refine w_s (st' := [.int (S.i 6 5 x0), .ref (ad 5 j_15)]) (congrArg (fun z9 : Option Nat => [.int (S.i 6 5 x0), rv ad 5 z9]) hj_16) ?_
          obtain ⟨o_18, h_19, Heq⟩ := ob_some Heq
          have hFc := fr_all hD hS hA
          refine va_calli (va_runV (As := [.int (S.i 6 5 x0)]) (rest := []) ⟨hx, hb, hml, hown, hts⟩ (g_cRw_at l D H.size (ad := ad) (cc := cc) (sad := sad) (sav := sav) h_19) (cw_v 1 hts kw_689 kw_1290 kw_687 kw_688 kw_4 rfl rfl (by decide +kernel) ⟨Nat.le_of_ble_eq_true rfl, Nat.le_of_ble_eq_true rfl⟩) ⟨c_blind, va_recv hK hP (ci := 5) (q0 := cPos N 5 j_15) rfl (cw_obj (k := 5) (by decide) hl_17), fun U hU hW => c_pre hU hW hP hK hD hev hE hN hNS hS hFc⟩ rfl rfl hl.1 rfl (lv_room (Nat.le_of_ble_eq_true rfl)) d_cSv_isRight_93 ⟨Nat.le_of_ble_eq_true rfl, Nat.le_of_ble_eq_true rfl⟩) hS (fun q _ h => hFc q h) hFc (fun rz u t H1 locs ht hvm hw hB hz1 hk1 hS => ?_)
          obtain ⟨hP, -, hD1⟩ := hB
          rw [ht] at hP
          have hD := hD1.weaken (fun _ q _ h => hFc q.1 h)
          generalize H1 = H at hP hS ⊢
          refine W.cs (cells' := 0) (slots' := 0) rfl rfl ?_
          subst hw
          refine lv_iload_n hx hb d_cSv_isRight_96 rfl (lv_at hl 3 rfl) ?_
          refine lv_icmp_ne (tgt := 119) hx hb d_cSv_isRight_97 (by decide) (fun c_20 => ?_) (fun c_20 => ?_)
          · replace Heq := (if_neg c_20).symm.trans Heq
            exact w_cSv_isRight_J119 hC Heq Ka K0 _ _ _ hP hD hS (lv_sub hl [1, 2, 3, 4] rfl)
          · replace Heq := (if_pos c_20).symm.trans Heq
            refine lv_aload_n hx hb d_cSv_isRight_100 rfl (lv_at hl 1 rfl) ?_
            refine tx_aload (x := (S.q 16 j_7 x3.toNatClampNeg).map (ad 0)) hx hb d_cSv_isRight_101 (lv_at hl 0 rfl) ?_
            refine w_v (y := rv ad 0 (S.q 16 j_7 x3.toNatClampNeg)) rfl ?_
            refine w_s (st' := [.ref (ad 0 j_11), .ref (ad 6 x0)]) (congrArg (fun z9 : Option Nat => [rv ad 0 z9, .ref (ad 6 x0)]) hj_12) ?_
            obtain ⟨o_21, h_22, Heq⟩ := ob_some Heq
            have hFc := fr_all hD hS hA
            refine va_callv (va_runV (As := [.ref (ad 0 j_11)]) (rest := []) ⟨hx, hb, hml, hown, hts⟩ (g_cSv_emitChange l D H.size (ad := ad) (cc := cc) (sad := sad) (sav := sav) h_22) (cw_v 1 hts kw_1295 kw_1292 kw_1293 kw_1294 kw_10 rfl rfl (by decide +kernel) ⟨Nat.le_of_ble_eq_true rfl, Nat.le_of_ble_eq_true rfl⟩) ⟨c_blind, va_recv hK hP (ci := 6) (q0 := cPos N 6 x0) rfl (cw_obj (k := 6) (by decide) hl_x0_6), fun U hU hW => c_pre hU hW hP hK hD hev hE hN hNS hS hFc⟩ rfl rfl hl.1 rfl (lv_room (Nat.le_of_ble_eq_true rfl)) d_cSv_isRight_103 ⟨Nat.le_of_ble_eq_true rfl, Nat.le_of_ble_eq_true rfl⟩) hS (fun q _ h => hFc q h) hFc (fun u t H1 locs ht hvm hw hB hz1 hk1 hS => ?_)
            obtain ⟨hP, -, hD1⟩ := hB
            rw [ht] at hP
            have hD := hD1.weaken (fun _ q _ h => hFc q.1 h)
            generalize H1 = H at hP hS ⊢
            refine W.cs (cells' := 0) (slots' := 0) rfl rfl ?_
            refine lv_aload_n hx hb d_cSv_isRight_106 rfl (lv_at hl 1 rfl) ?_
            refine va_get (D := D) (ci := 6) (v := rv ad 12 (o_21.r 6 2 x0)) (C := R_Sv) (T := F_Sv) (N := 6) hx hb hts i_Sv hown hK hP (cPos N 6 x0) (cw_obj (k := 6) (by decide) hl_x0_6) rfl 2 (by decide) (hts _ kw_403) (fun _ h9 => h9) rfl d_cSv_isRight_107 ?_
            refine lv_iload_n hx hb d_cSv_isRight_110 rfl (lv_at hl 3 rfl) ?_
            refine lv_dup2_11 hx hb d_cSv_isRight_111 (by first | rfl | exact rv_cat) (by first | rfl | exact rv_cat) ?_
            obtain ⟨j_23, hj_24, hl_25, Heq⟩ := gn_some Heq
            refine w_s (st' := [.int x2, .ref (ad 12 j_23), .int x2, rv ad 12 (o_21.r 6 2 x0)]) (congrArg (fun z9 : Option Nat => [.int x2, rv ad 12 z9, .int x2, rv ad 12 (o_21.r 6 2 x0)]) hj_24) ?_
            obtain ⟨hi_26, Heq⟩ := gd_some Heq
            refine va_iald hx hb hK hP (cPos N 12 j_23) 0 (cw_arr (k := 12) (by decide) hl_25) rfl (i := x2) hi_26 d_cSv_isRight_112 ?_
            refine w_i (y := o_21.a 12 j_23 x2.toNatClampNeg) rfl ?_
            refine lv_iconst (v := 1) hx hb d_cSv_isRight_113 (by decide) ?_
            refine lv_iadd hx hb d_cSv_isRight_114 ?_
            refine w_i (y := (o_21.a 12 j_23 x2.toNatClampNeg) + 1) rfl ?_
            refine w_s (st' := [.int ((o_21.a 12 j_23 x2.toNatClampNeg) + 1), .int x2, .ref (ad 12 j_23)]) (congrArg (fun z9 : Option Nat => [.int ((o_21.a 12 j_23 x2.toNatClampNeg) + 1), .int x2, rv ad 12 z9]) hj_24) ?_
            obtain ⟨hi_27, Heq⟩ := gd_some Heq
            refine va_iast hx hb hK hP hD hS (cPos N 12 j_23) 0 (cw_arr (k := 12) (by decide) hl_25) rfl (i := x2) (x := (o_21.a 12 j_23 x2.toNatClampNeg) + 1) hi_27 d_cSv_isRight_115 (fun H locs hP hD hS => ?_)
            have hD := (congrArg (fun w9 => va_D A w9) (cw_setA (ad := ad) (cc := cc) (S := o_21) (k := 12) (i := x2.toNatClampNeg) (v := ((o_21.a 12 j_23 x2.toNatClampNeg) + 1)) (by decide) hl_25)).mp hD
            have hP := (congrArg (fun w9 => va_P D cls w9 H) (cw_setA (ad := ad) (cc := cc) (S := o_21) (k := 12) (i := x2.toNatClampNeg) (v := ((o_21.a 12 j_23 x2.toNatClampNeg) + 1)) (by decide) hl_25)).mp hP
            refine lv_iinc (v := x1 + (-1)) (lv' := [(1, .int (x1 + (-1))), (4, rv ad 0 (S.q 16 j_7 x3.toNatClampNeg)), (0, .ref (ad 6 x0)), (2, .int x2), (3, .int x3)]) hx hb d_cSv_isRight_116 hl (k := 2) rfl rfl (by decide) rfl (fun ls hl => ?_)
            exact w_cSv_isRight_J119 hC Heq Ka K0 _ _ _ hP hD hS (lv_sub hl [2, 0, 3, 4] rfl)
def m_cSv_isRight_L43 (N : Nat → Nat) (x0 : Nat) (S : CS) (x1 : Int32) (x2 : Int32) (x3 : Int32) : Option (CS × Int32 × Int32) := lp (fun a : CS × Int32 × Int32 × Int32 => m_cSv_isRight_B43 N x0 a.1 a.2.1 a.2.2.1 a.2.2.2) FU (S, x1, x2, x3)
theorem w_cSv_isRight_L43 {p : Program} {l : Launch} {e : Env} {s : State} {m : MethodId} {args : Array Value} {below : List Frame} {meth : Method} {c : Code} {A : Nat → Prop} {D : va_G} {ad : Nat → Nat → Nat} {cc : Nat → ClassId} {sad sav : Nat → Nat} {Q : State → Prop} (hC : MCc sad sav "JoinedTrees$Saver" prog_8_method_3_code 5 (some .boolean) p s m args meth c A D cc) {N : Nat → Nat} {x0 : Nat} {S : CS} {x1 : Int32} {x2 : Int32} {x3 : Int32} {o : CS × Int32 × Int32} (Heq : m_cSv_isRight_L43 N x0 S x1 x2 x3 = some o) (K0 : ∀ b : CS × Int32 × Int32, o = b → ∀ (H : Heap) (locs : List Loc) (ls : Array Slot), va_P D cls (cw ad cc N b.1) H → va_D A (cw ad cc N b.1) → va_S A s.heap H locs → lv_has ls 5 [(0, .ref (ad 6 x0)), (1, .int b.2.1), (2, .int b.2.2)] → W p l e ({ frames := 5, cells := 0, slots := 0, locals := 113 }) s m args below meth c H locs 0 0 Q (F0 m 125 ls [])) : ∀ (H : Heap) (locs : List Loc) (ls : Array Slot), va_P D cls (cw ad cc N S) H → va_D A (cw ad cc N S) → va_S A s.heap H locs → lv_has ls 5 [(0, .ref (ad 6 x0)), (1, .int x1), (2, .int x2), (3, .int x3)] → W p l e ({ frames := 5, cells := 0, slots := 0, locals := 113 }) s m args below meth c H locs 0 0 Q (F0 m 43 ls []) := by
  refine lp_w (G := fun a : CS × Int32 × Int32 × Int32 => ∀ (H : Heap) (locs : List Loc) (ls : Array Slot), va_P D cls (cw ad cc N a.1) H → va_D A (cw ad cc N a.1) → va_S A s.heap H locs → lv_has ls 5 [(0, .ref (ad 6 x0)), (1, .int a.2.1), (2, .int a.2.2.1), (3, .int a.2.2.2)] → W p l e ({ frames := 5, cells := 0, slots := 0, locals := 113 }) s m args below meth c H locs 0 0 Q (F0 m 43 ls [])) ?_ FU (S, x1, x2, x3) Heq
  intro a o1 ho Ka Ke
  exact w_cSv_isRight_B43 hC ho (fun b h => Ka b h) (fun b h => K0 b (Ke _ h).symm)
def m_cSv_isRight_J125 (N : Nat → Nat) (x0 : Nat) (S : CS) (x1 : Int32) (x2 : Int32) : Option ((CS × Int32 × Int32) ⊕ (CS × Int32)) := some (.inl (S, x1, (x2 + 1)))
theorem d_cSv_isRight_125 : decode prog_8_method_3_code 125 = .ok (.iinc 2 1, 3) := by decide +kernel
theorem d_cSv_isRight_128 : decode prog_8_method_3_code 128 = .ok (.goto (-100), 3) := by decide +kernel
set_option maxHeartbeats 4000000 in
set_option maxRecDepth 100000 in
theorem w_cSv_isRight_J125 {p : Program} {l : Launch} {e : Env} {s : State} {m : MethodId} {args : Array Value} {below : List Frame} {meth : Method} {c : Code} {A : Nat → Prop} {D : va_G} {ad : Nat → Nat → Nat} {cc : Nat → ClassId} {sad sav : Nat → Nat} {Q : State → Prop} (hC : MCc sad sav "JoinedTrees$Saver" prog_8_method_3_code 5 (some .boolean) p s m args meth c A D cc) {N : Nat → Nat} {x0 : Nat} {S : CS} {x1 : Int32} {x2 : Int32} {o : ((CS × Int32 × Int32) ⊕ (CS × Int32))} (Heq : m_cSv_isRight_J125 N x0 S x1 x2 = some o) (Ka : ∀ b : CS × Int32 × Int32, o = .inl b → ∀ (H : Heap) (locs : List Loc) (ls : Array Slot), va_P D cls (cw ad cc N b.1) H → va_D A (cw ad cc N b.1) → va_S A s.heap H locs → lv_has ls 5 [(0, .ref (ad 6 x0)), (1, .int b.2.1), (2, .int b.2.2)] → W p l e ({ frames := 5, cells := 0, slots := 0, locals := 113 }) s m args below meth c H locs 0 0 Q (F0 m 28 ls [])) (K0 : ∀ b : CS × Int32, o = .inr b → ∀ (H : Heap) (locs : List Loc) (ls : Array Slot), va_P D cls (cw ad cc N b.1) H → va_D A (cw ad cc N b.1) → va_S A s.heap H locs → lv_has ls 5 [(0, .ref (ad 6 x0)), (1, .int b.2)] → W p l e ({ frames := 5, cells := 0, slots := 0, locals := 113 }) s m args below meth c H locs 0 0 Q (F0 m 131 ls [])) : ∀ (H : Heap) (locs : List Loc) (ls : Array Slot), va_P D cls (cw ad cc N S) H → va_D A (cw ad cc N S) → va_S A s.heap H locs → lv_has ls 5 [(0, .ref (ad 6 x0)), (1, .int x1), (2, .int x2)] → W p l e ({ frames := 5, cells := 0, slots := 0, locals := 113 }) s m args below meth c H locs 0 0 Q (F0 m 125 ls []) := by
  intro H locs ls hP hD hS hl
  obtain ⟨hx, hb, hr, hml, hown, hts, hK, hA, hev, hE, hN, hNS⟩ := id hC
  unfold m_cSv_isRight_J125 at Heq
  refine lv_iinc (v := x2 + 1) (lv' := [(2, .int (x2 + 1)), (0, .ref (ad 6 x0)), (1, .int x1)]) hx hb d_cSv_isRight_125 hl (k := 2) rfl rfl (by decide) rfl (fun ls hl => ?_)
  refine lv_goto (tgt := 28) hx hb d_cSv_isRight_128 (by decide) ?_
  exact Ka _ (Option.some.inj Heq).symm _ _ _ hP hD hS (lv_sub hl [1, 2, 0] rfl)
def m_cSv_isRight_B28 (N : Nat → Nat) (x0 : Nat) (S : CS) (x1 : Int32) (x2 : Int32) : Option ((CS × Int32 × Int32) ⊕ (CS × Int32)) := (if 8 ≤ x2 then some (.inr (S, x1)) else gl x0 (N 6) (gn (S.r 6 2 x0) (N 12) (fun j_2 => gd x2 (S.z 12 j_2) (ob (m_cSv_isRight_L43 N x0 (S.setA 12 j_2 x2.toNatClampNeg 0) x1 x2 0) (fun b_6 => m_cSv_isRight_J125 N x0 b_6.1 b_6.2.1 b_6.2.2)))))
set_option maxHeartbeats 4000000 in
set_option maxRecDepth 100000 in
theorem w_cSv_isRight_B28 {p : Program} {l : Launch} {e : Env} {s : State} {m : MethodId} {args : Array Value} {below : List Frame} {meth : Method} {c : Code} {A : Nat → Prop} {D : va_G} {ad : Nat → Nat → Nat} {cc : Nat → ClassId} {sad sav : Nat → Nat} {Q : State → Prop} (hC : MCc sad sav "JoinedTrees$Saver" prog_8_method_3_code 5 (some .boolean) p s m args meth c A D cc) {N : Nat → Nat} {x0 : Nat} {S : CS} {x1 : Int32} {x2 : Int32} {o : ((CS × Int32 × Int32) ⊕ (CS × Int32))} (Heq : m_cSv_isRight_B28 N x0 S x1 x2 = some o) (Ka : ∀ b : CS × Int32 × Int32, o = .inl b → ∀ (H : Heap) (locs : List Loc) (ls : Array Slot), va_P D cls (cw ad cc N b.1) H → va_D A (cw ad cc N b.1) → va_S A s.heap H locs → lv_has ls 5 [(0, .ref (ad 6 x0)), (1, .int b.2.1), (2, .int b.2.2)] → W p l e ({ frames := 5, cells := 0, slots := 0, locals := 113 }) s m args below meth c H locs 0 0 Q (F0 m 28 ls [])) (K0 : ∀ b : CS × Int32, o = .inr b → ∀ (H : Heap) (locs : List Loc) (ls : Array Slot), va_P D cls (cw ad cc N b.1) H → va_D A (cw ad cc N b.1) → va_S A s.heap H locs → lv_has ls 5 [(0, .ref (ad 6 x0)), (1, .int b.2)] → W p l e ({ frames := 5, cells := 0, slots := 0, locals := 113 }) s m args below meth c H locs 0 0 Q (F0 m 131 ls [])) : ∀ (H : Heap) (locs : List Loc) (ls : Array Slot), va_P D cls (cw ad cc N S) H → va_D A (cw ad cc N S) → va_S A s.heap H locs → lv_has ls 5 [(0, .ref (ad 6 x0)), (1, .int x1), (2, .int x2)] → W p l e ({ frames := 5, cells := 0, slots := 0, locals := 113 }) s m args below meth c H locs 0 0 Q (F0 m 28 ls []) := by
  intro H locs ls hP hD hS hl
  obtain ⟨hx, hb, hr, hml, hown, hts, hK, hA, hev, hE, hN, hNS⟩ := id hC
  unfold m_cSv_isRight_B28 at Heq
  refine lv_iload_n hx hb d_cSv_isRight_28 rfl (lv_at hl 2 rfl) ?_
  refine lv_bipush (v := 8) hx hb d_cSv_isRight_29 (by decide) ?_
  refine lv_icmp_ge (tgt := 131) hx hb d_cSv_isRight_31 (by decide) (fun c_1 => ?_) (fun c_1 => ?_)
  · replace Heq := (if_pos c_1).symm.trans Heq
    exact K0 _ (Option.some.inj Heq).symm _ _ _ hP hD hS (lv_sub hl [0, 1] rfl)
  · replace Heq := (if_neg c_1).symm.trans Heq
    refine lv_aload_n hx hb d_cSv_isRight_34 rfl (lv_at hl 0 rfl) ?_
    obtain ⟨hl_x0_6, Heq⟩ := gl_some Heq
    refine va_get (D := D) (ci := 6) (v := rv ad 12 (S.r 6 2 x0)) (C := R_Sv) (T := F_Sv) (N := 6) hx hb hts i_Sv hown hK hP (cPos N 6 x0) (cw_obj (k := 6) (by decide) hl_x0_6) rfl 2 (by decide) (hts _ kw_403) (fun _ h9 => h9) rfl d_cSv_isRight_35 ?_
    refine lv_iload_n hx hb d_cSv_isRight_38 rfl (lv_at hl 2 rfl) ?_
    refine lv_iconst (v := 0) hx hb d_cSv_isRight_39 (by decide) ?_
    obtain ⟨j_2, hj_3, hl_4, Heq⟩ := gn_some Heq
    refine w_s (st' := [.int 0, .int x2, .ref (ad 12 j_2)]) (congrArg (fun z9 : Option Nat => [.int 0, .int x2, rv ad 12 z9]) hj_3) ?_
    obtain ⟨hi_5, Heq⟩ := gd_some Heq
    refine va_iast hx hb hK hP hD hS (cPos N 12 j_2) 0 (cw_arr (k := 12) (by decide) hl_4) rfl (i := x2) (x := 0) hi_5 d_cSv_isRight_40 (fun H locs hP hD hS => ?_)
    have hD := (congrArg (fun w9 => va_D A w9) (cw_setA (ad := ad) (cc := cc) (S := S) (k := 12) (i := x2.toNatClampNeg) (v := 0) (by decide) hl_4)).mp hD
    have hP := (congrArg (fun w9 => va_P D cls w9 H) (cw_setA (ad := ad) (cc := cc) (S := S) (k := 12) (i := x2.toNatClampNeg) (v := 0) (by decide) hl_4)).mp hP
    refine lv_iconst (v := 0) hx hb d_cSv_isRight_41 (by decide) ?_
    refine lv_istore_n (lv' := [(3, .int 0), (0, .ref (ad 6 x0)), (1, .int x1), (2, .int x2)]) hx hb d_cSv_isRight_42 rfl hl (by decide) rfl (fun ls hl => ?_)
    obtain ⟨b_6, h_7, Heq⟩ := ob_some Heq
    refine w_cSv_isRight_L43 hC h_7 (fun b h => ?_) _ _ _ hP hD hS (lv_sub hl [1, 2, 3, 0] rfl)
    subst h
    intro H locs ls hP hD hS hl
    exact w_cSv_isRight_J125 hC Heq Ka K0 _ _ _ hP hD hS (lv_sub hl [0, 1, 2] rfl)
def m_cSv_isRight_L28 (N : Nat → Nat) (x0 : Nat) (S : CS) (x1 : Int32) (x2 : Int32) : Option (CS × Int32) := lp (fun a : CS × Int32 × Int32 => m_cSv_isRight_B28 N x0 a.1 a.2.1 a.2.2) FU (S, x1, x2)
theorem w_cSv_isRight_L28 {p : Program} {l : Launch} {e : Env} {s : State} {m : MethodId} {args : Array Value} {below : List Frame} {meth : Method} {c : Code} {A : Nat → Prop} {D : va_G} {ad : Nat → Nat → Nat} {cc : Nat → ClassId} {sad sav : Nat → Nat} {Q : State → Prop} (hC : MCc sad sav "JoinedTrees$Saver" prog_8_method_3_code 5 (some .boolean) p s m args meth c A D cc) {N : Nat → Nat} {x0 : Nat} {S : CS} {x1 : Int32} {x2 : Int32} {o : CS × Int32} (Heq : m_cSv_isRight_L28 N x0 S x1 x2 = some o) (K0 : ∀ b : CS × Int32, o = b → ∀ (H : Heap) (locs : List Loc) (ls : Array Slot), va_P D cls (cw ad cc N b.1) H → va_D A (cw ad cc N b.1) → va_S A s.heap H locs → lv_has ls 5 [(0, .ref (ad 6 x0)), (1, .int b.2)] → W p l e ({ frames := 5, cells := 0, slots := 0, locals := 113 }) s m args below meth c H locs 0 0 Q (F0 m 131 ls [])) : ∀ (H : Heap) (locs : List Loc) (ls : Array Slot), va_P D cls (cw ad cc N S) H → va_D A (cw ad cc N S) → va_S A s.heap H locs → lv_has ls 5 [(0, .ref (ad 6 x0)), (1, .int x1), (2, .int x2)] → W p l e ({ frames := 5, cells := 0, slots := 0, locals := 113 }) s m args below meth c H locs 0 0 Q (F0 m 28 ls []) := by
  refine lp_w (G := fun a : CS × Int32 × Int32 => ∀ (H : Heap) (locs : List Loc) (ls : Array Slot), va_P D cls (cw ad cc N a.1) H → va_D A (cw ad cc N a.1) → va_S A s.heap H locs → lv_has ls 5 [(0, .ref (ad 6 x0)), (1, .int a.2.1), (2, .int a.2.2)] → W p l e ({ frames := 5, cells := 0, slots := 0, locals := 113 }) s m args below meth c H locs 0 0 Q (F0 m 28 ls [])) ?_ FU (S, x1, x2) Heq
  intro a o1 ho Ka Ke
  exact w_cSv_isRight_B28 hC ho (fun b h => Ka b h) (fun b h => K0 b (Ke _ h).symm)
def m_cSv_isRight_B143 (N : Nat → Nat) (x0 : Nat) (S : CS) (x1 : Int32) (x2 : Int32) (x3 : Int32) : Option ((CS × Int32 × Int32 × Int32) ⊕ (CS × Int32)) := (if x3 < 0 then some (.inr (S, x1)) else gl x0 (N 6) (ob (m_cSv_emit N x0 S ((ushr32 x2 x3) &&& 255)) (fun o_2 => some (.inl (o_2, x1, x2, (x3 + (-8)))))))
theorem d_cSv_isRight_131 : decode prog_8_method_3_code 131 = .ok (.aload_n 0, 1) := by decide +kernel
theorem d_cSv_isRight_132 : decode prog_8_method_3_code 132 = .ok (.aload_n 0, 1) := by decide +kernel
theorem d_cSv_isRight_133 : decode prog_8_method_3_code 133 = .ok (.getfield 77, 3) := by decide +kernel
theorem d_cSv_isRight_136 : decode prog_8_method_3_code 136 = .ok (.invokevirtual 66, 3) := by decide +kernel
theorem d_cSv_isRight_139 : decode prog_8_method_3_code 139 = .ok (.istore_n 2, 1) := by decide +kernel
theorem d_cSv_isRight_140 : decode prog_8_method_3_code 140 = .ok (.bipush 24, 2) := by decide +kernel
theorem d_cSv_isRight_142 : decode prog_8_method_3_code 142 = .ok (.istore_n 3, 1) := by decide +kernel
theorem d_cSv_isRight_143 : decode prog_8_method_3_code 143 = .ok (.iload_n 3, 1) := by decide +kernel
theorem d_cSv_isRight_144 : decode prog_8_method_3_code 144 = .ok (.ifCond .lt 20, 3) := by decide +kernel
theorem d_cSv_isRight_147 : decode prog_8_method_3_code 147 = .ok (.aload_n 0, 1) := by decide +kernel
theorem d_cSv_isRight_148 : decode prog_8_method_3_code 148 = .ok (.iload_n 2, 1) := by decide +kernel
theorem d_cSv_isRight_149 : decode prog_8_method_3_code 149 = .ok (.iload_n 3, 1) := by decide +kernel
theorem d_cSv_isRight_150 : decode prog_8_method_3_code 150 = .ok (.iushr, 1) := by decide +kernel
theorem d_cSv_isRight_151 : decode prog_8_method_3_code 151 = .ok (.sipush 255, 3) := by decide +kernel
theorem d_cSv_isRight_154 : decode prog_8_method_3_code 154 = .ok (.iand, 1) := by decide +kernel
theorem d_cSv_isRight_155 : decode prog_8_method_3_code 155 = .ok (.invokevirtual 86, 3) := by decide +kernel
theorem d_cSv_isRight_158 : decode prog_8_method_3_code 158 = .ok (.iinc 3 (-8), 3) := by decide +kernel
theorem d_cSv_isRight_161 : decode prog_8_method_3_code 161 = .ok (.goto (-18), 3) := by decide +kernel
set_option maxHeartbeats 4000000 in
set_option maxRecDepth 100000 in
theorem w_cSv_isRight_B143 {p : Program} {l : Launch} {e : Env} {s : State} {m : MethodId} {args : Array Value} {below : List Frame} {meth : Method} {c : Code} {A : Nat → Prop} {D : va_G} {ad : Nat → Nat → Nat} {cc : Nat → ClassId} {sad sav : Nat → Nat} {Q : State → Prop} (hC : MCc sad sav "JoinedTrees$Saver" prog_8_method_3_code 5 (some .boolean) p s m args meth c A D cc) {N : Nat → Nat} {x0 : Nat} {S : CS} {x1 : Int32} {x2 : Int32} {x3 : Int32} {o : ((CS × Int32 × Int32 × Int32) ⊕ (CS × Int32))} (Heq : m_cSv_isRight_B143 N x0 S x1 x2 x3 = some o) (Ka : ∀ b : CS × Int32 × Int32 × Int32, o = .inl b → ∀ (H : Heap) (locs : List Loc) (ls : Array Slot), va_P D cls (cw ad cc N b.1) H → va_D A (cw ad cc N b.1) → va_S A s.heap H locs → lv_has ls 5 [(0, .ref (ad 6 x0)), (1, .int b.2.1), (2, .int b.2.2.1), (3, .int b.2.2.2)] → W p l e ({ frames := 5, cells := 0, slots := 0, locals := 113 }) s m args below meth c H locs 0 0 Q (F0 m 143 ls [])) (K0 : ∀ b : CS × Int32, o = .inr b → ∀ (H : Heap) (locs : List Loc) (ls : Array Slot), va_P D cls (cw ad cc N b.1) H → va_D A (cw ad cc N b.1) → va_S A s.heap H locs → lv_has ls 5 [(0, .ref (ad 6 x0)), (1, .int b.2)] → W p l e ({ frames := 5, cells := 0, slots := 0, locals := 113 }) s m args below meth c H locs 0 0 Q (F0 m 164 ls [])) : ∀ (H : Heap) (locs : List Loc) (ls : Array Slot), va_P D cls (cw ad cc N S) H → va_D A (cw ad cc N S) → va_S A s.heap H locs → lv_has ls 5 [(0, .ref (ad 6 x0)), (1, .int x1), (2, .int x2), (3, .int x3)] → W p l e ({ frames := 5, cells := 0, slots := 0, locals := 113 }) s m args below meth c H locs 0 0 Q (F0 m 143 ls []) := by
  intro H locs ls hP hD hS hl
  obtain ⟨hx, hb, hr, hml, hown, hts, hK, hA, hev, hE, hN, hNS⟩ := id hC
  unfold m_cSv_isRight_B143 at Heq
  refine lv_iload_n hx hb d_cSv_isRight_143 rfl (lv_at hl 3 rfl) ?_
  refine lv_if_lt (tgt := 164) hx hb d_cSv_isRight_144 (by decide) (fun c_1 => ?_) (fun c_1 => ?_)
  · replace Heq := (if_pos c_1).symm.trans Heq
    exact K0 _ (Option.some.inj Heq).symm _ _ _ hP hD hS (lv_sub hl [0, 1] rfl)
  · replace Heq := (if_neg c_1).symm.trans Heq
    refine lv_aload_n hx hb d_cSv_isRight_147 rfl (lv_at hl 0 rfl) ?_
    refine lv_iload_n hx hb d_cSv_isRight_148 rfl (lv_at hl 2 rfl) ?_
    refine lv_iload_n hx hb d_cSv_isRight_149 rfl (lv_at hl 3 rfl) ?_
    refine lv_iushr hx hb d_cSv_isRight_150 rfl ?_
    refine w_i (y := ushr32 x2 x3) rfl ?_
    refine lv_sipush (v := 255) hx hb d_cSv_isRight_151 (by decide) ?_
    refine lv_iand hx hb d_cSv_isRight_154 ?_
    refine w_i (y := (ushr32 x2 x3) &&& 255) rfl ?_
    obtain ⟨hl_x0_6, Heq⟩ := gl_some Heq
    obtain ⟨o_2, h_3, Heq⟩ := ob_some Heq
    have hFc := fr_all hD hS hA
    refine va_callv (va_runV (As := [.int ((ushr32 x2 x3) &&& 255)]) (rest := []) ⟨hx, hb, hml, hown, hts⟩ (g_cSv_emit l D H.size (ad := ad) (cc := cc) (sad := sad) (sav := sav) h_3) (cw_v 1 hts kw_1288 kw_1285 kw_1286 kw_1287 kw_10 rfl rfl (by decide +kernel) ⟨Nat.le_of_ble_eq_true rfl, Nat.le_of_ble_eq_true rfl⟩) ⟨c_blind, va_recv hK hP (ci := 6) (q0 := cPos N 6 x0) rfl (cw_obj (k := 6) (by decide) hl_x0_6), fun U hU hW => c_pre hU hW hP hK hD hev hE hN hNS hS hFc⟩ rfl rfl hl.1 rfl (lv_room (Nat.le_of_ble_eq_true rfl)) d_cSv_isRight_155 ⟨Nat.le_of_ble_eq_true rfl, Nat.le_of_ble_eq_true rfl⟩) hS (fun q _ h => hFc q h) hFc (fun u t H1 locs ht hvm hw hB hz1 hk1 hS => ?_)
    obtain ⟨hP, -, hD1⟩ := hB
    rw [ht] at hP
    have hD := hD1.weaken (fun _ q _ h => hFc q.1 h)
    generalize H1 = H at hP hS ⊢
    refine W.cs (cells' := 0) (slots' := 0) rfl rfl ?_
    refine lv_iinc (v := x3 + (-8)) (lv' := [(3, .int (x3 + (-8))), (0, .ref (ad 6 x0)), (1, .int x1), (2, .int x2)]) hx hb d_cSv_isRight_158 hl (k := 3) rfl rfl (by decide) rfl (fun ls hl => ?_)
    refine lv_goto (tgt := 143) hx hb d_cSv_isRight_161 (by decide) ?_
    exact Ka _ (Option.some.inj Heq).symm _ _ _ hP hD hS (lv_sub hl [1, 2, 3, 0] rfl)
def m_cSv_isRight_L143 (N : Nat → Nat) (x0 : Nat) (S : CS) (x1 : Int32) (x2 : Int32) (x3 : Int32) : Option (CS × Int32) := lp (fun a : CS × Int32 × Int32 × Int32 => m_cSv_isRight_B143 N x0 a.1 a.2.1 a.2.2.1 a.2.2.2) FU (S, x1, x2, x3)
theorem w_cSv_isRight_L143 {p : Program} {l : Launch} {e : Env} {s : State} {m : MethodId} {args : Array Value} {below : List Frame} {meth : Method} {c : Code} {A : Nat → Prop} {D : va_G} {ad : Nat → Nat → Nat} {cc : Nat → ClassId} {sad sav : Nat → Nat} {Q : State → Prop} (hC : MCc sad sav "JoinedTrees$Saver" prog_8_method_3_code 5 (some .boolean) p s m args meth c A D cc) {N : Nat → Nat} {x0 : Nat} {S : CS} {x1 : Int32} {x2 : Int32} {x3 : Int32} {o : CS × Int32} (Heq : m_cSv_isRight_L143 N x0 S x1 x2 x3 = some o) (K0 : ∀ b : CS × Int32, o = b → ∀ (H : Heap) (locs : List Loc) (ls : Array Slot), va_P D cls (cw ad cc N b.1) H → va_D A (cw ad cc N b.1) → va_S A s.heap H locs → lv_has ls 5 [(0, .ref (ad 6 x0)), (1, .int b.2)] → W p l e ({ frames := 5, cells := 0, slots := 0, locals := 113 }) s m args below meth c H locs 0 0 Q (F0 m 164 ls [])) : ∀ (H : Heap) (locs : List Loc) (ls : Array Slot), va_P D cls (cw ad cc N S) H → va_D A (cw ad cc N S) → va_S A s.heap H locs → lv_has ls 5 [(0, .ref (ad 6 x0)), (1, .int x1), (2, .int x2), (3, .int x3)] → W p l e ({ frames := 5, cells := 0, slots := 0, locals := 113 }) s m args below meth c H locs 0 0 Q (F0 m 143 ls []) := by
  refine lp_w (G := fun a : CS × Int32 × Int32 × Int32 => ∀ (H : Heap) (locs : List Loc) (ls : Array Slot), va_P D cls (cw ad cc N a.1) H → va_D A (cw ad cc N a.1) → va_S A s.heap H locs → lv_has ls 5 [(0, .ref (ad 6 x0)), (1, .int a.2.1), (2, .int a.2.2.1), (3, .int a.2.2.2)] → W p l e ({ frames := 5, cells := 0, slots := 0, locals := 113 }) s m args below meth c H locs 0 0 Q (F0 m 143 ls [])) ?_ FU (S, x1, x2, x3) Heq
  intro a o1 ho Ka Ke
  exact w_cSv_isRight_B143 hC ho (fun b h => Ka b h) (fun b h => K0 b (Ke _ h).symm)
def m_cSv_isRight_J194 (N : Nat → Nat) (x0 : Nat) (S : CS) (t0 : Int32) : Option (CS × Int32) := (if t0 = 0 ∨ t0 = 1 then some (S, t0) else none)
theorem d_cSv_isRight_164 : decode prog_8_method_3_code 164 = .ok (.aload_n 0, 1) := by decide +kernel
theorem d_cSv_isRight_165 : decode prog_8_method_3_code 165 = .ok (.getfield 74, 3) := by decide +kernel
theorem d_cSv_isRight_168 : decode prog_8_method_3_code 168 = .ok (.ifCond .ne 25, 3) := by decide +kernel
theorem d_cSv_isRight_193 : decode prog_8_method_3_code 193 = .ok (.iconst 0, 1) := by decide +kernel
theorem d_cSv_isRight_194 : decode prog_8_method_3_code 194 = .ok (.ireturn, 1) := by decide +kernel
set_option maxHeartbeats 4000000 in
set_option maxRecDepth 100000 in
theorem w_cSv_isRight_J194 {p : Program} {l : Launch} {e : Env} {s : State} {m : MethodId} {args : Array Value} {below : List Frame} {meth : Method} {c : Code} {A : Nat → Prop} {D : va_G} {ad : Nat → Nat → Nat} {cc : Nat → ClassId} {sad sav : Nat → Nat} {Q : State → Prop} (hC : MCc sad sav "JoinedTrees$Saver" prog_8_method_3_code 5 (some .boolean) p s m args meth c A D cc) {N : Nat → Nat} {x0 : Nat} {S : CS} {t0 : Int32} {o : CS × Int32} (Heq : m_cSv_isRight_J194 N x0 S t0 = some o) (Kr : ∀ r : CS × Int32, o = r → ∀ (pc : Nat) (H : Heap) (locs : List Loc) (ls : Array Slot), decode prog_8_method_3_code pc = .ok (.ireturn, 1) → (r.2 = 0 ∨ r.2 = 1) → va_P D cls (cw ad cc N r.1) H → va_D A (cw ad cc N r.1) → va_S A s.heap H locs → W p l e ({ frames := 5, cells := 0, slots := 0, locals := 113 }) s m args below meth c H locs 0 0 Q (F0 m pc ls [.int r.2])) : ∀ (H : Heap) (locs : List Loc) (ls : Array Slot), va_P D cls (cw ad cc N S) H → va_D A (cw ad cc N S) → va_S A s.heap H locs → lv_has ls 5 [(0, .ref (ad 6 x0))] → W p l e ({ frames := 5, cells := 0, slots := 0, locals := 113 }) s m args below meth c H locs 0 0 Q (F0 m 194 ls [.int t0]) := by
  intro H locs ls hP hD hS hl
  obtain ⟨hx, hb, hr, hml, hown, hts, hK, hA, hev, hE, hN, hNS⟩ := id hC
  unfold m_cSv_isRight_J194 at Heq
  by_cases hz_1 : t0 = 0 ∨ t0 = 1
  case neg => rw [if_neg hz_1] at Heq; cases Heq
  replace Heq := (if_pos hz_1).symm.trans Heq
  exact Kr _ (Option.some.inj Heq).symm 194 _ _ _ d_cSv_isRight_194 hz_1 hP hD hS
def m_cSv_isRight_J193 (N : Nat → Nat) (x0 : Nat) (S : CS) : Option (CS × Int32) := m_cSv_isRight_J194 N x0 S 0
set_option maxHeartbeats 4000000 in
set_option maxRecDepth 100000 in
theorem w_cSv_isRight_J193 {p : Program} {l : Launch} {e : Env} {s : State} {m : MethodId} {args : Array Value} {below : List Frame} {meth : Method} {c : Code} {A : Nat → Prop} {D : va_G} {ad : Nat → Nat → Nat} {cc : Nat → ClassId} {sad sav : Nat → Nat} {Q : State → Prop} (hC : MCc sad sav "JoinedTrees$Saver" prog_8_method_3_code 5 (some .boolean) p s m args meth c A D cc) {N : Nat → Nat} {x0 : Nat} {S : CS} {o : CS × Int32} (Heq : m_cSv_isRight_J193 N x0 S = some o) (Kr : ∀ r : CS × Int32, o = r → ∀ (pc : Nat) (H : Heap) (locs : List Loc) (ls : Array Slot), decode prog_8_method_3_code pc = .ok (.ireturn, 1) → (r.2 = 0 ∨ r.2 = 1) → va_P D cls (cw ad cc N r.1) H → va_D A (cw ad cc N r.1) → va_S A s.heap H locs → W p l e ({ frames := 5, cells := 0, slots := 0, locals := 113 }) s m args below meth c H locs 0 0 Q (F0 m pc ls [.int r.2])) : ∀ (H : Heap) (locs : List Loc) (ls : Array Slot), va_P D cls (cw ad cc N S) H → va_D A (cw ad cc N S) → va_S A s.heap H locs → lv_has ls 5 [(0, .ref (ad 6 x0))] → W p l e ({ frames := 5, cells := 0, slots := 0, locals := 113 }) s m args below meth c H locs 0 0 Q (F0 m 193 ls []) := by
  intro H locs ls hP hD hS hl
  obtain ⟨hx, hb, hr, hml, hown, hts, hK, hA, hev, hE, hN, hNS⟩ := id hC
  unfold m_cSv_isRight_J193 at Heq
  refine lv_iconst (v := 0) hx hb d_cSv_isRight_193 (by decide) ?_
  exact w_cSv_isRight_J194 hC Heq Kr _ _ _ hP hD hS (lv_sub hl [0] rfl)
def m_cSv_isRight_J0 (N : Nat → Nat) (x0 : Nat) (S : CS) : Option (CS × Int32) := gl x0 (N 6) (ob (m_cSv_changesTold N x0 (((S.setI 6 3 x0 1).setI 6 4 x0 0).setI 6 5 x0 0)) (fun o_1 => ob (m_cSv_emitNumber N x0 o_1.1 o_1.2.toInt64) (fun o_3 => ob (m_cSv_isRight_L28 N x0 o_3 o_1.2 0) (fun b_5 => ob (m_cSv_crcOf N x0 b_5.1 (b_5.1.i 6 5 x0)) (fun o_7 => ob (m_cSv_isRight_L143 N x0 o_7.1 b_5.2 o_7.2 24) (fun b_9 => (if b_9.1.i 6 4 x0 = 0 then (if b_9.2 = 0 then gn (b_9.1.r 6 1 x0) (N 5) (fun j_13 => (if b_9.1.i 6 5 x0 = b_9.1.i 5 1 j_13 then m_cSv_isRight_J194 N x0 b_9.1 1 else m_cSv_isRight_J193 N x0 b_9.1)) else m_cSv_isRight_J193 N x0 b_9.1) else m_cSv_isRight_J193 N x0 b_9.1)))))))
theorem d_cSv_isRight_171 : decode prog_8_method_3_code 171 = .ok (.iload_n 1, 1) := by decide +kernel
theorem d_cSv_isRight_172 : decode prog_8_method_3_code 172 = .ok (.ifCond .ne 21, 3) := by decide +kernel
theorem d_cSv_isRight_175 : decode prog_8_method_3_code 175 = .ok (.aload_n 0, 1) := by decide +kernel
theorem d_cSv_isRight_176 : decode prog_8_method_3_code 176 = .ok (.getfield 77, 3) := by decide +kernel
theorem d_cSv_isRight_179 : decode prog_8_method_3_code 179 = .ok (.aload_n 0, 1) := by decide +kernel
theorem d_cSv_isRight_180 : decode prog_8_method_3_code 180 = .ok (.getfield 19, 3) := by decide +kernel
theorem d_cSv_isRight_183 : decode prog_8_method_3_code 183 = .ok (.getfield 63, 3) := by decide +kernel
theorem d_cSv_isRight_186 : decode prog_8_method_3_code 186 = .ok (.if_icmp .ne 7, 3) := by decide +kernel
theorem d_cSv_isRight_189 : decode prog_8_method_3_code 189 = .ok (.iconst 1, 1) := by decide +kernel
theorem d_cSv_isRight_190 : decode prog_8_method_3_code 190 = .ok (.goto 4, 3) := by decide +kernel
set_option maxHeartbeats 4000000 in
set_option maxRecDepth 100000 in
theorem w_cSv_isRight_J0 {p : Program} {l : Launch} {e : Env} {s : State} {m : MethodId} {args : Array Value} {below : List Frame} {meth : Method} {c : Code} {A : Nat → Prop} {D : va_G} {ad : Nat → Nat → Nat} {cc : Nat → ClassId} {sad sav : Nat → Nat} {Q : State → Prop} (hC : MCc sad sav "JoinedTrees$Saver" prog_8_method_3_code 5 (some .boolean) p s m args meth c A D cc) {N : Nat → Nat} {x0 : Nat} {S : CS} {o : CS × Int32} (Heq : m_cSv_isRight_J0 N x0 S = some o) (Kr : ∀ r : CS × Int32, o = r → ∀ (pc : Nat) (H : Heap) (locs : List Loc) (ls : Array Slot), decode prog_8_method_3_code pc = .ok (.ireturn, 1) → (r.2 = 0 ∨ r.2 = 1) → va_P D cls (cw ad cc N r.1) H → va_D A (cw ad cc N r.1) → va_S A s.heap H locs → W p l e ({ frames := 5, cells := 0, slots := 0, locals := 113 }) s m args below meth c H locs 0 0 Q (F0 m pc ls [.int r.2])) : ∀ (H : Heap) (locs : List Loc) (ls : Array Slot), va_P D cls (cw ad cc N S) H → va_D A (cw ad cc N S) → va_S A s.heap H locs → lv_has ls 5 [(0, .ref (ad 6 x0))] → W p l e ({ frames := 5, cells := 0, slots := 0, locals := 113 }) s m args below meth c H locs 0 0 Q (F0 m 0 ls []) := by
  intro H locs ls hP hD hS hl
  obtain ⟨hx, hb, hr, hml, hown, hts, hK, hA, hev, hE, hN, hNS⟩ := id hC
  unfold m_cSv_isRight_J0 at Heq
  refine lv_aload_n hx hb d_cSv_isRight_0 rfl (lv_at hl 0 rfl) ?_
  refine lv_iconst (v := 1) hx hb d_cSv_isRight_1 (by decide) ?_
  obtain ⟨hl_x0_6, Heq⟩ := gl_some Heq
  refine va_put (D := D) (ci := 6) (v := .int 1) (ty := .boolean) (C := R_Sv) (T := F_Sv) (N := 6) hx hb hts i_Sv t_Sv t_Sv_ok n_Sv hown hK hP hD hS (cPos N 6 x0) (cw_obj (k := 6) (by decide) hl_x0_6) rfl 3 (by decide) (hts _ kw_405) (fun _ h9 => h9) rfl (by decide +kernel) (by decide) (by decide) (Nat.le_of_ble_eq_true rfl) d_cSv_isRight_2 (fun H locs hP hD hS => ?_)
  have hD := (congrArg (fun w9 => va_D A w9) (cw_setI (ad := ad) (cc := cc) (S := S) (k := 6) (f := 3) (v := 1) (by decide) rfl hl_x0_6)).mp hD
  have hP := (congrArg (fun w9 => va_P D cls w9 H) (cw_setI (ad := ad) (cc := cc) (S := S) (k := 6) (f := 3) (v := 1) (by decide) rfl hl_x0_6)).mp hP
  refine lv_aload_n hx hb d_cSv_isRight_5 rfl (lv_at hl 0 rfl) ?_
  refine lv_iconst (v := 0) hx hb d_cSv_isRight_6 (by decide) ?_
  refine va_put (D := D) (ci := 6) (v := .int 0) (ty := .boolean) (C := R_Sv) (T := F_Sv) (N := 6) hx hb hts i_Sv t_Sv t_Sv_ok n_Sv hown hK hP hD hS (cPos N 6 x0) (cw_obj (k := 6) (by decide) hl_x0_6) rfl 4 (by decide) (hts _ kw_406) (fun _ h9 => h9) rfl (by decide +kernel) (by decide) (by decide) (Nat.le_of_ble_eq_true rfl) d_cSv_isRight_7 (fun H locs hP hD hS => ?_)
  have hD := (congrArg (fun w9 => va_D A w9) (cw_setI (ad := ad) (cc := cc) (S := (S.setI 6 3 x0 1)) (k := 6) (f := 4) (v := 0) (by decide) rfl hl_x0_6)).mp hD
  have hP := (congrArg (fun w9 => va_P D cls w9 H) (cw_setI (ad := ad) (cc := cc) (S := (S.setI 6 3 x0 1)) (k := 6) (f := 4) (v := 0) (by decide) rfl hl_x0_6)).mp hP
  refine lv_aload_n hx hb d_cSv_isRight_10 rfl (lv_at hl 0 rfl) ?_
  refine lv_iconst (v := 0) hx hb d_cSv_isRight_11 (by decide) ?_
  refine va_put (D := D) (ci := 6) (v := .int 0) (ty := .int) (C := R_Sv) (T := F_Sv) (N := 6) hx hb hts i_Sv t_Sv t_Sv_ok n_Sv hown hK hP hD hS (cPos N 6 x0) (cw_obj (k := 6) (by decide) hl_x0_6) rfl 5 (by decide) (hts _ kw_407) (fun _ h9 => h9) rfl (by decide +kernel) rfl rfl (Nat.le_of_ble_eq_true rfl) d_cSv_isRight_12 (fun H locs hP hD hS => ?_)
  have hD := (congrArg (fun w9 => va_D A w9) (cw_setI (ad := ad) (cc := cc) (S := ((S.setI 6 3 x0 1).setI 6 4 x0 0)) (k := 6) (f := 5) (v := 0) (by decide) rfl hl_x0_6)).mp hD
  have hP := (congrArg (fun w9 => va_P D cls w9 H) (cw_setI (ad := ad) (cc := cc) (S := ((S.setI 6 3 x0 1).setI 6 4 x0 0)) (k := 6) (f := 5) (v := 0) (by decide) rfl hl_x0_6)).mp hP
  refine lv_aload_n hx hb d_cSv_isRight_15 rfl (lv_at hl 0 rfl) ?_
  obtain ⟨o_1, h_2, Heq⟩ := ob_some Heq
  have hFc := fr_all hD hS hA
  refine va_calli (va_runV (As := []) (rest := []) ⟨hx, hb, hml, hown, hts⟩ (g_cSv_changesTold l D H.size (ad := ad) (cc := cc) (sad := sad) (sav := sav) h_2) (cw_v 0 hts kw_1331 kw_1328 kw_1329 kw_1330 kw_10 rfl rfl (by decide +kernel) ⟨Nat.le_of_ble_eq_true rfl, Nat.le_of_ble_eq_true rfl⟩) ⟨c_blind, va_recv hK hP (ci := 6) (q0 := cPos N 6 x0) rfl (cw_obj (k := 6) (by decide) hl_x0_6), fun U hU hW => c_pre hU hW hP hK hD hev hE hN hNS hS hFc⟩ rfl rfl hl.1 rfl (lv_room (Nat.le_of_ble_eq_true rfl)) d_cSv_isRight_16 ⟨Nat.le_of_ble_eq_true rfl, Nat.le_of_ble_eq_true rfl⟩) hS (fun q _ h => hFc q h) hFc (fun rz u t H1 locs ht hvm hw hB hz1 hk1 hS => ?_)
  obtain ⟨hP, -, hD1⟩ := hB
  rw [ht] at hP
  have hD := hD1.weaken (fun _ q _ h => hFc q.1 h)
  generalize H1 = H at hP hS ⊢
  refine W.cs (cells' := 0) (slots' := 0) rfl rfl ?_
  subst hw
  refine lv_istore_n (lv' := [(1, .int o_1.2), (0, .ref (ad 6 x0))]) hx hb d_cSv_isRight_19 rfl hl (by decide) rfl (fun ls hl => ?_)
  refine lv_aload_n hx hb d_cSv_isRight_20 rfl (lv_at hl 1 rfl) ?_
  refine lv_iload_n hx hb d_cSv_isRight_21 rfl (lv_at hl 0 rfl) ?_
  refine lv_i2l hx hb d_cSv_isRight_22 rfl ?_
  refine w_l (y := o_1.2.toInt64) rfl ?_
  obtain ⟨o_3, h_4, Heq⟩ := ob_some Heq
  have hFc := fr_all hD hS hA
  refine va_callv (va_runV (As := [.long o_1.2.toInt64]) (rest := []) ⟨hx, hb, hml, hown, hts⟩ (g_cSv_emitNumber l D H.size (ad := ad) (cc := cc) (sad := sad) (sav := sav) h_4) (cw_v 1 hts kw_1283 kw_1280 kw_1281 kw_1282 kw_10 rfl rfl (by decide +kernel) ⟨Nat.le_of_ble_eq_true rfl, Nat.le_of_ble_eq_true rfl⟩) ⟨c_blind, va_recv hK hP (ci := 6) (q0 := cPos N 6 x0) rfl (cw_obj (k := 6) (by decide) hl_x0_6), fun U hU hW => c_pre hU hW hP hK hD hev hE hN hNS hS hFc⟩ rfl rfl hl.1 rfl (lv_room (Nat.le_of_ble_eq_true rfl)) d_cSv_isRight_23 ⟨Nat.le_of_ble_eq_true rfl, Nat.le_of_ble_eq_true rfl⟩) hS (fun q _ h => hFc q h) hFc (fun u t H1 locs ht hvm hw hB hz1 hk1 hS => ?_)
  obtain ⟨hP, -, hD1⟩ := hB
  rw [ht] at hP
  have hD := hD1.weaken (fun _ q _ h => hFc q.1 h)
  generalize H1 = H at hP hS ⊢
  refine W.cs (cells' := 0) (slots' := 0) rfl rfl ?_
  refine lv_iconst (v := 0) hx hb d_cSv_isRight_26 (by decide) ?_
  refine lv_istore_n (lv' := [(2, .int 0), (1, .int o_1.2), (0, .ref (ad 6 x0))]) hx hb d_cSv_isRight_27 rfl hl (by decide) rfl (fun ls hl => ?_)
  obtain ⟨b_5, h_6, Heq⟩ := ob_some Heq
  refine w_cSv_isRight_L28 hC h_6 (fun b h => ?_) _ _ _ hP hD hS (lv_sub hl [2, 1, 0] rfl)
  subst h
  intro H locs ls hP hD hS hl
  refine lv_aload_n hx hb d_cSv_isRight_131 rfl (lv_at hl 0 rfl) ?_
  refine lv_aload_n hx hb d_cSv_isRight_132 rfl (lv_at hl 0 rfl) ?_
  refine va_get (D := D) (ci := 6) (v := .int (b_5.1.i 6 5 x0)) (C := R_Sv) (T := F_Sv) (N := 6) hx hb hts i_Sv hown hK hP (cPos N 6 x0) (cw_obj (k := 6) (by decide) hl_x0_6) rfl 5 (by decide) (hts _ kw_407) (fun _ h9 => h9) rfl d_cSv_isRight_133 ?_
  obtain ⟨o_7, h_8, Heq⟩ := ob_some Heq
  have hFc := fr_all hD hS hA
  refine va_calli (va_runV (As := [.int (b_5.1.i 6 5 x0)]) (rest := []) ⟨hx, hb, hml, hown, hts⟩ (g_cSv_crcOf l D H.size (ad := ad) (cc := cc) (sad := sad) (sav := sav) h_8) (cw_v 1 hts kw_1311 kw_1308 kw_1309 kw_1310 kw_10 rfl rfl (by decide +kernel) ⟨Nat.le_of_ble_eq_true rfl, Nat.le_of_ble_eq_true rfl⟩) ⟨c_blind, va_recv hK hP (ci := 6) (q0 := cPos N 6 x0) rfl (cw_obj (k := 6) (by decide) hl_x0_6), fun U hU hW => c_pre hU hW hP hK hD hev hE hN hNS hS hFc⟩ rfl rfl hl.1 rfl (lv_room (Nat.le_of_ble_eq_true rfl)) d_cSv_isRight_136 ⟨Nat.le_of_ble_eq_true rfl, Nat.le_of_ble_eq_true rfl⟩) hS (fun q _ h => hFc q h) hFc (fun rz u t H1 locs ht hvm hw hB hz1 hk1 hS => ?_)
  obtain ⟨hP, -, hD1⟩ := hB
  rw [ht] at hP
  have hD := hD1.weaken (fun _ q _ h => hFc q.1 h)
  generalize H1 = H at hP hS ⊢
  refine W.cs (cells' := 0) (slots' := 0) rfl rfl ?_
  subst hw
  refine lv_istore_n (lv' := [(2, .int o_7.2), (0, .ref (ad 6 x0)), (1, .int b_5.2)]) hx hb d_cSv_isRight_139 rfl hl (by decide) rfl (fun ls hl => ?_)
  refine lv_bipush (v := 24) hx hb d_cSv_isRight_140 (by decide) ?_
  refine lv_istore_n (lv' := [(3, .int 24), (2, .int o_7.2), (0, .ref (ad 6 x0)), (1, .int b_5.2)]) hx hb d_cSv_isRight_142 rfl hl (by decide) rfl (fun ls hl => ?_)
  obtain ⟨b_9, h_10, Heq⟩ := ob_some Heq
  refine w_cSv_isRight_L143 hC h_10 (fun b h => ?_) _ _ _ hP hD hS (lv_sub hl [2, 3, 1, 0] rfl)
  subst h
  intro H locs ls hP hD hS hl
  refine lv_aload_n hx hb d_cSv_isRight_164 rfl (lv_at hl 0 rfl) ?_
  refine va_get (D := D) (ci := 6) (v := .int (b_9.1.i 6 4 x0)) (C := R_Sv) (T := F_Sv) (N := 6) hx hb hts i_Sv hown hK hP (cPos N 6 x0) (cw_obj (k := 6) (by decide) hl_x0_6) rfl 4 (by decide) (hts _ kw_406) (fun _ h9 => h9) rfl d_cSv_isRight_165 ?_
  refine lv_if_ne (tgt := 193) hx hb d_cSv_isRight_168 (by decide) (fun c_11 => ?_) (fun c_11 => ?_)
  · replace Heq := (if_neg c_11).symm.trans Heq
    exact w_cSv_isRight_J193 hC Heq Kr _ _ _ hP hD hS (lv_sub hl [0] rfl)
  · replace Heq := (if_pos c_11).symm.trans Heq
    refine lv_iload_n hx hb d_cSv_isRight_171 rfl (lv_at hl 1 rfl) ?_
    refine lv_if_ne (tgt := 193) hx hb d_cSv_isRight_172 (by decide) (fun c_12 => ?_) (fun c_12 => ?_)
    · replace Heq := (if_neg c_12).symm.trans Heq
      exact w_cSv_isRight_J193 hC Heq Kr _ _ _ hP hD hS (lv_sub hl [0] rfl)
    · replace Heq := (if_pos c_12).symm.trans Heq
      refine lv_aload_n hx hb d_cSv_isRight_175 rfl (lv_at hl 0 rfl) ?_
      refine va_get (D := D) (ci := 6) (v := .int (b_9.1.i 6 5 x0)) (C := R_Sv) (T := F_Sv) (N := 6) hx hb hts i_Sv hown hK hP (cPos N 6 x0) (cw_obj (k := 6) (by decide) hl_x0_6) rfl 5 (by decide) (hts _ kw_407) (fun _ h9 => h9) rfl d_cSv_isRight_176 ?_
      refine lv_aload_n hx hb d_cSv_isRight_179 rfl (lv_at hl 0 rfl) ?_
      refine va_get (D := D) (ci := 6) (v := rv ad 5 (b_9.1.r 6 1 x0)) (C := R_Sv) (T := F_Sv) (N := 6) hx hb hts i_Sv hown hK hP (cPos N 6 x0) (cw_obj (k := 6) (by decide) hl_x0_6) rfl 1 (by decide) (hts _ kw_402) (fun _ h9 => h9) rfl d_cSv_isRight_180 ?_
      obtain ⟨j_13, hj_14, hl_15, Heq⟩ := gn_some Heq
      refine w_s (st' := [.ref (ad 5 j_13), .int (b_9.1.i 6 5 x0)]) (congrArg (fun z9 : Option Nat => [rv ad 5 z9, .int (b_9.1.i 6 5 x0)]) hj_14) ?_
      refine va_get (D := D) (ci := 5) (v := .int (b_9.1.i 5 1 j_13)) (C := R_Rw) (T := F_Rw) (N := 3) hx hb hts i_Rw hown hK hP (cPos N 5 j_13) (cw_obj (k := 5) (by decide) hl_15) rfl 1 (by decide) (hts _ kw_145) (fun _ h9 => h9) rfl d_cSv_isRight_183 ?_
      refine lv_icmp_ne (tgt := 193) hx hb d_cSv_isRight_186 (by decide) (fun c_16 => ?_) (fun c_16 => ?_)
      · replace Heq := (if_neg c_16).symm.trans Heq
        exact w_cSv_isRight_J193 hC Heq Kr _ _ _ hP hD hS (lv_sub hl [0] rfl)
      · replace Heq := (if_pos c_16).symm.trans Heq
        refine lv_iconst (v := 1) hx hb d_cSv_isRight_189 (by decide) ?_
        refine lv_goto (tgt := 194) hx hb d_cSv_isRight_190 (by decide) ?_
        exact w_cSv_isRight_J194 hC Heq Kr _ _ _ hP hD hS (lv_sub hl [0] rfl)
def m_cSv_isRight (N : Nat → Nat) (x0 : Nat) (S : CS) : Option (CS × Int32) := m_cSv_isRight_J0 N x0 S
set_option maxHeartbeats 4000000 in
theorem g_cSv_isRight (l : Launch) (D : va_G) (sz : Nat) {ad : Nat → Nat → Nat} {cc : Nat → ClassId} {sad sav : Nat → Nat} {N : Nat → Nat} {x0 : Nat} {S : CS} {o : CS × Int32} (Heq : m_cSv_isRight N x0 S = some o) : Met l ⟨"JoinedTrees$Saver", "isRight", "()Z"⟩ (Cond.code ⟨"JoinedTrees$Saver", "isRight", "()Z"⟩ prog_8_method_3_code 5 (some .boolean) :: gb) ({ frames := 5, cells := 0, slots := 0, locals := 113 }) (cPc sad sav D (cw ad cc N S) (cty cc) sz [.ref (ad 6 x0)]) (va_Qi (fun (r : Int32) (_ : Unit) => r = o.2) (fun _ t => gO D (cw ad cc N o.1) (cty cc) (va_A (cw ad cc N S) sz) t) (va_A (cw ad cc N S) sz)) 0 0 (va_A (cw ad cc N S) sz) := by
  refine Met.ofW (cc := prog_8_method_3_code) (maxL := 5) (ret := (some .boolean)) (by decide) rfl ?_
  intro p e s m args below meth c s₁ B hml hv
  obtain ⟨rfl, hsz, hP, hK, hD0, hev, hE, hN⟩ := hv
  have hx := B.exec
  have hb := B.bytes
  have hr := B.returns
  have hts : ∀ w9 ∈ gb, w9.before [.ref (ad 6 x0)].toArray s = true := fun w9 h => atoms_spec (ws := Cond.code ⟨"JoinedTrees$Saver", "isRight", "()Z"⟩ prog_8_method_3_code 5 (some .boolean) :: gb) B.pre w9 (List.mem_cons_of_mem _ h)
  have hown : s.vm.findClass "JoinedTrees$Saver" = some m.cls := findClass_of_methodNamed B.named
  have hlocks := B.notSynchronized
  have hNS := ns_of hP
  subst hsz
  have hD := hD0.self (sz := s.heap.size)
  generalize hAe : va_A (cw ad cc N S) s.heap.size = A at hD hev hE hNS ⊢
  have hA : ∀ q : Nat, s.heap.size ≤ q → A q := fun q h => by rw [← hAe]; exact Or.inr h
  have hS : va_S A s.heap s.heap [] := va_S.rf
  obtain ⟨ls, hl, hle⟩ : ∃ ls : Array Slot, lv_has ls 5 [(0, .ref (ad 6 x0))] ∧ entryFrame m ([.ref (ad 6 x0)] : List Value).toArray 5 = F0 m 0 ls [] := by
    exact ⟨_, lv_entry (n := 5) _ (Nat.le_of_ble_eq_true rfl), lg_entry_eq ..⟩
  rw [hle]
  refine w_cSv_isRight_J0 ⟨hx, hb, hr, hml, hown, hts, hK, hA, hev, hE, hN, hNS⟩ Heq (fun r h pc H locs ls hd hz hP hD hS => ?_) _ _ _ hP hD hS (lv_sub hl [0] rfl)
  subst h
  exact W.zret (ty := .boolean) hx hb hr (by rcases hz with hz | hz <;> rw [hz] <;> rfl) (fun t ht hW => ⟨⟨_, (), rfl, rfl, by rw [ht]; exact hP, va_K.moved hW.alike hK, hD⟩, hS.F ht⟩) hS.2.2 hd
def m_cJT_told_J113 (N : Nat → Nat) (x0 : Nat) (S : CS) (t0 : Int32) : Option (CS × Int32) := some (S, t0)
theorem d_cJT_told_0 : decode prog_1_method_29_code 0 = .ok (.iload_n 1, 1) := by decide +kernel
theorem d_cJT_told_1 : decode prog_1_method_29_code 1 = .ok (.tableswitch 113 0 7 #[47, 55, 60, 68, 76, 87, 92, 100], 47) := by decide +kernel
theorem d_cJT_told_48 : decode prog_1_method_29_code 48 = .ok (.aload_n 0, 1) := by decide +kernel
theorem d_cJT_told_49 : decode prog_1_method_29_code 49 = .ok (.getfield 67, 3) := by decide +kernel
theorem d_cJT_told_52 : decode prog_1_method_29_code 52 = .ok (.getfield 80, 3) := by decide +kernel
theorem d_cJT_told_55 : decode prog_1_method_29_code 55 = .ok (.ireturn, 1) := by decide +kernel
theorem d_cJT_told_56 : decode prog_1_method_29_code 56 = .ok (.aload_n 0, 1) := by decide +kernel
theorem d_cJT_told_57 : decode prog_1_method_29_code 57 = .ok (.getfield 96, 3) := by decide +kernel
theorem d_cJT_told_60 : decode prog_1_method_29_code 60 = .ok (.ireturn, 1) := by decide +kernel
theorem d_cJT_told_61 : decode prog_1_method_29_code 61 = .ok (.aload_n 0, 1) := by decide +kernel
theorem d_cJT_told_62 : decode prog_1_method_29_code 62 = .ok (.getfield 12, 3) := by decide +kernel
theorem d_cJT_told_65 : decode prog_1_method_29_code 65 = .ok (.getfield 395, 3) := by decide +kernel
theorem d_cJT_told_68 : decode prog_1_method_29_code 68 = .ok (.ireturn, 1) := by decide +kernel
theorem d_cJT_told_69 : decode prog_1_method_29_code 69 = .ok (.aload_n 0, 1) := by decide +kernel
theorem d_cJT_told_70 : decode prog_1_method_29_code 70 = .ok (.getfield 12, 3) := by decide +kernel
theorem d_cJT_told_73 : decode prog_1_method_29_code 73 = .ok (.getfield 226, 3) := by decide +kernel
theorem d_cJT_told_76 : decode prog_1_method_29_code 76 = .ok (.ireturn, 1) := by decide +kernel
theorem d_cJT_told_77 : decode prog_1_method_29_code 77 = .ok (.aload_n 0, 1) := by decide +kernel
theorem d_cJT_told_78 : decode prog_1_method_29_code 78 = .ok (.getfield 12, 3) := by decide +kernel
theorem d_cJT_told_81 : decode prog_1_method_29_code 81 = .ok (.getfield 287, 3) := by decide +kernel
theorem d_cJT_told_84 : decode prog_1_method_29_code 84 = .ok (.getfield 80, 3) := by decide +kernel
theorem d_cJT_told_87 : decode prog_1_method_29_code 87 = .ok (.ireturn, 1) := by decide +kernel
theorem d_cJT_told_88 : decode prog_1_method_29_code 88 = .ok (.aload_n 0, 1) := by decide +kernel
theorem d_cJT_told_89 : decode prog_1_method_29_code 89 = .ok (.getfield 76, 3) := by decide +kernel
theorem d_cJT_told_92 : decode prog_1_method_29_code 92 = .ok (.ireturn, 1) := by decide +kernel
theorem d_cJT_told_93 : decode prog_1_method_29_code 93 = .ok (.aload_n 0, 1) := by decide +kernel
theorem d_cJT_told_94 : decode prog_1_method_29_code 94 = .ok (.getfield 54, 3) := by decide +kernel
theorem d_cJT_told_97 : decode prog_1_method_29_code 97 = .ok (.getfield 80, 3) := by decide +kernel
theorem d_cJT_told_100 : decode prog_1_method_29_code 100 = .ok (.ireturn, 1) := by decide +kernel
theorem d_cJT_told_101 : decode prog_1_method_29_code 101 = .ok (.aload_n 0, 1) := by decide +kernel
theorem d_cJT_told_102 : decode prog_1_method_29_code 102 = .ok (.getfield 352, 3) := by decide +kernel
theorem d_cJT_told_105 : decode prog_1_method_29_code 105 = .ok (.ifCond .eq 7, 3) := by decide +kernel
theorem d_cJT_told_112 : decode prog_1_method_29_code 112 = .ok (.iconst 0, 1) := by decide +kernel
theorem d_cJT_told_113 : decode prog_1_method_29_code 113 = .ok (.ireturn, 1) := by decide +kernel
set_option maxHeartbeats 4000000 in
set_option maxRecDepth 100000 in
theorem w_cJT_told_J113 {p : Program} {l : Launch} {e : Env} {s : State} {m : MethodId} {args : Array Value} {below : List Frame} {meth : Method} {c : Code} {A : Nat → Prop} {D : va_G} {ad : Nat → Nat → Nat} {cc : Nat → ClassId} {sad sav : Nat → Nat} {Q : State → Prop} (hC : MCc sad sav "JoinedTrees" prog_1_method_29_code 2 (some .int) p s m args meth c A D cc) {N : Nat → Nat} {x0 : Nat} {S : CS} {t0 : Int32} {o : CS × Int32} (Heq : m_cJT_told_J113 N x0 S t0 = some o) (Kr : ∀ r : CS × Int32, o = r → ∀ (pc : Nat) (H : Heap) (locs : List Loc) (ls : Array Slot), decode prog_1_method_29_code pc = .ok (.ireturn, 1) → va_P D cls (cw ad cc N r.1) H → va_D A (cw ad cc N r.1) → va_S A s.heap H locs → W p l e ({ frames := 0, cells := 0, slots := 0, locals := 0 }) s m args below meth c H locs 0 0 Q (F0 m pc ls [.int r.2])) : ∀ (H : Heap) (locs : List Loc) (ls : Array Slot), va_P D cls (cw ad cc N S) H → va_D A (cw ad cc N S) → va_S A s.heap H locs → lv_has ls 2 [(0, .ref (ad 11 x0))] → W p l e ({ frames := 0, cells := 0, slots := 0, locals := 0 }) s m args below meth c H locs 0 0 Q (F0 m 113 ls [.int t0]) := by
  intro H locs ls hP hD hS hl
  obtain ⟨hx, hb, hr, hml, hown, hts, hK, hA, hev, hE, hN, hNS⟩ := id hC
  unfold m_cJT_told_J113 at Heq
  exact Kr _ (Option.some.inj Heq).symm 113 _ _ _ d_cJT_told_113 hP hD hS
def m_cJT_told_J0 (N : Nat → Nat) (x0 : Nat) (S : CS) (x1 : Int32) : Option (CS × Int32) := (if x1 = 0 then gl x0 (N 11) (gn (S.r 11 8 x0) (N 5) (fun j_2 => some (S, S.i 5 1 j_2))) else (if x1 = 1 then gl x0 (N 11) (some (S, S.i 11 11 x0)) else (if x1 = 2 then gl x0 (N 11) (gn (S.r 11 0 x0) (N 8) (fun j_7 => some (S, S.i 8 5 j_7))) else (if x1 = 3 then gl x0 (N 11) (gn (S.r 11 0 x0) (N 8) (fun j_11 => some (S, S.i 8 4 j_11))) else (if x1 = 4 then gl x0 (N 11) (gn (S.r 11 0 x0) (N 8) (fun j_15 => gn (S.r 8 2 j_15) (N 5) (fun j_18 => some (S, S.i 5 1 j_18)))) else (if x1 = 5 then gl x0 (N 11) (some (S, S.i 11 12 x0)) else (if x1 = 6 then gl x0 (N 11) (gn (S.r 11 6 x0) (N 5) (fun j_23 => some (S, S.i 5 1 j_23))) else (if x1 = 7 then gl x0 (N 11) ((if S.i 11 7 x0 = 0 then m_cJT_told_J113 N x0 S 0 else m_cJT_told_J113 N x0 S 1)) else some (S, (-1))))))))))
theorem d_cJT_told_108 : decode prog_1_method_29_code 108 = .ok (.iconst 1, 1) := by decide +kernel
theorem d_cJT_told_109 : decode prog_1_method_29_code 109 = .ok (.goto 4, 3) := by decide +kernel
theorem d_cJT_told_114 : decode prog_1_method_29_code 114 = .ok (.iconst (-1), 1) := by decide +kernel
theorem d_cJT_told_115 : decode prog_1_method_29_code 115 = .ok (.ireturn, 1) := by decide +kernel
set_option maxHeartbeats 4000000 in
set_option maxRecDepth 100000 in
theorem w_cJT_told_J0 {p : Program} {l : Launch} {e : Env} {s : State} {m : MethodId} {args : Array Value} {below : List Frame} {meth : Method} {c : Code} {A : Nat → Prop} {D : va_G} {ad : Nat → Nat → Nat} {cc : Nat → ClassId} {sad sav : Nat → Nat} {Q : State → Prop} (hC : MCc sad sav "JoinedTrees" prog_1_method_29_code 2 (some .int) p s m args meth c A D cc) {N : Nat → Nat} {x0 : Nat} {S : CS} {x1 : Int32} {o : CS × Int32} (Heq : m_cJT_told_J0 N x0 S x1 = some o) (Kr : ∀ r : CS × Int32, o = r → ∀ (pc : Nat) (H : Heap) (locs : List Loc) (ls : Array Slot), decode prog_1_method_29_code pc = .ok (.ireturn, 1) → va_P D cls (cw ad cc N r.1) H → va_D A (cw ad cc N r.1) → va_S A s.heap H locs → W p l e ({ frames := 0, cells := 0, slots := 0, locals := 0 }) s m args below meth c H locs 0 0 Q (F0 m pc ls [.int r.2])) : ∀ (H : Heap) (locs : List Loc) (ls : Array Slot), va_P D cls (cw ad cc N S) H → va_D A (cw ad cc N S) → va_S A s.heap H locs → lv_has ls 2 [(0, .ref (ad 11 x0)), (1, .int x1)] → W p l e ({ frames := 0, cells := 0, slots := 0, locals := 0 }) s m args below meth c H locs 0 0 Q (F0 m 0 ls []) := by
  intro H locs ls hP hD hS hl
  obtain ⟨hx, hb, hr, hml, hown, hts, hK, hA, hev, hE, hN, hNS⟩ := id hC
  unfold m_cJT_told_J0 at Heq
  refine lv_iload_n hx hb d_cJT_told_0 rfl (lv_at hl 1 rfl) ?_
  obtain ⟨xs1, hxs1⟩ : ∃ z, x1 = z := ⟨_, rfl⟩
  by_cases c_1 : x1 = 0
  · replace Heq := (if_pos c_1).symm.trans Heq
    refine w_i (y := 0) c_1 ?_
    refine lv_tableIn (tgt := 48) hx hb d_cJT_told_1 (by decide) (by decide) rfl (by decide) ?_
    refine lv_aload_n hx hb d_cJT_told_48 rfl (lv_at hl 0 rfl) ?_
    obtain ⟨hl_x0_11, Heq⟩ := gl_some Heq
    refine va_get (D := D) (ci := 11) (v := rv ad 5 (S.r 11 8 x0)) (C := R_JT) (T := F_JT) (N := 13) hx hb hts i_JT hown hK hP (cPos N 11 x0) (cw_obj (k := 11) (by decide) hl_x0_11) rfl 8 (by decide) (hts _ kw_429) (fun _ h9 => h9) rfl d_cJT_told_49 ?_
    obtain ⟨j_2, hj_3, hl_4, Heq⟩ := gn_some Heq
    refine w_s (st' := [.ref (ad 5 j_2)]) (congrArg (fun z9 : Option Nat => [rv ad 5 z9]) hj_3) ?_
    refine va_get (D := D) (ci := 5) (v := .int (S.i 5 1 j_2)) (C := R_Rw) (T := F_Rw) (N := 3) hx hb hts i_Rw hown hK hP (cPos N 5 j_2) (cw_obj (k := 5) (by decide) hl_4) rfl 1 (by decide) (hts _ kw_143) (fun _ h9 => h9) rfl d_cJT_told_52 ?_
    exact Kr _ (Option.some.inj Heq).symm 55 _ _ _ d_cJT_told_55 hP hD hS
  replace Heq := (if_neg c_1).symm.trans Heq
  by_cases c_5 : x1 = 1
  · replace Heq := (if_pos c_5).symm.trans Heq
    refine w_i (y := 1) c_5 ?_
    refine lv_tableIn (tgt := 56) hx hb d_cJT_told_1 (by decide) (by decide) rfl (by decide) ?_
    refine lv_aload_n hx hb d_cJT_told_56 rfl (lv_at hl 0 rfl) ?_
    obtain ⟨hl_x0_11, Heq⟩ := gl_some Heq
    refine va_get (D := D) (ci := 11) (v := .int (S.i 11 11 x0)) (C := R_JT) (T := F_JT) (N := 13) hx hb hts i_JT hown hK hP (cPos N 11 x0) (cw_obj (k := 11) (by decide) hl_x0_11) rfl 11 (by decide) (hts _ kw_432) (fun _ h9 => h9) rfl d_cJT_told_57 ?_
    exact Kr _ (Option.some.inj Heq).symm 60 _ _ _ d_cJT_told_60 hP hD hS
  replace Heq := (if_neg c_5).symm.trans Heq
  by_cases c_6 : x1 = 2
  · replace Heq := (if_pos c_6).symm.trans Heq
    refine w_i (y := 2) c_6 ?_
    refine lv_tableIn (tgt := 61) hx hb d_cJT_told_1 (by decide) (by decide) rfl (by decide) ?_
    refine lv_aload_n hx hb d_cJT_told_61 rfl (lv_at hl 0 rfl) ?_
    obtain ⟨hl_x0_11, Heq⟩ := gl_some Heq
    refine va_get (D := D) (ci := 11) (v := rv ad 8 (S.r 11 0 x0)) (C := R_JT) (T := F_JT) (N := 13) hx hb hts i_JT hown hK hP (cPos N 11 x0) (cw_obj (k := 11) (by decide) hl_x0_11) rfl 0 (by decide) (hts _ kw_421) (fun _ h9 => h9) rfl d_cJT_told_62 ?_
    obtain ⟨j_7, hj_8, hl_9, Heq⟩ := gn_some Heq
    refine w_s (st' := [.ref (ad 8 j_7)]) (congrArg (fun z9 : Option Nat => [rv ad 8 z9]) hj_8) ?_
    refine va_get (D := D) (ci := 8) (v := .int (S.i 8 5 j_7)) (C := R_St) (T := F_St) (N := 6) hx hb hts i_St hown hK hP (cPos N 8 j_7) (cw_obj (k := 8) (by decide) hl_9) rfl 5 (by decide) (hts _ kw_178) (fun _ h9 => h9) rfl d_cJT_told_65 ?_
    exact Kr _ (Option.some.inj Heq).symm 68 _ _ _ d_cJT_told_68 hP hD hS
  replace Heq := (if_neg c_6).symm.trans Heq
  by_cases c_10 : x1 = 3
  · replace Heq := (if_pos c_10).symm.trans Heq
    refine w_i (y := 3) c_10 ?_
    refine lv_tableIn (tgt := 69) hx hb d_cJT_told_1 (by decide) (by decide) rfl (by decide) ?_
    refine lv_aload_n hx hb d_cJT_told_69 rfl (lv_at hl 0 rfl) ?_
    obtain ⟨hl_x0_11, Heq⟩ := gl_some Heq
    refine va_get (D := D) (ci := 11) (v := rv ad 8 (S.r 11 0 x0)) (C := R_JT) (T := F_JT) (N := 13) hx hb hts i_JT hown hK hP (cPos N 11 x0) (cw_obj (k := 11) (by decide) hl_x0_11) rfl 0 (by decide) (hts _ kw_421) (fun _ h9 => h9) rfl d_cJT_told_70 ?_
    obtain ⟨j_11, hj_12, hl_13, Heq⟩ := gn_some Heq
    refine w_s (st' := [.ref (ad 8 j_11)]) (congrArg (fun z9 : Option Nat => [rv ad 8 z9]) hj_12) ?_
    refine va_get (D := D) (ci := 8) (v := .int (S.i 8 4 j_11)) (C := R_St) (T := F_St) (N := 6) hx hb hts i_St hown hK hP (cPos N 8 j_11) (cw_obj (k := 8) (by decide) hl_13) rfl 4 (by decide) (hts _ kw_176) (fun _ h9 => h9) rfl d_cJT_told_73 ?_
    exact Kr _ (Option.some.inj Heq).symm 76 _ _ _ d_cJT_told_76 hP hD hS
  replace Heq := (if_neg c_10).symm.trans Heq
  by_cases c_14 : x1 = 4
  · replace Heq := (if_pos c_14).symm.trans Heq
    refine w_i (y := 4) c_14 ?_
    refine lv_tableIn (tgt := 77) hx hb d_cJT_told_1 (by decide) (by decide) rfl (by decide) ?_
    refine lv_aload_n hx hb d_cJT_told_77 rfl (lv_at hl 0 rfl) ?_
    obtain ⟨hl_x0_11, Heq⟩ := gl_some Heq
    refine va_get (D := D) (ci := 11) (v := rv ad 8 (S.r 11 0 x0)) (C := R_JT) (T := F_JT) (N := 13) hx hb hts i_JT hown hK hP (cPos N 11 x0) (cw_obj (k := 11) (by decide) hl_x0_11) rfl 0 (by decide) (hts _ kw_421) (fun _ h9 => h9) rfl d_cJT_told_78 ?_
    obtain ⟨j_15, hj_16, hl_17, Heq⟩ := gn_some Heq
    refine w_s (st' := [.ref (ad 8 j_15)]) (congrArg (fun z9 : Option Nat => [rv ad 8 z9]) hj_16) ?_
    refine va_get (D := D) (ci := 8) (v := rv ad 5 (S.r 8 2 j_15)) (C := R_St) (T := F_St) (N := 6) hx hb hts i_St hown hK hP (cPos N 8 j_15) (cw_obj (k := 8) (by decide) hl_17) rfl 2 (by decide) (hts _ kw_170) (fun _ h9 => h9) rfl d_cJT_told_81 ?_
    obtain ⟨j_18, hj_19, hl_20, Heq⟩ := gn_some Heq
    refine w_s (st' := [.ref (ad 5 j_18)]) (congrArg (fun z9 : Option Nat => [rv ad 5 z9]) hj_19) ?_
    refine va_get (D := D) (ci := 5) (v := .int (S.i 5 1 j_18)) (C := R_Rw) (T := F_Rw) (N := 3) hx hb hts i_Rw hown hK hP (cPos N 5 j_18) (cw_obj (k := 5) (by decide) hl_20) rfl 1 (by decide) (hts _ kw_143) (fun _ h9 => h9) rfl d_cJT_told_84 ?_
    exact Kr _ (Option.some.inj Heq).symm 87 _ _ _ d_cJT_told_87 hP hD hS
  replace Heq := (if_neg c_14).symm.trans Heq
  by_cases c_21 : x1 = 5
  · replace Heq := (if_pos c_21).symm.trans Heq
    refine w_i (y := 5) c_21 ?_
    refine lv_tableIn (tgt := 88) hx hb d_cJT_told_1 (by decide) (by decide) rfl (by decide) ?_
    refine lv_aload_n hx hb d_cJT_told_88 rfl (lv_at hl 0 rfl) ?_
    obtain ⟨hl_x0_11, Heq⟩ := gl_some Heq
    refine va_get (D := D) (ci := 11) (v := .int (S.i 11 12 x0)) (C := R_JT) (T := F_JT) (N := 13) hx hb hts i_JT hown hK hP (cPos N 11 x0) (cw_obj (k := 11) (by decide) hl_x0_11) rfl 12 (by decide) (hts _ kw_433) (fun _ h9 => h9) rfl d_cJT_told_89 ?_
    exact Kr _ (Option.some.inj Heq).symm 92 _ _ _ d_cJT_told_92 hP hD hS
  replace Heq := (if_neg c_21).symm.trans Heq
  by_cases c_22 : x1 = 6
  · replace Heq := (if_pos c_22).symm.trans Heq
    refine w_i (y := 6) c_22 ?_
    refine lv_tableIn (tgt := 93) hx hb d_cJT_told_1 (by decide) (by decide) rfl (by decide) ?_
    refine lv_aload_n hx hb d_cJT_told_93 rfl (lv_at hl 0 rfl) ?_
    obtain ⟨hl_x0_11, Heq⟩ := gl_some Heq
    refine va_get (D := D) (ci := 11) (v := rv ad 5 (S.r 11 6 x0)) (C := R_JT) (T := F_JT) (N := 13) hx hb hts i_JT hown hK hP (cPos N 11 x0) (cw_obj (k := 11) (by decide) hl_x0_11) rfl 6 (by decide) (hts _ kw_427) (fun _ h9 => h9) rfl d_cJT_told_94 ?_
    obtain ⟨j_23, hj_24, hl_25, Heq⟩ := gn_some Heq
    refine w_s (st' := [.ref (ad 5 j_23)]) (congrArg (fun z9 : Option Nat => [rv ad 5 z9]) hj_24) ?_
    refine va_get (D := D) (ci := 5) (v := .int (S.i 5 1 j_23)) (C := R_Rw) (T := F_Rw) (N := 3) hx hb hts i_Rw hown hK hP (cPos N 5 j_23) (cw_obj (k := 5) (by decide) hl_25) rfl 1 (by decide) (hts _ kw_143) (fun _ h9 => h9) rfl d_cJT_told_97 ?_
    exact Kr _ (Option.some.inj Heq).symm 100 _ _ _ d_cJT_told_100 hP hD hS
  replace Heq := (if_neg c_22).symm.trans Heq
  by_cases c_26 : x1 = 7
  · replace Heq := (if_pos c_26).symm.trans Heq
    refine w_i (y := 7) c_26 ?_
    refine lv_tableIn (tgt := 101) hx hb d_cJT_told_1 (by decide) (by decide) rfl (by decide) ?_
    refine lv_aload_n hx hb d_cJT_told_101 rfl (lv_at hl 0 rfl) ?_
    obtain ⟨hl_x0_11, Heq⟩ := gl_some Heq
    refine va_get (D := D) (ci := 11) (v := .int (S.i 11 7 x0)) (C := R_JT) (T := F_JT) (N := 13) hx hb hts i_JT hown hK hP (cPos N 11 x0) (cw_obj (k := 11) (by decide) hl_x0_11) rfl 7 (by decide) (hts _ kw_428) (fun _ h9 => h9) rfl d_cJT_told_102 ?_
    refine lv_if_eq (tgt := 112) hx hb d_cJT_told_105 (by decide) (fun c_27 => ?_) (fun c_27 => ?_)
    · replace Heq := (if_pos c_27).symm.trans Heq
      refine lv_iconst (v := 0) hx hb d_cJT_told_112 (by decide) ?_
      exact w_cJT_told_J113 hC Heq Kr _ _ _ hP hD hS (lv_sub hl [0] rfl)
    · replace Heq := (if_neg c_27).symm.trans Heq
      refine lv_iconst (v := 1) hx hb d_cJT_told_108 (by decide) ?_
      refine lv_goto (tgt := 113) hx hb d_cJT_told_109 (by decide) ?_
      exact w_cJT_told_J113 hC Heq Kr _ _ _ hP hD hS (lv_sub hl [0] rfl)
  replace Heq := (if_neg c_26).symm.trans Heq
  refine lv_tableOut (tgt := 114) hx hb d_cJT_told_1 (by have q0 : (x1).toInt ≠ 0 := fun h => c_1 (Int32.toInt_inj.mp (h.trans (by decide))); have q1 : (x1).toInt ≠ 1 := fun h => c_5 (Int32.toInt_inj.mp (h.trans (by decide))); have q2 : (x1).toInt ≠ 2 := fun h => c_6 (Int32.toInt_inj.mp (h.trans (by decide))); have q3 : (x1).toInt ≠ 3 := fun h => c_10 (Int32.toInt_inj.mp (h.trans (by decide))); have q4 : (x1).toInt ≠ 4 := fun h => c_14 (Int32.toInt_inj.mp (h.trans (by decide))); have q5 : (x1).toInt ≠ 5 := fun h => c_21 (Int32.toInt_inj.mp (h.trans (by decide))); have q6 : (x1).toInt ≠ 6 := fun h => c_22 (Int32.toInt_inj.mp (h.trans (by decide))); have q7 : (x1).toInt ≠ 7 := fun h => c_26 (Int32.toInt_inj.mp (h.trans (by decide))); omega) (by decide) ?_
  refine lv_iconst (v := (-1)) hx hb d_cJT_told_114 (by decide) ?_
  exact Kr _ (Option.some.inj Heq).symm 115 _ _ _ d_cJT_told_115 hP hD hS
def m_cJT_told (N : Nat → Nat) (x0 : Nat) (S : CS) (x1 : Int32) : Option (CS × Int32) := m_cJT_told_J0 N x0 S x1
set_option maxHeartbeats 4000000 in
theorem g_cJT_told (l : Launch) (D : va_G) (sz : Nat) {ad : Nat → Nat → Nat} {cc : Nat → ClassId} {sad sav : Nat → Nat} {N : Nat → Nat} {x0 : Nat} {S : CS} {x1 : Int32} {o : CS × Int32} (Heq : m_cJT_told N x0 S x1 = some o) : Met l ⟨"JoinedTrees", "told", "(I)I"⟩ (Cond.code ⟨"JoinedTrees", "told", "(I)I"⟩ prog_1_method_29_code 2 (some .int) :: gb) ({ frames := 0, cells := 0, slots := 0, locals := 0 }) (cPc sad sav D (cw ad cc N S) (cty cc) sz [.ref (ad 11 x0), .int x1]) (va_Qi (fun (r : Int32) (_ : Unit) => r = o.2) (fun _ t => gO D (cw ad cc N o.1) (cty cc) (va_A (cw ad cc N S) sz) t) (va_A (cw ad cc N S) sz)) 0 0 (va_A (cw ad cc N S) sz) := by
  refine Met.ofW (cc := prog_1_method_29_code) (maxL := 2) (ret := (some .int)) (by decide) rfl ?_
  intro p e s m args below meth c s₁ B hml hv
  obtain ⟨rfl, hsz, hP, hK, hD0, hev, hE, hN⟩ := hv
  have hx := B.exec
  have hb := B.bytes
  have hr := B.returns
  have hts : ∀ w9 ∈ gb, w9.before [.ref (ad 11 x0), .int x1].toArray s = true := fun w9 h => atoms_spec (ws := Cond.code ⟨"JoinedTrees", "told", "(I)I"⟩ prog_1_method_29_code 2 (some .int) :: gb) B.pre w9 (List.mem_cons_of_mem _ h)
  have hown : s.vm.findClass "JoinedTrees" = some m.cls := findClass_of_methodNamed B.named
  have hlocks := B.notSynchronized
  have hNS := ns_of hP
  subst hsz
  have hD := hD0.self (sz := s.heap.size)
  generalize hAe : va_A (cw ad cc N S) s.heap.size = A at hD hev hE hNS ⊢
  have hA : ∀ q : Nat, s.heap.size ≤ q → A q := fun q h => by rw [← hAe]; exact Or.inr h
  have hS : va_S A s.heap s.heap [] := va_S.rf
  obtain ⟨ls, hl, hle⟩ : ∃ ls : Array Slot, lv_has ls 2 [(0, .ref (ad 11 x0)), (1, .int x1)] ∧ entryFrame m ([.ref (ad 11 x0), .int x1] : List Value).toArray 2 = F0 m 0 ls [] := by
    exact ⟨_, lv_entry (n := 2) _ (Nat.le_of_ble_eq_true rfl), lg_entry_eq ..⟩
  rw [hle]
  refine w_cJT_told_J0 ⟨hx, hb, hr, hml, hown, hts, hK, hA, hev, hE, hN, hNS⟩ Heq (fun r h pc H locs ls hd hP hD hS => ?_) _ _ _ hP hD hS (lv_sub hl [0, 1] rfl)
  subst h
  exact W.iret hx hb hr (fun t ht hW => ⟨⟨_, (), rfl, rfl, by rw [ht]; exact hP, va_K.moved hW.alike hK, hD⟩, hS.F ht⟩) hS.2.2 hd
