/-! THE CLASS'S METHODS ON A FRESH OBJECT: which exception, or which answer. Printed by wip/gen/fx2.py -/
def k_end (n : Int32) : Int32 := if n < 0 then 1 else if 20 ≤ n then 1 else if n ≤ 0 then 0 else 1
def k_put (r o so : Int32) : Int32 := if r < 0 then 1 else if r < 8 then (if so < 0 then 1 else if 8 < so then 1 else if so = 4 then 1 else if o = 0 then 1 else 3) else 1
def k_era (r o i : Int32) : Int32 := if r < 0 then 1 else if r < 8 then (if i = -1 then 1 else if o = 0 then 1 else 3) else 1
def k_com (r : Int32) : Int32 := if r < 0 then 1 else if r < 8 then 2 else 1
def k_dro (r : Int32) : Int32 := if r < 0 then 1 else if r < 8 then 0 else 1
def k_sen (f t a : Int32) : Int32 := if f < 0 then 1 else if f < 8 then (if t < 0 then 1 else if t < 8 then (if a < 0 then 1 else if a < 8 then 3 else 1) else 1) else 1
def k_joi (f t : Int32) : Int32 := if f < 0 then 1 else if f < 8 then (if t < 0 then 1 else if t < 8 then 0 else 1) else 1
def k_loo (r a : Int32) : Int32 := if r < 0 then 1 else if r < 8 then (if a < -1 then 1 else if a < 8 then (if a < 0 then 0 else 2) else 1) else 1
def k_obj (r o w : Int32) : Int32 := if r < 0 then 1 else if r < 8 then (if w < 0 then 1 else if w ≤ 1 then (if o = 0 then 0 else 2) else 1) else 1
def k_key (r : Int32) : Int32 := if r < 0 then 1 else if r < 8 then 2 else 1
def k_can (r o i w : Int32) : Int32 := if r < 0 then 1 else if r < 8 then (if i = -1 then 1 else if w < 0 then 1 else if w ≤ 4 then (if o = 0 then 1 else 2) else 1) else 1
def k_ele (r o : Int32) : Int32 := if r < 0 then 1 else if r < 8 then (if o = 0 then 1 else 2) else 1
def k_tex (r o : Int32) : Int32 := if r < 0 then 1 else if r < 8 then (if o = 0 then 0 else 3) else 1
def k_har (b : Int32) : Int32 := if b < 0 then 1 else if b ≤ 7 then 2 else 1
def k_out (i : Int32) : Int32 := if i < 0 then 1 else if i < 8192 then 0 else 1
def v_cou (w : Int32) : Int32 := if w < 0 then -1 else if w < 7 then 0 else if w < 10 then -1 else if w < 18 then 0 else -1
def v_tol (w : Int32) : Int32 := if w < 0 then -1 else if w < 5 then 0 else if w < 6 then -1 else if w < 8 then 0 else -1
theorem d_set_0 : decode prog_1_method_4_code 0 = .ok (.aload_n 0, 1) := by decide +kernel
theorem d_set_1 : decode prog_1_method_4_code 1 = .ok (.invokevirtual 102, 3) := by decide +kernel
theorem d_set_4 : decode prog_1_method_4_code 4 = .ok (.istore 6, 2) := by decide +kernel
theorem d_set_6 : decode prog_1_method_4_code 6 = .ok (.aload_n 0, 1) := by decide +kernel
theorem d_set_7 : decode prog_1_method_4_code 7 = .ok (.iload_n 1, 1) := by decide +kernel
theorem d_set_8 : decode prog_1_method_4_code 8 = .ok (.invokevirtual 105, 3) := by decide +kernel
theorem d_set_11 : decode prog_1_method_4_code 11 = .ok (.astore 7, 2) := by decide +kernel
theorem d_set_13 : decode prog_1_method_4_code 13 = .ok (.aload_n 0, 1) := by decide +kernel
theorem d_set_14 : decode prog_1_method_4_code 14 = .ok (.iload_n 3, 1) := by decide +kernel
theorem d_set_15 : decode prog_1_method_4_code 15 = .ok (.iload 6, 2) := by decide +kernel
theorem d_set_17 : decode prog_1_method_4_code 17 = .ok (.iconst 1, 1) := by decide +kernel
theorem d_set_18 : decode prog_1_method_4_code 18 = .ok (.invokevirtual 109, 3) := by decide +kernel
set_option maxHeartbeats 4000000 in
set_option maxRecDepth 100000 in
theorem c_set_1 (l : Launch) (hfl : l.flags = flags0) (D : va_G) (ad : Nat → Nat) (ac : Nat → ClassId) (ck : Nat → Int32) (sz : Nat) (r o so : Int32) (n : Int64) : MeT l ⟨"JoinedTrees", "set", "(IIIJ)I"⟩ (Cond.code ⟨"JoinedTrees", "set", "(IIIJ)I"⟩ prog_1_method_4_code 10 (some .int) :: gb) ({ frames := 7, cells := 1, slots := 6, locals := 120 }) (fxPc D ad ac ck sz [.ref (ad 0), .int r, .int o, .int so, .long n]) e_IA (va_A (fxW ad ac ck) sz) 1 6 := by
  refine MeT.ofW (cc := prog_1_method_4_code) (maxL := 10) (ret := (some .int)) (by decide) rfl ?_
  intro p e s m args below meth c s₁ B hml hno hv
  obtain ⟨rfl, hsz, hP, hK, hD0, hev⟩ := hv
  have hx := B.exec
  have hb := B.bytes
  have hr := B.returns
  have hts : ∀ w9 ∈ gb, w9.before [.ref (ad 0), .int r, .int o, .int so, .long n].toArray s = true := fun w9 h => atoms_spec (ws := Cond.code ⟨"JoinedTrees", "set", "(IIIJ)I"⟩ prog_1_method_4_code 10 (some .int) :: gb) B.pre w9 (List.mem_cons_of_mem _ h)
  have hown : s.vm.findClass "JoinedTrees" = some m.cls := findClass_of_methodNamed B.named
  have hlocks := B.notSynchronized
  subst hsz
  have hNS := ns_of hP
  have hD := hD0.self (sz := s.heap.size)
  generalize hAe : va_A (fxW ad ac ck) s.heap.size = A at hD hev hNS ⊢
  have hA : ∀ q : Nat, s.heap.size ≤ q → A q := fun q h => by rw [← hAe]; exact Or.inr h
  have hS : va_S A s.heap s.heap [] := va_S.rf
  have hP : va_P D cls (fxW ad ac ck) s.heap := hP
  have hl := lv_entry ([.ref (ad 0), .int r, .int o, .int so, .long n]) (n := 10) (Nat.le_of_ble_eq_true rfl)
  rw [lg_entry_eq]
  generalize (lg_sl ([.ref (ad 0), .int r, .int o, .int so, .long n]) ++ List.replicate (10 - (lg_sl ([.ref (ad 0), .int r, .int o, .int so, .long n])).length) Slot.unset).toArray = ls at hl ⊢
  have hl : lv_has ls 10 [(0, .ref (ad 0)), (1, .int r), (2, .int o), (3, .int so), (4, .long n)] := hl
  refine lv_aload_n hx hb d_set_0 rfl (lv_at hl 0 rfl) ?_
  have hFc := fr_all hD hS hA
  refine va_calli (va_runV (As := []) (rest := []) ⟨hx, hb, hml, hown, hts⟩ (c_take l hfl D ad ac ck s.heap.size) (cw_v 0 hts kw_589 kw_586 kw_588 kp_2 kw_1 rfl rfl (by decide +kernel) ⟨Nat.le_of_ble_eq_true rfl, Nat.le_of_ble_eq_true rfl⟩) ⟨fx_blind, va_recv hK hP (ci := 11) (q0 := 0) rfl rfl, fun U hU hW => fx_pre hU hW hP hK hD hev hNS hS hFc⟩ rfl rfl hl.1 rfl (lv_room (Nat.le_of_ble_eq_true rfl)) d_set_1 ⟨Nat.le_of_ble_eq_true rfl, Nat.le_of_ble_eq_true rfl⟩) hS (fun q _ h => hFc q h) hFc (fun r_1 u_2 t H1 locs ht hvm hw hB hz1 hk1 hS => ?_)
  obtain ⟨hP, -, hD1⟩ := hB
  rw [ht] at hP
  have hD := hD1.weaken (fun _ q _ h => hFc q.1 h)
  generalize H1 = H at hP hS ⊢
  refine W.cs (cells' := 0) (slots' := 0) rfl rfl ?_
  subst hw
  refine lv_istore (lv' := [(6, .int 0), (0, .ref (ad 0)), (1, .int r), (2, .int o), (3, .int so), (4, .long n)]) hx hb d_set_4 hl (by decide) rfl (fun ls hl => ?_)
  refine lv_aload_n hx hb d_set_6 rfl (lv_at hl 1 rfl) ?_
  refine lv_iload_n hx hb d_set_7 rfl (lv_at hl 2 rfl) ?_
  by_cases c_4 : r < 0
  · have hFc := fr_all hD hS hA
    exact tx_on (tx_runV (As := [.int r]) (rest := []) ⟨hx, hb, hml, hown, hts⟩ (c_shown_T l hfl D ad ac u_2 H.size r (Or.inl c_4)) (cw_v 1 hts kw_593 kw_590 kw_592 kp_3 kw_1 rfl rfl (by decide +kernel) ⟨Nat.le_of_ble_eq_true rfl, Nat.le_of_ble_eq_true rfl⟩) ⟨fx_blind, va_recv hK hP (ci := 11) (q0 := 0) rfl rfl, fun U hU hW => fx_pre hU hW hP hK hD hev hNS hS hFc⟩ rfl rfl hl.1 rfl (lv_room (Nat.le_of_ble_eq_true rfl)) d_set_8 ⟨Nat.le_of_ble_eq_true rfl, Nat.le_of_ble_eq_true rfl⟩) hno hlocks hS hFc
  · by_cases c_5 : r < 8
    · obtain ⟨j_3, hj_3, rfl⟩ := of8 c_4 c_5
      have hFc := fr_all hD hS hA
      refine va_callq (va_runV (As := [.int (nI j_3)]) (rest := []) ⟨hx, hb, hml, hown, hts⟩ (c_shown l hfl D ad ac u_2 H.size j_3 hj_3) (cw_v 1 hts kw_593 kw_590 kw_592 kp_3 kw_1 rfl rfl (by decide +kernel) ⟨Nat.le_of_ble_eq_true rfl, Nat.le_of_ble_eq_true rfl⟩) ⟨fx_blind, va_recv hK hP (ci := 11) (q0 := 0) rfl rfl, fun U hU hW => fx_pre hU hW hP hK hD hev hNS hS hFc⟩ rfl rfl hl.1 rfl (lv_room (Nat.le_of_ble_eq_true rfl)) d_set_8 ⟨Nat.le_of_ble_eq_true rfl, Nat.le_of_ble_eq_true rfl⟩) hS (fun q _ h => hFc q h) hFc (fun r_6 u_7 t H1 locs ht hvm hw hB hz1 hk1 hS => ?_)
      obtain ⟨hP, -, hD1⟩ := hB
      rw [ht] at hP
      have hD := hD1.weaken (fun _ q _ h => hFc q.1 h)
      generalize H1 = H at hP hS ⊢
      refine W.cs (cells' := 0) (slots' := 0) rfl rfl ?_
      subst hw
      refine w_v (y := .ref (ad (18 + j_3))) rfl ?_
      refine lv_astore (lv' := [(7, .ref (ad (18 + j_3))), (6, .int 0), (0, .ref (ad 0)), (1, .int (nI j_3)), (2, .int o), (3, .int so), (4, .long n)]) hx hb d_set_11 hl (by decide) rfl (fun ls hl => ?_)
      refine lv_aload_n hx hb d_set_13 rfl (lv_at hl 2 rfl) ?_
      refine lv_iload_n hx hb d_set_14 rfl (lv_at hl 5 rfl) ?_
      refine lv_iload hx hb d_set_15 (lv_at hl 1 rfl) ?_
      refine lv_iconst (v := 1) hx hb d_set_17 (by decide) ?_
      have hFc := fr_all hD hS hA
      exact tx_on (tx_runV (As := [.int so, .int 0, .int 1]) (rest := []) ⟨hx, hb, hml, hown, hts⟩ (c_nv1_T l hfl D ad ac u_7 H.size so) (cw_v 3 hts kw_604 kw_601 kw_603 kp_4 kw_1 rfl rfl (by decide +kernel) ⟨Nat.le_of_ble_eq_true rfl, Nat.le_of_ble_eq_true rfl⟩) ⟨fx_blind, va_recv hK hP (ci := 11) (q0 := 0) rfl rfl, fun U hU hW => fx_pre hU hW hP hK hD hev hNS hS hFc⟩ rfl rfl hl.1 rfl (lv_room (Nat.le_of_ble_eq_true rfl)) d_set_18 ⟨Nat.le_of_ble_eq_true rfl, Nat.le_of_ble_eq_true rfl⟩) hno hlocks hS hFc
    · have hFc := fr_all hD hS hA
      exact tx_on (tx_runV (As := [.int r]) (rest := []) ⟨hx, hb, hml, hown, hts⟩ (c_shown_T l hfl D ad ac u_2 H.size r (Or.inr c_5)) (cw_v 1 hts kw_593 kw_590 kw_592 kp_3 kw_1 rfl rfl (by decide +kernel) ⟨Nat.le_of_ble_eq_true rfl, Nat.le_of_ble_eq_true rfl⟩) ⟨fx_blind, va_recv hK hP (ci := 11) (q0 := 0) rfl rfl, fun U hU hW => fx_pre hU hW hP hK hD hev hNS hS hFc⟩ rfl rfl hl.1 rfl (lv_room (Nat.le_of_ble_eq_true rfl)) d_set_8 ⟨Nat.le_of_ble_eq_true rfl, Nat.le_of_ble_eq_true rfl⟩) hno hlocks hS hFc
theorem d_splice_0 : decode prog_1_method_7_code 0 = .ok (.aload_n 0, 1) := by decide +kernel
theorem d_splice_1 : decode prog_1_method_7_code 1 = .ok (.invokevirtual 102, 3) := by decide +kernel
theorem d_splice_4 : decode prog_1_method_7_code 4 = .ok (.istore 5, 2) := by decide +kernel
theorem d_splice_6 : decode prog_1_method_7_code 6 = .ok (.aload_n 0, 1) := by decide +kernel
theorem d_splice_7 : decode prog_1_method_7_code 7 = .ok (.iload_n 1, 1) := by decide +kernel
theorem d_splice_8 : decode prog_1_method_7_code 8 = .ok (.invokevirtual 105, 3) := by decide +kernel
theorem d_splice_11 : decode prog_1_method_7_code 11 = .ok (.astore 6, 2) := by decide +kernel
theorem d_splice_13 : decode prog_1_method_7_code 13 = .ok (.iload 4, 2) := by decide +kernel
theorem d_splice_15 : decode prog_1_method_7_code 15 = .ok (.ifCond .lt 22, 3) := by decide +kernel
theorem d_splice_37 : decode prog_1_method_7_code 37 = .ok (.new 93, 3) := by decide +kernel
theorem d_splice_40 : decode prog_1_method_7_code 40 = .ok (.dup, 1) := by decide +kernel
theorem d_splice_41 : decode prog_1_method_7_code 41 = .ok (.invokespecial 95, 3) := by decide +kernel
theorem d_splice_44 : decode prog_1_method_7_code 44 = .ok (.athrow, 1) := by decide +kernel
theorem d_splice_18 : decode prog_1_method_7_code 18 = .ok (.iload 5, 2) := by decide +kernel
theorem d_splice_20 : decode prog_1_method_7_code 20 = .ok (.iconst 1, 1) := by decide +kernel
theorem d_splice_21 : decode prog_1_method_7_code 21 = .ok (.if_icmp .ne 16, 3) := by decide +kernel
set_option maxHeartbeats 4000000 in
set_option maxRecDepth 100000 in
theorem c_splice_1 (l : Launch) (hfl : l.flags = flags0) (D : va_G) (ad : Nat → Nat) (ac : Nat → ClassId) (ck : Nat → Int32) (sz : Nat) (r o i n : Int32) : MeT l ⟨"JoinedTrees", "splice", "(IIII)I"⟩ (Cond.code ⟨"JoinedTrees", "splice", "(IIII)I"⟩ prog_1_method_7_code 10 (some .int) :: gb) ({ frames := 7, cells := 1, slots := 6, locals := 117 }) (fxPc D ad ac ck sz [.ref (ad 0), .int r, .int o, .int i, .int n]) e_IA (va_A (fxW ad ac ck) sz) 1 6 := by
  refine MeT.ofW (cc := prog_1_method_7_code) (maxL := 10) (ret := (some .int)) (by decide) rfl ?_
  intro p e s m args below meth c s₁ B hml hno hv
  obtain ⟨rfl, hsz, hP, hK, hD0, hev⟩ := hv
  have hx := B.exec
  have hb := B.bytes
  have hr := B.returns
  have hts : ∀ w9 ∈ gb, w9.before [.ref (ad 0), .int r, .int o, .int i, .int n].toArray s = true := fun w9 h => atoms_spec (ws := Cond.code ⟨"JoinedTrees", "splice", "(IIII)I"⟩ prog_1_method_7_code 10 (some .int) :: gb) B.pre w9 (List.mem_cons_of_mem _ h)
  have hown : s.vm.findClass "JoinedTrees" = some m.cls := findClass_of_methodNamed B.named
  have hlocks := B.notSynchronized
  subst hsz
  have hNS := ns_of hP
  have hD := hD0.self (sz := s.heap.size)
  generalize hAe : va_A (fxW ad ac ck) s.heap.size = A at hD hev hNS ⊢
  have hA : ∀ q : Nat, s.heap.size ≤ q → A q := fun q h => by rw [← hAe]; exact Or.inr h
  have hS : va_S A s.heap s.heap [] := va_S.rf
  have hP : va_P D cls (fxW ad ac ck) s.heap := hP
  have hl := lv_entry ([.ref (ad 0), .int r, .int o, .int i, .int n]) (n := 10) (Nat.le_of_ble_eq_true rfl)
  rw [lg_entry_eq]
  generalize (lg_sl ([.ref (ad 0), .int r, .int o, .int i, .int n]) ++ List.replicate (10 - (lg_sl ([.ref (ad 0), .int r, .int o, .int i, .int n])).length) Slot.unset).toArray = ls at hl ⊢
  have hl : lv_has ls 10 [(0, .ref (ad 0)), (1, .int r), (2, .int o), (3, .int i), (4, .int n)] := hl
  refine lv_aload_n hx hb d_splice_0 rfl (lv_at hl 0 rfl) ?_
  have hFc := fr_all hD hS hA
  refine va_calli (va_runV (As := []) (rest := []) ⟨hx, hb, hml, hown, hts⟩ (c_take l hfl D ad ac ck s.heap.size) (cw_v 0 hts kw_589 kw_586 kw_588 kp_2 kw_1 rfl rfl (by decide +kernel) ⟨Nat.le_of_ble_eq_true rfl, Nat.le_of_ble_eq_true rfl⟩) ⟨fx_blind, va_recv hK hP (ci := 11) (q0 := 0) rfl rfl, fun U hU hW => fx_pre hU hW hP hK hD hev hNS hS hFc⟩ rfl rfl hl.1 rfl (lv_room (Nat.le_of_ble_eq_true rfl)) d_splice_1 ⟨Nat.le_of_ble_eq_true rfl, Nat.le_of_ble_eq_true rfl⟩) hS (fun q _ h => hFc q h) hFc (fun r_1 u_2 t H1 locs ht hvm hw hB hz1 hk1 hS => ?_)
  obtain ⟨hP, -, hD1⟩ := hB
  rw [ht] at hP
  have hD := hD1.weaken (fun _ q _ h => hFc q.1 h)
  generalize H1 = H at hP hS ⊢
  refine W.cs (cells' := 0) (slots' := 0) rfl rfl ?_
  subst hw
  refine lv_istore (lv' := [(5, .int 0), (0, .ref (ad 0)), (1, .int r), (2, .int o), (3, .int i), (4, .int n)]) hx hb d_splice_4 hl (by decide) rfl (fun ls hl => ?_)
  refine lv_aload_n hx hb d_splice_6 rfl (lv_at hl 1 rfl) ?_
  refine lv_iload_n hx hb d_splice_7 rfl (lv_at hl 2 rfl) ?_
  by_cases c_4 : r < 0
  · have hFc := fr_all hD hS hA
    exact tx_on (tx_runV (As := [.int r]) (rest := []) ⟨hx, hb, hml, hown, hts⟩ (c_shown_T l hfl D ad ac u_2 H.size r (Or.inl c_4)) (cw_v 1 hts kw_593 kw_590 kw_592 kp_3 kw_1 rfl rfl (by decide +kernel) ⟨Nat.le_of_ble_eq_true rfl, Nat.le_of_ble_eq_true rfl⟩) ⟨fx_blind, va_recv hK hP (ci := 11) (q0 := 0) rfl rfl, fun U hU hW => fx_pre hU hW hP hK hD hev hNS hS hFc⟩ rfl rfl hl.1 rfl (lv_room (Nat.le_of_ble_eq_true rfl)) d_splice_8 ⟨Nat.le_of_ble_eq_true rfl, Nat.le_of_ble_eq_true rfl⟩) hno hlocks hS hFc
  · by_cases c_5 : r < 8
    · obtain ⟨j_3, hj_3, rfl⟩ := of8 c_4 c_5
      have hFc := fr_all hD hS hA
      refine va_callq (va_runV (As := [.int (nI j_3)]) (rest := []) ⟨hx, hb, hml, hown, hts⟩ (c_shown l hfl D ad ac u_2 H.size j_3 hj_3) (cw_v 1 hts kw_593 kw_590 kw_592 kp_3 kw_1 rfl rfl (by decide +kernel) ⟨Nat.le_of_ble_eq_true rfl, Nat.le_of_ble_eq_true rfl⟩) ⟨fx_blind, va_recv hK hP (ci := 11) (q0 := 0) rfl rfl, fun U hU hW => fx_pre hU hW hP hK hD hev hNS hS hFc⟩ rfl rfl hl.1 rfl (lv_room (Nat.le_of_ble_eq_true rfl)) d_splice_8 ⟨Nat.le_of_ble_eq_true rfl, Nat.le_of_ble_eq_true rfl⟩) hS (fun q _ h => hFc q h) hFc (fun r_6 u_7 t H1 locs ht hvm hw hB hz1 hk1 hS => ?_)
      obtain ⟨hP, -, hD1⟩ := hB
      rw [ht] at hP
      have hD := hD1.weaken (fun _ q _ h => hFc q.1 h)
      generalize H1 = H at hP hS ⊢
      refine W.cs (cells' := 0) (slots' := 0) rfl rfl ?_
      subst hw
      refine w_v (y := .ref (ad (18 + j_3))) rfl ?_
      refine lv_astore (lv' := [(6, .ref (ad (18 + j_3))), (5, .int 0), (0, .ref (ad 0)), (1, .int (nI j_3)), (2, .int o), (3, .int i), (4, .int n)]) hx hb d_splice_11 hl (by decide) rfl (fun ls hl => ?_)
      refine lv_iload hx hb d_splice_13 (lv_at hl 6 rfl) ?_
      refine lv_if_lt (tgt := 37) hx hb d_splice_15 (by decide) (fun c_8 => ?_) (fun c_8 => ?_)
      · exact tx_throw (own := "JoinedTrees") (E := e_IA) (names := at_n) (ia := 93) (ic := 95) hfl hx hb hno hlocks hown (by decide +kernel) (by decide +kernel) (hev.atoms hts hev.2.2.2.2.2.1.1 at_IA) (hts _ kw_558) (hts _ kw_16) d_splice_37 d_splice_40 d_splice_41 d_splice_44 (hl.1.trans hml.symm) hS hA hNS (Nat.le_of_ble_eq_true rfl) (Nat.le_of_ble_eq_true rfl) (Nat.le_of_ble_eq_true rfl) (Nat.le_of_ble_eq_true rfl)
      · refine lv_iload hx hb d_splice_18 (lv_at hl 1 rfl) ?_
        refine lv_iconst (v := 1) hx hb d_splice_20 (by decide) ?_
        refine lv_icmp_ne (tgt := 37) hx hb d_splice_21 (by decide) (fun _ => ?_) (fun h => absurd h (by decide))
        exact tx_throw (own := "JoinedTrees") (E := e_IA) (names := at_n) (ia := 93) (ic := 95) hfl hx hb hno hlocks hown (by decide +kernel) (by decide +kernel) (hev.atoms hts hev.2.2.2.2.2.1.1 at_IA) (hts _ kw_558) (hts _ kw_16) d_splice_37 d_splice_40 d_splice_41 d_splice_44 (hl.1.trans hml.symm) hS hA hNS (Nat.le_of_ble_eq_true rfl) (Nat.le_of_ble_eq_true rfl) (Nat.le_of_ble_eq_true rfl) (Nat.le_of_ble_eq_true rfl)
    · have hFc := fr_all hD hS hA
      exact tx_on (tx_runV (As := [.int r]) (rest := []) ⟨hx, hb, hml, hown, hts⟩ (c_shown_T l hfl D ad ac u_2 H.size r (Or.inr c_5)) (cw_v 1 hts kw_593 kw_590 kw_592 kp_3 kw_1 rfl rfl (by decide +kernel) ⟨Nat.le_of_ble_eq_true rfl, Nat.le_of_ble_eq_true rfl⟩) ⟨fx_blind, va_recv hK hP (ci := 11) (q0 := 0) rfl rfl, fun U hU hW => fx_pre hU hW hP hK hD hev hNS hS hFc⟩ rfl rfl hl.1 rfl (lv_room (Nat.le_of_ble_eq_true rfl)) d_splice_8 ⟨Nat.le_of_ble_eq_true rfl, Nat.le_of_ble_eq_true rfl⟩) hno hlocks hS hFc
theorem d_read_0 : decode prog_1_method_10_code 0 = .ok (.aload_n 0, 1) := by decide +kernel
theorem d_read_1 : decode prog_1_method_10_code 1 = .ok (.invokevirtual 102, 3) := by decide +kernel
theorem d_read_4 : decode prog_1_method_10_code 4 = .ok (.istore_n 3, 1) := by decide +kernel
theorem d_read_5 : decode prog_1_method_10_code 5 = .ok (.aload_n 0, 1) := by decide +kernel
theorem d_read_6 : decode prog_1_method_10_code 6 = .ok (.iload_n 1, 1) := by decide +kernel
theorem d_read_7 : decode prog_1_method_10_code 7 = .ok (.invokevirtual 105, 3) := by decide +kernel
theorem d_read_10 : decode prog_1_method_10_code 10 = .ok (.astore 4, 2) := by decide +kernel
theorem d_read_12 : decode prog_1_method_10_code 12 = .ok (.iload_n 3, 1) := by decide +kernel
theorem d_read_13 : decode prog_1_method_10_code 13 = .ok (.iconst 2, 1) := by decide +kernel
theorem d_read_14 : decode prog_1_method_10_code 14 = .ok (.if_icmp .eq 11, 3) := by decide +kernel
theorem d_read_17 : decode prog_1_method_10_code 17 = .ok (.new 93, 3) := by decide +kernel
theorem d_read_20 : decode prog_1_method_10_code 20 = .ok (.dup, 1) := by decide +kernel
theorem d_read_21 : decode prog_1_method_10_code 21 = .ok (.invokespecial 95, 3) := by decide +kernel
theorem d_read_24 : decode prog_1_method_10_code 24 = .ok (.athrow, 1) := by decide +kernel
set_option maxHeartbeats 4000000 in
set_option maxRecDepth 100000 in
theorem c_read_1 (l : Launch) (hfl : l.flags = flags0) (D : va_G) (ad : Nat → Nat) (ac : Nat → ClassId) (ck : Nat → Int32) (sz : Nat) (r o : Int32) : MeT l ⟨"JoinedTrees", "read", "(II)I"⟩ (Cond.code ⟨"JoinedTrees", "read", "(II)I"⟩ prog_1_method_10_code 6 (some .int) :: gb) ({ frames := 7, cells := 1, slots := 6, locals := 117 }) (fxPc D ad ac ck sz [.ref (ad 0), .int r, .int o]) e_IA (va_A (fxW ad ac ck) sz) 1 6 := by
  refine MeT.ofW (cc := prog_1_method_10_code) (maxL := 6) (ret := (some .int)) (by decide) rfl ?_
  intro p e s m args below meth c s₁ B hml hno hv
  obtain ⟨rfl, hsz, hP, hK, hD0, hev⟩ := hv
  have hx := B.exec
  have hb := B.bytes
  have hr := B.returns
  have hts : ∀ w9 ∈ gb, w9.before [.ref (ad 0), .int r, .int o].toArray s = true := fun w9 h => atoms_spec (ws := Cond.code ⟨"JoinedTrees", "read", "(II)I"⟩ prog_1_method_10_code 6 (some .int) :: gb) B.pre w9 (List.mem_cons_of_mem _ h)
  have hown : s.vm.findClass "JoinedTrees" = some m.cls := findClass_of_methodNamed B.named
  have hlocks := B.notSynchronized
  subst hsz
  have hNS := ns_of hP
  have hD := hD0.self (sz := s.heap.size)
  generalize hAe : va_A (fxW ad ac ck) s.heap.size = A at hD hev hNS ⊢
  have hA : ∀ q : Nat, s.heap.size ≤ q → A q := fun q h => by rw [← hAe]; exact Or.inr h
  have hS : va_S A s.heap s.heap [] := va_S.rf
  have hP : va_P D cls (fxW ad ac ck) s.heap := hP
  have hl := lv_entry ([.ref (ad 0), .int r, .int o]) (n := 6) (Nat.le_of_ble_eq_true rfl)
  rw [lg_entry_eq]
  generalize (lg_sl ([.ref (ad 0), .int r, .int o]) ++ List.replicate (6 - (lg_sl ([.ref (ad 0), .int r, .int o])).length) Slot.unset).toArray = ls at hl ⊢
  have hl : lv_has ls 6 [(0, .ref (ad 0)), (1, .int r), (2, .int o)] := hl
  refine lv_aload_n hx hb d_read_0 rfl (lv_at hl 0 rfl) ?_
  have hFc := fr_all hD hS hA
  refine va_calli (va_runV (As := []) (rest := []) ⟨hx, hb, hml, hown, hts⟩ (c_take l hfl D ad ac ck s.heap.size) (cw_v 0 hts kw_589 kw_586 kw_588 kp_2 kw_1 rfl rfl (by decide +kernel) ⟨Nat.le_of_ble_eq_true rfl, Nat.le_of_ble_eq_true rfl⟩) ⟨fx_blind, va_recv hK hP (ci := 11) (q0 := 0) rfl rfl, fun U hU hW => fx_pre hU hW hP hK hD hev hNS hS hFc⟩ rfl rfl hl.1 rfl (lv_room (Nat.le_of_ble_eq_true rfl)) d_read_1 ⟨Nat.le_of_ble_eq_true rfl, Nat.le_of_ble_eq_true rfl⟩) hS (fun q _ h => hFc q h) hFc (fun r_1 u_2 t H1 locs ht hvm hw hB hz1 hk1 hS => ?_)
  obtain ⟨hP, -, hD1⟩ := hB
  rw [ht] at hP
  have hD := hD1.weaken (fun _ q _ h => hFc q.1 h)
  generalize H1 = H at hP hS ⊢
  refine W.cs (cells' := 0) (slots' := 0) rfl rfl ?_
  subst hw
  refine lv_istore_n (lv' := [(3, .int 0), (0, .ref (ad 0)), (1, .int r), (2, .int o)]) hx hb d_read_4 rfl hl (by decide) rfl (fun ls hl => ?_)
  refine lv_aload_n hx hb d_read_5 rfl (lv_at hl 1 rfl) ?_
  refine lv_iload_n hx hb d_read_6 rfl (lv_at hl 2 rfl) ?_
  by_cases c_4 : r < 0
  · have hFc := fr_all hD hS hA
    exact tx_on (tx_runV (As := [.int r]) (rest := []) ⟨hx, hb, hml, hown, hts⟩ (c_shown_T l hfl D ad ac u_2 H.size r (Or.inl c_4)) (cw_v 1 hts kw_593 kw_590 kw_592 kp_3 kw_1 rfl rfl (by decide +kernel) ⟨Nat.le_of_ble_eq_true rfl, Nat.le_of_ble_eq_true rfl⟩) ⟨fx_blind, va_recv hK hP (ci := 11) (q0 := 0) rfl rfl, fun U hU hW => fx_pre hU hW hP hK hD hev hNS hS hFc⟩ rfl rfl hl.1 rfl (lv_room (Nat.le_of_ble_eq_true rfl)) d_read_7 ⟨Nat.le_of_ble_eq_true rfl, Nat.le_of_ble_eq_true rfl⟩) hno hlocks hS hFc
  · by_cases c_5 : r < 8
    · obtain ⟨j_3, hj_3, rfl⟩ := of8 c_4 c_5
      have hFc := fr_all hD hS hA
      refine va_callq (va_runV (As := [.int (nI j_3)]) (rest := []) ⟨hx, hb, hml, hown, hts⟩ (c_shown l hfl D ad ac u_2 H.size j_3 hj_3) (cw_v 1 hts kw_593 kw_590 kw_592 kp_3 kw_1 rfl rfl (by decide +kernel) ⟨Nat.le_of_ble_eq_true rfl, Nat.le_of_ble_eq_true rfl⟩) ⟨fx_blind, va_recv hK hP (ci := 11) (q0 := 0) rfl rfl, fun U hU hW => fx_pre hU hW hP hK hD hev hNS hS hFc⟩ rfl rfl hl.1 rfl (lv_room (Nat.le_of_ble_eq_true rfl)) d_read_7 ⟨Nat.le_of_ble_eq_true rfl, Nat.le_of_ble_eq_true rfl⟩) hS (fun q _ h => hFc q h) hFc (fun r_6 u_7 t H1 locs ht hvm hw hB hz1 hk1 hS => ?_)
      obtain ⟨hP, -, hD1⟩ := hB
      rw [ht] at hP
      have hD := hD1.weaken (fun _ q _ h => hFc q.1 h)
      generalize H1 = H at hP hS ⊢
      refine W.cs (cells' := 0) (slots' := 0) rfl rfl ?_
      subst hw
      refine w_v (y := .ref (ad (18 + j_3))) rfl ?_
      refine lv_astore (lv' := [(4, .ref (ad (18 + j_3))), (3, .int 0), (0, .ref (ad 0)), (1, .int (nI j_3)), (2, .int o)]) hx hb d_read_10 hl (by decide) rfl (fun ls hl => ?_)
      refine lv_iload_n hx hb d_read_12 rfl (lv_at hl 1 rfl) ?_
      refine lv_iconst (v := 2) hx hb d_read_13 (by decide) ?_
      refine lv_icmp_eq (tgt := 25) hx hb d_read_14 (by decide) (fun h => absurd h (by decide)) (fun _ => ?_)
      exact tx_throw (own := "JoinedTrees") (E := e_IA) (names := at_n) (ia := 93) (ic := 95) hfl hx hb hno hlocks hown (by decide +kernel) (by decide +kernel) (hev.atoms hts hev.2.2.2.2.2.1.1 at_IA) (hts _ kw_558) (hts _ kw_16) d_read_17 d_read_20 d_read_21 d_read_24 (hl.1.trans hml.symm) hS hA hNS (Nat.le_of_ble_eq_true rfl) (Nat.le_of_ble_eq_true rfl) (Nat.le_of_ble_eq_true rfl) (Nat.le_of_ble_eq_true rfl)
    · have hFc := fr_all hD hS hA
      exact tx_on (tx_runV (As := [.int r]) (rest := []) ⟨hx, hb, hml, hown, hts⟩ (c_shown_T l hfl D ad ac u_2 H.size r (Or.inr c_5)) (cw_v 1 hts kw_593 kw_590 kw_592 kp_3 kw_1 rfl rfl (by decide +kernel) ⟨Nat.le_of_ble_eq_true rfl, Nat.le_of_ble_eq_true rfl⟩) ⟨fx_blind, va_recv hK hP (ci := 11) (q0 := 0) rfl rfl, fun U hU hW => fx_pre hU hW hP hK hD hev hNS hS hFc⟩ rfl rfl hl.1 rfl (lv_room (Nat.le_of_ble_eq_true rfl)) d_read_7 ⟨Nat.le_of_ble_eq_true rfl, Nat.le_of_ble_eq_true rfl⟩) hno hlocks hS hFc
theorem d_findc_0 : decode prog_1_method_22_code 0 = .ok (.aload_n 0, 1) := by decide +kernel
theorem d_findc_1 : decode prog_1_method_22_code 1 = .ok (.invokevirtual 102, 3) := by decide +kernel
theorem d_findc_4 : decode prog_1_method_22_code 4 = .ok (.istore_n 2, 1) := by decide +kernel
theorem d_findc_5 : decode prog_1_method_22_code 5 = .ok (.aload_n 0, 1) := by decide +kernel
theorem d_findc_6 : decode prog_1_method_22_code 6 = .ok (.iload_n 1, 1) := by decide +kernel
theorem d_findc_7 : decode prog_1_method_22_code 7 = .ok (.invokevirtual 105, 3) := by decide +kernel
theorem d_findc_10 : decode prog_1_method_22_code 10 = .ok (.pop, 1) := by decide +kernel
theorem d_findc_11 : decode prog_1_method_22_code 11 = .ok (.iload_n 2, 1) := by decide +kernel
theorem d_findc_12 : decode prog_1_method_22_code 12 = .ok (.iconst 1, 1) := by decide +kernel
theorem d_findc_13 : decode prog_1_method_22_code 13 = .ok (.if_icmp .ne 10, 3) := by decide +kernel
theorem d_findc_23 : decode prog_1_method_22_code 23 = .ok (.new 93, 3) := by decide +kernel
theorem d_findc_26 : decode prog_1_method_22_code 26 = .ok (.dup, 1) := by decide +kernel
theorem d_findc_27 : decode prog_1_method_22_code 27 = .ok (.invokespecial 95, 3) := by decide +kernel
theorem d_findc_30 : decode prog_1_method_22_code 30 = .ok (.athrow, 1) := by decide +kernel
set_option maxHeartbeats 4000000 in
set_option maxRecDepth 100000 in
theorem c_find_1 (l : Launch) (hfl : l.flags = flags0) (D : va_G) (ad : Nat → Nat) (ac : Nat → ClassId) (ck : Nat → Int32) (sz : Nat) (r : Int32) : MeT l ⟨"JoinedTrees", "find", "(I)I"⟩ (Cond.code ⟨"JoinedTrees", "find", "(I)I"⟩ prog_1_method_22_code 7 (some .int) :: gb) ({ frames := 7, cells := 1, slots := 6, locals := 117 }) (fxPc D ad ac ck sz [.ref (ad 0), .int r]) e_IA (va_A (fxW ad ac ck) sz) 1 6 := by
  refine MeT.ofW (cc := prog_1_method_22_code) (maxL := 7) (ret := (some .int)) (by decide) rfl ?_
  intro p e s m args below meth c s₁ B hml hno hv
  obtain ⟨rfl, hsz, hP, hK, hD0, hev⟩ := hv
  have hx := B.exec
  have hb := B.bytes
  have hr := B.returns
  have hts : ∀ w9 ∈ gb, w9.before [.ref (ad 0), .int r].toArray s = true := fun w9 h => atoms_spec (ws := Cond.code ⟨"JoinedTrees", "find", "(I)I"⟩ prog_1_method_22_code 7 (some .int) :: gb) B.pre w9 (List.mem_cons_of_mem _ h)
  have hown : s.vm.findClass "JoinedTrees" = some m.cls := findClass_of_methodNamed B.named
  have hlocks := B.notSynchronized
  subst hsz
  have hNS := ns_of hP
  have hD := hD0.self (sz := s.heap.size)
  generalize hAe : va_A (fxW ad ac ck) s.heap.size = A at hD hev hNS ⊢
  have hA : ∀ q : Nat, s.heap.size ≤ q → A q := fun q h => by rw [← hAe]; exact Or.inr h
  have hS : va_S A s.heap s.heap [] := va_S.rf
  have hP : va_P D cls (fxW ad ac ck) s.heap := hP
  have hl := lv_entry ([.ref (ad 0), .int r]) (n := 7) (Nat.le_of_ble_eq_true rfl)
  rw [lg_entry_eq]
  generalize (lg_sl ([.ref (ad 0), .int r]) ++ List.replicate (7 - (lg_sl ([.ref (ad 0), .int r])).length) Slot.unset).toArray = ls at hl ⊢
  have hl : lv_has ls 7 [(0, .ref (ad 0)), (1, .int r)] := hl
  refine lv_aload_n hx hb d_findc_0 rfl (lv_at hl 0 rfl) ?_
  have hFc := fr_all hD hS hA
  refine va_calli (va_runV (As := []) (rest := []) ⟨hx, hb, hml, hown, hts⟩ (c_take l hfl D ad ac ck s.heap.size) (cw_v 0 hts kw_589 kw_586 kw_588 kp_2 kw_1 rfl rfl (by decide +kernel) ⟨Nat.le_of_ble_eq_true rfl, Nat.le_of_ble_eq_true rfl⟩) ⟨fx_blind, va_recv hK hP (ci := 11) (q0 := 0) rfl rfl, fun U hU hW => fx_pre hU hW hP hK hD hev hNS hS hFc⟩ rfl rfl hl.1 rfl (lv_room (Nat.le_of_ble_eq_true rfl)) d_findc_1 ⟨Nat.le_of_ble_eq_true rfl, Nat.le_of_ble_eq_true rfl⟩) hS (fun q _ h => hFc q h) hFc (fun r_1 u_2 t H1 locs ht hvm hw hB hz1 hk1 hS => ?_)
  obtain ⟨hP, -, hD1⟩ := hB
  rw [ht] at hP
  have hD := hD1.weaken (fun _ q _ h => hFc q.1 h)
  generalize H1 = H at hP hS ⊢
  refine W.cs (cells' := 0) (slots' := 0) rfl rfl ?_
  subst hw
  refine lv_istore_n (lv' := [(2, .int 0), (0, .ref (ad 0)), (1, .int r)]) hx hb d_findc_4 rfl hl (by decide) rfl (fun ls hl => ?_)
  refine lv_aload_n hx hb d_findc_5 rfl (lv_at hl 1 rfl) ?_
  refine lv_iload_n hx hb d_findc_6 rfl (lv_at hl 2 rfl) ?_
  by_cases c_4 : r < 0
  · have hFc := fr_all hD hS hA
    exact tx_on (tx_runV (As := [.int r]) (rest := []) ⟨hx, hb, hml, hown, hts⟩ (c_shown_T l hfl D ad ac u_2 H.size r (Or.inl c_4)) (cw_v 1 hts kw_593 kw_590 kw_592 kp_3 kw_1 rfl rfl (by decide +kernel) ⟨Nat.le_of_ble_eq_true rfl, Nat.le_of_ble_eq_true rfl⟩) ⟨fx_blind, va_recv hK hP (ci := 11) (q0 := 0) rfl rfl, fun U hU hW => fx_pre hU hW hP hK hD hev hNS hS hFc⟩ rfl rfl hl.1 rfl (lv_room (Nat.le_of_ble_eq_true rfl)) d_findc_7 ⟨Nat.le_of_ble_eq_true rfl, Nat.le_of_ble_eq_true rfl⟩) hno hlocks hS hFc
  · by_cases c_5 : r < 8
    · obtain ⟨j_3, hj_3, rfl⟩ := of8 c_4 c_5
      have hFc := fr_all hD hS hA
      refine va_callq (va_runV (As := [.int (nI j_3)]) (rest := []) ⟨hx, hb, hml, hown, hts⟩ (c_shown l hfl D ad ac u_2 H.size j_3 hj_3) (cw_v 1 hts kw_593 kw_590 kw_592 kp_3 kw_1 rfl rfl (by decide +kernel) ⟨Nat.le_of_ble_eq_true rfl, Nat.le_of_ble_eq_true rfl⟩) ⟨fx_blind, va_recv hK hP (ci := 11) (q0 := 0) rfl rfl, fun U hU hW => fx_pre hU hW hP hK hD hev hNS hS hFc⟩ rfl rfl hl.1 rfl (lv_room (Nat.le_of_ble_eq_true rfl)) d_findc_7 ⟨Nat.le_of_ble_eq_true rfl, Nat.le_of_ble_eq_true rfl⟩) hS (fun q _ h => hFc q h) hFc (fun r_6 u_7 t H1 locs ht hvm hw hB hz1 hk1 hS => ?_)
      obtain ⟨hP, -, hD1⟩ := hB
      rw [ht] at hP
      have hD := hD1.weaken (fun _ q _ h => hFc q.1 h)
      generalize H1 = H at hP hS ⊢
      refine W.cs (cells' := 0) (slots' := 0) rfl rfl ?_
      subst hw
      refine w_v (y := .ref (ad (18 + j_3))) rfl ?_
      refine lv_pop hx hb d_findc_10 rfl ?_
      refine lv_iload_n hx hb d_findc_11 rfl (lv_at hl 0 rfl) ?_
      refine lv_iconst (v := 1) hx hb d_findc_12 (by decide) ?_
      refine lv_icmp_ne (tgt := 23) hx hb d_findc_13 (by decide) (fun _ => ?_) (fun h => absurd h (by decide))
      exact tx_throw (own := "JoinedTrees") (E := e_IA) (names := at_n) (ia := 93) (ic := 95) hfl hx hb hno hlocks hown (by decide +kernel) (by decide +kernel) (hev.atoms hts hev.2.2.2.2.2.1.1 at_IA) (hts _ kw_558) (hts _ kw_16) d_findc_23 d_findc_26 d_findc_27 d_findc_30 (hl.1.trans hml.symm) hS hA hNS (Nat.le_of_ble_eq_true rfl) (Nat.le_of_ble_eq_true rfl) (Nat.le_of_ble_eq_true rfl) (Nat.le_of_ble_eq_true rfl)
    · have hFc := fr_all hD hS hA
      exact tx_on (tx_runV (As := [.int r]) (rest := []) ⟨hx, hb, hml, hown, hts⟩ (c_shown_T l hfl D ad ac u_2 H.size r (Or.inr c_5)) (cw_v 1 hts kw_593 kw_590 kw_592 kp_3 kw_1 rfl rfl (by decide +kernel) ⟨Nat.le_of_ble_eq_true rfl, Nat.le_of_ble_eq_true rfl⟩) ⟨fx_blind, va_recv hK hP (ci := 11) (q0 := 0) rfl rfl, fun U hU hW => fx_pre hU hW hP hK hD hev hNS hS hFc⟩ rfl rfl hl.1 rfl (lv_room (Nat.le_of_ble_eq_true rfl)) d_findc_7 ⟨Nat.le_of_ble_eq_true rfl, Nat.le_of_ble_eq_true rfl⟩) hno hlocks hS hFc
theorem d_put_0 : decode prog_1_method_5_code 0 = .ok (.aload_n 0, 1) := by decide +kernel
theorem d_put_1 : decode prog_1_method_5_code 1 = .ok (.invokevirtual 102, 3) := by decide +kernel
theorem d_put_4 : decode prog_1_method_5_code 4 = .ok (.istore 7, 2) := by decide +kernel
theorem d_put_6 : decode prog_1_method_5_code 6 = .ok (.aload_n 0, 1) := by decide +kernel
theorem d_put_7 : decode prog_1_method_5_code 7 = .ok (.iload_n 1, 1) := by decide +kernel
theorem d_put_8 : decode prog_1_method_5_code 8 = .ok (.invokevirtual 105, 3) := by decide +kernel
theorem d_put_11 : decode prog_1_method_5_code 11 = .ok (.astore 8, 2) := by decide +kernel
theorem d_put_13 : decode prog_1_method_5_code 13 = .ok (.aload_n 0, 1) := by decide +kernel
theorem d_put_14 : decode prog_1_method_5_code 14 = .ok (.iload 4, 2) := by decide +kernel
theorem d_put_16 : decode prog_1_method_5_code 16 = .ok (.iload 7, 2) := by decide +kernel
theorem d_put_18 : decode prog_1_method_5_code 18 = .ok (.iconst 0, 1) := by decide +kernel
theorem d_put_19 : decode prog_1_method_5_code 19 = .ok (.invokevirtual 109, 3) := by decide +kernel
theorem d_put_22 : decode prog_1_method_5_code 22 = .ok (.aload_n 0, 1) := by decide +kernel
theorem d_put_23 : decode prog_1_method_5_code 23 = .ok (.getfield 30, 3) := by decide +kernel
theorem d_put_26 : decode prog_1_method_5_code 26 = .ok (.aload_n 0, 1) := by decide +kernel
theorem d_put_27 : decode prog_1_method_5_code 27 = .ok (.iload_n 2, 1) := by decide +kernel
theorem d_put_28 : decode prog_1_method_5_code 28 = .ok (.invokevirtual 145, 3) := by decide +kernel
set_option maxHeartbeats 4000000 in
set_option maxRecDepth 100000 in
theorem c_put_1 (l : Launch) (hfl : l.flags = flags0) (D : va_G) (ad : Nat → Nat) (ac : Nat → ClassId) (ck : Nat → Int32) (sz : Nat) (r o i so : Int32) (n : Int64) (hq : k_put r o so = 1) : MeT l ⟨"JoinedTrees", "put", "(IIIIJ)I"⟩ (Cond.code ⟨"JoinedTrees", "put", "(IIIIJ)I"⟩ prog_1_method_5_code 11 (some .int) :: gb) ({ frames := 7, cells := 1, slots := 6, locals := 120 }) (fxPc D ad ac ck sz [.ref (ad 0), .int r, .int o, .int i, .int so, .long n]) e_IA (va_A (fxW ad ac ck) sz) 1 6 := by
  refine MeT.ofW (cc := prog_1_method_5_code) (maxL := 11) (ret := (some .int)) (by decide) rfl ?_
  intro p e s m args below meth c s₁ B hml hno hv
  obtain ⟨rfl, hsz, hP, hK, hD0, hev⟩ := hv
  have hx := B.exec
  have hb := B.bytes
  have hr := B.returns
  have hts : ∀ w9 ∈ gb, w9.before [.ref (ad 0), .int r, .int o, .int i, .int so, .long n].toArray s = true := fun w9 h => atoms_spec (ws := Cond.code ⟨"JoinedTrees", "put", "(IIIIJ)I"⟩ prog_1_method_5_code 11 (some .int) :: gb) B.pre w9 (List.mem_cons_of_mem _ h)
  have hown : s.vm.findClass "JoinedTrees" = some m.cls := findClass_of_methodNamed B.named
  have hlocks := B.notSynchronized
  subst hsz
  have hNS := ns_of hP
  have hD := hD0.self (sz := s.heap.size)
  generalize hAe : va_A (fxW ad ac ck) s.heap.size = A at hD hev hNS ⊢
  have hA : ∀ q : Nat, s.heap.size ≤ q → A q := fun q h => by rw [← hAe]; exact Or.inr h
  have hS : va_S A s.heap s.heap [] := va_S.rf
  have hP : va_P D cls (fxW ad ac ck) s.heap := hP
  have hl := lv_entry ([.ref (ad 0), .int r, .int o, .int i, .int so, .long n]) (n := 11) (Nat.le_of_ble_eq_true rfl)
  rw [lg_entry_eq]
  generalize (lg_sl ([.ref (ad 0), .int r, .int o, .int i, .int so, .long n]) ++ List.replicate (11 - (lg_sl ([.ref (ad 0), .int r, .int o, .int i, .int so, .long n])).length) Slot.unset).toArray = ls at hl ⊢
  have hl : lv_has ls 11 [(0, .ref (ad 0)), (1, .int r), (2, .int o), (3, .int i), (4, .int so), (5, .long n)] := hl
  refine lv_aload_n hx hb d_put_0 rfl (lv_at hl 0 rfl) ?_
  have hFc := fr_all hD hS hA
  refine va_calli (va_runV (As := []) (rest := []) ⟨hx, hb, hml, hown, hts⟩ (c_take l hfl D ad ac ck s.heap.size) (cw_v 0 hts kw_589 kw_586 kw_588 kp_2 kw_1 rfl rfl (by decide +kernel) ⟨Nat.le_of_ble_eq_true rfl, Nat.le_of_ble_eq_true rfl⟩) ⟨fx_blind, va_recv hK hP (ci := 11) (q0 := 0) rfl rfl, fun U hU hW => fx_pre hU hW hP hK hD hev hNS hS hFc⟩ rfl rfl hl.1 rfl (lv_room (Nat.le_of_ble_eq_true rfl)) d_put_1 ⟨Nat.le_of_ble_eq_true rfl, Nat.le_of_ble_eq_true rfl⟩) hS (fun q _ h => hFc q h) hFc (fun r_1 u_2 t H1 locs ht hvm hw hB hz1 hk1 hS => ?_)
  obtain ⟨hP, -, hD1⟩ := hB
  rw [ht] at hP
  have hD := hD1.weaken (fun _ q _ h => hFc q.1 h)
  generalize H1 = H at hP hS ⊢
  refine W.cs (cells' := 0) (slots' := 0) rfl rfl ?_
  subst hw
  refine lv_istore (lv' := [(7, .int 0), (0, .ref (ad 0)), (1, .int r), (2, .int o), (3, .int i), (4, .int so), (5, .long n)]) hx hb d_put_4 hl (by decide) rfl (fun ls hl => ?_)
  refine lv_aload_n hx hb d_put_6 rfl (lv_at hl 1 rfl) ?_
  refine lv_iload_n hx hb d_put_7 rfl (lv_at hl 2 rfl) ?_
  by_cases c_4 : r < 0
  · have hFc := fr_all hD hS hA
    exact tx_on (tx_runV (As := [.int r]) (rest := []) ⟨hx, hb, hml, hown, hts⟩ (c_shown_T l hfl D ad ac u_2 H.size r (Or.inl c_4)) (cw_v 1 hts kw_593 kw_590 kw_592 kp_3 kw_1 rfl rfl (by decide +kernel) ⟨Nat.le_of_ble_eq_true rfl, Nat.le_of_ble_eq_true rfl⟩) ⟨fx_blind, va_recv hK hP (ci := 11) (q0 := 0) rfl rfl, fun U hU hW => fx_pre hU hW hP hK hD hev hNS hS hFc⟩ rfl rfl hl.1 rfl (lv_room (Nat.le_of_ble_eq_true rfl)) d_put_8 ⟨Nat.le_of_ble_eq_true rfl, Nat.le_of_ble_eq_true rfl⟩) hno hlocks hS hFc
  · by_cases c_5 : r < 8
    · obtain ⟨j_3, hj_3, rfl⟩ := of8 c_4 c_5
      have hFc := fr_all hD hS hA
      refine va_callq (va_runV (As := [.int (nI j_3)]) (rest := []) ⟨hx, hb, hml, hown, hts⟩ (c_shown l hfl D ad ac u_2 H.size j_3 hj_3) (cw_v 1 hts kw_593 kw_590 kw_592 kp_3 kw_1 rfl rfl (by decide +kernel) ⟨Nat.le_of_ble_eq_true rfl, Nat.le_of_ble_eq_true rfl⟩) ⟨fx_blind, va_recv hK hP (ci := 11) (q0 := 0) rfl rfl, fun U hU hW => fx_pre hU hW hP hK hD hev hNS hS hFc⟩ rfl rfl hl.1 rfl (lv_room (Nat.le_of_ble_eq_true rfl)) d_put_8 ⟨Nat.le_of_ble_eq_true rfl, Nat.le_of_ble_eq_true rfl⟩) hS (fun q _ h => hFc q h) hFc (fun r_6 u_7 t H1 locs ht hvm hw hB hz1 hk1 hS => ?_)
      obtain ⟨hP, -, hD1⟩ := hB
      rw [ht] at hP
      have hD := hD1.weaken (fun _ q _ h => hFc q.1 h)
      generalize H1 = H at hP hS ⊢
      refine W.cs (cells' := 0) (slots' := 0) rfl rfl ?_
      subst hw
      refine w_v (y := .ref (ad (18 + j_3))) rfl ?_
      refine lv_astore (lv' := [(8, .ref (ad (18 + j_3))), (7, .int 0), (0, .ref (ad 0)), (1, .int (nI j_3)), (2, .int o), (3, .int i), (4, .int so), (5, .long n)]) hx hb d_put_11 hl (by decide) rfl (fun ls hl => ?_)
      refine lv_aload_n hx hb d_put_13 rfl (lv_at hl 2 rfl) ?_
      refine lv_iload hx hb d_put_14 (lv_at hl 6 rfl) ?_
      refine lv_iload hx hb d_put_16 (lv_at hl 1 rfl) ?_
      refine lv_iconst (v := 0) hx hb d_put_18 (by decide) ?_
      by_cases c_8 : so < 0
      · have hFc := fr_all hD hS hA
        exact tx_on (tx_runV (As := [.int so, .int 0, .int 0]) (rest := []) ⟨hx, hb, hml, hown, hts⟩ (c_nv0_T l hfl D ad ac u_7 H.size so (Or.inl c_8)) (cw_v 3 hts kw_604 kw_601 kw_603 kp_4 kw_1 rfl rfl (by decide +kernel) ⟨Nat.le_of_ble_eq_true rfl, Nat.le_of_ble_eq_true rfl⟩) ⟨fx_blind, va_recv hK hP (ci := 11) (q0 := 0) rfl rfl, fun U hU hW => fx_pre hU hW hP hK hD hev hNS hS hFc⟩ rfl rfl hl.1 rfl (lv_room (Nat.le_of_ble_eq_true rfl)) d_put_19 ⟨Nat.le_of_ble_eq_true rfl, Nat.le_of_ble_eq_true rfl⟩) hno hlocks hS hFc
      · by_cases c_9 : 8 < so
        · have hFc := fr_all hD hS hA
          exact tx_on (tx_runV (As := [.int so, .int 0, .int 0]) (rest := []) ⟨hx, hb, hml, hown, hts⟩ (c_nv0_T l hfl D ad ac u_7 H.size so (Or.inr (Or.inl c_9))) (cw_v 3 hts kw_604 kw_601 kw_603 kp_4 kw_1 rfl rfl (by decide +kernel) ⟨Nat.le_of_ble_eq_true rfl, Nat.le_of_ble_eq_true rfl⟩) ⟨fx_blind, va_recv hK hP (ci := 11) (q0 := 0) rfl rfl, fun U hU hW => fx_pre hU hW hP hK hD hev hNS hS hFc⟩ rfl rfl hl.1 rfl (lv_room (Nat.le_of_ble_eq_true rfl)) d_put_19 ⟨Nat.le_of_ble_eq_true rfl, Nat.le_of_ble_eq_true rfl⟩) hno hlocks hS hFc
        · by_cases c_10 : so = 4
          · have hFc := fr_all hD hS hA
            exact tx_on (tx_runV (As := [.int so, .int 0, .int 0]) (rest := []) ⟨hx, hb, hml, hown, hts⟩ (c_nv0_T l hfl D ad ac u_7 H.size so (Or.inr (Or.inr c_10))) (cw_v 3 hts kw_604 kw_601 kw_603 kp_4 kw_1 rfl rfl (by decide +kernel) ⟨Nat.le_of_ble_eq_true rfl, Nat.le_of_ble_eq_true rfl⟩) ⟨fx_blind, va_recv hK hP (ci := 11) (q0 := 0) rfl rfl, fun U hU hW => fx_pre hU hW hP hK hD hev hNS hS hFc⟩ rfl rfl hl.1 rfl (lv_room (Nat.le_of_ble_eq_true rfl)) d_put_19 ⟨Nat.le_of_ble_eq_true rfl, Nat.le_of_ble_eq_true rfl⟩) hno hlocks hS hFc
          · have hFc := fr_all hD hS hA
            refine va_callv (va_runV (As := [.int so, .int 0, .int 0]) (rest := []) ⟨hx, hb, hml, hown, hts⟩ (c_nv0 l hfl D ad ac u_7 H.size so c_8 c_9 c_10) (cw_v 3 hts kw_604 kw_601 kw_603 kp_4 kw_1 rfl rfl (by decide +kernel) ⟨Nat.le_of_ble_eq_true rfl, Nat.le_of_ble_eq_true rfl⟩) ⟨fx_blind, va_recv hK hP (ci := 11) (q0 := 0) rfl rfl, fun U hU hW => fx_pre hU hW hP hK hD hev hNS hS hFc⟩ rfl rfl hl.1 rfl (lv_room (Nat.le_of_ble_eq_true rfl)) d_put_19 ⟨Nat.le_of_ble_eq_true rfl, Nat.le_of_ble_eq_true rfl⟩) hS (fun q _ h => hFc q h) hFc (fun u_12 t H1 locs ht hvm hw hB hz1 hk1 hS => ?_)
            obtain ⟨hP, -, hD1⟩ := hB
            rw [ht] at hP
            have hD := hD1.weaken (fun _ q _ h => hFc q.1 h)
            generalize H1 = H at hP hS ⊢
            refine W.cs (cells' := 0) (slots' := 0) rfl rfl ?_
            refine lv_aload_n hx hb d_put_22 rfl (lv_at hl 2 rfl) ?_
            refine va_get (D := D) (ci := 11) (v := .ref (ad 3)) (C := R_JT) (T := F_JT) (N := 13) hx hb hts i_JT hown hK hP 0 rfl rfl 2 (by decide) (hts _ kw_423) (fun _ h9 => h9) rfl d_put_23 ?_
            refine lv_aload_n hx hb d_put_26 rfl (lv_at hl 2 rfl) ?_
            refine lv_iload_n hx hb d_put_27 rfl (lv_at hl 4 rfl) ?_
            by_cases c_13 : o = 0
            · subst c_13
              have hFc := fr_all hD hS hA
              exact tx_on (tx_runV (As := [.int 0]) (rest := [.ref (ad 3)]) ⟨hx, hb, hml, hown, hts⟩ (c_listAt0 l hfl D ad ac u_12 H.size) (cw_v 1 hts kw_776 kw_773 kw_775 kp_13 kw_1 rfl rfl (by decide +kernel) ⟨Nat.le_of_ble_eq_true rfl, Nat.le_of_ble_eq_true rfl⟩) ⟨fx_blind, va_recv hK hP (ci := 11) (q0 := 0) rfl rfl, fun U hU hW => fx_pre hU hW hP hK hD hev hNS hS hFc⟩ rfl rfl hl.1 rfl (lv_room (Nat.le_of_ble_eq_true rfl)) d_put_28 ⟨Nat.le_of_ble_eq_true rfl, Nat.le_of_ble_eq_true rfl⟩) hno hlocks hS hFc
            · first | exact absurd hq (by simp [k_put, c_4, c_5, c_8, c_9, c_10, c_13]) | (exfalso; simp_all [k_put])
    · have hFc := fr_all hD hS hA
      exact tx_on (tx_runV (As := [.int r]) (rest := []) ⟨hx, hb, hml, hown, hts⟩ (c_shown_T l hfl D ad ac u_2 H.size r (Or.inr c_5)) (cw_v 1 hts kw_593 kw_590 kw_592 kp_3 kw_1 rfl rfl (by decide +kernel) ⟨Nat.le_of_ble_eq_true rfl, Nat.le_of_ble_eq_true rfl⟩) ⟨fx_blind, va_recv hK hP (ci := 11) (q0 := 0) rfl rfl, fun U hU hW => fx_pre hU hW hP hK hD hev hNS hS hFc⟩ rfl rfl hl.1 rfl (lv_room (Nat.le_of_ble_eq_true rfl)) d_put_8 ⟨Nat.le_of_ble_eq_true rfl, Nat.le_of_ble_eq_true rfl⟩) hno hlocks hS hFc
set_option maxHeartbeats 4000000 in
set_option maxRecDepth 100000 in
theorem c_put_3 (l : Launch) (hfl : l.flags = flags0) (D : va_G) (ad : Nat → Nat) (ac : Nat → ClassId) (ck : Nat → Int32) (sz : Nat) (r o i so : Int32) (n : Int64) (hq : k_put r o so = 3) : MeT l ⟨"JoinedTrees", "put", "(IIIIJ)I"⟩ (Cond.code ⟨"JoinedTrees", "put", "(IIIIJ)I"⟩ prog_1_method_5_code 11 (some .int) :: gb) ({ frames := 8, cells := 1, slots := 6, locals := 140 }) (fxPc D ad ac ck sz [.ref (ad 0), .int r, .int o, .int i, .int so, .long n]) e_NE (va_A (fxW ad ac ck) sz) 1 6 := by
  refine MeT.ofW (cc := prog_1_method_5_code) (maxL := 11) (ret := (some .int)) (by decide) rfl ?_
  intro p e s m args below meth c s₁ B hml hno hv
  obtain ⟨rfl, hsz, hP, hK, hD0, hev⟩ := hv
  have hx := B.exec
  have hb := B.bytes
  have hr := B.returns
  have hts : ∀ w9 ∈ gb, w9.before [.ref (ad 0), .int r, .int o, .int i, .int so, .long n].toArray s = true := fun w9 h => atoms_spec (ws := Cond.code ⟨"JoinedTrees", "put", "(IIIIJ)I"⟩ prog_1_method_5_code 11 (some .int) :: gb) B.pre w9 (List.mem_cons_of_mem _ h)
  have hown : s.vm.findClass "JoinedTrees" = some m.cls := findClass_of_methodNamed B.named
  have hlocks := B.notSynchronized
  subst hsz
  have hNS := ns_of hP
  have hD := hD0.self (sz := s.heap.size)
  generalize hAe : va_A (fxW ad ac ck) s.heap.size = A at hD hev hNS ⊢
  have hA : ∀ q : Nat, s.heap.size ≤ q → A q := fun q h => by rw [← hAe]; exact Or.inr h
  have hS : va_S A s.heap s.heap [] := va_S.rf
  have hP : va_P D cls (fxW ad ac ck) s.heap := hP
  have hl := lv_entry ([.ref (ad 0), .int r, .int o, .int i, .int so, .long n]) (n := 11) (Nat.le_of_ble_eq_true rfl)
  rw [lg_entry_eq]
  generalize (lg_sl ([.ref (ad 0), .int r, .int o, .int i, .int so, .long n]) ++ List.replicate (11 - (lg_sl ([.ref (ad 0), .int r, .int o, .int i, .int so, .long n])).length) Slot.unset).toArray = ls at hl ⊢
  have hl : lv_has ls 11 [(0, .ref (ad 0)), (1, .int r), (2, .int o), (3, .int i), (4, .int so), (5, .long n)] := hl
  refine lv_aload_n hx hb d_put_0 rfl (lv_at hl 0 rfl) ?_
  have hFc := fr_all hD hS hA
  refine va_calli (va_runV (As := []) (rest := []) ⟨hx, hb, hml, hown, hts⟩ (c_take l hfl D ad ac ck s.heap.size) (cw_v 0 hts kw_589 kw_586 kw_588 kp_2 kw_1 rfl rfl (by decide +kernel) ⟨Nat.le_of_ble_eq_true rfl, Nat.le_of_ble_eq_true rfl⟩) ⟨fx_blind, va_recv hK hP (ci := 11) (q0 := 0) rfl rfl, fun U hU hW => fx_pre hU hW hP hK hD hev hNS hS hFc⟩ rfl rfl hl.1 rfl (lv_room (Nat.le_of_ble_eq_true rfl)) d_put_1 ⟨Nat.le_of_ble_eq_true rfl, Nat.le_of_ble_eq_true rfl⟩) hS (fun q _ h => hFc q h) hFc (fun r_1 u_2 t H1 locs ht hvm hw hB hz1 hk1 hS => ?_)
  obtain ⟨hP, -, hD1⟩ := hB
  rw [ht] at hP
  have hD := hD1.weaken (fun _ q _ h => hFc q.1 h)
  generalize H1 = H at hP hS ⊢
  refine W.cs (cells' := 0) (slots' := 0) rfl rfl ?_
  subst hw
  refine lv_istore (lv' := [(7, .int 0), (0, .ref (ad 0)), (1, .int r), (2, .int o), (3, .int i), (4, .int so), (5, .long n)]) hx hb d_put_4 hl (by decide) rfl (fun ls hl => ?_)
  refine lv_aload_n hx hb d_put_6 rfl (lv_at hl 1 rfl) ?_
  refine lv_iload_n hx hb d_put_7 rfl (lv_at hl 2 rfl) ?_
  by_cases c_4 : r < 0
  · first | exact absurd hq (by simp [k_put, c_4]) | (exfalso; simp_all [k_put])
  · by_cases c_5 : r < 8
    · obtain ⟨j_3, hj_3, rfl⟩ := of8 c_4 c_5
      have hFc := fr_all hD hS hA
      refine va_callq (va_runV (As := [.int (nI j_3)]) (rest := []) ⟨hx, hb, hml, hown, hts⟩ (c_shown l hfl D ad ac u_2 H.size j_3 hj_3) (cw_v 1 hts kw_593 kw_590 kw_592 kp_3 kw_1 rfl rfl (by decide +kernel) ⟨Nat.le_of_ble_eq_true rfl, Nat.le_of_ble_eq_true rfl⟩) ⟨fx_blind, va_recv hK hP (ci := 11) (q0 := 0) rfl rfl, fun U hU hW => fx_pre hU hW hP hK hD hev hNS hS hFc⟩ rfl rfl hl.1 rfl (lv_room (Nat.le_of_ble_eq_true rfl)) d_put_8 ⟨Nat.le_of_ble_eq_true rfl, Nat.le_of_ble_eq_true rfl⟩) hS (fun q _ h => hFc q h) hFc (fun r_6 u_7 t H1 locs ht hvm hw hB hz1 hk1 hS => ?_)
      obtain ⟨hP, -, hD1⟩ := hB
      rw [ht] at hP
      have hD := hD1.weaken (fun _ q _ h => hFc q.1 h)
      generalize H1 = H at hP hS ⊢
      refine W.cs (cells' := 0) (slots' := 0) rfl rfl ?_
      subst hw
      refine w_v (y := .ref (ad (18 + j_3))) rfl ?_
      refine lv_astore (lv' := [(8, .ref (ad (18 + j_3))), (7, .int 0), (0, .ref (ad 0)), (1, .int (nI j_3)), (2, .int o), (3, .int i), (4, .int so), (5, .long n)]) hx hb d_put_11 hl (by decide) rfl (fun ls hl => ?_)
      refine lv_aload_n hx hb d_put_13 rfl (lv_at hl 2 rfl) ?_
      refine lv_iload hx hb d_put_14 (lv_at hl 6 rfl) ?_
      refine lv_iload hx hb d_put_16 (lv_at hl 1 rfl) ?_
      refine lv_iconst (v := 0) hx hb d_put_18 (by decide) ?_
      by_cases c_8 : so < 0
      · first | exact absurd hq (by simp [k_put, c_4, c_5, c_8]) | (exfalso; simp_all [k_put])
      · by_cases c_9 : 8 < so
        · first | exact absurd hq (by simp [k_put, c_4, c_5, c_8, c_9]) | (exfalso; simp_all [k_put])
        · by_cases c_10 : so = 4
          · first | exact absurd hq (by simp [k_put, c_4, c_5, c_8, c_9, c_10]) | (exfalso; simp_all [k_put])
          · have hFc := fr_all hD hS hA
            refine va_callv (va_runV (As := [.int so, .int 0, .int 0]) (rest := []) ⟨hx, hb, hml, hown, hts⟩ (c_nv0 l hfl D ad ac u_7 H.size so c_8 c_9 c_10) (cw_v 3 hts kw_604 kw_601 kw_603 kp_4 kw_1 rfl rfl (by decide +kernel) ⟨Nat.le_of_ble_eq_true rfl, Nat.le_of_ble_eq_true rfl⟩) ⟨fx_blind, va_recv hK hP (ci := 11) (q0 := 0) rfl rfl, fun U hU hW => fx_pre hU hW hP hK hD hev hNS hS hFc⟩ rfl rfl hl.1 rfl (lv_room (Nat.le_of_ble_eq_true rfl)) d_put_19 ⟨Nat.le_of_ble_eq_true rfl, Nat.le_of_ble_eq_true rfl⟩) hS (fun q _ h => hFc q h) hFc (fun u_12 t H1 locs ht hvm hw hB hz1 hk1 hS => ?_)
            obtain ⟨hP, -, hD1⟩ := hB
            rw [ht] at hP
            have hD := hD1.weaken (fun _ q _ h => hFc q.1 h)
            generalize H1 = H at hP hS ⊢
            refine W.cs (cells' := 0) (slots' := 0) rfl rfl ?_
            refine lv_aload_n hx hb d_put_22 rfl (lv_at hl 2 rfl) ?_
            refine va_get (D := D) (ci := 11) (v := .ref (ad 3)) (C := R_JT) (T := F_JT) (N := 13) hx hb hts i_JT hown hK hP 0 rfl rfl 2 (by decide) (hts _ kw_423) (fun _ h9 => h9) rfl d_put_23 ?_
            refine lv_aload_n hx hb d_put_26 rfl (lv_at hl 2 rfl) ?_
            refine lv_iload_n hx hb d_put_27 rfl (lv_at hl 4 rfl) ?_
            by_cases c_13 : o = 0
            · subst c_13
              first | exact absurd hq (by simp [k_put, c_4, c_5, c_8, c_9, c_10]) | (exfalso; simp_all [k_put])
            · have hFc := fr_all hD hS hA
              exact tx_on (tx_runV (As := [.int o]) (rest := [.ref (ad 3)]) ⟨hx, hb, hml, hown, hts⟩ (c_listAtN l hfl D ad ac u_12 H.size o c_13) (cw_v 1 hts kw_776 kw_773 kw_775 kp_13 kw_1 rfl rfl (by decide +kernel) ⟨Nat.le_of_ble_eq_true rfl, Nat.le_of_ble_eq_true rfl⟩) ⟨fx_blind, va_recv hK hP (ci := 11) (q0 := 0) rfl rfl, fun U hU hW => fx_pre hU hW hP hK hD hev hNS hS hFc⟩ rfl rfl hl.1 rfl (lv_room (Nat.le_of_ble_eq_true rfl)) d_put_28 ⟨Nat.le_of_ble_eq_true rfl, Nat.le_of_ble_eq_true rfl⟩) hno hlocks hS hFc
    · first | exact absurd hq (by simp [k_put, c_4, c_5]) | (exfalso; simp_all [k_put])
theorem d_insert_0 : decode prog_1_method_6_code 0 = .ok (.aload_n 0, 1) := by decide +kernel
theorem d_insert_1 : decode prog_1_method_6_code 1 = .ok (.invokevirtual 102, 3) := by decide +kernel
theorem d_insert_4 : decode prog_1_method_6_code 4 = .ok (.istore 7, 2) := by decide +kernel
theorem d_insert_6 : decode prog_1_method_6_code 6 = .ok (.aload_n 0, 1) := by decide +kernel
theorem d_insert_7 : decode prog_1_method_6_code 7 = .ok (.iload_n 1, 1) := by decide +kernel
theorem d_insert_8 : decode prog_1_method_6_code 8 = .ok (.invokevirtual 105, 3) := by decide +kernel
theorem d_insert_11 : decode prog_1_method_6_code 11 = .ok (.astore 8, 2) := by decide +kernel
theorem d_insert_13 : decode prog_1_method_6_code 13 = .ok (.aload_n 0, 1) := by decide +kernel
theorem d_insert_14 : decode prog_1_method_6_code 14 = .ok (.iload 4, 2) := by decide +kernel
theorem d_insert_16 : decode prog_1_method_6_code 16 = .ok (.iload 7, 2) := by decide +kernel
theorem d_insert_18 : decode prog_1_method_6_code 18 = .ok (.iconst 0, 1) := by decide +kernel
theorem d_insert_19 : decode prog_1_method_6_code 19 = .ok (.invokevirtual 109, 3) := by decide +kernel
theorem d_insert_22 : decode prog_1_method_6_code 22 = .ok (.aload_n 0, 1) := by decide +kernel
theorem d_insert_23 : decode prog_1_method_6_code 23 = .ok (.iload_n 2, 1) := by decide +kernel
theorem d_insert_24 : decode prog_1_method_6_code 24 = .ok (.invokevirtual 145, 3) := by decide +kernel
set_option maxHeartbeats 4000000 in
set_option maxRecDepth 100000 in
theorem c_insert_1 (l : Launch) (hfl : l.flags = flags0) (D : va_G) (ad : Nat → Nat) (ac : Nat → ClassId) (ck : Nat → Int32) (sz : Nat) (r o i so : Int32) (n : Int64) (hq : k_put r o so = 1) : MeT l ⟨"JoinedTrees", "insert", "(IIIIJ)I"⟩ (Cond.code ⟨"JoinedTrees", "insert", "(IIIIJ)I"⟩ prog_1_method_6_code 12 (some .int) :: gb) ({ frames := 7, cells := 1, slots := 6, locals := 120 }) (fxPc D ad ac ck sz [.ref (ad 0), .int r, .int o, .int i, .int so, .long n]) e_IA (va_A (fxW ad ac ck) sz) 1 6 := by
  refine MeT.ofW (cc := prog_1_method_6_code) (maxL := 12) (ret := (some .int)) (by decide) rfl ?_
  intro p e s m args below meth c s₁ B hml hno hv
  obtain ⟨rfl, hsz, hP, hK, hD0, hev⟩ := hv
  have hx := B.exec
  have hb := B.bytes
  have hr := B.returns
  have hts : ∀ w9 ∈ gb, w9.before [.ref (ad 0), .int r, .int o, .int i, .int so, .long n].toArray s = true := fun w9 h => atoms_spec (ws := Cond.code ⟨"JoinedTrees", "insert", "(IIIIJ)I"⟩ prog_1_method_6_code 12 (some .int) :: gb) B.pre w9 (List.mem_cons_of_mem _ h)
  have hown : s.vm.findClass "JoinedTrees" = some m.cls := findClass_of_methodNamed B.named
  have hlocks := B.notSynchronized
  subst hsz
  have hNS := ns_of hP
  have hD := hD0.self (sz := s.heap.size)
  generalize hAe : va_A (fxW ad ac ck) s.heap.size = A at hD hev hNS ⊢
  have hA : ∀ q : Nat, s.heap.size ≤ q → A q := fun q h => by rw [← hAe]; exact Or.inr h
  have hS : va_S A s.heap s.heap [] := va_S.rf
  have hP : va_P D cls (fxW ad ac ck) s.heap := hP
  have hl := lv_entry ([.ref (ad 0), .int r, .int o, .int i, .int so, .long n]) (n := 12) (Nat.le_of_ble_eq_true rfl)
  rw [lg_entry_eq]
  generalize (lg_sl ([.ref (ad 0), .int r, .int o, .int i, .int so, .long n]) ++ List.replicate (12 - (lg_sl ([.ref (ad 0), .int r, .int o, .int i, .int so, .long n])).length) Slot.unset).toArray = ls at hl ⊢
  have hl : lv_has ls 12 [(0, .ref (ad 0)), (1, .int r), (2, .int o), (3, .int i), (4, .int so), (5, .long n)] := hl
  refine lv_aload_n hx hb d_insert_0 rfl (lv_at hl 0 rfl) ?_
  have hFc := fr_all hD hS hA
  refine va_calli (va_runV (As := []) (rest := []) ⟨hx, hb, hml, hown, hts⟩ (c_take l hfl D ad ac ck s.heap.size) (cw_v 0 hts kw_589 kw_586 kw_588 kp_2 kw_1 rfl rfl (by decide +kernel) ⟨Nat.le_of_ble_eq_true rfl, Nat.le_of_ble_eq_true rfl⟩) ⟨fx_blind, va_recv hK hP (ci := 11) (q0 := 0) rfl rfl, fun U hU hW => fx_pre hU hW hP hK hD hev hNS hS hFc⟩ rfl rfl hl.1 rfl (lv_room (Nat.le_of_ble_eq_true rfl)) d_insert_1 ⟨Nat.le_of_ble_eq_true rfl, Nat.le_of_ble_eq_true rfl⟩) hS (fun q _ h => hFc q h) hFc (fun r_1 u_2 t H1 locs ht hvm hw hB hz1 hk1 hS => ?_)
  obtain ⟨hP, -, hD1⟩ := hB
  rw [ht] at hP
  have hD := hD1.weaken (fun _ q _ h => hFc q.1 h)
  generalize H1 = H at hP hS ⊢
  refine W.cs (cells' := 0) (slots' := 0) rfl rfl ?_
  subst hw
  refine lv_istore (lv' := [(7, .int 0), (0, .ref (ad 0)), (1, .int r), (2, .int o), (3, .int i), (4, .int so), (5, .long n)]) hx hb d_insert_4 hl (by decide) rfl (fun ls hl => ?_)
  refine lv_aload_n hx hb d_insert_6 rfl (lv_at hl 1 rfl) ?_
  refine lv_iload_n hx hb d_insert_7 rfl (lv_at hl 2 rfl) ?_
  by_cases c_4 : r < 0
  · have hFc := fr_all hD hS hA
    exact tx_on (tx_runV (As := [.int r]) (rest := []) ⟨hx, hb, hml, hown, hts⟩ (c_shown_T l hfl D ad ac u_2 H.size r (Or.inl c_4)) (cw_v 1 hts kw_593 kw_590 kw_592 kp_3 kw_1 rfl rfl (by decide +kernel) ⟨Nat.le_of_ble_eq_true rfl, Nat.le_of_ble_eq_true rfl⟩) ⟨fx_blind, va_recv hK hP (ci := 11) (q0 := 0) rfl rfl, fun U hU hW => fx_pre hU hW hP hK hD hev hNS hS hFc⟩ rfl rfl hl.1 rfl (lv_room (Nat.le_of_ble_eq_true rfl)) d_insert_8 ⟨Nat.le_of_ble_eq_true rfl, Nat.le_of_ble_eq_true rfl⟩) hno hlocks hS hFc
  · by_cases c_5 : r < 8
    · obtain ⟨j_3, hj_3, rfl⟩ := of8 c_4 c_5
      have hFc := fr_all hD hS hA
      refine va_callq (va_runV (As := [.int (nI j_3)]) (rest := []) ⟨hx, hb, hml, hown, hts⟩ (c_shown l hfl D ad ac u_2 H.size j_3 hj_3) (cw_v 1 hts kw_593 kw_590 kw_592 kp_3 kw_1 rfl rfl (by decide +kernel) ⟨Nat.le_of_ble_eq_true rfl, Nat.le_of_ble_eq_true rfl⟩) ⟨fx_blind, va_recv hK hP (ci := 11) (q0 := 0) rfl rfl, fun U hU hW => fx_pre hU hW hP hK hD hev hNS hS hFc⟩ rfl rfl hl.1 rfl (lv_room (Nat.le_of_ble_eq_true rfl)) d_insert_8 ⟨Nat.le_of_ble_eq_true rfl, Nat.le_of_ble_eq_true rfl⟩) hS (fun q _ h => hFc q h) hFc (fun r_6 u_7 t H1 locs ht hvm hw hB hz1 hk1 hS => ?_)
      obtain ⟨hP, -, hD1⟩ := hB
      rw [ht] at hP
      have hD := hD1.weaken (fun _ q _ h => hFc q.1 h)
      generalize H1 = H at hP hS ⊢
      refine W.cs (cells' := 0) (slots' := 0) rfl rfl ?_
      subst hw
      refine w_v (y := .ref (ad (18 + j_3))) rfl ?_
      refine lv_astore (lv' := [(8, .ref (ad (18 + j_3))), (7, .int 0), (0, .ref (ad 0)), (1, .int (nI j_3)), (2, .int o), (3, .int i), (4, .int so), (5, .long n)]) hx hb d_insert_11 hl (by decide) rfl (fun ls hl => ?_)
      refine lv_aload_n hx hb d_insert_13 rfl (lv_at hl 2 rfl) ?_
      refine lv_iload hx hb d_insert_14 (lv_at hl 6 rfl) ?_
      refine lv_iload hx hb d_insert_16 (lv_at hl 1 rfl) ?_
      refine lv_iconst (v := 0) hx hb d_insert_18 (by decide) ?_
      by_cases c_8 : so < 0
      · have hFc := fr_all hD hS hA
        exact tx_on (tx_runV (As := [.int so, .int 0, .int 0]) (rest := []) ⟨hx, hb, hml, hown, hts⟩ (c_nv0_T l hfl D ad ac u_7 H.size so (Or.inl c_8)) (cw_v 3 hts kw_604 kw_601 kw_603 kp_4 kw_1 rfl rfl (by decide +kernel) ⟨Nat.le_of_ble_eq_true rfl, Nat.le_of_ble_eq_true rfl⟩) ⟨fx_blind, va_recv hK hP (ci := 11) (q0 := 0) rfl rfl, fun U hU hW => fx_pre hU hW hP hK hD hev hNS hS hFc⟩ rfl rfl hl.1 rfl (lv_room (Nat.le_of_ble_eq_true rfl)) d_insert_19 ⟨Nat.le_of_ble_eq_true rfl, Nat.le_of_ble_eq_true rfl⟩) hno hlocks hS hFc
      · by_cases c_9 : 8 < so
        · have hFc := fr_all hD hS hA
          exact tx_on (tx_runV (As := [.int so, .int 0, .int 0]) (rest := []) ⟨hx, hb, hml, hown, hts⟩ (c_nv0_T l hfl D ad ac u_7 H.size so (Or.inr (Or.inl c_9))) (cw_v 3 hts kw_604 kw_601 kw_603 kp_4 kw_1 rfl rfl (by decide +kernel) ⟨Nat.le_of_ble_eq_true rfl, Nat.le_of_ble_eq_true rfl⟩) ⟨fx_blind, va_recv hK hP (ci := 11) (q0 := 0) rfl rfl, fun U hU hW => fx_pre hU hW hP hK hD hev hNS hS hFc⟩ rfl rfl hl.1 rfl (lv_room (Nat.le_of_ble_eq_true rfl)) d_insert_19 ⟨Nat.le_of_ble_eq_true rfl, Nat.le_of_ble_eq_true rfl⟩) hno hlocks hS hFc
        · by_cases c_10 : so = 4
          · have hFc := fr_all hD hS hA
            exact tx_on (tx_runV (As := [.int so, .int 0, .int 0]) (rest := []) ⟨hx, hb, hml, hown, hts⟩ (c_nv0_T l hfl D ad ac u_7 H.size so (Or.inr (Or.inr c_10))) (cw_v 3 hts kw_604 kw_601 kw_603 kp_4 kw_1 rfl rfl (by decide +kernel) ⟨Nat.le_of_ble_eq_true rfl, Nat.le_of_ble_eq_true rfl⟩) ⟨fx_blind, va_recv hK hP (ci := 11) (q0 := 0) rfl rfl, fun U hU hW => fx_pre hU hW hP hK hD hev hNS hS hFc⟩ rfl rfl hl.1 rfl (lv_room (Nat.le_of_ble_eq_true rfl)) d_insert_19 ⟨Nat.le_of_ble_eq_true rfl, Nat.le_of_ble_eq_true rfl⟩) hno hlocks hS hFc
          · have hFc := fr_all hD hS hA
            refine va_callv (va_runV (As := [.int so, .int 0, .int 0]) (rest := []) ⟨hx, hb, hml, hown, hts⟩ (c_nv0 l hfl D ad ac u_7 H.size so c_8 c_9 c_10) (cw_v 3 hts kw_604 kw_601 kw_603 kp_4 kw_1 rfl rfl (by decide +kernel) ⟨Nat.le_of_ble_eq_true rfl, Nat.le_of_ble_eq_true rfl⟩) ⟨fx_blind, va_recv hK hP (ci := 11) (q0 := 0) rfl rfl, fun U hU hW => fx_pre hU hW hP hK hD hev hNS hS hFc⟩ rfl rfl hl.1 rfl (lv_room (Nat.le_of_ble_eq_true rfl)) d_insert_19 ⟨Nat.le_of_ble_eq_true rfl, Nat.le_of_ble_eq_true rfl⟩) hS (fun q _ h => hFc q h) hFc (fun u_12 t H1 locs ht hvm hw hB hz1 hk1 hS => ?_)
            obtain ⟨hP, -, hD1⟩ := hB
            rw [ht] at hP
            have hD := hD1.weaken (fun _ q _ h => hFc q.1 h)
            generalize H1 = H at hP hS ⊢
            refine W.cs (cells' := 0) (slots' := 0) rfl rfl ?_
            refine lv_aload_n hx hb d_insert_22 rfl (lv_at hl 2 rfl) ?_
            refine lv_iload_n hx hb d_insert_23 rfl (lv_at hl 4 rfl) ?_
            by_cases c_13 : o = 0
            · subst c_13
              have hFc := fr_all hD hS hA
              exact tx_on (tx_runV (As := [.int 0]) (rest := []) ⟨hx, hb, hml, hown, hts⟩ (c_listAt0 l hfl D ad ac u_12 H.size) (cw_v 1 hts kw_776 kw_773 kw_775 kp_13 kw_1 rfl rfl (by decide +kernel) ⟨Nat.le_of_ble_eq_true rfl, Nat.le_of_ble_eq_true rfl⟩) ⟨fx_blind, va_recv hK hP (ci := 11) (q0 := 0) rfl rfl, fun U hU hW => fx_pre hU hW hP hK hD hev hNS hS hFc⟩ rfl rfl hl.1 rfl (lv_room (Nat.le_of_ble_eq_true rfl)) d_insert_24 ⟨Nat.le_of_ble_eq_true rfl, Nat.le_of_ble_eq_true rfl⟩) hno hlocks hS hFc
            · first | exact absurd hq (by simp [k_put, c_4, c_5, c_8, c_9, c_10, c_13]) | (exfalso; simp_all [k_put])
    · have hFc := fr_all hD hS hA
      exact tx_on (tx_runV (As := [.int r]) (rest := []) ⟨hx, hb, hml, hown, hts⟩ (c_shown_T l hfl D ad ac u_2 H.size r (Or.inr c_5)) (cw_v 1 hts kw_593 kw_590 kw_592 kp_3 kw_1 rfl rfl (by decide +kernel) ⟨Nat.le_of_ble_eq_true rfl, Nat.le_of_ble_eq_true rfl⟩) ⟨fx_blind, va_recv hK hP (ci := 11) (q0 := 0) rfl rfl, fun U hU hW => fx_pre hU hW hP hK hD hev hNS hS hFc⟩ rfl rfl hl.1 rfl (lv_room (Nat.le_of_ble_eq_true rfl)) d_insert_8 ⟨Nat.le_of_ble_eq_true rfl, Nat.le_of_ble_eq_true rfl⟩) hno hlocks hS hFc
set_option maxHeartbeats 4000000 in
set_option maxRecDepth 100000 in
theorem c_insert_3 (l : Launch) (hfl : l.flags = flags0) (D : va_G) (ad : Nat → Nat) (ac : Nat → ClassId) (ck : Nat → Int32) (sz : Nat) (r o i so : Int32) (n : Int64) (hq : k_put r o so = 3) : MeT l ⟨"JoinedTrees", "insert", "(IIIIJ)I"⟩ (Cond.code ⟨"JoinedTrees", "insert", "(IIIIJ)I"⟩ prog_1_method_6_code 12 (some .int) :: gb) ({ frames := 8, cells := 1, slots := 6, locals := 140 }) (fxPc D ad ac ck sz [.ref (ad 0), .int r, .int o, .int i, .int so, .long n]) e_NE (va_A (fxW ad ac ck) sz) 1 6 := by
  refine MeT.ofW (cc := prog_1_method_6_code) (maxL := 12) (ret := (some .int)) (by decide) rfl ?_
  intro p e s m args below meth c s₁ B hml hno hv
  obtain ⟨rfl, hsz, hP, hK, hD0, hev⟩ := hv
  have hx := B.exec
  have hb := B.bytes
  have hr := B.returns
  have hts : ∀ w9 ∈ gb, w9.before [.ref (ad 0), .int r, .int o, .int i, .int so, .long n].toArray s = true := fun w9 h => atoms_spec (ws := Cond.code ⟨"JoinedTrees", "insert", "(IIIIJ)I"⟩ prog_1_method_6_code 12 (some .int) :: gb) B.pre w9 (List.mem_cons_of_mem _ h)
  have hown : s.vm.findClass "JoinedTrees" = some m.cls := findClass_of_methodNamed B.named
  have hlocks := B.notSynchronized
  subst hsz
  have hNS := ns_of hP
  have hD := hD0.self (sz := s.heap.size)
  generalize hAe : va_A (fxW ad ac ck) s.heap.size = A at hD hev hNS ⊢
  have hA : ∀ q : Nat, s.heap.size ≤ q → A q := fun q h => by rw [← hAe]; exact Or.inr h
  have hS : va_S A s.heap s.heap [] := va_S.rf
  have hP : va_P D cls (fxW ad ac ck) s.heap := hP
  have hl := lv_entry ([.ref (ad 0), .int r, .int o, .int i, .int so, .long n]) (n := 12) (Nat.le_of_ble_eq_true rfl)
  rw [lg_entry_eq]
  generalize (lg_sl ([.ref (ad 0), .int r, .int o, .int i, .int so, .long n]) ++ List.replicate (12 - (lg_sl ([.ref (ad 0), .int r, .int o, .int i, .int so, .long n])).length) Slot.unset).toArray = ls at hl ⊢
  have hl : lv_has ls 12 [(0, .ref (ad 0)), (1, .int r), (2, .int o), (3, .int i), (4, .int so), (5, .long n)] := hl
  refine lv_aload_n hx hb d_insert_0 rfl (lv_at hl 0 rfl) ?_
  have hFc := fr_all hD hS hA
  refine va_calli (va_runV (As := []) (rest := []) ⟨hx, hb, hml, hown, hts⟩ (c_take l hfl D ad ac ck s.heap.size) (cw_v 0 hts kw_589 kw_586 kw_588 kp_2 kw_1 rfl rfl (by decide +kernel) ⟨Nat.le_of_ble_eq_true rfl, Nat.le_of_ble_eq_true rfl⟩) ⟨fx_blind, va_recv hK hP (ci := 11) (q0 := 0) rfl rfl, fun U hU hW => fx_pre hU hW hP hK hD hev hNS hS hFc⟩ rfl rfl hl.1 rfl (lv_room (Nat.le_of_ble_eq_true rfl)) d_insert_1 ⟨Nat.le_of_ble_eq_true rfl, Nat.le_of_ble_eq_true rfl⟩) hS (fun q _ h => hFc q h) hFc (fun r_1 u_2 t H1 locs ht hvm hw hB hz1 hk1 hS => ?_)
  obtain ⟨hP, -, hD1⟩ := hB
  rw [ht] at hP
  have hD := hD1.weaken (fun _ q _ h => hFc q.1 h)
  generalize H1 = H at hP hS ⊢
  refine W.cs (cells' := 0) (slots' := 0) rfl rfl ?_
  subst hw
  refine lv_istore (lv' := [(7, .int 0), (0, .ref (ad 0)), (1, .int r), (2, .int o), (3, .int i), (4, .int so), (5, .long n)]) hx hb d_insert_4 hl (by decide) rfl (fun ls hl => ?_)
  refine lv_aload_n hx hb d_insert_6 rfl (lv_at hl 1 rfl) ?_
  refine lv_iload_n hx hb d_insert_7 rfl (lv_at hl 2 rfl) ?_
  by_cases c_4 : r < 0
  · first | exact absurd hq (by simp [k_put, c_4]) | (exfalso; simp_all [k_put])
  · by_cases c_5 : r < 8
    · obtain ⟨j_3, hj_3, rfl⟩ := of8 c_4 c_5
      have hFc := fr_all hD hS hA
      refine va_callq (va_runV (As := [.int (nI j_3)]) (rest := []) ⟨hx, hb, hml, hown, hts⟩ (c_shown l hfl D ad ac u_2 H.size j_3 hj_3) (cw_v 1 hts kw_593 kw_590 kw_592 kp_3 kw_1 rfl rfl (by decide +kernel) ⟨Nat.le_of_ble_eq_true rfl, Nat.le_of_ble_eq_true rfl⟩) ⟨fx_blind, va_recv hK hP (ci := 11) (q0 := 0) rfl rfl, fun U hU hW => fx_pre hU hW hP hK hD hev hNS hS hFc⟩ rfl rfl hl.1 rfl (lv_room (Nat.le_of_ble_eq_true rfl)) d_insert_8 ⟨Nat.le_of_ble_eq_true rfl, Nat.le_of_ble_eq_true rfl⟩) hS (fun q _ h => hFc q h) hFc (fun r_6 u_7 t H1 locs ht hvm hw hB hz1 hk1 hS => ?_)
      obtain ⟨hP, -, hD1⟩ := hB
      rw [ht] at hP
      have hD := hD1.weaken (fun _ q _ h => hFc q.1 h)
      generalize H1 = H at hP hS ⊢
      refine W.cs (cells' := 0) (slots' := 0) rfl rfl ?_
      subst hw
      refine w_v (y := .ref (ad (18 + j_3))) rfl ?_
      refine lv_astore (lv' := [(8, .ref (ad (18 + j_3))), (7, .int 0), (0, .ref (ad 0)), (1, .int (nI j_3)), (2, .int o), (3, .int i), (4, .int so), (5, .long n)]) hx hb d_insert_11 hl (by decide) rfl (fun ls hl => ?_)
      refine lv_aload_n hx hb d_insert_13 rfl (lv_at hl 2 rfl) ?_
      refine lv_iload hx hb d_insert_14 (lv_at hl 6 rfl) ?_
      refine lv_iload hx hb d_insert_16 (lv_at hl 1 rfl) ?_
      refine lv_iconst (v := 0) hx hb d_insert_18 (by decide) ?_
      by_cases c_8 : so < 0
      · first | exact absurd hq (by simp [k_put, c_4, c_5, c_8]) | (exfalso; simp_all [k_put])
      · by_cases c_9 : 8 < so
        · first | exact absurd hq (by simp [k_put, c_4, c_5, c_8, c_9]) | (exfalso; simp_all [k_put])
        · by_cases c_10 : so = 4
          · first | exact absurd hq (by simp [k_put, c_4, c_5, c_8, c_9, c_10]) | (exfalso; simp_all [k_put])
          · have hFc := fr_all hD hS hA
            refine va_callv (va_runV (As := [.int so, .int 0, .int 0]) (rest := []) ⟨hx, hb, hml, hown, hts⟩ (c_nv0 l hfl D ad ac u_7 H.size so c_8 c_9 c_10) (cw_v 3 hts kw_604 kw_601 kw_603 kp_4 kw_1 rfl rfl (by decide +kernel) ⟨Nat.le_of_ble_eq_true rfl, Nat.le_of_ble_eq_true rfl⟩) ⟨fx_blind, va_recv hK hP (ci := 11) (q0 := 0) rfl rfl, fun U hU hW => fx_pre hU hW hP hK hD hev hNS hS hFc⟩ rfl rfl hl.1 rfl (lv_room (Nat.le_of_ble_eq_true rfl)) d_insert_19 ⟨Nat.le_of_ble_eq_true rfl, Nat.le_of_ble_eq_true rfl⟩) hS (fun q _ h => hFc q h) hFc (fun u_12 t H1 locs ht hvm hw hB hz1 hk1 hS => ?_)
            obtain ⟨hP, -, hD1⟩ := hB
            rw [ht] at hP
            have hD := hD1.weaken (fun _ q _ h => hFc q.1 h)
            generalize H1 = H at hP hS ⊢
            refine W.cs (cells' := 0) (slots' := 0) rfl rfl ?_
            refine lv_aload_n hx hb d_insert_22 rfl (lv_at hl 2 rfl) ?_
            refine lv_iload_n hx hb d_insert_23 rfl (lv_at hl 4 rfl) ?_
            by_cases c_13 : o = 0
            · subst c_13
              first | exact absurd hq (by simp [k_put, c_4, c_5, c_8, c_9, c_10]) | (exfalso; simp_all [k_put])
            · have hFc := fr_all hD hS hA
              exact tx_on (tx_runV (As := [.int o]) (rest := []) ⟨hx, hb, hml, hown, hts⟩ (c_listAtN l hfl D ad ac u_12 H.size o c_13) (cw_v 1 hts kw_776 kw_773 kw_775 kp_13 kw_1 rfl rfl (by decide +kernel) ⟨Nat.le_of_ble_eq_true rfl, Nat.le_of_ble_eq_true rfl⟩) ⟨fx_blind, va_recv hK hP (ci := 11) (q0 := 0) rfl rfl, fun U hU hW => fx_pre hU hW hP hK hD hev hNS hS hFc⟩ rfl rfl hl.1 rfl (lv_room (Nat.le_of_ble_eq_true rfl)) d_insert_24 ⟨Nat.le_of_ble_eq_true rfl, Nat.le_of_ble_eq_true rfl⟩) hno hlocks hS hFc
    · first | exact absurd hq (by simp [k_put, c_4, c_5]) | (exfalso; simp_all [k_put])
theorem d_erase_0 : decode prog_1_method_8_code 0 = .ok (.aload_n 0, 1) := by decide +kernel
theorem d_erase_1 : decode prog_1_method_8_code 1 = .ok (.invokevirtual 102, 3) := by decide +kernel
theorem d_erase_4 : decode prog_1_method_8_code 4 = .ok (.istore 4, 2) := by decide +kernel
theorem d_erase_6 : decode prog_1_method_8_code 6 = .ok (.aload_n 0, 1) := by decide +kernel
theorem d_erase_7 : decode prog_1_method_8_code 7 = .ok (.iload_n 1, 1) := by decide +kernel
theorem d_erase_8 : decode prog_1_method_8_code 8 = .ok (.invokevirtual 105, 3) := by decide +kernel
theorem d_erase_11 : decode prog_1_method_8_code 11 = .ok (.astore 5, 2) := by decide +kernel
theorem d_erase_13 : decode prog_1_method_8_code 13 = .ok (.aload_n 0, 1) := by decide +kernel
theorem d_erase_14 : decode prog_1_method_8_code 14 = .ok (.iload 4, 2) := by decide +kernel
theorem d_erase_16 : decode prog_1_method_8_code 16 = .ok (.iload_n 3, 1) := by decide +kernel
theorem d_erase_17 : decode prog_1_method_8_code 17 = .ok (.invokevirtual 189, 3) := by decide +kernel
theorem d_erase_20 : decode prog_1_method_8_code 20 = .ok (.aload_n 0, 1) := by decide +kernel
theorem d_erase_21 : decode prog_1_method_8_code 21 = .ok (.iload_n 2, 1) := by decide +kernel
theorem d_erase_22 : decode prog_1_method_8_code 22 = .ok (.iload_n 3, 1) := by decide +kernel
theorem d_erase_23 : decode prog_1_method_8_code 23 = .ok (.invokevirtual 192, 3) := by decide +kernel
set_option maxHeartbeats 4000000 in
set_option maxRecDepth 100000 in
theorem c_erase_1 (l : Launch) (hfl : l.flags = flags0) (D : va_G) (ad : Nat → Nat) (ac : Nat → ClassId) (ck : Nat → Int32) (sz : Nat) (r o i : Int32) (hq : k_era r o i = 1) : MeT l ⟨"JoinedTrees", "erase", "(III)I"⟩ (Cond.code ⟨"JoinedTrees", "erase", "(III)I"⟩ prog_1_method_8_code 7 (some .int) :: gb) ({ frames := 8, cells := 1, slots := 6, locals := 141 }) (fxPc D ad ac ck sz [.ref (ad 0), .int r, .int o, .int i]) e_IA (va_A (fxW ad ac ck) sz) 1 6 := by
  refine MeT.ofW (cc := prog_1_method_8_code) (maxL := 7) (ret := (some .int)) (by decide) rfl ?_
  intro p e s m args below meth c s₁ B hml hno hv
  obtain ⟨rfl, hsz, hP, hK, hD0, hev⟩ := hv
  have hx := B.exec
  have hb := B.bytes
  have hr := B.returns
  have hts : ∀ w9 ∈ gb, w9.before [.ref (ad 0), .int r, .int o, .int i].toArray s = true := fun w9 h => atoms_spec (ws := Cond.code ⟨"JoinedTrees", "erase", "(III)I"⟩ prog_1_method_8_code 7 (some .int) :: gb) B.pre w9 (List.mem_cons_of_mem _ h)
  have hown : s.vm.findClass "JoinedTrees" = some m.cls := findClass_of_methodNamed B.named
  have hlocks := B.notSynchronized
  subst hsz
  have hNS := ns_of hP
  have hD := hD0.self (sz := s.heap.size)
  generalize hAe : va_A (fxW ad ac ck) s.heap.size = A at hD hev hNS ⊢
  have hA : ∀ q : Nat, s.heap.size ≤ q → A q := fun q h => by rw [← hAe]; exact Or.inr h
  have hS : va_S A s.heap s.heap [] := va_S.rf
  have hP : va_P D cls (fxW ad ac ck) s.heap := hP
  have hl := lv_entry ([.ref (ad 0), .int r, .int o, .int i]) (n := 7) (Nat.le_of_ble_eq_true rfl)
  rw [lg_entry_eq]
  generalize (lg_sl ([.ref (ad 0), .int r, .int o, .int i]) ++ List.replicate (7 - (lg_sl ([.ref (ad 0), .int r, .int o, .int i])).length) Slot.unset).toArray = ls at hl ⊢
  have hl : lv_has ls 7 [(0, .ref (ad 0)), (1, .int r), (2, .int o), (3, .int i)] := hl
  refine lv_aload_n hx hb d_erase_0 rfl (lv_at hl 0 rfl) ?_
  have hFc := fr_all hD hS hA
  refine va_calli (va_runV (As := []) (rest := []) ⟨hx, hb, hml, hown, hts⟩ (c_take l hfl D ad ac ck s.heap.size) (cw_v 0 hts kw_589 kw_586 kw_588 kp_2 kw_1 rfl rfl (by decide +kernel) ⟨Nat.le_of_ble_eq_true rfl, Nat.le_of_ble_eq_true rfl⟩) ⟨fx_blind, va_recv hK hP (ci := 11) (q0 := 0) rfl rfl, fun U hU hW => fx_pre hU hW hP hK hD hev hNS hS hFc⟩ rfl rfl hl.1 rfl (lv_room (Nat.le_of_ble_eq_true rfl)) d_erase_1 ⟨Nat.le_of_ble_eq_true rfl, Nat.le_of_ble_eq_true rfl⟩) hS (fun q _ h => hFc q h) hFc (fun r_1 u_2 t H1 locs ht hvm hw hB hz1 hk1 hS => ?_)
  obtain ⟨hP, -, hD1⟩ := hB
  rw [ht] at hP
  have hD := hD1.weaken (fun _ q _ h => hFc q.1 h)
  generalize H1 = H at hP hS ⊢
  refine W.cs (cells' := 0) (slots' := 0) rfl rfl ?_
  subst hw
  refine lv_istore (lv' := [(4, .int 0), (0, .ref (ad 0)), (1, .int r), (2, .int o), (3, .int i)]) hx hb d_erase_4 hl (by decide) rfl (fun ls hl => ?_)
  refine lv_aload_n hx hb d_erase_6 rfl (lv_at hl 1 rfl) ?_
  refine lv_iload_n hx hb d_erase_7 rfl (lv_at hl 2 rfl) ?_
  by_cases c_4 : r < 0
  · have hFc := fr_all hD hS hA
    exact tx_on (tx_runV (As := [.int r]) (rest := []) ⟨hx, hb, hml, hown, hts⟩ (c_shown_T l hfl D ad ac u_2 H.size r (Or.inl c_4)) (cw_v 1 hts kw_593 kw_590 kw_592 kp_3 kw_1 rfl rfl (by decide +kernel) ⟨Nat.le_of_ble_eq_true rfl, Nat.le_of_ble_eq_true rfl⟩) ⟨fx_blind, va_recv hK hP (ci := 11) (q0 := 0) rfl rfl, fun U hU hW => fx_pre hU hW hP hK hD hev hNS hS hFc⟩ rfl rfl hl.1 rfl (lv_room (Nat.le_of_ble_eq_true rfl)) d_erase_8 ⟨Nat.le_of_ble_eq_true rfl, Nat.le_of_ble_eq_true rfl⟩) hno hlocks hS hFc
  · by_cases c_5 : r < 8
    · obtain ⟨j_3, hj_3, rfl⟩ := of8 c_4 c_5
      have hFc := fr_all hD hS hA
      refine va_callq (va_runV (As := [.int (nI j_3)]) (rest := []) ⟨hx, hb, hml, hown, hts⟩ (c_shown l hfl D ad ac u_2 H.size j_3 hj_3) (cw_v 1 hts kw_593 kw_590 kw_592 kp_3 kw_1 rfl rfl (by decide +kernel) ⟨Nat.le_of_ble_eq_true rfl, Nat.le_of_ble_eq_true rfl⟩) ⟨fx_blind, va_recv hK hP (ci := 11) (q0 := 0) rfl rfl, fun U hU hW => fx_pre hU hW hP hK hD hev hNS hS hFc⟩ rfl rfl hl.1 rfl (lv_room (Nat.le_of_ble_eq_true rfl)) d_erase_8 ⟨Nat.le_of_ble_eq_true rfl, Nat.le_of_ble_eq_true rfl⟩) hS (fun q _ h => hFc q h) hFc (fun r_6 u_7 t H1 locs ht hvm hw hB hz1 hk1 hS => ?_)
      obtain ⟨hP, -, hD1⟩ := hB
      rw [ht] at hP
      have hD := hD1.weaken (fun _ q _ h => hFc q.1 h)
      generalize H1 = H at hP hS ⊢
      refine W.cs (cells' := 0) (slots' := 0) rfl rfl ?_
      subst hw
      refine w_v (y := .ref (ad (18 + j_3))) rfl ?_
      refine lv_astore (lv' := [(5, .ref (ad (18 + j_3))), (4, .int 0), (0, .ref (ad 0)), (1, .int (nI j_3)), (2, .int o), (3, .int i)]) hx hb d_erase_11 hl (by decide) rfl (fun ls hl => ?_)
      refine lv_aload_n hx hb d_erase_13 rfl (lv_at hl 2 rfl) ?_
      refine lv_iload hx hb d_erase_14 (lv_at hl 1 rfl) ?_
      refine lv_iload_n hx hb d_erase_16 rfl (lv_at hl 5 rfl) ?_
      by_cases c_8 : i = -1
      · have hFc := fr_all hD hS hA
        exact tx_on (tx_runV (As := [.int 0, .int i]) (rest := []) ⟨hx, hb, hml, hown, hts⟩ (c_np_T l hfl D ad ac u_7 H.size i c_8) (cw_v 2 hts kw_843 kw_840 kw_842 kp_19 kw_1 rfl rfl (by decide +kernel) ⟨Nat.le_of_ble_eq_true rfl, Nat.le_of_ble_eq_true rfl⟩) ⟨fx_blind, va_recv hK hP (ci := 11) (q0 := 0) rfl rfl, fun U hU hW => fx_pre hU hW hP hK hD hev hNS hS hFc⟩ rfl rfl hl.1 rfl (lv_room (Nat.le_of_ble_eq_true rfl)) d_erase_17 ⟨Nat.le_of_ble_eq_true rfl, Nat.le_of_ble_eq_true rfl⟩) hno hlocks hS hFc
      · have hFc := fr_all hD hS hA
        refine va_callv (va_runV (As := [.int 0, .int i]) (rest := []) ⟨hx, hb, hml, hown, hts⟩ (c_np l hfl D ad ac u_7 H.size i c_8) (cw_v 2 hts kw_843 kw_840 kw_842 kp_19 kw_1 rfl rfl (by decide +kernel) ⟨Nat.le_of_ble_eq_true rfl, Nat.le_of_ble_eq_true rfl⟩) ⟨fx_blind, va_recv hK hP (ci := 11) (q0 := 0) rfl rfl, fun U hU hW => fx_pre hU hW hP hK hD hev hNS hS hFc⟩ rfl rfl hl.1 rfl (lv_room (Nat.le_of_ble_eq_true rfl)) d_erase_17 ⟨Nat.le_of_ble_eq_true rfl, Nat.le_of_ble_eq_true rfl⟩) hS (fun q _ h => hFc q h) hFc (fun u_10 t H1 locs ht hvm hw hB hz1 hk1 hS => ?_)
        obtain ⟨hP, -, hD1⟩ := hB
        rw [ht] at hP
        have hD := hD1.weaken (fun _ q _ h => hFc q.1 h)
        generalize H1 = H at hP hS ⊢
        refine W.cs (cells' := 0) (slots' := 0) rfl rfl ?_
        refine lv_aload_n hx hb d_erase_20 rfl (lv_at hl 2 rfl) ?_
        refine lv_iload_n hx hb d_erase_21 rfl (lv_at hl 4 rfl) ?_
        refine lv_iload_n hx hb d_erase_22 rfl (lv_at hl 5 rfl) ?_
        by_cases c_11 : o = 0
        · subst c_11
          have hFc := fr_all hD hS hA
          exact tx_on (tx_runV (As := [.int 0, .int i]) (rest := []) ⟨hx, hb, hml, hown, hts⟩ (c_plAt0 l hfl D ad ac u_10 H.size i c_8) (cw_v 2 hts kw_847 kw_844 kw_846 kp_20 kw_1 rfl rfl (by decide +kernel) ⟨Nat.le_of_ble_eq_true rfl, Nat.le_of_ble_eq_true rfl⟩) ⟨fx_blind, va_recv hK hP (ci := 11) (q0 := 0) rfl rfl, fun U hU hW => fx_pre hU hW hP hK hD hev hNS hS hFc⟩ rfl rfl hl.1 rfl (lv_room (Nat.le_of_ble_eq_true rfl)) d_erase_23 ⟨Nat.le_of_ble_eq_true rfl, Nat.le_of_ble_eq_true rfl⟩) hno hlocks hS hFc
        · first | exact absurd hq (by simp [k_era, c_4, c_5, c_8, c_11]) | (exfalso; simp_all [k_era])
    · have hFc := fr_all hD hS hA
      exact tx_on (tx_runV (As := [.int r]) (rest := []) ⟨hx, hb, hml, hown, hts⟩ (c_shown_T l hfl D ad ac u_2 H.size r (Or.inr c_5)) (cw_v 1 hts kw_593 kw_590 kw_592 kp_3 kw_1 rfl rfl (by decide +kernel) ⟨Nat.le_of_ble_eq_true rfl, Nat.le_of_ble_eq_true rfl⟩) ⟨fx_blind, va_recv hK hP (ci := 11) (q0 := 0) rfl rfl, fun U hU hW => fx_pre hU hW hP hK hD hev hNS hS hFc⟩ rfl rfl hl.1 rfl (lv_room (Nat.le_of_ble_eq_true rfl)) d_erase_8 ⟨Nat.le_of_ble_eq_true rfl, Nat.le_of_ble_eq_true rfl⟩) hno hlocks hS hFc
