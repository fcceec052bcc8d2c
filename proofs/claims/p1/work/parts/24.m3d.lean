theorem d_mout_0 : decode prog_14_method_94_code 0 = .ok (.iload_n 1, 1) := by decide +kernel
theorem d_mout_1 : decode prog_14_method_94_code 1 = .ok (.ifCond .lt 10, 3) := by decide +kernel
theorem d_mout_11 : decode prog_14_method_94_code 11 = .ok (.aload_n 0, 1) := by decide +kernel
theorem d_mout_12 : decode prog_14_method_94_code 12 = .ok (.iconst 1, 1) := by decide +kernel
theorem d_mout_13 : decode prog_14_method_94_code 13 = .ok (.invokevirtual 191, 3) := by decide +kernel
theorem d_mout_16 : decode prog_14_method_94_code 16 = .ok (.i2l, 1) := by decide +kernel
theorem d_mout_17 : decode prog_14_method_94_code 17 = .ok (.lreturn, 1) := by decide +kernel
theorem d_mout_4 : decode prog_14_method_94_code 4 = .ok (.iload_n 1, 1) := by decide +kernel
theorem d_mout_5 : decode prog_14_method_94_code 5 = .ok (.sipush 8191, 3) := by decide +kernel
theorem d_mout_8 : decode prog_14_method_94_code 8 = .ok (.if_icmp .le 10, 3) := by decide +kernel
theorem d_mout_18 : decode prog_14_method_94_code 18 = .ok (.aload_n 0, 1) := by decide +kernel
theorem d_mout_19 : decode prog_14_method_94_code 19 = .ok (.iconst 0, 1) := by decide +kernel
theorem d_mout_20 : decode prog_14_method_94_code 20 = .ok (.putfield 176, 3) := by decide +kernel
theorem d_mout_23 : decode prog_14_method_94_code 23 = .ok (.lconst 0, 1) := by decide +kernel
theorem d_mout_24 : decode prog_14_method_94_code 24 = .ok (.lstore_n 2, 1) := by decide +kernel
theorem d_mout_25 : decode prog_14_method_94_code 25 = .ok (.bipush 8, 2) := by decide +kernel
theorem d_mout_27 : decode prog_14_method_94_code 27 = .ok (.iload_n 1, 1) := by decide +kernel
theorem d_mout_28 : decode prog_14_method_94_code 28 = .ok (.imul, 1) := by decide +kernel
theorem d_mout_29 : decode prog_14_method_94_code 29 = .ok (.istore 4, 2) := by decide +kernel
theorem d_mout_31 : decode prog_14_method_94_code 31 = .ok (.iload 4, 2) := by decide +kernel
theorem d_mout_33 : decode prog_14_method_94_code 33 = .ok (.bipush 8, 2) := by decide +kernel
theorem d_mout_35 : decode prog_14_method_94_code 35 = .ok (.iload_n 1, 1) := by decide +kernel
theorem d_mout_36 : decode prog_14_method_94_code 36 = .ok (.imul, 1) := by decide +kernel
theorem d_mout_37 : decode prog_14_method_94_code 37 = .ok (.bipush 8, 2) := by decide +kernel
theorem d_mout_39 : decode prog_14_method_94_code 39 = .ok (.iadd, 1) := by decide +kernel
theorem d_mout_40 : decode prog_14_method_94_code 40 = .ok (.if_icmp .ge 40, 3) := by decide +kernel
theorem d_mout_43 : decode prog_14_method_94_code 43 = .ok (.lload_n 2, 1) := by decide +kernel
theorem d_mout_44 : decode prog_14_method_94_code 44 = .ok (.bipush 8, 2) := by decide +kernel
theorem d_mout_46 : decode prog_14_method_94_code 46 = .ok (.lshl, 1) := by decide +kernel
theorem d_mout_47 : decode prog_14_method_94_code 47 = .ok (.iload 4, 2) := by decide +kernel
theorem d_mout_49 : decode prog_14_method_94_code 49 = .ok (.aload_n 0, 1) := by decide +kernel
theorem d_mout_50 : decode prog_14_method_94_code 50 = .ok (.getfield 433, 3) := by decide +kernel
theorem d_mout_53 : decode prog_14_method_94_code 53 = .ok (.if_icmp .ge 17, 3) := by decide +kernel
theorem d_mout_70 : decode prog_14_method_94_code 70 = .ok (.iconst 0, 1) := by decide +kernel
theorem d_mout_71 : decode prog_14_method_94_code 71 = .ok (.i2l, 1) := by decide +kernel
theorem d_mout_72 : decode prog_14_method_94_code 72 = .ok (.lor, 1) := by decide +kernel
theorem d_mout_73 : decode prog_14_method_94_code 73 = .ok (.lstore_n 2, 1) := by decide +kernel
theorem d_mout_74 : decode prog_14_method_94_code 74 = .ok (.iinc 4 1, 3) := by decide +kernel
theorem d_mout_77 : decode prog_14_method_94_code 77 = .ok (.goto (-46), 3) := by decide +kernel
theorem d_mout_80 : decode prog_14_method_94_code 80 = .ok (.lload_n 2, 1) := by decide +kernel
theorem d_mout_81 : decode prog_14_method_94_code 81 = .ok (.lreturn, 1) := by decide +kernel
set_option maxHeartbeats 4000000 in
set_option maxRecDepth 100000 in
theorem g_p_out (l : Launch) (D : va_G) (sz : Nat) (md : Nat → Nat) (mc : Nat → ClassId) (i : Int32) : Met l ⟨"JoinedTreesModel", "out", "(I)J"⟩ (Cond.code ⟨"JoinedTreesModel", "out", "(I)J"⟩ prog_14_method_94_code 5 (some .long) :: gb) ({ frames := 1, cells := 0, slots := 0, locals := 21 }) (gPc D [(md 100, .inr (12, [.int 0, .ref (md 1), .ref (md 2), .ref (md 3), .int 0, .int 0, .int 0, .int 0, .ref (md 8), .ref (md 9), .ref (md 10), .ref (md 11), .ref (md 12), .ref (md 13), .ref (md 14), .ref (md 15), .ref (md 16), .ref (md 17), .ref (md 18), .ref (md 19), .ref (md 20), .ref (md 21), .ref (md 22), .int 0, .ref (md 24), .int 0, .ref (md 26), .int 0, .ref (md 28), .ref (md 29), .ref (md 30), .ref (md 31), .ref (md 32), .ref (md 33), .int 0, .int 0, .ref (md 36), .ref (md 37), .ref (md 38), .ref (md 39), .ref (md 40), .int 0, .int (-1), .int 0, .ref (md 44), .ref (md 45), .ref (md 46), .int 0, .ref (md 48), .ref (md 49), .int 0, .ref (md 51), .int 0, .ref (md 53), .ref (md 54), .ref (md 55), .ref (md 56), .ref (md 57), .ref (md 58), .ref (md 59), .ref (md 60), .ref (md 61), .ref (md 62), .ref (md 63), .int 0, .int 0, .int 0, .int 0, .int 0, .int 0, .ref (md 70), .int 0, .ref (md 72), .int 0, .int 400000, .int 0, .int 0]))] [] sz [.ref (md 100), .int i]) (va_Ql (fun (r : Int64) (u : List Value) => k_out i = 0 → r = 0) (fun u t => gO D [(md 100, .inr (12, .int (k_out i) :: u))] [] (va_A [(md 100, .inr (12, [.int 0, .ref (md 1), .ref (md 2), .ref (md 3), .int 0, .int 0, .int 0, .int 0, .ref (md 8), .ref (md 9), .ref (md 10), .ref (md 11), .ref (md 12), .ref (md 13), .ref (md 14), .ref (md 15), .ref (md 16), .ref (md 17), .ref (md 18), .ref (md 19), .ref (md 20), .ref (md 21), .ref (md 22), .int 0, .ref (md 24), .int 0, .ref (md 26), .int 0, .ref (md 28), .ref (md 29), .ref (md 30), .ref (md 31), .ref (md 32), .ref (md 33), .int 0, .int 0, .ref (md 36), .ref (md 37), .ref (md 38), .ref (md 39), .ref (md 40), .int 0, .int (-1), .int 0, .ref (md 44), .ref (md 45), .ref (md 46), .int 0, .ref (md 48), .ref (md 49), .int 0, .ref (md 51), .int 0, .ref (md 53), .ref (md 54), .ref (md 55), .ref (md 56), .ref (md 57), .ref (md 58), .ref (md 59), .ref (md 60), .ref (md 61), .ref (md 62), .ref (md 63), .int 0, .int 0, .int 0, .int 0, .int 0, .int 0, .ref (md 70), .int 0, .ref (md 72), .int 0, .int 400000, .int 0, .int 0]))] sz) t) (va_A [(md 100, .inr (12, [.int 0, .ref (md 1), .ref (md 2), .ref (md 3), .int 0, .int 0, .int 0, .int 0, .ref (md 8), .ref (md 9), .ref (md 10), .ref (md 11), .ref (md 12), .ref (md 13), .ref (md 14), .ref (md 15), .ref (md 16), .ref (md 17), .ref (md 18), .ref (md 19), .ref (md 20), .ref (md 21), .ref (md 22), .int 0, .ref (md 24), .int 0, .ref (md 26), .int 0, .ref (md 28), .ref (md 29), .ref (md 30), .ref (md 31), .ref (md 32), .ref (md 33), .int 0, .int 0, .ref (md 36), .ref (md 37), .ref (md 38), .ref (md 39), .ref (md 40), .int 0, .int (-1), .int 0, .ref (md 44), .ref (md 45), .ref (md 46), .int 0, .ref (md 48), .ref (md 49), .int 0, .ref (md 51), .int 0, .ref (md 53), .ref (md 54), .ref (md 55), .ref (md 56), .ref (md 57), .ref (md 58), .ref (md 59), .ref (md 60), .ref (md 61), .ref (md 62), .ref (md 63), .int 0, .int 0, .int 0, .int 0, .int 0, .int 0, .ref (md 70), .int 0, .ref (md 72), .int 0, .int 400000, .int 0, .int 0]))] sz)) 0 0 (va_A [(md 100, .inr (12, [.int 0, .ref (md 1), .ref (md 2), .ref (md 3), .int 0, .int 0, .int 0, .int 0, .ref (md 8), .ref (md 9), .ref (md 10), .ref (md 11), .ref (md 12), .ref (md 13), .ref (md 14), .ref (md 15), .ref (md 16), .ref (md 17), .ref (md 18), .ref (md 19), .ref (md 20), .ref (md 21), .ref (md 22), .int 0, .ref (md 24), .int 0, .ref (md 26), .int 0, .ref (md 28), .ref (md 29), .ref (md 30), .ref (md 31), .ref (md 32), .ref (md 33), .int 0, .int 0, .ref (md 36), .ref (md 37), .ref (md 38), .ref (md 39), .ref (md 40), .int 0, .int (-1), .int 0, .ref (md 44), .ref (md 45), .ref (md 46), .int 0, .ref (md 48), .ref (md 49), .int 0, .ref (md 51), .int 0, .ref (md 53), .ref (md 54), .ref (md 55), .ref (md 56), .ref (md 57), .ref (md 58), .ref (md 59), .ref (md 60), .ref (md 61), .ref (md 62), .ref (md 63), .int 0, .int 0, .int 0, .int 0, .int 0, .int 0, .ref (md 70), .int 0, .ref (md 72), .int 0, .int 400000, .int 0, .int 0]))] sz) := by
  refine Met.ofW (cc := prog_14_method_94_code) (maxL := 5) (ret := (some .long)) (by decide) rfl ?_
  intro p e s m args below meth c s₁ B hml hv
  obtain ⟨rfl, hsz, hP, hK, hD0⟩ := hv
  have hx := B.exec
  have hb := B.bytes
  have hr := B.returns
  have hts : ∀ w9 ∈ gb, w9.before [.ref (md 100), .int i].toArray s = true := fun w9 h => atoms_spec (ws := Cond.code ⟨"JoinedTreesModel", "out", "(I)J"⟩ prog_14_method_94_code 5 (some .long) :: gb) B.pre w9 (List.mem_cons_of_mem _ h)
  have hown : s.vm.findClass "JoinedTreesModel" = some m.cls := findClass_of_methodNamed B.named
  have hlocks := B.notSynchronized
  subst hsz
  have hD := hD0.self (sz := s.heap.size)
  generalize hAe : va_A [(md 100, .inr (12, [.int 0, .ref (md 1), .ref (md 2), .ref (md 3), .int 0, .int 0, .int 0, .int 0, .ref (md 8), .ref (md 9), .ref (md 10), .ref (md 11), .ref (md 12), .ref (md 13), .ref (md 14), .ref (md 15), .ref (md 16), .ref (md 17), .ref (md 18), .ref (md 19), .ref (md 20), .ref (md 21), .ref (md 22), .int 0, .ref (md 24), .int 0, .ref (md 26), .int 0, .ref (md 28), .ref (md 29), .ref (md 30), .ref (md 31), .ref (md 32), .ref (md 33), .int 0, .int 0, .ref (md 36), .ref (md 37), .ref (md 38), .ref (md 39), .ref (md 40), .int 0, .int (-1), .int 0, .ref (md 44), .ref (md 45), .ref (md 46), .int 0, .ref (md 48), .ref (md 49), .int 0, .ref (md 51), .int 0, .ref (md 53), .ref (md 54), .ref (md 55), .ref (md 56), .ref (md 57), .ref (md 58), .ref (md 59), .ref (md 60), .ref (md 61), .ref (md 62), .ref (md 63), .int 0, .int 0, .int 0, .int 0, .int 0, .int 0, .ref (md 70), .int 0, .ref (md 72), .int 0, .int 400000, .int 0, .int 0]))] s.heap.size = A at hD ⊢
  have hA : ∀ q : Nat, s.heap.size ≤ q → A q := fun q h => by rw [← hAe]; exact Or.inr h
  have hS : va_S A s.heap s.heap [] := va_S.rf
  have hP : va_P D cls [(md 100, .inr (12, [.int 0, .ref (md 1), .ref (md 2), .ref (md 3), .int 0, .int 0, .int 0, .int 0, .ref (md 8), .ref (md 9), .ref (md 10), .ref (md 11), .ref (md 12), .ref (md 13), .ref (md 14), .ref (md 15), .ref (md 16), .ref (md 17), .ref (md 18), .ref (md 19), .ref (md 20), .ref (md 21), .ref (md 22), .int 0, .ref (md 24), .int 0, .ref (md 26), .int 0, .ref (md 28), .ref (md 29), .ref (md 30), .ref (md 31), .ref (md 32), .ref (md 33), .int 0, .int 0, .ref (md 36), .ref (md 37), .ref (md 38), .ref (md 39), .ref (md 40), .int 0, .int (-1), .int 0, .ref (md 44), .ref (md 45), .ref (md 46), .int 0, .ref (md 48), .ref (md 49), .int 0, .ref (md 51), .int 0, .ref (md 53), .ref (md 54), .ref (md 55), .ref (md 56), .ref (md 57), .ref (md 58), .ref (md 59), .ref (md 60), .ref (md 61), .ref (md 62), .ref (md 63), .int 0, .int 0, .int 0, .int 0, .int 0, .int 0, .ref (md 70), .int 0, .ref (md 72), .int 0, .int 400000, .int 0, .int 0]))] s.heap := hP
  have hl := lv_entry ([.ref (md 100), .int i]) (n := 5) (Nat.le_of_ble_eq_true rfl)
  rw [lg_entry_eq]
  generalize (lg_sl ([.ref (md 100), .int i]) ++ List.replicate (5 - (lg_sl ([.ref (md 100), .int i])).length) Slot.unset).toArray = ls at hl ⊢
  have hl : lv_has ls 5 [(0, .ref (md 100)), (1, .int i)] := hl
  refine lv_iload_n hx hb d_mout_0 rfl (lv_at hl 1 rfl) ?_
  refine lv_if_lt (tgt := 11) hx hb d_mout_1 (by decide) (fun c_1 => ?_) (fun c_1 => ?_)
  · refine lv_aload_n hx hb d_mout_11 rfl (lv_at hl 0 rfl) ?_
    refine lv_iconst (v := 1) hx hb d_mout_12 (by decide) ?_
    have hPc := hP.sub (ws' := [(md 100, .inr (12, [.int 0, .ref (md 1), .ref (md 2), .ref (md 3), .int 0, .int 0, .int 0, .int 0, .ref (md 8), .ref (md 9), .ref (md 10), .ref (md 11), .ref (md 12), .ref (md 13), .ref (md 14), .ref (md 15), .ref (md 16), .ref (md 17), .ref (md 18), .ref (md 19), .ref (md 20), .ref (md 21), .ref (md 22), .int 0, .ref (md 24), .int 0, .ref (md 26), .int 0, .ref (md 28), .ref (md 29), .ref (md 30), .ref (md 31), .ref (md 32), .ref (md 33), .int 0, .int 0, .ref (md 36), .ref (md 37), .ref (md 38), .ref (md 39), .ref (md 40), .int 0, .int (-1), .int 0, .ref (md 44), .ref (md 45), .ref (md 46), .int 0, .ref (md 48), .ref (md 49), .int 0, .ref (md 51), .int 0, .ref (md 53), .ref (md 54), .ref (md 55), .ref (md 56), .ref (md 57), .ref (md 58), .ref (md 59), .ref (md 60), .ref (md 61), .ref (md 62), .ref (md 63), .int 0, .int 0, .int 0, .int 0, .int 0, .int 0, .ref (md 70), .int 0, .ref (md 72), .int 0, .int 400000, .int 0, .int 0]))]) [0] rfl
    have hDc := hD.sub (ws' := [(md 100, .inr (12, [.int 0, .ref (md 1), .ref (md 2), .ref (md 3), .int 0, .int 0, .int 0, .int 0, .ref (md 8), .ref (md 9), .ref (md 10), .ref (md 11), .ref (md 12), .ref (md 13), .ref (md 14), .ref (md 15), .ref (md 16), .ref (md 17), .ref (md 18), .ref (md 19), .ref (md 20), .ref (md 21), .ref (md 22), .int 0, .ref (md 24), .int 0, .ref (md 26), .int 0, .ref (md 28), .ref (md 29), .ref (md 30), .ref (md 31), .ref (md 32), .ref (md 33), .int 0, .int 0, .ref (md 36), .ref (md 37), .ref (md 38), .ref (md 39), .ref (md 40), .int 0, .int (-1), .int 0, .ref (md 44), .ref (md 45), .ref (md 46), .int 0, .ref (md 48), .ref (md 49), .int 0, .ref (md 51), .int 0, .ref (md 53), .ref (md 54), .ref (md 55), .ref (md 56), .ref (md 57), .ref (md 58), .ref (md 59), .ref (md 60), .ref (md 61), .ref (md 62), .ref (md 63), .int 0, .int 0, .int 0, .int 0, .int 0, .int 0, .ref (md 70), .int 0, .ref (md 72), .int 0, .int 400000, .int 0, .int 0]))]) [0] (by decide) rfl
    have hKc := hK.sub (tys' := []) [] rfl
    have hFc := va_free (wc := [(md 100, .inr (12, [.int 0, .ref (md 1), .ref (md 2), .ref (md 3), .int 0, .int 0, .int 0, .int 0, .ref (md 8), .ref (md 9), .ref (md 10), .ref (md 11), .ref (md 12), .ref (md 13), .ref (md 14), .ref (md 15), .ref (md 16), .ref (md 17), .ref (md 18), .ref (md 19), .ref (md 20), .ref (md 21), .ref (md 22), .int 0, .ref (md 24), .int 0, .ref (md 26), .int 0, .ref (md 28), .ref (md 29), .ref (md 30), .ref (md 31), .ref (md 32), .ref (md 33), .int 0, .int 0, .ref (md 36), .ref (md 37), .ref (md 38), .ref (md 39), .ref (md 40), .int 0, .int (-1), .int 0, .ref (md 44), .ref (md 45), .ref (md 46), .int 0, .ref (md 48), .ref (md 49), .int 0, .ref (md 51), .int 0, .ref (md 53), .ref (md 54), .ref (md 55), .ref (md 56), .ref (md 57), .ref (md 58), .ref (md 59), .ref (md 60), .ref (md 61), .ref (md 62), .ref (md 63), .int 0, .int 0, .int 0, .int 0, .int 0, .int 0, .ref (md 70), .int 0, .ref (md 72), .int 0, .int 400000, .int 0, .int 0]))]) hD hS hA [0] rfl
    refine va_calli (va_runV (As := [.int 1]) (rest := []) ⟨hx, hb, hml, hown, hts⟩ (g_no l D s.heap.size md mc 1) (cw_v 1 hts kw_1626 kw_1623 kw_1625 kp_29 kw_11 rfl rfl (by decide +kernel) ⟨Nat.le_of_ble_eq_true rfl, Nat.le_of_ble_eq_true rfl⟩) ⟨g_blind, va_recv hKc hPc (ci := 12) (q0 := 0) rfl rfl, fun U hU hW => g_pre hU hW hPc hKc hDc⟩ rfl rfl hl.1 rfl (lv_room (Nat.le_of_ble_eq_true rfl)) d_mout_13 ⟨Nat.le_of_ble_eq_true rfl, Nat.le_of_ble_eq_true rfl⟩) hS (fun q _ h => hFc q h) hFc (fun r_2 u_3 t H1 locs ht hvm hw hB hz1 hk1 hS => ?_)
    obtain ⟨⟩ := u_3
    obtain ⟨hP1, hK1, hD1⟩ := hB
    rw [ht] at hP1
    have hK1 := va_K.moved hvm.symm hK1
    obtain ⟨hP, hD⟩ := va_join (wr := []) (w1 := [(md 100, .inr (12, [.int 1, .ref (md 1), .ref (md 2), .ref (md 3), .int 0, .int 0, .int 0, .int 0, .ref (md 8), .ref (md 9), .ref (md 10), .ref (md 11), .ref (md 12), .ref (md 13), .ref (md 14), .ref (md 15), .ref (md 16), .ref (md 17), .ref (md 18), .ref (md 19), .ref (md 20), .ref (md 21), .ref (md 22), .int 0, .ref (md 24), .int 0, .ref (md 26), .int 0, .ref (md 28), .ref (md 29), .ref (md 30), .ref (md 31), .ref (md 32), .ref (md 33), .int 0, .int 0, .ref (md 36), .ref (md 37), .ref (md 38), .ref (md 39), .ref (md 40), .int 0, .int (-1), .int 0, .ref (md 44), .ref (md 45), .ref (md 46), .int 0, .ref (md 48), .ref (md 49), .int 0, .ref (md 51), .int 0, .ref (md 53), .ref (md 54), .ref (md 55), .ref (md 56), .ref (md 57), .ref (md 58), .ref (md 59), .ref (md 60), .ref (md 61), .ref (md 62), .ref (md 63), .int 0, .int 0, .int 0, .int 0, .int 0, .int 0, .ref (md 70), .int 0, .ref (md 72), .int 0, .int 400000, .int 0, .int 0]))]) hP hD [0] [] rfl rfl (by decide) (by decide) hk1 hFc hP1 hD1
    generalize H1 = H at hP hS ⊢
    have hP : va_P D cls [(md 100, .inr (12, [.int 1, .ref (md 1), .ref (md 2), .ref (md 3), .int 0, .int 0, .int 0, .int 0, .ref (md 8), .ref (md 9), .ref (md 10), .ref (md 11), .ref (md 12), .ref (md 13), .ref (md 14), .ref (md 15), .ref (md 16), .ref (md 17), .ref (md 18), .ref (md 19), .ref (md 20), .ref (md 21), .ref (md 22), .int 0, .ref (md 24), .int 0, .ref (md 26), .int 0, .ref (md 28), .ref (md 29), .ref (md 30), .ref (md 31), .ref (md 32), .ref (md 33), .int 0, .int 0, .ref (md 36), .ref (md 37), .ref (md 38), .ref (md 39), .ref (md 40), .int 0, .int (-1), .int 0, .ref (md 44), .ref (md 45), .ref (md 46), .int 0, .ref (md 48), .ref (md 49), .int 0, .ref (md 51), .int 0, .ref (md 53), .ref (md 54), .ref (md 55), .ref (md 56), .ref (md 57), .ref (md 58), .ref (md 59), .ref (md 60), .ref (md 61), .ref (md 62), .ref (md 63), .int 0, .int 0, .int 0, .int 0, .int 0, .int 0, .ref (md 70), .int 0, .ref (md 72), .int 0, .int 400000, .int 0, .int 0]))] H := hP
    have hD : va_D A [(md 100, .inr (12, [.int 1, .ref (md 1), .ref (md 2), .ref (md 3), .int 0, .int 0, .int 0, .int 0, .ref (md 8), .ref (md 9), .ref (md 10), .ref (md 11), .ref (md 12), .ref (md 13), .ref (md 14), .ref (md 15), .ref (md 16), .ref (md 17), .ref (md 18), .ref (md 19), .ref (md 20), .ref (md 21), .ref (md 22), .int 0, .ref (md 24), .int 0, .ref (md 26), .int 0, .ref (md 28), .ref (md 29), .ref (md 30), .ref (md 31), .ref (md 32), .ref (md 33), .int 0, .int 0, .ref (md 36), .ref (md 37), .ref (md 38), .ref (md 39), .ref (md 40), .int 0, .int (-1), .int 0, .ref (md 44), .ref (md 45), .ref (md 46), .int 0, .ref (md 48), .ref (md 49), .int 0, .ref (md 51), .int 0, .ref (md 53), .ref (md 54), .ref (md 55), .ref (md 56), .ref (md 57), .ref (md 58), .ref (md 59), .ref (md 60), .ref (md 61), .ref (md 62), .ref (md 63), .int 0, .int 0, .int 0, .int 0, .int 0, .int 0, .ref (md 70), .int 0, .ref (md 72), .int 0, .int 400000, .int 0, .int 0]))] := hD
    refine W.cs (cells' := 0) (slots' := 0) rfl rfl ?_
    subst hw
    refine lv_i2l hx hb d_mout_16 rfl ?_
    refine w_l (y := 0) (by decide) ?_
    have hk : k_out i = 1 := by first | rfl | (simp [k_out, lt8192, c_1]; done) | (simp_all [k_out, lt8192]; done)
    exact W.lret (v := 0) hx hb hr (fun t ht hW => ⟨⟨0, [.ref (md 1), .ref (md 2), .ref (md 3), .int 0, .int 0, .int 0, .int 0, .ref (md 8), .ref (md 9), .ref (md 10), .ref (md 11), .ref (md 12), .ref (md 13), .ref (md 14), .ref (md 15), .ref (md 16), .ref (md 17), .ref (md 18), .ref (md 19), .ref (md 20), .ref (md 21), .ref (md 22), .int 0, .ref (md 24), .int 0, .ref (md 26), .int 0, .ref (md 28), .ref (md 29), .ref (md 30), .ref (md 31), .ref (md 32), .ref (md 33), .int 0, .int 0, .ref (md 36), .ref (md 37), .ref (md 38), .ref (md 39), .ref (md 40), .int 0, .int (-1), .int 0, .ref (md 44), .ref (md 45), .ref (md 46), .int 0, .ref (md 48), .ref (md 49), .int 0, .ref (md 51), .int 0, .ref (md 53), .ref (md 54), .ref (md 55), .ref (md 56), .ref (md 57), .ref (md 58), .ref (md 59), .ref (md 60), .ref (md 61), .ref (md 62), .ref (md 63), .int 0, .int 0, .int 0, .int 0, .int 0, .int 0, .ref (md 70), .int 0, .ref (md 72), .int 0, .int 400000, .int 0, .int 0], rfl, (fun h0 => absurd (hk.symm.trans h0) (by first | decide | (simp_all; done))), by rw [ht, hk]; exact hP.sub [0] rfl, va_K.moved hW.alike (hK.sub (tys' := []) [] rfl), by rw [hk]; exact hD.sub [0] (by decide) rfl⟩, hS.F ht⟩) hS.2.2 d_mout_17
  · refine lv_iload_n hx hb d_mout_4 rfl (lv_at hl 1 rfl) ?_
    refine lv_sipush (v := 8191) hx hb d_mout_5 (by decide) ?_
    refine lv_icmp_le (tgt := 18) hx hb d_mout_8 (by decide) (fun c_4 => ?_) (fun c_4 => ?_)
    · obtain ⟨n8, hn8, rfl⟩ := nI_of2 (n := 8191) rfl c_1 c_4
      refine lv_aload_n hx hb d_mout_18 rfl (lv_at hl 0 rfl) ?_
      refine lv_iconst (v := 0) hx hb d_mout_19 (by decide) ?_
      refine w_putS (D := D) (ci := 12) (v := .int 0) (ty := .int) (C := R_MM) (T := F_MM) (N := 77) hx hb hts i_MM t_MM t_MM_ok n_MM hown hK hP hD hS 0 rfl rfl 0 (by decide) (hts _ kw_1382) (fun _ h9 => h9) rfl (by decide +kernel) rfl rfl (Nat.le_of_ble_eq_true rfl) rfl d_mout_20 (fun H locs hP hD hS => ?_)
      refine lv_lconst (v := 0) hx hb d_mout_23 (by decide) ?_
      refine lv_lstore_n (lv' := [(2, .long 0), (0, .ref (md 100)), (1, .int (nI n8))]) hx hb d_mout_24 rfl hl (by decide) rfl (fun ls hl => ?_)
      refine lv_bipush (v := 8) hx hb d_mout_25 (by decide) ?_
      refine lv_iload_n hx hb d_mout_27 rfl (lv_at hl 2 rfl) ?_
      refine lv_imul hx hb d_mout_28 ?_
      refine lv_topi (fun x_5 ex_5 => ?_)
      refine lv_istore (lv' := [(4, .int x_5), (2, .long 0), (0, .ref (md 100)), (1, .int (nI n8))]) hx hb d_mout_29 hl (by decide) rfl (fun ls hl => ?_)
      have ek : x_5 = nI (8 * n8 + 0) := by rw [ex_5]; exact o8 n8
      rw [ek] at hl
      refine lv_iload hx hb d_mout_31 (lv_at hl 0 rfl) ?_
      refine lv_bipush (v := 8) hx hb d_mout_33 (by decide) ?_
      refine lv_iload_n hx hb d_mout_35 rfl (lv_at hl 3 rfl) ?_
      refine lv_imul hx hb d_mout_36 ?_
      refine lv_topi (fun x_6 ex_6 => ?_)
      refine lv_bipush (v := 8) hx hb d_mout_37 (by decide) ?_
      refine lv_iadd hx hb d_mout_39 ?_
      refine lv_topi (fun x_7 ex_7 => ?_)
      refine lv_icmp_ge (tgt := 80) hx hb d_mout_40 (by decide) (fun h => absurd h (by rw [ex_7, ex_6]; exact o8c n8 0 hn8 (by decide))) (fun _ => ?_)
      refine lv_lload_n hx hb d_mout_43 rfl (lv_at hl 1 rfl) ?_
      refine lv_bipush (v := 8) hx hb d_mout_44 (by decide) ?_
      refine lv_lshl hx hb d_mout_46 rfl ?_
      refine w_l (y := 0) (by decide) ?_
      refine lv_iload hx hb d_mout_47 (lv_at hl 0 rfl) ?_
      refine lv_aload_n hx hb d_mout_49 rfl (lv_at hl 2 rfl) ?_
      refine va_get (D := D) (ci := 12) (v := .int 0) (C := R_MM) (T := F_MM) (N := 77) hx hb hts i_MM hown hK hP 0 rfl rfl 41 (by decide) (hts _ kw_1423) (fun _ h9 => h9) rfl d_mout_50 ?_
      refine lv_icmp_ge (tgt := 70) hx hb d_mout_53 (by decide) (fun _ => ?_) (fun h => absurd (o8e n8 0 hn8 (by decide)) h)
      refine lv_iconst (v := 0) hx hb d_mout_70 (by decide) ?_
      refine lv_i2l hx hb d_mout_71 rfl ?_
      refine w_l (y := 0) (by decide) ?_
      refine lv_lor hx hb d_mout_72 ?_
      refine w_l (y := 0) (by decide) ?_
      refine lv_lstore_n (lv' := [(2, .long 0), (4, .int (nI (8 * n8 + 0))), (0, .ref (md 100)), (1, .int (nI n8))]) hx hb d_mout_73 rfl hl (by decide) rfl (fun ls hl => ?_)
      refine lv_iinc (v := (nI (8 * n8 + 0)) + 1) (lv' := [(4, .int ((nI (8 * n8 + 0)) + 1)), (2, .long 0), (0, .ref (md 100)), (1, .int (nI n8))]) hx hb d_mout_74 hl (k := 1) rfl rfl (by decide) rfl (fun ls hl => ?_)
      refine lv_goto (tgt := 31) hx hb d_mout_77 (by decide) ?_
      rw [show (nI (8 * n8 + 0)) + 1 = nI (8 * n8 + 1) from nI_add (8 * n8 + 0) 1] at hl
      refine lv_iload hx hb d_mout_31 (lv_at hl 0 rfl) ?_
      refine lv_bipush (v := 8) hx hb d_mout_33 (by decide) ?_
      refine lv_iload_n hx hb d_mout_35 rfl (lv_at hl 3 rfl) ?_
      refine lv_imul hx hb d_mout_36 ?_
      refine lv_topi (fun x_8 ex_8 => ?_)
      refine lv_bipush (v := 8) hx hb d_mout_37 (by decide) ?_
      refine lv_iadd hx hb d_mout_39 ?_
      refine lv_topi (fun x_9 ex_9 => ?_)
      refine lv_icmp_ge (tgt := 80) hx hb d_mout_40 (by decide) (fun h => absurd h (by rw [ex_9, ex_8]; exact o8c n8 1 hn8 (by decide))) (fun _ => ?_)
      refine lv_lload_n hx hb d_mout_43 rfl (lv_at hl 1 rfl) ?_
      refine lv_bipush (v := 8) hx hb d_mout_44 (by decide) ?_
      refine lv_lshl hx hb d_mout_46 rfl ?_
      refine w_l (y := 0) (by decide) ?_
      refine lv_iload hx hb d_mout_47 (lv_at hl 0 rfl) ?_
      refine lv_aload_n hx hb d_mout_49 rfl (lv_at hl 2 rfl) ?_
      refine va_get (D := D) (ci := 12) (v := .int 0) (C := R_MM) (T := F_MM) (N := 77) hx hb hts i_MM hown hK hP 0 rfl rfl 41 (by decide) (hts _ kw_1423) (fun _ h9 => h9) rfl d_mout_50 ?_
      refine lv_icmp_ge (tgt := 70) hx hb d_mout_53 (by decide) (fun _ => ?_) (fun h => absurd (o8e n8 1 hn8 (by decide)) h)
      refine lv_iconst (v := 0) hx hb d_mout_70 (by decide) ?_
      refine lv_i2l hx hb d_mout_71 rfl ?_
      refine w_l (y := 0) (by decide) ?_
      refine lv_lor hx hb d_mout_72 ?_
      refine w_l (y := 0) (by decide) ?_
      refine lv_lstore_n (lv' := [(2, .long 0), (4, .int (nI (8 * n8 + 1))), (0, .ref (md 100)), (1, .int (nI n8))]) hx hb d_mout_73 rfl hl (by decide) rfl (fun ls hl => ?_)
      refine lv_iinc (v := (nI (8 * n8 + 1)) + 1) (lv' := [(4, .int ((nI (8 * n8 + 1)) + 1)), (2, .long 0), (0, .ref (md 100)), (1, .int (nI n8))]) hx hb d_mout_74 hl (k := 1) rfl rfl (by decide) rfl (fun ls hl => ?_)
      refine lv_goto (tgt := 31) hx hb d_mout_77 (by decide) ?_
      rw [show (nI (8 * n8 + 1)) + 1 = nI (8 * n8 + 2) from nI_add (8 * n8 + 1) 1] at hl
      refine lv_iload hx hb d_mout_31 (lv_at hl 0 rfl) ?_
      refine lv_bipush (v := 8) hx hb d_mout_33 (by decide) ?_
      refine lv_iload_n hx hb d_mout_35 rfl (lv_at hl 3 rfl) ?_
      refine lv_imul hx hb d_mout_36 ?_
      refine lv_topi (fun x_10 ex_10 => ?_)
      refine lv_bipush (v := 8) hx hb d_mout_37 (by decide) ?_
      refine lv_iadd hx hb d_mout_39 ?_
      refine lv_topi (fun x_11 ex_11 => ?_)
      refine lv_icmp_ge (tgt := 80) hx hb d_mout_40 (by decide) (fun h => absurd h (by rw [ex_11, ex_10]; exact o8c n8 2 hn8 (by decide))) (fun _ => ?_)
      refine lv_lload_n hx hb d_mout_43 rfl (lv_at hl 1 rfl) ?_
      refine lv_bipush (v := 8) hx hb d_mout_44 (by decide) ?_
      refine lv_lshl hx hb d_mout_46 rfl ?_
      refine w_l (y := 0) (by decide) ?_
      refine lv_iload hx hb d_mout_47 (lv_at hl 0 rfl) ?_
      refine lv_aload_n hx hb d_mout_49 rfl (lv_at hl 2 rfl) ?_
      refine va_get (D := D) (ci := 12) (v := .int 0) (C := R_MM) (T := F_MM) (N := 77) hx hb hts i_MM hown hK hP 0 rfl rfl 41 (by decide) (hts _ kw_1423) (fun _ h9 => h9) rfl d_mout_50 ?_
      refine lv_icmp_ge (tgt := 70) hx hb d_mout_53 (by decide) (fun _ => ?_) (fun h => absurd (o8e n8 2 hn8 (by decide)) h)
      refine lv_iconst (v := 0) hx hb d_mout_70 (by decide) ?_
      refine lv_i2l hx hb d_mout_71 rfl ?_
      refine w_l (y := 0) (by decide) ?_
      refine lv_lor hx hb d_mout_72 ?_
      refine w_l (y := 0) (by decide) ?_
      refine lv_lstore_n (lv' := [(2, .long 0), (4, .int (nI (8 * n8 + 2))), (0, .ref (md 100)), (1, .int (nI n8))]) hx hb d_mout_73 rfl hl (by decide) rfl (fun ls hl => ?_)
      refine lv_iinc (v := (nI (8 * n8 + 2)) + 1) (lv' := [(4, .int ((nI (8 * n8 + 2)) + 1)), (2, .long 0), (0, .ref (md 100)), (1, .int (nI n8))]) hx hb d_mout_74 hl (k := 1) rfl rfl (by decide) rfl (fun ls hl => ?_)
      refine lv_goto (tgt := 31) hx hb d_mout_77 (by decide) ?_
      rw [show (nI (8 * n8 + 2)) + 1 = nI (8 * n8 + 3) from nI_add (8 * n8 + 2) 1] at hl
      refine lv_iload hx hb d_mout_31 (lv_at hl 0 rfl) ?_
      refine lv_bipush (v := 8) hx hb d_mout_33 (by decide) ?_
      refine lv_iload_n hx hb d_mout_35 rfl (lv_at hl 3 rfl) ?_
      refine lv_imul hx hb d_mout_36 ?_
      refine lv_topi (fun x_12 ex_12 => ?_)
      refine lv_bipush (v := 8) hx hb d_mout_37 (by decide) ?_
      refine lv_iadd hx hb d_mout_39 ?_
      refine lv_topi (fun x_13 ex_13 => ?_)
      refine lv_icmp_ge (tgt := 80) hx hb d_mout_40 (by decide) (fun h => absurd h (by rw [ex_13, ex_12]; exact o8c n8 3 hn8 (by decide))) (fun _ => ?_)
      refine lv_lload_n hx hb d_mout_43 rfl (lv_at hl 1 rfl) ?_
      refine lv_bipush (v := 8) hx hb d_mout_44 (by decide) ?_
      refine lv_lshl hx hb d_mout_46 rfl ?_
      refine w_l (y := 0) (by decide) ?_
      refine lv_iload hx hb d_mout_47 (lv_at hl 0 rfl) ?_
      refine lv_aload_n hx hb d_mout_49 rfl (lv_at hl 2 rfl) ?_
      refine va_get (D := D) (ci := 12) (v := .int 0) (C := R_MM) (T := F_MM) (N := 77) hx hb hts i_MM hown hK hP 0 rfl rfl 41 (by decide) (hts _ kw_1423) (fun _ h9 => h9) rfl d_mout_50 ?_
      refine lv_icmp_ge (tgt := 70) hx hb d_mout_53 (by decide) (fun _ => ?_) (fun h => absurd (o8e n8 3 hn8 (by decide)) h)
      refine lv_iconst (v := 0) hx hb d_mout_70 (by decide) ?_
      refine lv_i2l hx hb d_mout_71 rfl ?_
      refine w_l (y := 0) (by decide) ?_
      refine lv_lor hx hb d_mout_72 ?_
      refine w_l (y := 0) (by decide) ?_
      refine lv_lstore_n (lv' := [(2, .long 0), (4, .int (nI (8 * n8 + 3))), (0, .ref (md 100)), (1, .int (nI n8))]) hx hb d_mout_73 rfl hl (by decide) rfl (fun ls hl => ?_)
      refine lv_iinc (v := (nI (8 * n8 + 3)) + 1) (lv' := [(4, .int ((nI (8 * n8 + 3)) + 1)), (2, .long 0), (0, .ref (md 100)), (1, .int (nI n8))]) hx hb d_mout_74 hl (k := 1) rfl rfl (by decide) rfl (fun ls hl => ?_)
      refine lv_goto (tgt := 31) hx hb d_mout_77 (by decide) ?_
      rw [show (nI (8 * n8 + 3)) + 1 = nI (8 * n8 + 4) from nI_add (8 * n8 + 3) 1] at hl
      refine lv_iload hx hb d_mout_31 (lv_at hl 0 rfl) ?_
      refine lv_bipush (v := 8) hx hb d_mout_33 (by decide) ?_
      refine lv_iload_n hx hb d_mout_35 rfl (lv_at hl 3 rfl) ?_
      refine lv_imul hx hb d_mout_36 ?_
      refine lv_topi (fun x_14 ex_14 => ?_)
      refine lv_bipush (v := 8) hx hb d_mout_37 (by decide) ?_
      refine lv_iadd hx hb d_mout_39 ?_
      refine lv_topi (fun x_15 ex_15 => ?_)
      refine lv_icmp_ge (tgt := 80) hx hb d_mout_40 (by decide) (fun h => absurd h (by rw [ex_15, ex_14]; exact o8c n8 4 hn8 (by decide))) (fun _ => ?_)
      refine lv_lload_n hx hb d_mout_43 rfl (lv_at hl 1 rfl) ?_
      refine lv_bipush (v := 8) hx hb d_mout_44 (by decide) ?_
      refine lv_lshl hx hb d_mout_46 rfl ?_
      refine w_l (y := 0) (by decide) ?_
      refine lv_iload hx hb d_mout_47 (lv_at hl 0 rfl) ?_
      refine lv_aload_n hx hb d_mout_49 rfl (lv_at hl 2 rfl) ?_
      refine va_get (D := D) (ci := 12) (v := .int 0) (C := R_MM) (T := F_MM) (N := 77) hx hb hts i_MM hown hK hP 0 rfl rfl 41 (by decide) (hts _ kw_1423) (fun _ h9 => h9) rfl d_mout_50 ?_
      refine lv_icmp_ge (tgt := 70) hx hb d_mout_53 (by decide) (fun _ => ?_) (fun h => absurd (o8e n8 4 hn8 (by decide)) h)
      refine lv_iconst (v := 0) hx hb d_mout_70 (by decide) ?_
      refine lv_i2l hx hb d_mout_71 rfl ?_
      refine w_l (y := 0) (by decide) ?_
      refine lv_lor hx hb d_mout_72 ?_
      refine w_l (y := 0) (by decide) ?_
      refine lv_lstore_n (lv' := [(2, .long 0), (4, .int (nI (8 * n8 + 4))), (0, .ref (md 100)), (1, .int (nI n8))]) hx hb d_mout_73 rfl hl (by decide) rfl (fun ls hl => ?_)
      refine lv_iinc (v := (nI (8 * n8 + 4)) + 1) (lv' := [(4, .int ((nI (8 * n8 + 4)) + 1)), (2, .long 0), (0, .ref (md 100)), (1, .int (nI n8))]) hx hb d_mout_74 hl (k := 1) rfl rfl (by decide) rfl (fun ls hl => ?_)
      refine lv_goto (tgt := 31) hx hb d_mout_77 (by decide) ?_
      rw [show (nI (8 * n8 + 4)) + 1 = nI (8 * n8 + 5) from nI_add (8 * n8 + 4) 1] at hl
      refine lv_iload hx hb d_mout_31 (lv_at hl 0 rfl) ?_
      refine lv_bipush (v := 8) hx hb d_mout_33 (by decide) ?_
      refine lv_iload_n hx hb d_mout_35 rfl (lv_at hl 3 rfl) ?_
      refine lv_imul hx hb d_mout_36 ?_
      refine lv_topi (fun x_16 ex_16 => ?_)
      refine lv_bipush (v := 8) hx hb d_mout_37 (by decide) ?_
      refine lv_iadd hx hb d_mout_39 ?_
      refine lv_topi (fun x_17 ex_17 => ?_)
      refine lv_icmp_ge (tgt := 80) hx hb d_mout_40 (by decide) (fun h => absurd h (by rw [ex_17, ex_16]; exact o8c n8 5 hn8 (by decide))) (fun _ => ?_)
      refine lv_lload_n hx hb d_mout_43 rfl (lv_at hl 1 rfl) ?_
      refine lv_bipush (v := 8) hx hb d_mout_44 (by decide) ?_
      refine lv_lshl hx hb d_mout_46 rfl ?_
      refine w_l (y := 0) (by decide) ?_
      refine lv_iload hx hb d_mout_47 (lv_at hl 0 rfl) ?_
      refine lv_aload_n hx hb d_mout_49 rfl (lv_at hl 2 rfl) ?_
      refine va_get (D := D) (ci := 12) (v := .int 0) (C := R_MM) (T := F_MM) (N := 77) hx hb hts i_MM hown hK hP 0 rfl rfl 41 (by decide) (hts _ kw_1423) (fun _ h9 => h9) rfl d_mout_50 ?_
      refine lv_icmp_ge (tgt := 70) hx hb d_mout_53 (by decide) (fun _ => ?_) (fun h => absurd (o8e n8 5 hn8 (by decide)) h)
      refine lv_iconst (v := 0) hx hb d_mout_70 (by decide) ?_
      refine lv_i2l hx hb d_mout_71 rfl ?_
      refine w_l (y := 0) (by decide) ?_
      refine lv_lor hx hb d_mout_72 ?_
      refine w_l (y := 0) (by decide) ?_
      refine lv_lstore_n (lv' := [(2, .long 0), (4, .int (nI (8 * n8 + 5))), (0, .ref (md 100)), (1, .int (nI n8))]) hx hb d_mout_73 rfl hl (by decide) rfl (fun ls hl => ?_)
      refine lv_iinc (v := (nI (8 * n8 + 5)) + 1) (lv' := [(4, .int ((nI (8 * n8 + 5)) + 1)), (2, .long 0), (0, .ref (md 100)), (1, .int (nI n8))]) hx hb d_mout_74 hl (k := 1) rfl rfl (by decide) rfl (fun ls hl => ?_)
      refine lv_goto (tgt := 31) hx hb d_mout_77 (by decide) ?_
      rw [show (nI (8 * n8 + 5)) + 1 = nI (8 * n8 + 6) from nI_add (8 * n8 + 5) 1] at hl
      refine lv_iload hx hb d_mout_31 (lv_at hl 0 rfl) ?_
      refine lv_bipush (v := 8) hx hb d_mout_33 (by decide) ?_
      refine lv_iload_n hx hb d_mout_35 rfl (lv_at hl 3 rfl) ?_
      refine lv_imul hx hb d_mout_36 ?_
      refine lv_topi (fun x_18 ex_18 => ?_)
      refine lv_bipush (v := 8) hx hb d_mout_37 (by decide) ?_
      refine lv_iadd hx hb d_mout_39 ?_
      refine lv_topi (fun x_19 ex_19 => ?_)
      refine lv_icmp_ge (tgt := 80) hx hb d_mout_40 (by decide) (fun h => absurd h (by rw [ex_19, ex_18]; exact o8c n8 6 hn8 (by decide))) (fun _ => ?_)
      refine lv_lload_n hx hb d_mout_43 rfl (lv_at hl 1 rfl) ?_
      refine lv_bipush (v := 8) hx hb d_mout_44 (by decide) ?_
      refine lv_lshl hx hb d_mout_46 rfl ?_
      refine w_l (y := 0) (by decide) ?_
      refine lv_iload hx hb d_mout_47 (lv_at hl 0 rfl) ?_
      refine lv_aload_n hx hb d_mout_49 rfl (lv_at hl 2 rfl) ?_
      refine va_get (D := D) (ci := 12) (v := .int 0) (C := R_MM) (T := F_MM) (N := 77) hx hb hts i_MM hown hK hP 0 rfl rfl 41 (by decide) (hts _ kw_1423) (fun _ h9 => h9) rfl d_mout_50 ?_
      refine lv_icmp_ge (tgt := 70) hx hb d_mout_53 (by decide) (fun _ => ?_) (fun h => absurd (o8e n8 6 hn8 (by decide)) h)
      refine lv_iconst (v := 0) hx hb d_mout_70 (by decide) ?_
      refine lv_i2l hx hb d_mout_71 rfl ?_
      refine w_l (y := 0) (by decide) ?_
      refine lv_lor hx hb d_mout_72 ?_
      refine w_l (y := 0) (by decide) ?_
      refine lv_lstore_n (lv' := [(2, .long 0), (4, .int (nI (8 * n8 + 6))), (0, .ref (md 100)), (1, .int (nI n8))]) hx hb d_mout_73 rfl hl (by decide) rfl (fun ls hl => ?_)
      refine lv_iinc (v := (nI (8 * n8 + 6)) + 1) (lv' := [(4, .int ((nI (8 * n8 + 6)) + 1)), (2, .long 0), (0, .ref (md 100)), (1, .int (nI n8))]) hx hb d_mout_74 hl (k := 1) rfl rfl (by decide) rfl (fun ls hl => ?_)
      refine lv_goto (tgt := 31) hx hb d_mout_77 (by decide) ?_
      rw [show (nI (8 * n8 + 6)) + 1 = nI (8 * n8 + 7) from nI_add (8 * n8 + 6) 1] at hl
      refine lv_iload hx hb d_mout_31 (lv_at hl 0 rfl) ?_
      refine lv_bipush (v := 8) hx hb d_mout_33 (by decide) ?_
      refine lv_iload_n hx hb d_mout_35 rfl (lv_at hl 3 rfl) ?_
      refine lv_imul hx hb d_mout_36 ?_
      refine lv_topi (fun x_20 ex_20 => ?_)
      refine lv_bipush (v := 8) hx hb d_mout_37 (by decide) ?_
      refine lv_iadd hx hb d_mout_39 ?_
      refine lv_topi (fun x_21 ex_21 => ?_)
      refine lv_icmp_ge (tgt := 80) hx hb d_mout_40 (by decide) (fun h => absurd h (by rw [ex_21, ex_20]; exact o8c n8 7 hn8 (by decide))) (fun _ => ?_)
      refine lv_lload_n hx hb d_mout_43 rfl (lv_at hl 1 rfl) ?_
      refine lv_bipush (v := 8) hx hb d_mout_44 (by decide) ?_
      refine lv_lshl hx hb d_mout_46 rfl ?_
      refine w_l (y := 0) (by decide) ?_
      refine lv_iload hx hb d_mout_47 (lv_at hl 0 rfl) ?_
      refine lv_aload_n hx hb d_mout_49 rfl (lv_at hl 2 rfl) ?_
      refine va_get (D := D) (ci := 12) (v := .int 0) (C := R_MM) (T := F_MM) (N := 77) hx hb hts i_MM hown hK hP 0 rfl rfl 41 (by decide) (hts _ kw_1423) (fun _ h9 => h9) rfl d_mout_50 ?_
      refine lv_icmp_ge (tgt := 70) hx hb d_mout_53 (by decide) (fun _ => ?_) (fun h => absurd (o8e n8 7 hn8 (by decide)) h)
      refine lv_iconst (v := 0) hx hb d_mout_70 (by decide) ?_
      refine lv_i2l hx hb d_mout_71 rfl ?_
      refine w_l (y := 0) (by decide) ?_
      refine lv_lor hx hb d_mout_72 ?_
      refine w_l (y := 0) (by decide) ?_
      refine lv_lstore_n (lv' := [(2, .long 0), (4, .int (nI (8 * n8 + 7))), (0, .ref (md 100)), (1, .int (nI n8))]) hx hb d_mout_73 rfl hl (by decide) rfl (fun ls hl => ?_)
      refine lv_iinc (v := (nI (8 * n8 + 7)) + 1) (lv' := [(4, .int ((nI (8 * n8 + 7)) + 1)), (2, .long 0), (0, .ref (md 100)), (1, .int (nI n8))]) hx hb d_mout_74 hl (k := 1) rfl rfl (by decide) rfl (fun ls hl => ?_)
      refine lv_goto (tgt := 31) hx hb d_mout_77 (by decide) ?_
      rw [show (nI (8 * n8 + 7)) + 1 = nI (8 * n8 + 8) from nI_add (8 * n8 + 7) 1] at hl
      refine lv_iload hx hb d_mout_31 (lv_at hl 0 rfl) ?_
      refine lv_bipush (v := 8) hx hb d_mout_33 (by decide) ?_
      refine lv_iload_n hx hb d_mout_35 rfl (lv_at hl 3 rfl) ?_
      refine lv_imul hx hb d_mout_36 ?_
      refine lv_topi (fun x_22 ex_22 => ?_)
      refine lv_bipush (v := 8) hx hb d_mout_37 (by decide) ?_
      refine lv_iadd hx hb d_mout_39 ?_
      refine lv_topi (fun x_23 ex_23 => ?_)
      refine lv_icmp_ge (tgt := 80) hx hb d_mout_40 (by decide) (fun _ => ?_) (fun h => absurd (by rw [ex_23, ex_22]; exact o8d n8) h)
      refine lv_lload_n hx hb d_mout_80 rfl (lv_at hl 1 rfl) ?_
      have hk : k_out (nI n8) = 0 := by first | rfl | (simp [k_out, lt8192, c_1, c_4]; done) | (simp_all [k_out, lt8192]; done)
      exact W.lret (v := 0) hx hb hr (fun t ht hW => ⟨⟨0, [.ref (md 1), .ref (md 2), .ref (md 3), .int 0, .int 0, .int 0, .int 0, .ref (md 8), .ref (md 9), .ref (md 10), .ref (md 11), .ref (md 12), .ref (md 13), .ref (md 14), .ref (md 15), .ref (md 16), .ref (md 17), .ref (md 18), .ref (md 19), .ref (md 20), .ref (md 21), .ref (md 22), .int 0, .ref (md 24), .int 0, .ref (md 26), .int 0, .ref (md 28), .ref (md 29), .ref (md 30), .ref (md 31), .ref (md 32), .ref (md 33), .int 0, .int 0, .ref (md 36), .ref (md 37), .ref (md 38), .ref (md 39), .ref (md 40), .int 0, .int (-1), .int 0, .ref (md 44), .ref (md 45), .ref (md 46), .int 0, .ref (md 48), .ref (md 49), .int 0, .ref (md 51), .int 0, .ref (md 53), .ref (md 54), .ref (md 55), .ref (md 56), .ref (md 57), .ref (md 58), .ref (md 59), .ref (md 60), .ref (md 61), .ref (md 62), .ref (md 63), .int 0, .int 0, .int 0, .int 0, .int 0, .int 0, .ref (md 70), .int 0, .ref (md 72), .int 0, .int 400000, .int 0, .int 0], rfl, (fun _ => by first | rfl | (simp [k_out, lt8192, c_1, c_4]; done) | (simp_all [k_out, lt8192]; done)), by rw [ht, hk]; exact hP.sub [0] rfl, va_K.moved hW.alike (hK.sub (tys' := []) [] rfl), by rw [hk]; exact hD.sub [0] (by decide) rfl⟩, hS.F ht⟩) hS.2.2 d_mout_81
    · refine lv_aload_n hx hb d_mout_11 rfl (lv_at hl 0 rfl) ?_
      refine lv_iconst (v := 1) hx hb d_mout_12 (by decide) ?_
      have hPc := hP.sub (ws' := [(md 100, .inr (12, [.int 0, .ref (md 1), .ref (md 2), .ref (md 3), .int 0, .int 0, .int 0, .int 0, .ref (md 8), .ref (md 9), .ref (md 10), .ref (md 11), .ref (md 12), .ref (md 13), .ref (md 14), .ref (md 15), .ref (md 16), .ref (md 17), .ref (md 18), .ref (md 19), .ref (md 20), .ref (md 21), .ref (md 22), .int 0, .ref (md 24), .int 0, .ref (md 26), .int 0, .ref (md 28), .ref (md 29), .ref (md 30), .ref (md 31), .ref (md 32), .ref (md 33), .int 0, .int 0, .ref (md 36), .ref (md 37), .ref (md 38), .ref (md 39), .ref (md 40), .int 0, .int (-1), .int 0, .ref (md 44), .ref (md 45), .ref (md 46), .int 0, .ref (md 48), .ref (md 49), .int 0, .ref (md 51), .int 0, .ref (md 53), .ref (md 54), .ref (md 55), .ref (md 56), .ref (md 57), .ref (md 58), .ref (md 59), .ref (md 60), .ref (md 61), .ref (md 62), .ref (md 63), .int 0, .int 0, .int 0, .int 0, .int 0, .int 0, .ref (md 70), .int 0, .ref (md 72), .int 0, .int 400000, .int 0, .int 0]))]) [0] rfl
      have hDc := hD.sub (ws' := [(md 100, .inr (12, [.int 0, .ref (md 1), .ref (md 2), .ref (md 3), .int 0, .int 0, .int 0, .int 0, .ref (md 8), .ref (md 9), .ref (md 10), .ref (md 11), .ref (md 12), .ref (md 13), .ref (md 14), .ref (md 15), .ref (md 16), .ref (md 17), .ref (md 18), .ref (md 19), .ref (md 20), .ref (md 21), .ref (md 22), .int 0, .ref (md 24), .int 0, .ref (md 26), .int 0, .ref (md 28), .ref (md 29), .ref (md 30), .ref (md 31), .ref (md 32), .ref (md 33), .int 0, .int 0, .ref (md 36), .ref (md 37), .ref (md 38), .ref (md 39), .ref (md 40), .int 0, .int (-1), .int 0, .ref (md 44), .ref (md 45), .ref (md 46), .int 0, .ref (md 48), .ref (md 49), .int 0, .ref (md 51), .int 0, .ref (md 53), .ref (md 54), .ref (md 55), .ref (md 56), .ref (md 57), .ref (md 58), .ref (md 59), .ref (md 60), .ref (md 61), .ref (md 62), .ref (md 63), .int 0, .int 0, .int 0, .int 0, .int 0, .int 0, .ref (md 70), .int 0, .ref (md 72), .int 0, .int 400000, .int 0, .int 0]))]) [0] (by decide) rfl
      have hKc := hK.sub (tys' := []) [] rfl
      have hFc := va_free (wc := [(md 100, .inr (12, [.int 0, .ref (md 1), .ref (md 2), .ref (md 3), .int 0, .int 0, .int 0, .int 0, .ref (md 8), .ref (md 9), .ref (md 10), .ref (md 11), .ref (md 12), .ref (md 13), .ref (md 14), .ref (md 15), .ref (md 16), .ref (md 17), .ref (md 18), .ref (md 19), .ref (md 20), .ref (md 21), .ref (md 22), .int 0, .ref (md 24), .int 0, .ref (md 26), .int 0, .ref (md 28), .ref (md 29), .ref (md 30), .ref (md 31), .ref (md 32), .ref (md 33), .int 0, .int 0, .ref (md 36), .ref (md 37), .ref (md 38), .ref (md 39), .ref (md 40), .int 0, .int (-1), .int 0, .ref (md 44), .ref (md 45), .ref (md 46), .int 0, .ref (md 48), .ref (md 49), .int 0, .ref (md 51), .int 0, .ref (md 53), .ref (md 54), .ref (md 55), .ref (md 56), .ref (md 57), .ref (md 58), .ref (md 59), .ref (md 60), .ref (md 61), .ref (md 62), .ref (md 63), .int 0, .int 0, .int 0, .int 0, .int 0, .int 0, .ref (md 70), .int 0, .ref (md 72), .int 0, .int 400000, .int 0, .int 0]))]) hD hS hA [0] rfl
      refine va_calli (va_runV (As := [.int 1]) (rest := []) ⟨hx, hb, hml, hown, hts⟩ (g_no l D s.heap.size md mc 1) (cw_v 1 hts kw_1626 kw_1623 kw_1625 kp_29 kw_11 rfl rfl (by decide +kernel) ⟨Nat.le_of_ble_eq_true rfl, Nat.le_of_ble_eq_true rfl⟩) ⟨g_blind, va_recv hKc hPc (ci := 12) (q0 := 0) rfl rfl, fun U hU hW => g_pre hU hW hPc hKc hDc⟩ rfl rfl hl.1 rfl (lv_room (Nat.le_of_ble_eq_true rfl)) d_mout_13 ⟨Nat.le_of_ble_eq_true rfl, Nat.le_of_ble_eq_true rfl⟩) hS (fun q _ h => hFc q h) hFc (fun r_24 u_25 t H1 locs ht hvm hw hB hz1 hk1 hS => ?_)
      obtain ⟨⟩ := u_25
      obtain ⟨hP1, hK1, hD1⟩ := hB
      rw [ht] at hP1
      have hK1 := va_K.moved hvm.symm hK1
      obtain ⟨hP, hD⟩ := va_join (wr := []) (w1 := [(md 100, .inr (12, [.int 1, .ref (md 1), .ref (md 2), .ref (md 3), .int 0, .int 0, .int 0, .int 0, .ref (md 8), .ref (md 9), .ref (md 10), .ref (md 11), .ref (md 12), .ref (md 13), .ref (md 14), .ref (md 15), .ref (md 16), .ref (md 17), .ref (md 18), .ref (md 19), .ref (md 20), .ref (md 21), .ref (md 22), .int 0, .ref (md 24), .int 0, .ref (md 26), .int 0, .ref (md 28), .ref (md 29), .ref (md 30), .ref (md 31), .ref (md 32), .ref (md 33), .int 0, .int 0, .ref (md 36), .ref (md 37), .ref (md 38), .ref (md 39), .ref (md 40), .int 0, .int (-1), .int 0, .ref (md 44), .ref (md 45), .ref (md 46), .int 0, .ref (md 48), .ref (md 49), .int 0, .ref (md 51), .int 0, .ref (md 53), .ref (md 54), .ref (md 55), .ref (md 56), .ref (md 57), .ref (md 58), .ref (md 59), .ref (md 60), .ref (md 61), .ref (md 62), .ref (md 63), .int 0, .int 0, .int 0, .int 0, .int 0, .int 0, .ref (md 70), .int 0, .ref (md 72), .int 0, .int 400000, .int 0, .int 0]))]) hP hD [0] [] rfl rfl (by decide) (by decide) hk1 hFc hP1 hD1
      generalize H1 = H at hP hS ⊢
      have hP : va_P D cls [(md 100, .inr (12, [.int 1, .ref (md 1), .ref (md 2), .ref (md 3), .int 0, .int 0, .int 0, .int 0, .ref (md 8), .ref (md 9), .ref (md 10), .ref (md 11), .ref (md 12), .ref (md 13), .ref (md 14), .ref (md 15), .ref (md 16), .ref (md 17), .ref (md 18), .ref (md 19), .ref (md 20), .ref (md 21), .ref (md 22), .int 0, .ref (md 24), .int 0, .ref (md 26), .int 0, .ref (md 28), .ref (md 29), .ref (md 30), .ref (md 31), .ref (md 32), .ref (md 33), .int 0, .int 0, .ref (md 36), .ref (md 37), .ref (md 38), .ref (md 39), .ref (md 40), .int 0, .int (-1), .int 0, .ref (md 44), .ref (md 45), .ref (md 46), .int 0, .ref (md 48), .ref (md 49), .int 0, .ref (md 51), .int 0, .ref (md 53), .ref (md 54), .ref (md 55), .ref (md 56), .ref (md 57), .ref (md 58), .ref (md 59), .ref (md 60), .ref (md 61), .ref (md 62), .ref (md 63), .int 0, .int 0, .int 0, .int 0, .int 0, .int 0, .ref (md 70), .int 0, .ref (md 72), .int 0, .int 400000, .int 0, .int 0]))] H := hP
      have hD : va_D A [(md 100, .inr (12, [.int 1, .ref (md 1), .ref (md 2), .ref (md 3), .int 0, .int 0, .int 0, .int 0, .ref (md 8), .ref (md 9), .ref (md 10), .ref (md 11), .ref (md 12), .ref (md 13), .ref (md 14), .ref (md 15), .ref (md 16), .ref (md 17), .ref (md 18), .ref (md 19), .ref (md 20), .ref (md 21), .ref (md 22), .int 0, .ref (md 24), .int 0, .ref (md 26), .int 0, .ref (md 28), .ref (md 29), .ref (md 30), .ref (md 31), .ref (md 32), .ref (md 33), .int 0, .int 0, .ref (md 36), .ref (md 37), .ref (md 38), .ref (md 39), .ref (md 40), .int 0, .int (-1), .int 0, .ref (md 44), .ref (md 45), .ref (md 46), .int 0, .ref (md 48), .ref (md 49), .int 0, .ref (md 51), .int 0, .ref (md 53), .ref (md 54), .ref (md 55), .ref (md 56), .ref (md 57), .ref (md 58), .ref (md 59), .ref (md 60), .ref (md 61), .ref (md 62), .ref (md 63), .int 0, .int 0, .int 0, .int 0, .int 0, .int 0, .ref (md 70), .int 0, .ref (md 72), .int 0, .int 400000, .int 0, .int 0]))] := hD
      refine W.cs (cells' := 0) (slots' := 0) rfl rfl ?_
      subst hw
      refine lv_i2l hx hb d_mout_16 rfl ?_
      refine w_l (y := 0) (by decide) ?_
      have hk : k_out i = 1 := by first | rfl | (simp [k_out, lt8192, c_1, c_4]; done) | (simp_all [k_out, lt8192]; done)
      exact W.lret (v := 0) hx hb hr (fun t ht hW => ⟨⟨0, [.ref (md 1), .ref (md 2), .ref (md 3), .int 0, .int 0, .int 0, .int 0, .ref (md 8), .ref (md 9), .ref (md 10), .ref (md 11), .ref (md 12), .ref (md 13), .ref (md 14), .ref (md 15), .ref (md 16), .ref (md 17), .ref (md 18), .ref (md 19), .ref (md 20), .ref (md 21), .ref (md 22), .int 0, .ref (md 24), .int 0, .ref (md 26), .int 0, .ref (md 28), .ref (md 29), .ref (md 30), .ref (md 31), .ref (md 32), .ref (md 33), .int 0, .int 0, .ref (md 36), .ref (md 37), .ref (md 38), .ref (md 39), .ref (md 40), .int 0, .int (-1), .int 0, .ref (md 44), .ref (md 45), .ref (md 46), .int 0, .ref (md 48), .ref (md 49), .int 0, .ref (md 51), .int 0, .ref (md 53), .ref (md 54), .ref (md 55), .ref (md 56), .ref (md 57), .ref (md 58), .ref (md 59), .ref (md 60), .ref (md 61), .ref (md 62), .ref (md 63), .int 0, .int 0, .int 0, .int 0, .int 0, .int 0, .ref (md 70), .int 0, .ref (md 72), .int 0, .int 400000, .int 0, .int 0], rfl, (fun h0 => absurd (hk.symm.trans h0) (by first | decide | (simp_all; done))), by rw [ht, hk]; exact hP.sub [0] rfl, va_K.moved hW.alike (hK.sub (tys' := []) [] rfl), by rw [hk]; exact hD.sub [0] (by decide) rfl⟩, hS.F ht⟩) hS.2.2 d_mout_17
