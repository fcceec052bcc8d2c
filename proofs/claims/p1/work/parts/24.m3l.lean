theorem d_mcrc_0 : decode prog_14_method_87_code 0 = .ok (.iconst (-1), 1) := by decide +kernel
theorem d_mcrc_1 : decode prog_14_method_87_code 1 = .ok (.istore_n 2, 1) := by decide +kernel
theorem d_mcrc_2 : decode prog_14_method_87_code 2 = .ok (.iconst 0, 1) := by decide +kernel
theorem d_mcrc_3 : decode prog_14_method_87_code 3 = .ok (.istore_n 3, 1) := by decide +kernel
theorem d_mcrc_4 : decode prog_14_method_87_code 4 = .ok (.iload_n 3, 1) := by decide +kernel
theorem d_mcrc_5 : decode prog_14_method_87_code 5 = .ok (.iload_n 1, 1) := by decide +kernel
theorem d_mcrc_6 : decode prog_14_method_87_code 6 = .ok (.if_icmp .ge 58, 3) := by decide +kernel
theorem d_mcrc_9 : decode prog_14_method_87_code 9 = .ok (.iload_n 2, 1) := by decide +kernel
theorem d_mcrc_10 : decode prog_14_method_87_code 10 = .ok (.aload_n 0, 1) := by decide +kernel
theorem d_mcrc_11 : decode prog_14_method_87_code 11 = .ok (.getfield 108, 3) := by decide +kernel
theorem d_mcrc_14 : decode prog_14_method_87_code 14 = .ok (.iload_n 3, 1) := by decide +kernel
theorem d_mcrc_15 : decode prog_14_method_87_code 15 = .ok (.baload, 1) := by decide +kernel
theorem d_mcrc_16 : decode prog_14_method_87_code 16 = .ok (.sipush 255, 3) := by decide +kernel
theorem d_mcrc_19 : decode prog_14_method_87_code 19 = .ok (.iand, 1) := by decide +kernel
theorem d_mcrc_20 : decode prog_14_method_87_code 20 = .ok (.ixor, 1) := by decide +kernel
theorem d_mcrc_21 : decode prog_14_method_87_code 21 = .ok (.istore_n 2, 1) := by decide +kernel
theorem d_mcrc_22 : decode prog_14_method_87_code 22 = .ok (.iconst 0, 1) := by decide +kernel
theorem d_mcrc_23 : decode prog_14_method_87_code 23 = .ok (.istore 4, 2) := by decide +kernel
theorem d_mcrc_25 : decode prog_14_method_87_code 25 = .ok (.iload 4, 2) := by decide +kernel
theorem d_mcrc_27 : decode prog_14_method_87_code 27 = .ok (.bipush 8, 2) := by decide +kernel
theorem d_mcrc_29 : decode prog_14_method_87_code 29 = .ok (.if_icmp .ge 29, 3) := by decide +kernel
theorem d_mcrc_32 : decode prog_14_method_87_code 32 = .ok (.iload_n 2, 1) := by decide +kernel
theorem d_mcrc_33 : decode prog_14_method_87_code 33 = .ok (.iconst 1, 1) := by decide +kernel
theorem d_mcrc_34 : decode prog_14_method_87_code 34 = .ok (.iand, 1) := by decide +kernel
theorem d_mcrc_35 : decode prog_14_method_87_code 35 = .ok (.ifCond .eq 13, 3) := by decide +kernel
theorem d_mcrc_38 : decode prog_14_method_87_code 38 = .ok (.iload_n 2, 1) := by decide +kernel
theorem d_mcrc_39 : decode prog_14_method_87_code 39 = .ok (.iconst 1, 1) := by decide +kernel
theorem d_mcrc_40 : decode prog_14_method_87_code 40 = .ok (.iushr, 1) := by decide +kernel
theorem d_mcrc_41 : decode prog_14_method_87_code 41 = .ok (.ldc_w 489, 3) := by decide +kernel
theorem d_mcrc_44 : decode prog_14_method_87_code 44 = .ok (.ixor, 1) := by decide +kernel
theorem d_mcrc_45 : decode prog_14_method_87_code 45 = .ok (.goto 6, 3) := by decide +kernel
theorem d_mcrc_51 : decode prog_14_method_87_code 51 = .ok (.istore_n 2, 1) := by decide +kernel
theorem d_mcrc_52 : decode prog_14_method_87_code 52 = .ok (.iinc 4 1, 3) := by decide +kernel
theorem d_mcrc_55 : decode prog_14_method_87_code 55 = .ok (.goto (-30), 3) := by decide +kernel
theorem d_mcrc_48 : decode prog_14_method_87_code 48 = .ok (.iload_n 2, 1) := by decide +kernel
theorem d_mcrc_49 : decode prog_14_method_87_code 49 = .ok (.iconst 1, 1) := by decide +kernel
theorem d_mcrc_50 : decode prog_14_method_87_code 50 = .ok (.iushr, 1) := by decide +kernel
theorem d_mcrc_58 : decode prog_14_method_87_code 58 = .ok (.iinc 3 1, 3) := by decide +kernel
theorem d_mcrc_61 : decode prog_14_method_87_code 61 = .ok (.goto (-57), 3) := by decide +kernel
theorem d_mcrc_64 : decode prog_14_method_87_code 64 = .ok (.iload_n 2, 1) := by decide +kernel
theorem d_mcrc_65 : decode prog_14_method_87_code 65 = .ok (.iconst (-1), 1) := by decide +kernel
theorem d_mcrc_66 : decode prog_14_method_87_code 66 = .ok (.ixor, 1) := by decide +kernel
theorem d_mcrc_67 : decode prog_14_method_87_code 67 = .ok (.ireturn, 1) := by decide +kernel
set_option maxHeartbeats 4000000 in
set_option maxRecDepth 100000 in
theorem g_m2_crc (l : Launch) (D : va_G) (sz : Nat) (md : Nat → Nat) (mc : Nat → ClassId) (f : Nat → Int32) (hf : f 0 = 0) : Met l ⟨"JoinedTreesModel", "crc", "(I)I"⟩ (Cond.code ⟨"JoinedTreesModel", "crc", "(I)I"⟩ prog_14_method_87_code 5 (some .int) :: gb) ({ frames := 0, cells := 0, slots := 0, locals := 0 }) (gPc D [(md 100, .inr (12, [.int 0, .ref (md 1), .ref (md 2), .ref (md 3), .int 0, .int 0, .int 0, .int 0, .ref (md 8), .ref (md 9), .ref (md 10), .ref (md 11), .ref (md 12), .ref (md 13), .ref (md 14), .ref (md 15), .ref (md 16), .ref (md 17), .ref (md 18), .ref (md 19), .ref (md 20), .ref (md 21), .ref (md 22), .int 0, .ref (md 24), .int 0, .ref (md 26), .int 0, .ref (md 28), .ref (md 29), .ref (md 30), .ref (md 31), .ref (md 32), .ref (md 33), .int 0, .int 0, .ref (md 36), .ref (md 37), .ref (md 38), .ref (md 39), .ref (md 40), .int 1, .int (-1), .int 0, .ref (md 44), .ref (md 45), .ref (md 46), .int 0, .ref (md 48), .ref (md 49), .int 0, .ref (md 51), .int 0, .ref (md 53), .ref (md 54), .ref (md 55), .ref (md 56), .ref (md 57), .ref (md 58), .ref (md 59), .ref (md 60), .ref (md 61), .ref (md 62), .ref (md 63), .int 0, .int 0, .int 0, .int 0, .int 0, .int 0, .ref (md 70), .int 0, .ref (md 72), .int 0, .int 400000, .int 0, .int 0])), (md 40, .inl (mc 1, 800000, .inl f))] [(mc 1, .byte)] sz [.ref (md 100), .int 1]) (va_Qi (fun (r : Int32) (u : Unit) => True) (fun _ t => gO D [(md 100, .inr (12, [.int 0, .ref (md 1), .ref (md 2), .ref (md 3), .int 0, .int 0, .int 0, .int 0, .ref (md 8), .ref (md 9), .ref (md 10), .ref (md 11), .ref (md 12), .ref (md 13), .ref (md 14), .ref (md 15), .ref (md 16), .ref (md 17), .ref (md 18), .ref (md 19), .ref (md 20), .ref (md 21), .ref (md 22), .int 0, .ref (md 24), .int 0, .ref (md 26), .int 0, .ref (md 28), .ref (md 29), .ref (md 30), .ref (md 31), .ref (md 32), .ref (md 33), .int 0, .int 0, .ref (md 36), .ref (md 37), .ref (md 38), .ref (md 39), .ref (md 40), .int 1, .int (-1), .int 0, .ref (md 44), .ref (md 45), .ref (md 46), .int 0, .ref (md 48), .ref (md 49), .int 0, .ref (md 51), .int 0, .ref (md 53), .ref (md 54), .ref (md 55), .ref (md 56), .ref (md 57), .ref (md 58), .ref (md 59), .ref (md 60), .ref (md 61), .ref (md 62), .ref (md 63), .int 0, .int 0, .int 0, .int 0, .int 0, .int 0, .ref (md 70), .int 0, .ref (md 72), .int 0, .int 400000, .int 0, .int 0])), (md 40, .inl (mc 1, 800000, .inl f))] [(mc 1, .byte)] (va_A [(md 100, .inr (12, [.int 0, .ref (md 1), .ref (md 2), .ref (md 3), .int 0, .int 0, .int 0, .int 0, .ref (md 8), .ref (md 9), .ref (md 10), .ref (md 11), .ref (md 12), .ref (md 13), .ref (md 14), .ref (md 15), .ref (md 16), .ref (md 17), .ref (md 18), .ref (md 19), .ref (md 20), .ref (md 21), .ref (md 22), .int 0, .ref (md 24), .int 0, .ref (md 26), .int 0, .ref (md 28), .ref (md 29), .ref (md 30), .ref (md 31), .ref (md 32), .ref (md 33), .int 0, .int 0, .ref (md 36), .ref (md 37), .ref (md 38), .ref (md 39), .ref (md 40), .int 1, .int (-1), .int 0, .ref (md 44), .ref (md 45), .ref (md 46), .int 0, .ref (md 48), .ref (md 49), .int 0, .ref (md 51), .int 0, .ref (md 53), .ref (md 54), .ref (md 55), .ref (md 56), .ref (md 57), .ref (md 58), .ref (md 59), .ref (md 60), .ref (md 61), .ref (md 62), .ref (md 63), .int 0, .int 0, .int 0, .int 0, .int 0, .int 0, .ref (md 70), .int 0, .ref (md 72), .int 0, .int 400000, .int 0, .int 0])), (md 40, .inl (mc 1, 800000, .inl f))] sz) t) (va_A [(md 100, .inr (12, [.int 0, .ref (md 1), .ref (md 2), .ref (md 3), .int 0, .int 0, .int 0, .int 0, .ref (md 8), .ref (md 9), .ref (md 10), .ref (md 11), .ref (md 12), .ref (md 13), .ref (md 14), .ref (md 15), .ref (md 16), .ref (md 17), .ref (md 18), .ref (md 19), .ref (md 20), .ref (md 21), .ref (md 22), .int 0, .ref (md 24), .int 0, .ref (md 26), .int 0, .ref (md 28), .ref (md 29), .ref (md 30), .ref (md 31), .ref (md 32), .ref (md 33), .int 0, .int 0, .ref (md 36), .ref (md 37), .ref (md 38), .ref (md 39), .ref (md 40), .int 1, .int (-1), .int 0, .ref (md 44), .ref (md 45), .ref (md 46), .int 0, .ref (md 48), .ref (md 49), .int 0, .ref (md 51), .int 0, .ref (md 53), .ref (md 54), .ref (md 55), .ref (md 56), .ref (md 57), .ref (md 58), .ref (md 59), .ref (md 60), .ref (md 61), .ref (md 62), .ref (md 63), .int 0, .int 0, .int 0, .int 0, .int 0, .int 0, .ref (md 70), .int 0, .ref (md 72), .int 0, .int 400000, .int 0, .int 0])), (md 40, .inl (mc 1, 800000, .inl f))] sz)) 0 0 (va_A [(md 100, .inr (12, [.int 0, .ref (md 1), .ref (md 2), .ref (md 3), .int 0, .int 0, .int 0, .int 0, .ref (md 8), .ref (md 9), .ref (md 10), .ref (md 11), .ref (md 12), .ref (md 13), .ref (md 14), .ref (md 15), .ref (md 16), .ref (md 17), .ref (md 18), .ref (md 19), .ref (md 20), .ref (md 21), .ref (md 22), .int 0, .ref (md 24), .int 0, .ref (md 26), .int 0, .ref (md 28), .ref (md 29), .ref (md 30), .ref (md 31), .ref (md 32), .ref (md 33), .int 0, .int 0, .ref (md 36), .ref (md 37), .ref (md 38), .ref (md 39), .ref (md 40), .int 1, .int (-1), .int 0, .ref (md 44), .ref (md 45), .ref (md 46), .int 0, .ref (md 48), .ref (md 49), .int 0, .ref (md 51), .int 0, .ref (md 53), .ref (md 54), .ref (md 55), .ref (md 56), .ref (md 57), .ref (md 58), .ref (md 59), .ref (md 60), .ref (md 61), .ref (md 62), .ref (md 63), .int 0, .int 0, .int 0, .int 0, .int 0, .int 0, .ref (md 70), .int 0, .ref (md 72), .int 0, .int 400000, .int 0, .int 0])), (md 40, .inl (mc 1, 800000, .inl f))] sz) := by
  refine Met.ofW (cc := prog_14_method_87_code) (maxL := 5) (ret := (some .int)) (by decide) rfl ?_
  intro p e s m args below meth c s₁ B hml hv
  obtain ⟨rfl, hsz, hP, hK, hD0⟩ := hv
  have hx := B.exec
  have hb := B.bytes
  have hr := B.returns
  have hts : ∀ w9 ∈ gb, w9.before [.ref (md 100), .int 1].toArray s = true := fun w9 h => atoms_spec (ws := Cond.code ⟨"JoinedTreesModel", "crc", "(I)I"⟩ prog_14_method_87_code 5 (some .int) :: gb) B.pre w9 (List.mem_cons_of_mem _ h)
  have hown : s.vm.findClass "JoinedTreesModel" = some m.cls := findClass_of_methodNamed B.named
  have hlocks := B.notSynchronized
  subst hsz
  have hD := hD0.self (sz := s.heap.size)
  generalize hAe : va_A [(md 100, .inr (12, [.int 0, .ref (md 1), .ref (md 2), .ref (md 3), .int 0, .int 0, .int 0, .int 0, .ref (md 8), .ref (md 9), .ref (md 10), .ref (md 11), .ref (md 12), .ref (md 13), .ref (md 14), .ref (md 15), .ref (md 16), .ref (md 17), .ref (md 18), .ref (md 19), .ref (md 20), .ref (md 21), .ref (md 22), .int 0, .ref (md 24), .int 0, .ref (md 26), .int 0, .ref (md 28), .ref (md 29), .ref (md 30), .ref (md 31), .ref (md 32), .ref (md 33), .int 0, .int 0, .ref (md 36), .ref (md 37), .ref (md 38), .ref (md 39), .ref (md 40), .int 1, .int (-1), .int 0, .ref (md 44), .ref (md 45), .ref (md 46), .int 0, .ref (md 48), .ref (md 49), .int 0, .ref (md 51), .int 0, .ref (md 53), .ref (md 54), .ref (md 55), .ref (md 56), .ref (md 57), .ref (md 58), .ref (md 59), .ref (md 60), .ref (md 61), .ref (md 62), .ref (md 63), .int 0, .int 0, .int 0, .int 0, .int 0, .int 0, .ref (md 70), .int 0, .ref (md 72), .int 0, .int 400000, .int 0, .int 0])), (md 40, .inl (mc 1, 800000, .inl f))] s.heap.size = A at hD ⊢
  have hA : ∀ q : Nat, s.heap.size ≤ q → A q := fun q h => by rw [← hAe]; exact Or.inr h
  have hS : va_S A s.heap s.heap [] := va_S.rf
  have hP : va_P D cls [(md 100, .inr (12, [.int 0, .ref (md 1), .ref (md 2), .ref (md 3), .int 0, .int 0, .int 0, .int 0, .ref (md 8), .ref (md 9), .ref (md 10), .ref (md 11), .ref (md 12), .ref (md 13), .ref (md 14), .ref (md 15), .ref (md 16), .ref (md 17), .ref (md 18), .ref (md 19), .ref (md 20), .ref (md 21), .ref (md 22), .int 0, .ref (md 24), .int 0, .ref (md 26), .int 0, .ref (md 28), .ref (md 29), .ref (md 30), .ref (md 31), .ref (md 32), .ref (md 33), .int 0, .int 0, .ref (md 36), .ref (md 37), .ref (md 38), .ref (md 39), .ref (md 40), .int 1, .int (-1), .int 0, .ref (md 44), .ref (md 45), .ref (md 46), .int 0, .ref (md 48), .ref (md 49), .int 0, .ref (md 51), .int 0, .ref (md 53), .ref (md 54), .ref (md 55), .ref (md 56), .ref (md 57), .ref (md 58), .ref (md 59), .ref (md 60), .ref (md 61), .ref (md 62), .ref (md 63), .int 0, .int 0, .int 0, .int 0, .int 0, .int 0, .ref (md 70), .int 0, .ref (md 72), .int 0, .int 400000, .int 0, .int 0])), (md 40, .inl (mc 1, 800000, .inl f))] s.heap := hP
  have hl := lv_entry ([.ref (md 100), .int 1]) (n := 5) (Nat.le_of_ble_eq_true rfl)
  rw [lg_entry_eq]
  generalize (lg_sl ([.ref (md 100), .int 1]) ++ List.replicate (5 - (lg_sl ([.ref (md 100), .int 1])).length) Slot.unset).toArray = ls at hl ⊢
  have hl : lv_has ls 5 [(0, .ref (md 100)), (1, .int 1)] := hl
  refine lv_iconst (v := (-1)) hx hb d_mcrc_0 (by decide) ?_
  refine lv_istore_n (lv' := [(2, .int (-1)), (0, .ref (md 100)), (1, .int 1)]) hx hb d_mcrc_1 rfl hl (by decide) rfl (fun ls hl => ?_)
  refine lv_iconst (v := 0) hx hb d_mcrc_2 (by decide) ?_
  refine lv_istore_n (lv' := [(3, .int 0), (2, .int (-1)), (0, .ref (md 100)), (1, .int 1)]) hx hb d_mcrc_3 rfl hl (by decide) rfl (fun ls hl => ?_)
  refine lv_iload_n hx hb d_mcrc_4 rfl (lv_at hl 0 rfl) ?_
  refine lv_iload_n hx hb d_mcrc_5 rfl (lv_at hl 3 rfl) ?_
  refine lv_icmp_ge (tgt := 64) hx hb d_mcrc_6 (by decide) (fun h => absurd h (by decide)) (fun _ => ?_)
  refine lv_iload_n hx hb d_mcrc_9 rfl (lv_at hl 1 rfl) ?_
  refine lv_aload_n hx hb d_mcrc_10 rfl (lv_at hl 2 rfl) ?_
  refine va_get (D := D) (ci := 12) (v := .ref (md 40)) (C := R_MM) (T := F_MM) (N := 77) hx hb hts i_MM hown hK hP 0 rfl rfl 40 (by decide) (hts _ kw_1422) (fun _ h9 => h9) rfl d_mcrc_11 ?_
  refine lv_iload_n hx hb d_mcrc_14 rfl (lv_at hl 0 rfl) ?_
  refine va_bald hx hb hK hP 1 0 rfl rfl (i := 0) (vp_in_nI (n := 0) (N := 800000) (by decide) (by decide)) d_mcrc_15 ?_
  refine w_i (y := 0) hf ?_
  refine lv_sipush (v := 255) hx hb d_mcrc_16 (by decide) ?_
  refine lv_iand hx hb d_mcrc_19 ?_
  refine w_i (y := 0) (by decide) ?_
  refine lv_ixor hx hb d_mcrc_20 ?_
  refine w_i (y := (-1)) (by decide) ?_
  refine lv_istore_n (lv' := [(2, .int (-1)), (3, .int 0), (0, .ref (md 100)), (1, .int 1)]) hx hb d_mcrc_21 rfl hl (by decide) rfl (fun ls hl => ?_)
  refine lv_iconst (v := 0) hx hb d_mcrc_22 (by decide) ?_
  refine lv_istore (lv' := [(4, .int 0), (2, .int (-1)), (3, .int 0), (0, .ref (md 100)), (1, .int 1)]) hx hb d_mcrc_23 hl (by decide) rfl (fun ls hl => ?_)
  refine lv_iload hx hb d_mcrc_25 (lv_at hl 0 rfl) ?_
  refine lv_bipush (v := 8) hx hb d_mcrc_27 (by decide) ?_
  refine lv_icmp_ge (tgt := 58) hx hb d_mcrc_29 (by decide) (fun h => absurd h (by decide)) (fun _ => ?_)
  refine lv_iload_n hx hb d_mcrc_32 rfl (lv_at hl 1 rfl) ?_
  refine lv_iconst (v := 1) hx hb d_mcrc_33 (by decide) ?_
  refine lv_iand hx hb d_mcrc_34 ?_
  refine w_i (y := 1) (by decide) ?_
  refine lv_if_eq (tgt := 48) hx hb d_mcrc_35 (by decide) (fun h => absurd h (by decide)) (fun _ => ?_)
  refine lv_iload_n hx hb d_mcrc_38 rfl (lv_at hl 1 rfl) ?_
  refine lv_iconst (v := 1) hx hb d_mcrc_39 (by decide) ?_
  refine lv_iushr hx hb d_mcrc_40 rfl ?_
  refine w_i (y := 2147483647) (by decide) ?_
  refine lv_ldcw (v := (-306674912)) hx hb hown (hts _ kw_1974) d_mcrc_41 ?_
  refine lv_ixor hx hb d_mcrc_44 ?_
  refine w_i (y := (-1840808737)) (by decide) ?_
  refine lv_goto (tgt := 51) hx hb d_mcrc_45 (by decide) ?_
  refine lv_istore_n (lv' := [(2, .int (-1840808737)), (4, .int 0), (3, .int 0), (0, .ref (md 100)), (1, .int 1)]) hx hb d_mcrc_51 rfl hl (by decide) rfl (fun ls hl => ?_)
  refine lv_iinc (v := 1) (lv' := [(4, .int 1), (2, .int (-1840808737)), (3, .int 0), (0, .ref (md 100)), (1, .int 1)]) hx hb d_mcrc_52 hl (k := 1) rfl (by decide) (by decide) rfl (fun ls hl => ?_)
  refine lv_goto (tgt := 25) hx hb d_mcrc_55 (by decide) ?_
  refine lv_iload hx hb d_mcrc_25 (lv_at hl 0 rfl) ?_
  refine lv_bipush (v := 8) hx hb d_mcrc_27 (by decide) ?_
  refine lv_icmp_ge (tgt := 58) hx hb d_mcrc_29 (by decide) (fun h => absurd h (by decide)) (fun _ => ?_)
  refine lv_iload_n hx hb d_mcrc_32 rfl (lv_at hl 1 rfl) ?_
  refine lv_iconst (v := 1) hx hb d_mcrc_33 (by decide) ?_
  refine lv_iand hx hb d_mcrc_34 ?_
  refine w_i (y := 1) (by decide) ?_
  refine lv_if_eq (tgt := 48) hx hb d_mcrc_35 (by decide) (fun h => absurd h (by decide)) (fun _ => ?_)
  refine lv_iload_n hx hb d_mcrc_38 rfl (lv_at hl 1 rfl) ?_
  refine lv_iconst (v := 1) hx hb d_mcrc_39 (by decide) ?_
  refine lv_iushr hx hb d_mcrc_40 rfl ?_
  refine w_i (y := 1227079279) (by decide) ?_
  refine lv_ldcw (v := (-306674912)) hx hb hown (hts _ kw_1974) d_mcrc_41 ?_
  refine lv_ixor hx hb d_mcrc_44 ?_
  refine w_i (y := (-1533330097)) (by decide) ?_
  refine lv_goto (tgt := 51) hx hb d_mcrc_45 (by decide) ?_
  refine lv_istore_n (lv' := [(2, .int (-1533330097)), (4, .int 1), (3, .int 0), (0, .ref (md 100)), (1, .int 1)]) hx hb d_mcrc_51 rfl hl (by decide) rfl (fun ls hl => ?_)
  refine lv_iinc (v := 2) (lv' := [(4, .int 2), (2, .int (-1533330097)), (3, .int 0), (0, .ref (md 100)), (1, .int 1)]) hx hb d_mcrc_52 hl (k := 1) rfl (by decide) (by decide) rfl (fun ls hl => ?_)
  refine lv_goto (tgt := 25) hx hb d_mcrc_55 (by decide) ?_
  refine lv_iload hx hb d_mcrc_25 (lv_at hl 0 rfl) ?_
  refine lv_bipush (v := 8) hx hb d_mcrc_27 (by decide) ?_
  refine lv_icmp_ge (tgt := 58) hx hb d_mcrc_29 (by decide) (fun h => absurd h (by decide)) (fun _ => ?_)
  refine lv_iload_n hx hb d_mcrc_32 rfl (lv_at hl 1 rfl) ?_
  refine lv_iconst (v := 1) hx hb d_mcrc_33 (by decide) ?_
  refine lv_iand hx hb d_mcrc_34 ?_
  refine w_i (y := 1) (by decide) ?_
  refine lv_if_eq (tgt := 48) hx hb d_mcrc_35 (by decide) (fun h => absurd h (by decide)) (fun _ => ?_)
  refine lv_iload_n hx hb d_mcrc_38 rfl (lv_at hl 1 rfl) ?_
  refine lv_iconst (v := 1) hx hb d_mcrc_39 (by decide) ?_
  refine lv_iushr hx hb d_mcrc_40 rfl ?_
  refine w_i (y := 1380818599) (by decide) ?_
  refine lv_ldcw (v := (-306674912)) hx hb hown (hts _ kw_1974) d_mcrc_41 ?_
  refine lv_ixor hx hb d_mcrc_44 ?_
  refine w_i (y := (-1074455161)) (by decide) ?_
  refine lv_goto (tgt := 51) hx hb d_mcrc_45 (by decide) ?_
  refine lv_istore_n (lv' := [(2, .int (-1074455161)), (4, .int 2), (3, .int 0), (0, .ref (md 100)), (1, .int 1)]) hx hb d_mcrc_51 rfl hl (by decide) rfl (fun ls hl => ?_)
  refine lv_iinc (v := 3) (lv' := [(4, .int 3), (2, .int (-1074455161)), (3, .int 0), (0, .ref (md 100)), (1, .int 1)]) hx hb d_mcrc_52 hl (k := 1) rfl (by decide) (by decide) rfl (fun ls hl => ?_)
  refine lv_goto (tgt := 25) hx hb d_mcrc_55 (by decide) ?_
  refine lv_iload hx hb d_mcrc_25 (lv_at hl 0 rfl) ?_
  refine lv_bipush (v := 8) hx hb d_mcrc_27 (by decide) ?_
  refine lv_icmp_ge (tgt := 58) hx hb d_mcrc_29 (by decide) (fun h => absurd h (by decide)) (fun _ => ?_)
  refine lv_iload_n hx hb d_mcrc_32 rfl (lv_at hl 1 rfl) ?_
  refine lv_iconst (v := 1) hx hb d_mcrc_33 (by decide) ?_
  refine lv_iand hx hb d_mcrc_34 ?_
  refine w_i (y := 1) (by decide) ?_
  refine lv_if_eq (tgt := 48) hx hb d_mcrc_35 (by decide) (fun h => absurd h (by decide)) (fun _ => ?_)
  refine lv_iload_n hx hb d_mcrc_38 rfl (lv_at hl 1 rfl) ?_
  refine lv_iconst (v := 1) hx hb d_mcrc_39 (by decide) ?_
  refine lv_iushr hx hb d_mcrc_40 rfl ?_
  refine w_i (y := 1610256067) (by decide) ?_
  refine lv_ldcw (v := (-306674912)) hx hb hown (hts _ kw_1974) d_mcrc_41 ?_
  refine lv_ixor hx hb d_mcrc_44 ?_
  refine w_i (y := (-1304293917)) (by decide) ?_
  refine lv_goto (tgt := 51) hx hb d_mcrc_45 (by decide) ?_
  refine lv_istore_n (lv' := [(2, .int (-1304293917)), (4, .int 3), (3, .int 0), (0, .ref (md 100)), (1, .int 1)]) hx hb d_mcrc_51 rfl hl (by decide) rfl (fun ls hl => ?_)
  refine lv_iinc (v := 4) (lv' := [(4, .int 4), (2, .int (-1304293917)), (3, .int 0), (0, .ref (md 100)), (1, .int 1)]) hx hb d_mcrc_52 hl (k := 1) rfl (by decide) (by decide) rfl (fun ls hl => ?_)
  refine lv_goto (tgt := 25) hx hb d_mcrc_55 (by decide) ?_
  refine lv_iload hx hb d_mcrc_25 (lv_at hl 0 rfl) ?_
  refine lv_bipush (v := 8) hx hb d_mcrc_27 (by decide) ?_
  refine lv_icmp_ge (tgt := 58) hx hb d_mcrc_29 (by decide) (fun h => absurd h (by decide)) (fun _ => ?_)
  refine lv_iload_n hx hb d_mcrc_32 rfl (lv_at hl 1 rfl) ?_
  refine lv_iconst (v := 1) hx hb d_mcrc_33 (by decide) ?_
  refine lv_iand hx hb d_mcrc_34 ?_
  refine w_i (y := 1) (by decide) ?_
  refine lv_if_eq (tgt := 48) hx hb d_mcrc_35 (by decide) (fun h => absurd h (by decide)) (fun _ => ?_)
  refine lv_iload_n hx hb d_mcrc_38 rfl (lv_at hl 1 rfl) ?_
  refine lv_iconst (v := 1) hx hb d_mcrc_39 (by decide) ?_
  refine lv_iushr hx hb d_mcrc_40 rfl ?_
  refine w_i (y := 1495336689) (by decide) ?_
  refine lv_ldcw (v := (-306674912)) hx hb hown (hts _ kw_1974) d_mcrc_41 ?_
  refine lv_ixor hx hb d_mcrc_44 ?_
  refine w_i (y := (-1265007151)) (by decide) ?_
  refine lv_goto (tgt := 51) hx hb d_mcrc_45 (by decide) ?_
  refine lv_istore_n (lv' := [(2, .int (-1265007151)), (4, .int 4), (3, .int 0), (0, .ref (md 100)), (1, .int 1)]) hx hb d_mcrc_51 rfl hl (by decide) rfl (fun ls hl => ?_)
  refine lv_iinc (v := 5) (lv' := [(4, .int 5), (2, .int (-1265007151)), (3, .int 0), (0, .ref (md 100)), (1, .int 1)]) hx hb d_mcrc_52 hl (k := 1) rfl (by decide) (by decide) rfl (fun ls hl => ?_)
  refine lv_goto (tgt := 25) hx hb d_mcrc_55 (by decide) ?_
  refine lv_iload hx hb d_mcrc_25 (lv_at hl 0 rfl) ?_
  refine lv_bipush (v := 8) hx hb d_mcrc_27 (by decide) ?_
  refine lv_icmp_ge (tgt := 58) hx hb d_mcrc_29 (by decide) (fun h => absurd h (by decide)) (fun _ => ?_)
  refine lv_iload_n hx hb d_mcrc_32 rfl (lv_at hl 1 rfl) ?_
  refine lv_iconst (v := 1) hx hb d_mcrc_33 (by decide) ?_
  refine lv_iand hx hb d_mcrc_34 ?_
  refine w_i (y := 1) (by decide) ?_
  refine lv_if_eq (tgt := 48) hx hb d_mcrc_35 (by decide) (fun h => absurd h (by decide)) (fun _ => ?_)
  refine lv_iload_n hx hb d_mcrc_38 rfl (lv_at hl 1 rfl) ?_
  refine lv_iconst (v := 1) hx hb d_mcrc_39 (by decide) ?_
  refine lv_iushr hx hb d_mcrc_40 rfl ?_
  refine w_i (y := 1514980072) (by decide) ?_
  refine lv_ldcw (v := (-306674912)) hx hb hown (hts _ kw_1974) d_mcrc_41 ?_
  refine lv_ixor hx hb d_mcrc_44 ?_
  refine w_i (y := (-1208729144)) (by decide) ?_
  refine lv_goto (tgt := 51) hx hb d_mcrc_45 (by decide) ?_
  refine lv_istore_n (lv' := [(2, .int (-1208729144)), (4, .int 5), (3, .int 0), (0, .ref (md 100)), (1, .int 1)]) hx hb d_mcrc_51 rfl hl (by decide) rfl (fun ls hl => ?_)
  refine lv_iinc (v := 6) (lv' := [(4, .int 6), (2, .int (-1208729144)), (3, .int 0), (0, .ref (md 100)), (1, .int 1)]) hx hb d_mcrc_52 hl (k := 1) rfl (by decide) (by decide) rfl (fun ls hl => ?_)
  refine lv_goto (tgt := 25) hx hb d_mcrc_55 (by decide) ?_
  refine lv_iload hx hb d_mcrc_25 (lv_at hl 0 rfl) ?_
  refine lv_bipush (v := 8) hx hb d_mcrc_27 (by decide) ?_
  refine lv_icmp_ge (tgt := 58) hx hb d_mcrc_29 (by decide) (fun h => absurd h (by decide)) (fun _ => ?_)
  refine lv_iload_n hx hb d_mcrc_32 rfl (lv_at hl 1 rfl) ?_
  refine lv_iconst (v := 1) hx hb d_mcrc_33 (by decide) ?_
  refine lv_iand hx hb d_mcrc_34 ?_
  refine w_i (y := 0) (by decide) ?_
  refine lv_if_eq (tgt := 48) hx hb d_mcrc_35 (by decide) (fun _ => ?_) (fun h => absurd h (by decide))
  refine lv_iload_n hx hb d_mcrc_48 rfl (lv_at hl 1 rfl) ?_
  refine lv_iconst (v := 1) hx hb d_mcrc_49 (by decide) ?_
  refine lv_iushr hx hb d_mcrc_50 rfl ?_
  refine w_i (y := 1543119076) (by decide) ?_
  refine lv_istore_n (lv' := [(2, .int 1543119076), (4, .int 6), (3, .int 0), (0, .ref (md 100)), (1, .int 1)]) hx hb d_mcrc_51 rfl hl (by decide) rfl (fun ls hl => ?_)
  refine lv_iinc (v := 7) (lv' := [(4, .int 7), (2, .int 1543119076), (3, .int 0), (0, .ref (md 100)), (1, .int 1)]) hx hb d_mcrc_52 hl (k := 1) rfl (by decide) (by decide) rfl (fun ls hl => ?_)
  refine lv_goto (tgt := 25) hx hb d_mcrc_55 (by decide) ?_
  refine lv_iload hx hb d_mcrc_25 (lv_at hl 0 rfl) ?_
  refine lv_bipush (v := 8) hx hb d_mcrc_27 (by decide) ?_
  refine lv_icmp_ge (tgt := 58) hx hb d_mcrc_29 (by decide) (fun h => absurd h (by decide)) (fun _ => ?_)
  refine lv_iload_n hx hb d_mcrc_32 rfl (lv_at hl 1 rfl) ?_
  refine lv_iconst (v := 1) hx hb d_mcrc_33 (by decide) ?_
  refine lv_iand hx hb d_mcrc_34 ?_
  refine w_i (y := 0) (by decide) ?_
  refine lv_if_eq (tgt := 48) hx hb d_mcrc_35 (by decide) (fun _ => ?_) (fun h => absurd h (by decide))
  refine lv_iload_n hx hb d_mcrc_48 rfl (lv_at hl 1 rfl) ?_
  refine lv_iconst (v := 1) hx hb d_mcrc_49 (by decide) ?_
  refine lv_iushr hx hb d_mcrc_50 rfl ?_
  refine w_i (y := 771559538) (by decide) ?_
  refine lv_istore_n (lv' := [(2, .int 771559538), (4, .int 7), (3, .int 0), (0, .ref (md 100)), (1, .int 1)]) hx hb d_mcrc_51 rfl hl (by decide) rfl (fun ls hl => ?_)
  refine lv_iinc (v := 8) (lv' := [(4, .int 8), (2, .int 771559538), (3, .int 0), (0, .ref (md 100)), (1, .int 1)]) hx hb d_mcrc_52 hl (k := 1) rfl (by decide) (by decide) rfl (fun ls hl => ?_)
  refine lv_goto (tgt := 25) hx hb d_mcrc_55 (by decide) ?_
  refine lv_iload hx hb d_mcrc_25 (lv_at hl 0 rfl) ?_
  refine lv_bipush (v := 8) hx hb d_mcrc_27 (by decide) ?_
  refine lv_icmp_ge (tgt := 58) hx hb d_mcrc_29 (by decide) (fun _ => ?_) (fun h => absurd h (by decide))
  refine lv_iinc (v := 1) (lv' := [(3, .int 1), (4, .int 8), (2, .int 771559538), (0, .ref (md 100)), (1, .int 1)]) hx hb d_mcrc_58 hl (k := 2) rfl (by decide) (by decide) rfl (fun ls hl => ?_)
  refine lv_goto (tgt := 4) hx hb d_mcrc_61 (by decide) ?_
  refine lv_iload_n hx hb d_mcrc_4 rfl (lv_at hl 0 rfl) ?_
  refine lv_iload_n hx hb d_mcrc_5 rfl (lv_at hl 4 rfl) ?_
  refine lv_icmp_ge (tgt := 64) hx hb d_mcrc_6 (by decide) (fun _ => ?_) (fun h => absurd h (by decide))
  refine lv_iload_n hx hb d_mcrc_64 rfl (lv_at hl 2 rfl) ?_
  refine lv_iconst (v := (-1)) hx hb d_mcrc_65 (by decide) ?_
  refine lv_ixor hx hb d_mcrc_66 ?_
  refine w_i (y := (-771559539)) (by decide) ?_
  exact W.iret (v := (-771559539)) hx hb hr (fun t ht hW => ⟨⟨(-771559539), (), rfl, trivial, by rw [ht]; exact hP, va_K.moved hW.alike hK, hD⟩, hS.F ht⟩) hS.2.2 d_mcrc_67
