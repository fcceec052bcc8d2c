def m_rtold_J99 (S : MS) (t0 : Int32) : Option (MS × Int32) := some (S, t0)
theorem d_rtold_0 : decode prog_14_method_96_code 0 = .ok (.aload_n 0, 1) := by decide +kernel
theorem d_rtold_1 : decode prog_14_method_96_code 1 = .ok (.iconst 0, 1) := by decide +kernel
theorem d_rtold_2 : decode prog_14_method_96_code 2 = .ok (.putfield 176, 3) := by decide +kernel
theorem d_rtold_5 : decode prog_14_method_96_code 5 = .ok (.iload_n 1, 1) := by decide +kernel
theorem d_rtold_6 : decode prog_14_method_96_code 6 = .ok (.tableswitch 94 0 7 #[46, 51, 56, 61, 66, 71, 76, 81], 46) := by decide +kernel
theorem d_rtold_52 : decode prog_14_method_96_code 52 = .ok (.aload_n 0, 1) := by decide +kernel
theorem d_rtold_53 : decode prog_14_method_96_code 53 = .ok (.getfield 179, 3) := by decide +kernel
theorem d_rtold_56 : decode prog_14_method_96_code 56 = .ok (.ireturn, 1) := by decide +kernel
theorem d_rtold_57 : decode prog_14_method_96_code 57 = .ok (.aload_n 0, 1) := by decide +kernel
theorem d_rtold_58 : decode prog_14_method_96_code 58 = .ok (.getfield 182, 3) := by decide +kernel
theorem d_rtold_61 : decode prog_14_method_96_code 61 = .ok (.ireturn, 1) := by decide +kernel
theorem d_rtold_62 : decode prog_14_method_96_code 62 = .ok (.aload_n 0, 1) := by decide +kernel
theorem d_rtold_63 : decode prog_14_method_96_code 63 = .ok (.getfield 195, 3) := by decide +kernel
theorem d_rtold_66 : decode prog_14_method_96_code 66 = .ok (.ireturn, 1) := by decide +kernel
theorem d_rtold_67 : decode prog_14_method_96_code 67 = .ok (.aload_n 0, 1) := by decide +kernel
theorem d_rtold_68 : decode prog_14_method_96_code 68 = .ok (.getfield 384, 3) := by decide +kernel
theorem d_rtold_71 : decode prog_14_method_96_code 71 = .ok (.ireturn, 1) := by decide +kernel
theorem d_rtold_72 : decode prog_14_method_96_code 72 = .ok (.aload_n 0, 1) := by decide +kernel
theorem d_rtold_73 : decode prog_14_method_96_code 73 = .ok (.getfield 238, 3) := by decide +kernel
theorem d_rtold_76 : decode prog_14_method_96_code 76 = .ok (.ireturn, 1) := by decide +kernel
theorem d_rtold_77 : decode prog_14_method_96_code 77 = .ok (.aload_n 0, 1) := by decide +kernel
theorem d_rtold_78 : decode prog_14_method_96_code 78 = .ok (.getfield 111, 3) := by decide +kernel
theorem d_rtold_81 : decode prog_14_method_96_code 81 = .ok (.ireturn, 1) := by decide +kernel
theorem d_rtold_82 : decode prog_14_method_96_code 82 = .ok (.aload_n 0, 1) := by decide +kernel
theorem d_rtold_83 : decode prog_14_method_96_code 83 = .ok (.getfield 433, 3) := by decide +kernel
theorem d_rtold_86 : decode prog_14_method_96_code 86 = .ok (.ireturn, 1) := by decide +kernel
theorem d_rtold_87 : decode prog_14_method_96_code 87 = .ok (.aload_n 0, 1) := by decide +kernel
theorem d_rtold_88 : decode prog_14_method_96_code 88 = .ok (.getfield 465, 3) := by decide +kernel
theorem d_rtold_91 : decode prog_14_method_96_code 91 = .ok (.ifCond .eq 7, 3) := by decide +kernel
theorem d_rtold_98 : decode prog_14_method_96_code 98 = .ok (.iconst 0, 1) := by decide +kernel
theorem d_rtold_99 : decode prog_14_method_96_code 99 = .ok (.ireturn, 1) := by decide +kernel
set_option maxHeartbeats 4000000 in
set_option maxRecDepth 100000 in
theorem w_rtold_J99 {p : Program} {l : Launch} {e : Env} {s : State} {m : MethodId} {args : Array Value} {below : List Frame} {meth : Method} {c : Code} {A : Nat → Prop} {D : va_G} {md : Nat → Nat} {mc : Nat → ClassId} {Q : State → Prop} (hC : MCx "JoinedTreesModel" prog_14_method_96_code 2 (some .int) p s m args meth c A D mc) {S : MS} {t0 : Int32} {o : MS × Int32} (Heq : m_rtold_J99 S t0 = some o) (Kr : ∀ r : MS × Int32, o = r → ∀ (pc : Nat) (H : Heap) (locs : List Loc) (ls : Array Slot), decode prog_14_method_96_code pc = .ok (.ireturn, 1) → va_P D cls (mw md mc r.1) H → va_D A (mw md mc r.1) → va_S A s.heap H locs → W p l e ({ frames := 0, cells := 0, slots := 0, locals := 0 }) s m args below meth c H locs 0 0 Q (F0 m pc ls [.int r.2])) : ∀ (H : Heap) (locs : List Loc) (ls : Array Slot), va_P D cls (mw md mc S) H → va_D A (mw md mc S) → va_S A s.heap H locs → lv_has ls 2 [(0, .ref (md 100))] → W p l e ({ frames := 0, cells := 0, slots := 0, locals := 0 }) s m args below meth c H locs 0 0 Q (F0 m 99 ls [.int t0]) := by
  intro H locs ls hP hD hS hl
  obtain ⟨hx, hb, hr, hml, hown, hts, hK, hA⟩ := id hC
  unfold m_rtold_J99 at Heq
  exact Kr _ (Option.some.inj Heq).symm 99 _ _ _ d_rtold_99 hP hD hS
def m_rtold_J0 (S : MS) (x1 : Int32) : Option (MS × Int32) := (if x1 = 0 then some ((S.setI 0 0), S.i 4) else (if x1 = 1 then some ((S.setI 0 0), S.i 7) else (if x1 = 2 then some ((S.setI 0 0), S.i 23) else (if x1 = 3 then some ((S.setI 0 0), S.i 34) else (if x1 = 4 then some ((S.setI 0 0), S.i 27) else (if x1 = 5 then some ((S.setI 0 0), S.i 42) else (if x1 = 6 then some ((S.setI 0 0), S.i 41) else (if x1 = 7 then (if S.i 43 = 0 then m_rtold_J99 (S.setI 0 0) 0 else m_rtold_J99 (S.setI 0 0) 1) else some ((S.setI 0 0), (-1))))))))))
theorem d_rtold_94 : decode prog_14_method_96_code 94 = .ok (.iconst 1, 1) := by decide +kernel
theorem d_rtold_95 : decode prog_14_method_96_code 95 = .ok (.goto 4, 3) := by decide +kernel
theorem d_rtold_100 : decode prog_14_method_96_code 100 = .ok (.iconst (-1), 1) := by decide +kernel
theorem d_rtold_101 : decode prog_14_method_96_code 101 = .ok (.ireturn, 1) := by decide +kernel
set_option maxHeartbeats 4000000 in
set_option maxRecDepth 100000 in
theorem w_rtold_J0 {p : Program} {l : Launch} {e : Env} {s : State} {m : MethodId} {args : Array Value} {below : List Frame} {meth : Method} {c : Code} {A : Nat → Prop} {D : va_G} {md : Nat → Nat} {mc : Nat → ClassId} {Q : State → Prop} (hC : MCx "JoinedTreesModel" prog_14_method_96_code 2 (some .int) p s m args meth c A D mc) {S : MS} {x1 : Int32} {o : MS × Int32} (Heq : m_rtold_J0 S x1 = some o) (Kr : ∀ r : MS × Int32, o = r → ∀ (pc : Nat) (H : Heap) (locs : List Loc) (ls : Array Slot), decode prog_14_method_96_code pc = .ok (.ireturn, 1) → va_P D cls (mw md mc r.1) H → va_D A (mw md mc r.1) → va_S A s.heap H locs → W p l e ({ frames := 0, cells := 0, slots := 0, locals := 0 }) s m args below meth c H locs 0 0 Q (F0 m pc ls [.int r.2])) : ∀ (H : Heap) (locs : List Loc) (ls : Array Slot), va_P D cls (mw md mc S) H → va_D A (mw md mc S) → va_S A s.heap H locs → lv_has ls 2 [(0, .ref (md 100)), (1, .int x1)] → W p l e ({ frames := 0, cells := 0, slots := 0, locals := 0 }) s m args below meth c H locs 0 0 Q (F0 m 0 ls []) := by
  intro H locs ls hP hD hS hl
  obtain ⟨hx, hb, hr, hml, hown, hts, hK, hA⟩ := id hC
  unfold m_rtold_J0 at Heq
  refine lv_aload_n hx hb d_rtold_0 rfl (lv_at hl 0 rfl) ?_
  refine lv_iconst (v := 0) hx hb d_rtold_1 (by decide) ?_
  refine va_put (D := D) (ci := 12) (v := .int 0) (ty := .int) (C := R_MM) (T := F_MM) (N := 77) hx hb hts i_MM t_MM t_MM_ok n_MM hown hK hP hD hS 0 rfl rfl 0 (by decide) (hts _ kw_1382) (fun _ h9 => h9) rfl (by decide +kernel) rfl rfl (Nat.le_of_ble_eq_true rfl) d_rtold_2 (fun H locs hP hD hS => ?_)
  rw [mw_I0] at hP hD
  refine lv_iload_n hx hb d_rtold_5 rfl (lv_at hl 1 rfl) ?_
  obtain ⟨xs6, hxs6⟩ : ∃ z, x1 = z := ⟨_, rfl⟩
  by_cases c_1 : x1 = 0
  · replace Heq := (if_pos c_1).symm.trans Heq
    refine w_i (y := 0) c_1 ?_
    refine lv_tableIn (tgt := 52) hx hb d_rtold_6 (by decide) (by decide) rfl (by decide) ?_
    refine lv_aload_n hx hb d_rtold_52 rfl (lv_at hl 0 rfl) ?_
    refine va_get (D := D) (ci := 12) (v := .int (S.i 4)) (C := R_MM) (T := F_MM) (N := 77) hx hb hts i_MM hown hK hP 0 rfl rfl 4 (by decide) (hts _ kw_1386) (fun _ h9 => h9) rfl d_rtold_53 ?_
    exact Kr _ (Option.some.inj Heq).symm 56 _ _ _ d_rtold_56 hP hD hS
  replace Heq := (if_neg c_1).symm.trans Heq
  by_cases c_2 : x1 = 1
  · replace Heq := (if_pos c_2).symm.trans Heq
    refine w_i (y := 1) c_2 ?_
    refine lv_tableIn (tgt := 57) hx hb d_rtold_6 (by decide) (by decide) rfl (by decide) ?_
    refine lv_aload_n hx hb d_rtold_57 rfl (lv_at hl 0 rfl) ?_
    refine va_get (D := D) (ci := 12) (v := .int (S.i 7)) (C := R_MM) (T := F_MM) (N := 77) hx hb hts i_MM hown hK hP 0 rfl rfl 7 (by decide) (hts _ kw_1389) (fun _ h9 => h9) rfl d_rtold_58 ?_
    exact Kr _ (Option.some.inj Heq).symm 61 _ _ _ d_rtold_61 hP hD hS
  replace Heq := (if_neg c_2).symm.trans Heq
  by_cases c_3 : x1 = 2
  · replace Heq := (if_pos c_3).symm.trans Heq
    refine w_i (y := 2) c_3 ?_
    refine lv_tableIn (tgt := 62) hx hb d_rtold_6 (by decide) (by decide) rfl (by decide) ?_
    refine lv_aload_n hx hb d_rtold_62 rfl (lv_at hl 0 rfl) ?_
    refine va_get (D := D) (ci := 12) (v := .int (S.i 23)) (C := R_MM) (T := F_MM) (N := 77) hx hb hts i_MM hown hK hP 0 rfl rfl 23 (by decide) (hts _ kw_1405) (fun _ h9 => h9) rfl d_rtold_63 ?_
    exact Kr _ (Option.some.inj Heq).symm 66 _ _ _ d_rtold_66 hP hD hS
  replace Heq := (if_neg c_3).symm.trans Heq
  by_cases c_4 : x1 = 3
  · replace Heq := (if_pos c_4).symm.trans Heq
    refine w_i (y := 3) c_4 ?_
    refine lv_tableIn (tgt := 67) hx hb d_rtold_6 (by decide) (by decide) rfl (by decide) ?_
    refine lv_aload_n hx hb d_rtold_67 rfl (lv_at hl 0 rfl) ?_
    refine va_get (D := D) (ci := 12) (v := .int (S.i 34)) (C := R_MM) (T := F_MM) (N := 77) hx hb hts i_MM hown hK hP 0 rfl rfl 34 (by decide) (hts _ kw_1416) (fun _ h9 => h9) rfl d_rtold_68 ?_
    exact Kr _ (Option.some.inj Heq).symm 71 _ _ _ d_rtold_71 hP hD hS
  replace Heq := (if_neg c_4).symm.trans Heq
  by_cases c_5 : x1 = 4
  · replace Heq := (if_pos c_5).symm.trans Heq
    refine w_i (y := 4) c_5 ?_
    refine lv_tableIn (tgt := 72) hx hb d_rtold_6 (by decide) (by decide) rfl (by decide) ?_
    refine lv_aload_n hx hb d_rtold_72 rfl (lv_at hl 0 rfl) ?_
    refine va_get (D := D) (ci := 12) (v := .int (S.i 27)) (C := R_MM) (T := F_MM) (N := 77) hx hb hts i_MM hown hK hP 0 rfl rfl 27 (by decide) (hts _ kw_1409) (fun _ h9 => h9) rfl d_rtold_73 ?_
    exact Kr _ (Option.some.inj Heq).symm 76 _ _ _ d_rtold_76 hP hD hS
  replace Heq := (if_neg c_5).symm.trans Heq
  by_cases c_6 : x1 = 5
  · replace Heq := (if_pos c_6).symm.trans Heq
    refine w_i (y := 5) c_6 ?_
    refine lv_tableIn (tgt := 77) hx hb d_rtold_6 (by decide) (by decide) rfl (by decide) ?_
    refine lv_aload_n hx hb d_rtold_77 rfl (lv_at hl 0 rfl) ?_
    refine va_get (D := D) (ci := 12) (v := .int (S.i 42)) (C := R_MM) (T := F_MM) (N := 77) hx hb hts i_MM hown hK hP 0 rfl rfl 42 (by decide) (hts _ kw_1424) (fun _ h9 => h9) rfl d_rtold_78 ?_
    exact Kr _ (Option.some.inj Heq).symm 81 _ _ _ d_rtold_81 hP hD hS
  replace Heq := (if_neg c_6).symm.trans Heq
  by_cases c_7 : x1 = 6
  · replace Heq := (if_pos c_7).symm.trans Heq
    refine w_i (y := 6) c_7 ?_
    refine lv_tableIn (tgt := 82) hx hb d_rtold_6 (by decide) (by decide) rfl (by decide) ?_
    refine lv_aload_n hx hb d_rtold_82 rfl (lv_at hl 0 rfl) ?_
    refine va_get (D := D) (ci := 12) (v := .int (S.i 41)) (C := R_MM) (T := F_MM) (N := 77) hx hb hts i_MM hown hK hP 0 rfl rfl 41 (by decide) (hts _ kw_1423) (fun _ h9 => h9) rfl d_rtold_83 ?_
    exact Kr _ (Option.some.inj Heq).symm 86 _ _ _ d_rtold_86 hP hD hS
  replace Heq := (if_neg c_7).symm.trans Heq
  by_cases c_8 : x1 = 7
  · replace Heq := (if_pos c_8).symm.trans Heq
    refine w_i (y := 7) c_8 ?_
    refine lv_tableIn (tgt := 87) hx hb d_rtold_6 (by decide) (by decide) rfl (by decide) ?_
    refine lv_aload_n hx hb d_rtold_87 rfl (lv_at hl 0 rfl) ?_
    refine va_get (D := D) (ci := 12) (v := .int (S.i 43)) (C := R_MM) (T := F_MM) (N := 77) hx hb hts i_MM hown hK hP 0 rfl rfl 43 (by decide) (hts _ kw_1425) (fun _ h9 => h9) rfl d_rtold_88 ?_
    refine lv_if_eq (tgt := 98) hx hb d_rtold_91 (by decide) (fun c_9 => ?_) (fun c_9 => ?_)
    · replace Heq := (if_pos c_9).symm.trans Heq
      refine lv_iconst (v := 0) hx hb d_rtold_98 (by decide) ?_
      exact w_rtold_J99 hC Heq Kr _ _ _ hP hD hS (lv_sub hl [0] rfl)
    · replace Heq := (if_neg c_9).symm.trans Heq
      refine lv_iconst (v := 1) hx hb d_rtold_94 (by decide) ?_
      refine lv_goto (tgt := 99) hx hb d_rtold_95 (by decide) ?_
      exact w_rtold_J99 hC Heq Kr _ _ _ hP hD hS (lv_sub hl [0] rfl)
  replace Heq := (if_neg c_8).symm.trans Heq
  refine lv_tableOut (tgt := 100) hx hb d_rtold_6 (by have q0 : (x1).toInt ≠ 0 := fun h => c_1 (Int32.toInt_inj.mp (h.trans (by decide))); have q1 : (x1).toInt ≠ 1 := fun h => c_2 (Int32.toInt_inj.mp (h.trans (by decide))); have q2 : (x1).toInt ≠ 2 := fun h => c_3 (Int32.toInt_inj.mp (h.trans (by decide))); have q3 : (x1).toInt ≠ 3 := fun h => c_4 (Int32.toInt_inj.mp (h.trans (by decide))); have q4 : (x1).toInt ≠ 4 := fun h => c_5 (Int32.toInt_inj.mp (h.trans (by decide))); have q5 : (x1).toInt ≠ 5 := fun h => c_6 (Int32.toInt_inj.mp (h.trans (by decide))); have q6 : (x1).toInt ≠ 6 := fun h => c_7 (Int32.toInt_inj.mp (h.trans (by decide))); have q7 : (x1).toInt ≠ 7 := fun h => c_8 (Int32.toInt_inj.mp (h.trans (by decide))); omega) (by decide) ?_
  refine lv_iconst (v := (-1)) hx hb d_rtold_100 (by decide) ?_
  exact Kr _ (Option.some.inj Heq).symm 101 _ _ _ d_rtold_101 hP hD hS
def m_rtold (S : MS) (x1 : Int32) : Option (MS × Int32) := m_rtold_J0 S x1
theorem g_rtold (l : Launch) (D : va_G) (sz : Nat) {md : Nat → Nat} {mc : Nat → ClassId} {S : MS} {x1 : Int32} {o : MS × Int32} (Heq : m_rtold S x1 = some o) : Met l ⟨"JoinedTreesModel", "told", "(I)I"⟩ (Cond.code ⟨"JoinedTreesModel", "told", "(I)I"⟩ prog_14_method_96_code 2 (some .int) :: gb) ({ frames := 0, cells := 0, slots := 0, locals := 0 }) (gPc D (mw md mc S) (mty mc) sz [.ref (md 100), .int x1]) (va_Qi (fun (r : Int32) (_ : Unit) => r = o.2) (fun _ t => gO D (mw md mc o.1) (mty mc) (va_A (mw md mc S) sz) t) (va_A (mw md mc S) sz)) 0 0 (va_A (mw md mc S) sz) := by
  refine Met.ofW (cc := prog_14_method_96_code) (maxL := 2) (ret := (some .int)) (by decide) rfl ?_
  intro p e s m args below meth c s₁ B hml hv
  obtain ⟨rfl, hsz, hP, hK, hD0⟩ := hv
  have hx := B.exec
  have hb := B.bytes
  have hr := B.returns
  have hts : ∀ w9 ∈ gb, w9.before [.ref (md 100), .int x1].toArray s = true := fun w9 h => atoms_spec (ws := Cond.code ⟨"JoinedTreesModel", "told", "(I)I"⟩ prog_14_method_96_code 2 (some .int) :: gb) B.pre w9 (List.mem_cons_of_mem _ h)
  have hown : s.vm.findClass "JoinedTreesModel" = some m.cls := findClass_of_methodNamed B.named
  have hlocks := B.notSynchronized
  subst hsz
  have hD := hD0.self (sz := s.heap.size)
  generalize hAe : va_A (mw md mc S) s.heap.size = A at hD ⊢
  have hA : ∀ q : Nat, s.heap.size ≤ q → A q := fun q h => by rw [← hAe]; exact Or.inr h
  have hS : va_S A s.heap s.heap [] := va_S.rf
  have hl := lv_entry ([.ref (md 100), .int x1]) (n := 2) (Nat.le_of_ble_eq_true rfl)
  rw [lg_entry_eq]
  generalize (lg_sl ([.ref (md 100), .int x1]) ++ List.replicate (2 - (lg_sl ([.ref (md 100), .int x1])).length) Slot.unset).toArray = ls at hl ⊢
  have hl : lv_has ls 2 [(0, .ref (md 100)), (1, .int x1)] := hl
  refine w_rtold_J0 ⟨hx, hb, hr, hml, hown, hts, hK, hA⟩ Heq (fun r h pc H locs ls hd hP hD hS => ?_) _ _ _ hP hD hS (lv_sub hl [0, 1] rfl)
  subst h
  exact W.iret hx hb hr (fun t ht hW => ⟨⟨_, (), rfl, rfl, by rw [ht]; exact hP, va_K.moved hW.alike hK, hD⟩, hS.F ht⟩) hS.2.2 hd
