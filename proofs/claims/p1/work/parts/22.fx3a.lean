/-! MORE METHODS OF THE CLASS ON A FRESH OBJECT. Printed by wip/gen/fx3.py -/
theorem in_sub {x : Int32} (h1 : ¬ x < 10) (h2 : x < 18) : vp_in (x - 10) 8 := by
  have a1 : (10 : Int) ≤ x.toInt := Int32.le_iff_toInt_le.mp (Int32.not_lt.mp h1)
  have a2 : x.toInt < 18 := Int32.lt_iff_toInt_lt.mp h2
  refine vp_in_iff.mpr ?_
  have e : (x - 10).toInt = x.toInt - 10 := by
    rw [Int32.toInt_sub]
    show (x.toInt - 10).bmod (2 ^ 32) = _
    rw [Int.bmod_eq_of_le (by omega) (by omega)]
  rw [e]; omega
def v_ct (w : Int32) : Int32 := if w = 0 then 0 else if w = 1 then 0 else if w = 2 then 0 else if w = 3 then 0 else if w = 4 then 0 else if w = 5 then 0 else if w = 6 then 0 else -1
def v_cou2 (w : Int32) : Int32 := if w < 10 then v_ct w else if w < 18 then 0 else v_ct w
def v_to2 (w : Int32) : Int32 := if w = 0 then 0 else if w = 1 then 0 else if w = 2 then 0 else if w = 3 then 0 else if w = 4 then 0 else if w = 5 then -1 else if w = 6 then 0 else if w = 7 then 0 else -1
theorem d_told_0 : decode prog_1_method_29_code 0 = .ok (.iload_n 1, 1) := by decide +kernel
theorem d_told_1 : decode prog_1_method_29_code 1 = .ok (.tableswitch 113 0 7 #[47, 55, 60, 68, 76, 87, 92, 100], 47) := by decide +kernel
theorem d_told_48 : decode prog_1_method_29_code 48 = .ok (.aload_n 0, 1) := by decide +kernel
theorem d_told_49 : decode prog_1_method_29_code 49 = .ok (.getfield 67, 3) := by decide +kernel
theorem d_told_52 : decode prog_1_method_29_code 52 = .ok (.getfield 80, 3) := by decide +kernel
theorem d_told_55 : decode prog_1_method_29_code 55 = .ok (.ireturn, 1) := by decide +kernel
theorem d_told_56 : decode prog_1_method_29_code 56 = .ok (.aload_n 0, 1) := by decide +kernel
theorem d_told_57 : decode prog_1_method_29_code 57 = .ok (.getfield 96, 3) := by decide +kernel
theorem d_told_60 : decode prog_1_method_29_code 60 = .ok (.ireturn, 1) := by decide +kernel
theorem d_told_61 : decode prog_1_method_29_code 61 = .ok (.aload_n 0, 1) := by decide +kernel
theorem d_told_62 : decode prog_1_method_29_code 62 = .ok (.getfield 12, 3) := by decide +kernel
theorem d_told_65 : decode prog_1_method_29_code 65 = .ok (.getfield 395, 3) := by decide +kernel
theorem d_told_68 : decode prog_1_method_29_code 68 = .ok (.ireturn, 1) := by decide +kernel
theorem d_told_69 : decode prog_1_method_29_code 69 = .ok (.aload_n 0, 1) := by decide +kernel
theorem d_told_70 : decode prog_1_method_29_code 70 = .ok (.getfield 12, 3) := by decide +kernel
theorem d_told_73 : decode prog_1_method_29_code 73 = .ok (.getfield 226, 3) := by decide +kernel
theorem d_told_76 : decode prog_1_method_29_code 76 = .ok (.ireturn, 1) := by decide +kernel
theorem d_told_77 : decode prog_1_method_29_code 77 = .ok (.aload_n 0, 1) := by decide +kernel
theorem d_told_78 : decode prog_1_method_29_code 78 = .ok (.getfield 12, 3) := by decide +kernel
theorem d_told_81 : decode prog_1_method_29_code 81 = .ok (.getfield 287, 3) := by decide +kernel
theorem d_told_84 : decode prog_1_method_29_code 84 = .ok (.getfield 80, 3) := by decide +kernel
theorem d_told_87 : decode prog_1_method_29_code 87 = .ok (.ireturn, 1) := by decide +kernel
theorem d_told_88 : decode prog_1_method_29_code 88 = .ok (.aload_n 0, 1) := by decide +kernel
theorem d_told_89 : decode prog_1_method_29_code 89 = .ok (.getfield 76, 3) := by decide +kernel
theorem d_told_92 : decode prog_1_method_29_code 92 = .ok (.ireturn, 1) := by decide +kernel
theorem d_told_93 : decode prog_1_method_29_code 93 = .ok (.aload_n 0, 1) := by decide +kernel
theorem d_told_94 : decode prog_1_method_29_code 94 = .ok (.getfield 54, 3) := by decide +kernel
theorem d_told_97 : decode prog_1_method_29_code 97 = .ok (.getfield 80, 3) := by decide +kernel
theorem d_told_100 : decode prog_1_method_29_code 100 = .ok (.ireturn, 1) := by decide +kernel
theorem d_told_101 : decode prog_1_method_29_code 101 = .ok (.aload_n 0, 1) := by decide +kernel
theorem d_told_102 : decode prog_1_method_29_code 102 = .ok (.getfield 352, 3) := by decide +kernel
theorem d_told_105 : decode prog_1_method_29_code 105 = .ok (.ifCond .eq 7, 3) := by decide +kernel
theorem d_told_112 : decode prog_1_method_29_code 112 = .ok (.iconst 0, 1) := by decide +kernel
theorem d_told_113 : decode prog_1_method_29_code 113 = .ok (.ireturn, 1) := by decide +kernel
theorem d_told_114 : decode prog_1_method_29_code 114 = .ok (.iconst (-1), 1) := by decide +kernel
theorem d_told_115 : decode prog_1_method_29_code 115 = .ok (.ireturn, 1) := by decide +kernel
set_option maxHeartbeats 4000000 in
set_option maxRecDepth 100000 in
theorem c_told_0 (l : Launch) (hfl : l.flags = flags0) (D : va_G) (ad : Nat → Nat) (ac : Nat → ClassId) (ck : Nat → Int32) (sz : Nat) (wh : Int32) : Met l ⟨"JoinedTrees", "told", "(I)I"⟩ (Cond.code ⟨"JoinedTrees", "told", "(I)I"⟩ prog_1_method_29_code 2 (some .int) :: gb) ({ frames := 0, cells := 0, slots := 0, locals := 0 }) (fxPc D ad ac ck sz [.ref (ad 0), .int wh]) (va_Qi (fun (r : Int32) (_ : Unit) => r = v_to2 wh) (fun _ _ => True) (va_A (fxW ad ac ck) sz)) 0 0 (va_A (fxW ad ac ck) sz) := by
  refine Met.ofW (cc := prog_1_method_29_code) (maxL := 2) (ret := (some .int)) (by decide) rfl ?_
  intro p e s m args below meth c s₁ B hml hv
  obtain ⟨rfl, hsz, hP, hK, hD0, hev⟩ := hv
  have hx := B.exec
  have hb := B.bytes
  have hr := B.returns
  have hts : ∀ w9 ∈ gb, w9.before [.ref (ad 0), .int wh].toArray s = true := fun w9 h => atoms_spec (ws := Cond.code ⟨"JoinedTrees", "told", "(I)I"⟩ prog_1_method_29_code 2 (some .int) :: gb) B.pre w9 (List.mem_cons_of_mem _ h)
  have hown : s.vm.findClass "JoinedTrees" = some m.cls := findClass_of_methodNamed B.named
  have hlocks := B.notSynchronized
  subst hsz
  have hNS := ns_of hP
  have hD := hD0.self (sz := s.heap.size)
  generalize hAe : va_A (fxW ad ac ck) s.heap.size = A at hD hev hNS ⊢
  have hA : ∀ q : Nat, s.heap.size ≤ q → A q := fun q h => by rw [← hAe]; exact Or.inr h
  have hS : va_S A s.heap s.heap [] := va_S.rf
  have hP : va_P D cls (fxW ad ac ck) s.heap := hP
  have hl := lv_entry ([.ref (ad 0), .int wh]) (n := 2) (Nat.le_of_ble_eq_true rfl)
  rw [lg_entry_eq]
  generalize (lg_sl ([.ref (ad 0), .int wh]) ++ List.replicate (2 - (lg_sl ([.ref (ad 0), .int wh])).length) Slot.unset).toArray = ls at hl ⊢
  have hl : lv_has ls 2 [(0, .ref (ad 0)), (1, .int wh)] := hl
  refine lv_iload_n hx hb d_told_0 rfl (lv_at hl 1 rfl) ?_
  by_cases c_1 : wh = 0
  · subst c_1
    refine lv_tableIn (tgt := 48) hx hb d_told_1 (by decide) (by decide) rfl (by decide) ?_
    refine lv_aload_n hx hb d_told_48 rfl (lv_at hl 0 rfl) ?_
    refine va_get (D := D) (ci := 11) (v := .ref (ad 9)) (C := R_JT) (T := F_JT) (N := 13) hx hb hts i_JT hown hK hP 0 rfl rfl 8 (by decide) (hts _ kw_429) (fun _ h9 => h9) rfl d_told_49 ?_
    refine va_get (D := D) (ci := 5) (v := .int 0) (C := R_Rw) (T := F_Rw) (N := 3) hx hb hts i_Rw hown hK hP 9 rfl rfl 1 (by decide) (hts _ kw_143) (fun _ h9 => h9) rfl d_told_52 ?_
    exact W.iret (v := 0) hx hb hr (fun t ht hW => ⟨⟨0, (), rfl, (by first | decide | (simp [v_to2]; done) | (exfalso; simp_all; done)), trivial⟩, hS.F ht⟩) hS.2.2 d_told_55
  · by_cases c_2 : wh = 1
    · subst c_2
      refine lv_tableIn (tgt := 56) hx hb d_told_1 (by decide) (by decide) rfl (by decide) ?_
      refine lv_aload_n hx hb d_told_56 rfl (lv_at hl 0 rfl) ?_
      refine va_get (D := D) (ci := 11) (v := .int 0) (C := R_JT) (T := F_JT) (N := 13) hx hb hts i_JT hown hK hP 0 rfl rfl 11 (by decide) (hts _ kw_432) (fun _ h9 => h9) rfl d_told_57 ?_
      exact W.iret (v := 0) hx hb hr (fun t ht hW => ⟨⟨0, (), rfl, (by first | decide | (simp [v_to2, c_1]; done) | (exfalso; simp_all; done)), trivial⟩, hS.F ht⟩) hS.2.2 d_told_60
    · by_cases c_3 : wh = 2
      · subst c_3
        refine lv_tableIn (tgt := 61) hx hb d_told_1 (by decide) (by decide) rfl (by decide) ?_
        refine lv_aload_n hx hb d_told_61 rfl (lv_at hl 0 rfl) ?_
        refine va_get (D := D) (ci := 11) (v := .ref (ad 1)) (C := R_JT) (T := F_JT) (N := 13) hx hb hts i_JT hown hK hP 0 rfl rfl 0 (by decide) (hts _ kw_421) (fun _ h9 => h9) rfl d_told_62 ?_
        refine va_get (D := D) (ci := 8) (v := .int 0) (C := R_St) (T := F_St) (N := 6) hx hb hts i_St hown hK hP 1 rfl rfl 5 (by decide) (hts _ kw_178) (fun _ h9 => h9) rfl d_told_65 ?_
        exact W.iret (v := 0) hx hb hr (fun t ht hW => ⟨⟨0, (), rfl, (by first | decide | (simp [v_to2, c_1, c_2]; done) | (exfalso; simp_all; done)), trivial⟩, hS.F ht⟩) hS.2.2 d_told_68
      · by_cases c_4 : wh = 3
        · subst c_4
          refine lv_tableIn (tgt := 69) hx hb d_told_1 (by decide) (by decide) rfl (by decide) ?_
          refine lv_aload_n hx hb d_told_69 rfl (lv_at hl 0 rfl) ?_
          refine va_get (D := D) (ci := 11) (v := .ref (ad 1)) (C := R_JT) (T := F_JT) (N := 13) hx hb hts i_JT hown hK hP 0 rfl rfl 0 (by decide) (hts _ kw_421) (fun _ h9 => h9) rfl d_told_70 ?_
          refine va_get (D := D) (ci := 8) (v := .int 0) (C := R_St) (T := F_St) (N := 6) hx hb hts i_St hown hK hP 1 rfl rfl 4 (by decide) (hts _ kw_176) (fun _ h9 => h9) rfl d_told_73 ?_
          exact W.iret (v := 0) hx hb hr (fun t ht hW => ⟨⟨0, (), rfl, (by first | decide | (simp [v_to2, c_1, c_2, c_3]; done) | (exfalso; simp_all; done)), trivial⟩, hS.F ht⟩) hS.2.2 d_told_76
        · by_cases c_5 : wh = 4
          · subst c_5
            refine lv_tableIn (tgt := 77) hx hb d_told_1 (by decide) (by decide) rfl (by decide) ?_
            refine lv_aload_n hx hb d_told_77 rfl (lv_at hl 0 rfl) ?_
            refine va_get (D := D) (ci := 11) (v := .ref (ad 1)) (C := R_JT) (T := F_JT) (N := 13) hx hb hts i_JT hown hK hP 0 rfl rfl 0 (by decide) (hts _ kw_421) (fun _ h9 => h9) rfl d_told_78 ?_
            refine va_get (D := D) (ci := 8) (v := .ref (ad 13)) (C := R_St) (T := F_St) (N := 6) hx hb hts i_St hown hK hP 1 rfl rfl 2 (by decide) (hts _ kw_170) (fun _ h9 => h9) rfl d_told_81 ?_
            refine va_get (D := D) (ci := 5) (v := .int 0) (C := R_Rw) (T := F_Rw) (N := 3) hx hb hts i_Rw hown hK hP 13 rfl rfl 1 (by decide) (hts _ kw_143) (fun _ h9 => h9) rfl d_told_84 ?_
            exact W.iret (v := 0) hx hb hr (fun t ht hW => ⟨⟨0, (), rfl, (by first | decide | (simp [v_to2, c_1, c_2, c_3, c_4]; done) | (exfalso; simp_all; done)), trivial⟩, hS.F ht⟩) hS.2.2 d_told_87
          · by_cases c_6 : wh = 5
            · subst c_6
              refine lv_tableIn (tgt := 88) hx hb d_told_1 (by decide) (by decide) rfl (by decide) ?_
              refine lv_aload_n hx hb d_told_88 rfl (lv_at hl 0 rfl) ?_
              refine va_get (D := D) (ci := 11) (v := .int (-1)) (C := R_JT) (T := F_JT) (N := 13) hx hb hts i_JT hown hK hP 0 rfl rfl 12 (by decide) (hts _ kw_433) (fun _ h9 => h9) rfl d_told_89 ?_
              exact W.iret (v := (-1)) hx hb hr (fun t ht hW => ⟨⟨(-1), (), rfl, (by first | decide | (simp [v_to2, c_1, c_2, c_3, c_4, c_5]; done) | (exfalso; simp_all; done)), trivial⟩, hS.F ht⟩) hS.2.2 d_told_92
            · by_cases c_7 : wh = 6
              · subst c_7
                refine lv_tableIn (tgt := 93) hx hb d_told_1 (by decide) (by decide) rfl (by decide) ?_
                refine lv_aload_n hx hb d_told_93 rfl (lv_at hl 0 rfl) ?_
                refine va_get (D := D) (ci := 11) (v := .ref (ad 7)) (C := R_JT) (T := F_JT) (N := 13) hx hb hts i_JT hown hK hP 0 rfl rfl 6 (by decide) (hts _ kw_427) (fun _ h9 => h9) rfl d_told_94 ?_
                refine va_get (D := D) (ci := 5) (v := .int 0) (C := R_Rw) (T := F_Rw) (N := 3) hx hb hts i_Rw hown hK hP 7 rfl rfl 1 (by decide) (hts _ kw_143) (fun _ h9 => h9) rfl d_told_97 ?_
                exact W.iret (v := 0) hx hb hr (fun t ht hW => ⟨⟨0, (), rfl, (by first | decide | (simp [v_to2, c_1, c_2, c_3, c_4, c_5, c_6]; done) | (exfalso; simp_all; done)), trivial⟩, hS.F ht⟩) hS.2.2 d_told_100
              · by_cases c_8 : wh = 7
                · subst c_8
                  refine lv_tableIn (tgt := 101) hx hb d_told_1 (by decide) (by decide) rfl (by decide) ?_
                  refine lv_aload_n hx hb d_told_101 rfl (lv_at hl 0 rfl) ?_
                  refine va_get (D := D) (ci := 11) (v := .int 0) (C := R_JT) (T := F_JT) (N := 13) hx hb hts i_JT hown hK hP 0 rfl rfl 7 (by decide) (hts _ kw_428) (fun _ h9 => h9) rfl d_told_102 ?_
                  refine lv_if_eq (tgt := 112) hx hb d_told_105 (by decide) (fun _ => ?_) (fun h => absurd h (by decide))
                  refine lv_iconst (v := 0) hx hb d_told_112 (by decide) ?_
                  exact W.iret (v := 0) hx hb hr (fun t ht hW => ⟨⟨0, (), rfl, (by first | decide | (simp [v_to2, c_1, c_2, c_3, c_4, c_5, c_6, c_7]; done) | (exfalso; simp_all; done)), trivial⟩, hS.F ht⟩) hS.2.2 d_told_113
                · refine lv_tableOut (tgt := 114) hx hb d_told_1 (by have q0 : wh.toInt ≠ 0 := fun h => c_1 (Int32.toInt_inj.mp (h.trans (by decide))); have q1 : wh.toInt ≠ 1 := fun h => c_2 (Int32.toInt_inj.mp (h.trans (by decide))); have q2 : wh.toInt ≠ 2 := fun h => c_3 (Int32.toInt_inj.mp (h.trans (by decide))); have q3 : wh.toInt ≠ 3 := fun h => c_4 (Int32.toInt_inj.mp (h.trans (by decide))); have q4 : wh.toInt ≠ 4 := fun h => c_5 (Int32.toInt_inj.mp (h.trans (by decide))); have q5 : wh.toInt ≠ 5 := fun h => c_6 (Int32.toInt_inj.mp (h.trans (by decide))); have q6 : wh.toInt ≠ 6 := fun h => c_7 (Int32.toInt_inj.mp (h.trans (by decide))); have q7 : wh.toInt ≠ 7 := fun h => c_8 (Int32.toInt_inj.mp (h.trans (by decide))); omega) (by decide) ?_
                  refine lv_iconst (v := (-1)) hx hb d_told_114 (by decide) ?_
                  exact W.iret (v := (-1)) hx hb hr (fun t ht hW => ⟨⟨(-1), (), rfl, (by first | decide | (simp [v_to2, c_1, c_2, c_3, c_4, c_5, c_6, c_7, c_8]; done) | (exfalso; simp_all; done)), trivial⟩, hS.F ht⟩) hS.2.2 d_told_115
theorem d_count_0 : decode prog_1_method_28_code 0 = .ok (.aload_n 0, 1) := by decide +kernel
theorem d_count_1 : decode prog_1_method_28_code 1 = .ok (.iload_n 1, 1) := by decide +kernel
theorem d_count_2 : decode prog_1_method_28_code 2 = .ok (.invokevirtual 105, 3) := by decide +kernel
theorem d_count_5 : decode prog_1_method_28_code 5 = .ok (.astore_n 3, 1) := by decide +kernel
theorem d_count_6 : decode prog_1_method_28_code 6 = .ok (.iload_n 2, 1) := by decide +kernel
theorem d_count_7 : decode prog_1_method_28_code 7 = .ok (.bipush 10, 2) := by decide +kernel
theorem d_count_9 : decode prog_1_method_28_code 9 = .ok (.if_icmp .lt 19, 3) := by decide +kernel
theorem d_count_12 : decode prog_1_method_28_code 12 = .ok (.iload_n 2, 1) := by decide +kernel
theorem d_count_13 : decode prog_1_method_28_code 13 = .ok (.bipush 18, 2) := by decide +kernel
theorem d_count_15 : decode prog_1_method_28_code 15 = .ok (.if_icmp .ge 13, 3) := by decide +kernel
set_option maxHeartbeats 4000000 in
set_option maxRecDepth 100000 in
theorem c_count_1 (l : Launch) (hfl : l.flags = flags0) (D : va_G) (ad : Nat → Nat) (ac : Nat → ClassId) (ck : Nat → Int32) (sz : Nat) (rr wh : Int32) (hq : k_dro rr = 1) : MeT l ⟨"JoinedTrees", "count", "(II)I"⟩ (Cond.code ⟨"JoinedTrees", "count", "(II)I"⟩ prog_1_method_28_code 4 (some .int) :: gb) ({ frames := 7, cells := 1, slots := 6, locals := 117 }) (fxPc D ad ac ck sz [.ref (ad 0), .int rr, .int wh]) e_IA (va_A (fxW ad ac ck) sz) 1 6 := by
  refine MeT.ofW (cc := prog_1_method_28_code) (maxL := 4) (ret := (some .int)) (by decide) rfl ?_
  intro p e s m args below meth c s₁ B hml hno hv
  obtain ⟨rfl, hsz, hP, hK, hD0, hev⟩ := hv
  have hx := B.exec
  have hb := B.bytes
  have hr := B.returns
  have hts : ∀ w9 ∈ gb, w9.before [.ref (ad 0), .int rr, .int wh].toArray s = true := fun w9 h => atoms_spec (ws := Cond.code ⟨"JoinedTrees", "count", "(II)I"⟩ prog_1_method_28_code 4 (some .int) :: gb) B.pre w9 (List.mem_cons_of_mem _ h)
  have hown : s.vm.findClass "JoinedTrees" = some m.cls := findClass_of_methodNamed B.named
  have hlocks := B.notSynchronized
  subst hsz
  have hNS := ns_of hP
  have hD := hD0.self (sz := s.heap.size)
  generalize hAe : va_A (fxW ad ac ck) s.heap.size = A at hD hev hNS ⊢
  have hA : ∀ q : Nat, s.heap.size ≤ q → A q := fun q h => by rw [← hAe]; exact Or.inr h
  have hS : va_S A s.heap s.heap [] := va_S.rf
  have hP : va_P D cls (fxW ad ac ck) s.heap := hP
  have hl := lv_entry ([.ref (ad 0), .int rr, .int wh]) (n := 4) (Nat.le_of_ble_eq_true rfl)
  rw [lg_entry_eq]
  generalize (lg_sl ([.ref (ad 0), .int rr, .int wh]) ++ List.replicate (4 - (lg_sl ([.ref (ad 0), .int rr, .int wh])).length) Slot.unset).toArray = ls at hl ⊢
  have hl : lv_has ls 4 [(0, .ref (ad 0)), (1, .int rr), (2, .int wh)] := hl
  refine lv_aload_n hx hb d_count_0 rfl (lv_at hl 0 rfl) ?_
  refine lv_iload_n hx hb d_count_1 rfl (lv_at hl 1 rfl) ?_
  by_cases c_2 : rr < 0
  · have hFc := fr_all hD hS hA
    exact tx_on (tx_runV (As := [.int rr]) (rest := []) ⟨hx, hb, hml, hown, hts⟩ (c_shown_T l hfl D ad ac ck s.heap.size rr (Or.inl c_2)) (cw_v 1 hts kw_593 kw_590 kw_592 kp_3 kw_1 rfl rfl (by decide +kernel) ⟨Nat.le_of_ble_eq_true rfl, Nat.le_of_ble_eq_true rfl⟩) ⟨fx_blind, va_recv hK hP (ci := 11) (q0 := 0) rfl rfl, fun U hU hW => fx_pre hU hW hP hK hD hev hNS hS hFc⟩ rfl rfl hl.1 rfl (lv_room (Nat.le_of_ble_eq_true rfl)) d_count_2 ⟨Nat.le_of_ble_eq_true rfl, Nat.le_of_ble_eq_true rfl⟩) hno hlocks hS hFc
  · by_cases c_3 : rr < 8
    · obtain ⟨j_1, hj_1, rfl⟩ := of8 c_2 c_3
      have hFc := fr_all hD hS hA
      refine va_callq (va_runV (As := [.int (nI j_1)]) (rest := []) ⟨hx, hb, hml, hown, hts⟩ (c_shown l hfl D ad ac ck s.heap.size j_1 hj_1) (cw_v 1 hts kw_593 kw_590 kw_592 kp_3 kw_1 rfl rfl (by decide +kernel) ⟨Nat.le_of_ble_eq_true rfl, Nat.le_of_ble_eq_true rfl⟩) ⟨fx_blind, va_recv hK hP (ci := 11) (q0 := 0) rfl rfl, fun U hU hW => fx_pre hU hW hP hK hD hev hNS hS hFc⟩ rfl rfl hl.1 rfl (lv_room (Nat.le_of_ble_eq_true rfl)) d_count_2 ⟨Nat.le_of_ble_eq_true rfl, Nat.le_of_ble_eq_true rfl⟩) hS (fun q _ h => hFc q h) hFc (fun r_4 u_5 t H1 locs ht hvm hw hB hz1 hk1 hS => ?_)
      obtain ⟨hP, -, hD1⟩ := hB
      rw [ht] at hP
      have hD := hD1.weaken (fun _ q _ h => hFc q.1 h)
      generalize H1 = H at hP hS ⊢
      refine W.cs (cells' := 0) (slots' := 0) rfl rfl ?_
      subst hw
      refine w_v (y := .ref (ad (18 + j_1))) rfl ?_
      refine lv_astore_n (lv' := [(3, .ref (ad (18 + j_1))), (0, .ref (ad 0)), (1, .int (nI j_1)), (2, .int wh)]) hx hb d_count_5 rfl hl (by decide) rfl (fun ls hl => ?_)
      refine lv_iload_n hx hb d_count_6 rfl (lv_at hl 3 rfl) ?_
      refine lv_bipush (v := 10) hx hb d_count_7 (by decide) ?_
      refine lv_icmp_lt (tgt := 28) hx hb d_count_9 (by decide) (fun c_6 => ?_) (fun c_6 => ?_)
      · first | exact absurd hq (by simp [k_dro, c_2, c_3, c_6]) | (exfalso; simp_all [k_dro])
      · refine lv_iload_n hx hb d_count_12 rfl (lv_at hl 3 rfl) ?_
        refine lv_bipush (v := 18) hx hb d_count_13 (by decide) ?_
        refine lv_icmp_ge (tgt := 28) hx hb d_count_15 (by decide) (fun c_7 => ?_) (fun c_7 => ?_)
        · first | exact absurd hq (by simp [k_dro, c_2, c_3, c_6, c_7]) | (exfalso; simp_all [k_dro])
        · first | exact absurd hq (by simp [k_dro, c_2, c_3, c_6, c_7]) | (exfalso; simp_all [k_dro])
    · have hFc := fr_all hD hS hA
      exact tx_on (tx_runV (As := [.int rr]) (rest := []) ⟨hx, hb, hml, hown, hts⟩ (c_shown_T l hfl D ad ac ck s.heap.size rr (Or.inr c_3)) (cw_v 1 hts kw_593 kw_590 kw_592 kp_3 kw_1 rfl rfl (by decide +kernel) ⟨Nat.le_of_ble_eq_true rfl, Nat.le_of_ble_eq_true rfl⟩) ⟨fx_blind, va_recv hK hP (ci := 11) (q0 := 0) rfl rfl, fun U hU hW => fx_pre hU hW hP hK hD hev hNS hS hFc⟩ rfl rfl hl.1 rfl (lv_room (Nat.le_of_ble_eq_true rfl)) d_count_2 ⟨Nat.le_of_ble_eq_true rfl, Nat.le_of_ble_eq_true rfl⟩) hno hlocks hS hFc
theorem d_count_28 : decode prog_1_method_28_code 28 = .ok (.iload_n 2, 1) := by decide +kernel
theorem d_count_29 : decode prog_1_method_28_code 29 = .ok (.tableswitch 78 0 6 #[43, 48, 53, 58, 63, 68, 73], 43) := by decide +kernel
theorem d_count_72 : decode prog_1_method_28_code 72 = .ok (.aload_n 3, 1) := by decide +kernel
theorem d_count_73 : decode prog_1_method_28_code 73 = .ok (.getfield 387, 3) := by decide +kernel
theorem d_count_76 : decode prog_1_method_28_code 76 = .ok (.ireturn, 1) := by decide +kernel
theorem d_count_77 : decode prog_1_method_28_code 77 = .ok (.aload_n 3, 1) := by decide +kernel
theorem d_count_78 : decode prog_1_method_28_code 78 = .ok (.getfield 389, 3) := by decide +kernel
theorem d_count_81 : decode prog_1_method_28_code 81 = .ok (.ireturn, 1) := by decide +kernel
theorem d_count_82 : decode prog_1_method_28_code 82 = .ok (.aload_n 3, 1) := by decide +kernel
theorem d_count_83 : decode prog_1_method_28_code 83 = .ok (.invokevirtual 392, 3) := by decide +kernel
theorem d_count_86 : decode prog_1_method_28_code 86 = .ok (.ireturn, 1) := by decide +kernel
theorem d_count_87 : decode prog_1_method_28_code 87 = .ok (.aload_n 3, 1) := by decide +kernel
theorem d_count_88 : decode prog_1_method_28_code 88 = .ok (.getfield 220, 3) := by decide +kernel
theorem d_count_91 : decode prog_1_method_28_code 91 = .ok (.ireturn, 1) := by decide +kernel
theorem d_count_92 : decode prog_1_method_28_code 92 = .ok (.aload_n 3, 1) := by decide +kernel
theorem d_count_93 : decode prog_1_method_28_code 93 = .ok (.getfield 242, 3) := by decide +kernel
theorem d_count_96 : decode prog_1_method_28_code 96 = .ok (.ireturn, 1) := by decide +kernel
theorem d_count_97 : decode prog_1_method_28_code 97 = .ok (.aload_n 3, 1) := by decide +kernel
theorem d_count_98 : decode prog_1_method_28_code 98 = .ok (.getfield 233, 3) := by decide +kernel
theorem d_count_101 : decode prog_1_method_28_code 101 = .ok (.ireturn, 1) := by decide +kernel
theorem d_count_102 : decode prog_1_method_28_code 102 = .ok (.aload_n 3, 1) := by decide +kernel
theorem d_count_103 : decode prog_1_method_28_code 103 = .ok (.invokevirtual 275, 3) := by decide +kernel
theorem d_count_106 : decode prog_1_method_28_code 106 = .ok (.ireturn, 1) := by decide +kernel
theorem d_count_107 : decode prog_1_method_28_code 107 = .ok (.iconst (-1), 1) := by decide +kernel
theorem d_count_108 : decode prog_1_method_28_code 108 = .ok (.ireturn, 1) := by decide +kernel
theorem d_count_18 : decode prog_1_method_28_code 18 = .ok (.aload_n 3, 1) := by decide +kernel
theorem d_count_19 : decode prog_1_method_28_code 19 = .ok (.getfield 384, 3) := by decide +kernel
theorem d_count_22 : decode prog_1_method_28_code 22 = .ok (.iload_n 2, 1) := by decide +kernel
theorem d_count_23 : decode prog_1_method_28_code 23 = .ok (.bipush 10, 2) := by decide +kernel
theorem d_count_25 : decode prog_1_method_28_code 25 = .ok (.isub, 1) := by decide +kernel
theorem d_count_26 : decode prog_1_method_28_code 26 = .ok (.iaload, 1) := by decide +kernel
theorem d_count_27 : decode prog_1_method_28_code 27 = .ok (.ireturn, 1) := by decide +kernel
set_option maxHeartbeats 4000000 in
set_option maxRecDepth 100000 in
theorem c_count_0 (l : Launch) (hfl : l.flags = flags0) (D : va_G) (ad : Nat → Nat) (ac : Nat → ClassId) (ck : Nat → Int32) (sz : Nat) (rr wh : Int32) (hq : k_dro rr = 0) : Met l ⟨"JoinedTrees", "count", "(II)I"⟩ (Cond.code ⟨"JoinedTrees", "count", "(II)I"⟩ prog_1_method_28_code 4 (some .int) :: gb) ({ frames := 3, cells := 0, slots := 0, locals := 103 }) (fxPc D ad ac ck sz [.ref (ad 0), .int rr, .int wh]) (va_Qi (fun (r : Int32) (_ : Unit) => r = v_cou2 wh) (fun _ _ => True) (va_A (fxW ad ac ck) sz)) 0 0 (va_A (fxW ad ac ck) sz) := by
  refine Met.ofW (cc := prog_1_method_28_code) (maxL := 4) (ret := (some .int)) (by decide) rfl ?_
  intro p e s m args below meth c s₁ B hml hv
  obtain ⟨rfl, hsz, hP, hK, hD0, hev⟩ := hv
  have hx := B.exec
  have hb := B.bytes
  have hr := B.returns
  have hts : ∀ w9 ∈ gb, w9.before [.ref (ad 0), .int rr, .int wh].toArray s = true := fun w9 h => atoms_spec (ws := Cond.code ⟨"JoinedTrees", "count", "(II)I"⟩ prog_1_method_28_code 4 (some .int) :: gb) B.pre w9 (List.mem_cons_of_mem _ h)
  have hown : s.vm.findClass "JoinedTrees" = some m.cls := findClass_of_methodNamed B.named
  have hlocks := B.notSynchronized
  subst hsz
  have hNS := ns_of hP
  have hD := hD0.self (sz := s.heap.size)
  generalize hAe : va_A (fxW ad ac ck) s.heap.size = A at hD hev hNS ⊢
  have hA : ∀ q : Nat, s.heap.size ≤ q → A q := fun q h => by rw [← hAe]; exact Or.inr h
  have hS : va_S A s.heap s.heap [] := va_S.rf
  have hP : va_P D cls (fxW ad ac ck) s.heap := hP
  have hl := lv_entry ([.ref (ad 0), .int rr, .int wh]) (n := 4) (Nat.le_of_ble_eq_true rfl)
  rw [lg_entry_eq]
  generalize (lg_sl ([.ref (ad 0), .int rr, .int wh]) ++ List.replicate (4 - (lg_sl ([.ref (ad 0), .int rr, .int wh])).length) Slot.unset).toArray = ls at hl ⊢
  have hl : lv_has ls 4 [(0, .ref (ad 0)), (1, .int rr), (2, .int wh)] := hl
  refine lv_aload_n hx hb d_count_0 rfl (lv_at hl 0 rfl) ?_
  refine lv_iload_n hx hb d_count_1 rfl (lv_at hl 1 rfl) ?_
  by_cases c_2 : rr < 0
  · first | exact absurd hq (by simp [k_dro, c_2]) | (exfalso; simp_all [k_dro])
  · by_cases c_3 : rr < 8
    · obtain ⟨j_1, hj_1, rfl⟩ := of8 c_2 c_3
      have hFc := fr_all hD hS hA
      refine va_callq (va_runV (As := [.int (nI j_1)]) (rest := []) ⟨hx, hb, hml, hown, hts⟩ (c_shown l hfl D ad ac ck s.heap.size j_1 hj_1) (cw_v 1 hts kw_593 kw_590 kw_592 kp_3 kw_1 rfl rfl (by decide +kernel) ⟨Nat.le_of_ble_eq_true rfl, Nat.le_of_ble_eq_true rfl⟩) ⟨fx_blind, va_recv hK hP (ci := 11) (q0 := 0) rfl rfl, fun U hU hW => fx_pre hU hW hP hK hD hev hNS hS hFc⟩ rfl rfl hl.1 rfl (lv_room (Nat.le_of_ble_eq_true rfl)) d_count_2 ⟨Nat.le_of_ble_eq_true rfl, Nat.le_of_ble_eq_true rfl⟩) hS (fun q _ h => hFc q h) hFc (fun r_4 u_5 t H1 locs ht hvm hw hB hz1 hk1 hS => ?_)
      obtain ⟨hP, -, hD1⟩ := hB
      rw [ht] at hP
      have hD := hD1.weaken (fun _ q _ h => hFc q.1 h)
      generalize H1 = H at hP hS ⊢
      refine W.cs (cells' := 0) (slots' := 0) rfl rfl ?_
      subst hw
      refine w_v (y := .ref (ad (18 + j_1))) rfl ?_
      refine lv_astore_n (lv' := [(3, .ref (ad (18 + j_1))), (0, .ref (ad 0)), (1, .int (nI j_1)), (2, .int wh)]) hx hb d_count_5 rfl hl (by decide) rfl (fun ls hl => ?_)
      refine lv_iload_n hx hb d_count_6 rfl (lv_at hl 3 rfl) ?_
      refine lv_bipush (v := 10) hx hb d_count_7 (by decide) ?_
      refine lv_icmp_lt (tgt := 28) hx hb d_count_9 (by decide) (fun c_6 => ?_) (fun c_6 => ?_)
      · refine lv_iload_n hx hb d_count_28 rfl (lv_at hl 3 rfl) ?_
        by_cases c_7 : wh = 0
        · subst c_7
          refine lv_tableIn (tgt := 72) hx hb d_count_29 (by decide) (by decide) rfl (by decide) ?_
          refine lv_aload_n hx hb d_count_72 rfl (lv_at hl 0 rfl) ?_
          refine va_get (D := D) (ci := 4) (v := .int 0) (C := R_Rp) (T := F_Rp) (N := 10) hx hb hts i_Rp hown hK hP (18 + j_1) (fx_rep ad ac u_5 j_1 hj_1) rfl 5 (by decide) (hts _ kw_219) (fun _ h9 => h9) rfl d_count_73 ?_
          exact W.iret (v := 0) hx hb hr (fun t ht hW => ⟨⟨0, (), rfl, (by first | decide | (simp [v_cou2, v_ct, c_2, c_3, c_6]; done) | (exfalso; simp_all; done)), trivial⟩, hS.F ht⟩) hS.2.2 d_count_76
        · by_cases c_8 : wh = 1
          · subst c_8
            refine lv_tableIn (tgt := 77) hx hb d_count_29 (by decide) (by decide) rfl (by decide) ?_
            refine lv_aload_n hx hb d_count_77 rfl (lv_at hl 0 rfl) ?_
            refine va_get (D := D) (ci := 4) (v := .int 0) (C := R_Rp) (T := F_Rp) (N := 10) hx hb hts i_Rp hown hK hP (18 + j_1) (fx_rep ad ac u_5 j_1 hj_1) rfl 6 (by decide) (hts _ kw_222) (fun _ h9 => h9) rfl d_count_78 ?_
            exact W.iret (v := 0) hx hb hr (fun t ht hW => ⟨⟨0, (), rfl, (by first | decide | (simp [v_cou2, v_ct, c_2, c_3, c_6, c_7]; done) | (exfalso; simp_all; done)), trivial⟩, hS.F ht⟩) hS.2.2 d_count_81
          · by_cases c_9 : wh = 2
            · subst c_9
              refine lv_tableIn (tgt := 82) hx hb d_count_29 (by decide) (by decide) rfl (by decide) ?_
              refine lv_aload_n hx hb d_count_82 rfl (lv_at hl 0 rfl) ?_
              have hFc := fr_all hD hS hA
              refine va_calli (va_runV (As := []) (rest := []) ⟨hx, hb, hml, hown, hts⟩ (c_heads l hfl D ad ac u_5 H.size j_1 hj_1) (cw_v 0 hts kw_1003 kw_1369 kw_1001 kw_1002 kw_5 rfl rfl (by decide +kernel) ⟨Nat.le_of_ble_eq_true rfl, Nat.le_of_ble_eq_true rfl⟩) ⟨fx_blind, va_recv hK hP (ci := 4) (q0 := (18 + j_1)) rfl (fx_rep ad ac u_5 j_1 hj_1), fun U hU hW => fx_pre hU hW hP hK hD hev hNS hS hFc⟩ rfl rfl hl.1 rfl (lv_room (Nat.le_of_ble_eq_true rfl)) d_count_83 ⟨Nat.le_of_ble_eq_true rfl, Nat.le_of_ble_eq_true rfl⟩) hS (fun q _ h => hFc q h) hFc (fun r_10 u_11 t H1 locs ht hvm hw hB hz1 hk1 hS => ?_)
              obtain ⟨hP, -, hD1⟩ := hB
              rw [ht] at hP
              have hD := hD1.weaken (fun _ q _ h => hFc q.1 h)
              generalize H1 = H at hP hS ⊢
              refine W.cs (cells' := 0) (slots' := 0) rfl rfl ?_
              subst hw
              exact W.iret (v := 0) hx hb hr (fun t ht hW => ⟨⟨0, (), rfl, (by first | decide | (simp [v_cou2, v_ct, c_2, c_3, c_6, c_7, c_8]; done) | (exfalso; simp_all; done)), trivial⟩, hS.F ht⟩) hS.2.2 d_count_86
            · by_cases c_12 : wh = 3
              · subst c_12
                refine lv_tableIn (tgt := 87) hx hb d_count_29 (by decide) (by decide) rfl (by decide) ?_
                refine lv_aload_n hx hb d_count_87 rfl (lv_at hl 0 rfl) ?_
                refine va_get (D := D) (ci := 4) (v := .int 0) (C := R_Rp) (T := F_Rp) (N := 10) hx hb hts i_Rp hown hK hP (18 + j_1) (fx_rep ad ac u_5 j_1 hj_1) rfl 9 (by decide) (hts _ kw_230) (fun _ h9 => h9) rfl d_count_88 ?_
                exact W.iret (v := 0) hx hb hr (fun t ht hW => ⟨⟨0, (), rfl, (by first | decide | (simp [v_cou2, v_ct, c_2, c_3, c_6, c_7, c_8, c_9]; done) | (exfalso; simp_all; done)), trivial⟩, hS.F ht⟩) hS.2.2 d_count_91
              · by_cases c_13 : wh = 4
                · subst c_13
                  refine lv_tableIn (tgt := 92) hx hb d_count_29 (by decide) (by decide) rfl (by decide) ?_
                  refine lv_aload_n hx hb d_count_92 rfl (lv_at hl 0 rfl) ?_
                  refine va_get (D := D) (ci := 4) (v := .int 0) (C := R_Rp) (T := F_Rp) (N := 10) hx hb hts i_Rp hown hK hP (18 + j_1) (fx_rep ad ac u_5 j_1 hj_1) rfl 7 (by decide) (hts _ kw_224) (fun _ h9 => h9) rfl d_count_93 ?_
                  exact W.iret (v := 0) hx hb hr (fun t ht hW => ⟨⟨0, (), rfl, (by first | decide | (simp [v_cou2, v_ct, c_2, c_3, c_6, c_7, c_8, c_9, c_12]; done) | (exfalso; simp_all; done)), trivial⟩, hS.F ht⟩) hS.2.2 d_count_96
                · by_cases c_14 : wh = 5
                  · subst c_14
                    refine lv_tableIn (tgt := 97) hx hb d_count_29 (by decide) (by decide) rfl (by decide) ?_
                    refine lv_aload_n hx hb d_count_97 rfl (lv_at hl 0 rfl) ?_
                    refine va_get (D := D) (ci := 4) (v := .int 0) (C := R_Rp) (T := F_Rp) (N := 10) hx hb hts i_Rp hown hK hP (18 + j_1) (fx_rep ad ac u_5 j_1 hj_1) rfl 8 (by decide) (hts _ kw_227) (fun _ h9 => h9) rfl d_count_98 ?_
                    exact W.iret (v := 0) hx hb hr (fun t ht hW => ⟨⟨0, (), rfl, (by first | decide | (simp [v_cou2, v_ct, c_2, c_3, c_6, c_7, c_8, c_9, c_12, c_13]; done) | (exfalso; simp_all; done)), trivial⟩, hS.F ht⟩) hS.2.2 d_count_101
                  · by_cases c_15 : wh = 6
                    · subst c_15
                      refine lv_tableIn (tgt := 102) hx hb d_count_29 (by decide) (by decide) rfl (by decide) ?_
                      refine lv_aload_n hx hb d_count_102 rfl (lv_at hl 0 rfl) ?_
                      have hFc := fr_all hD hS hA
                      refine va_calli (va_runV (As := []) (rest := []) ⟨hx, hb, hml, hown, hts⟩ (c_civ l hfl D ad ac u_5 H.size j_1 hj_1) (cw_v 0 hts kw_1121 kw_1118 kw_1119 kw_1120 kw_5 rfl rfl (by decide +kernel) ⟨Nat.le_of_ble_eq_true rfl, Nat.le_of_ble_eq_true rfl⟩) ⟨fx_blind, va_recv hK hP (ci := 4) (q0 := (18 + j_1)) rfl (fx_rep ad ac u_5 j_1 hj_1), fun U hU hW => fx_pre hU hW hP hK hD hev hNS hS hFc⟩ rfl rfl hl.1 rfl (lv_room (Nat.le_of_ble_eq_true rfl)) d_count_103 ⟨Nat.le_of_ble_eq_true rfl, Nat.le_of_ble_eq_true rfl⟩) hS (fun q _ h => hFc q h) hFc (fun r_16 u_17 t H1 locs ht hvm hw hB hz1 hk1 hS => ?_)
                      obtain ⟨hP, -, hD1⟩ := hB
                      rw [ht] at hP
                      have hD := hD1.weaken (fun _ q _ h => hFc q.1 h)
                      generalize H1 = H at hP hS ⊢
                      refine W.cs (cells' := 0) (slots' := 0) rfl rfl ?_
                      subst hw
                      exact W.iret (v := 0) hx hb hr (fun t ht hW => ⟨⟨0, (), rfl, (by first | decide | (simp [v_cou2, v_ct, c_2, c_3, c_6, c_7, c_8, c_9, c_12, c_13, c_14]; done) | (exfalso; simp_all; done)), trivial⟩, hS.F ht⟩) hS.2.2 d_count_106
                    · refine lv_tableOut (tgt := 107) hx hb d_count_29 (by have q0 : wh.toInt ≠ 0 := fun h => c_7 (Int32.toInt_inj.mp (h.trans (by decide))); have q1 : wh.toInt ≠ 1 := fun h => c_8 (Int32.toInt_inj.mp (h.trans (by decide))); have q2 : wh.toInt ≠ 2 := fun h => c_9 (Int32.toInt_inj.mp (h.trans (by decide))); have q3 : wh.toInt ≠ 3 := fun h => c_12 (Int32.toInt_inj.mp (h.trans (by decide))); have q4 : wh.toInt ≠ 4 := fun h => c_13 (Int32.toInt_inj.mp (h.trans (by decide))); have q5 : wh.toInt ≠ 5 := fun h => c_14 (Int32.toInt_inj.mp (h.trans (by decide))); have q6 : wh.toInt ≠ 6 := fun h => c_15 (Int32.toInt_inj.mp (h.trans (by decide))); omega) (by decide) ?_
                      refine lv_iconst (v := (-1)) hx hb d_count_107 (by decide) ?_
                      exact W.iret (v := (-1)) hx hb hr (fun t ht hW => ⟨⟨(-1), (), rfl, (by first | decide | (simp [v_cou2, v_ct, c_2, c_3, c_6, c_7, c_8, c_9, c_12, c_13, c_14, c_15]; done) | (exfalso; simp_all; done)), trivial⟩, hS.F ht⟩) hS.2.2 d_count_108
      · refine lv_iload_n hx hb d_count_12 rfl (lv_at hl 3 rfl) ?_
        refine lv_bipush (v := 18) hx hb d_count_13 (by decide) ?_
        refine lv_icmp_ge (tgt := 28) hx hb d_count_15 (by decide) (fun c_18 => ?_) (fun c_18 => ?_)
        · refine lv_iload_n hx hb d_count_28 rfl (lv_at hl 3 rfl) ?_
          by_cases c_19 : wh = 0
          · subst c_19
            refine lv_tableIn (tgt := 72) hx hb d_count_29 (by decide) (by decide) rfl (by decide) ?_
            refine lv_aload_n hx hb d_count_72 rfl (lv_at hl 0 rfl) ?_
            refine va_get (D := D) (ci := 4) (v := .int 0) (C := R_Rp) (T := F_Rp) (N := 10) hx hb hts i_Rp hown hK hP (18 + j_1) (fx_rep ad ac u_5 j_1 hj_1) rfl 5 (by decide) (hts _ kw_219) (fun _ h9 => h9) rfl d_count_73 ?_
            exact W.iret (v := 0) hx hb hr (fun t ht hW => ⟨⟨0, (), rfl, (by first | decide | (simp [v_cou2, v_ct, c_2, c_3, c_6, c_18]; done) | (exfalso; simp_all; done)), trivial⟩, hS.F ht⟩) hS.2.2 d_count_76
          · by_cases c_20 : wh = 1
            · subst c_20
              refine lv_tableIn (tgt := 77) hx hb d_count_29 (by decide) (by decide) rfl (by decide) ?_
              refine lv_aload_n hx hb d_count_77 rfl (lv_at hl 0 rfl) ?_
              refine va_get (D := D) (ci := 4) (v := .int 0) (C := R_Rp) (T := F_Rp) (N := 10) hx hb hts i_Rp hown hK hP (18 + j_1) (fx_rep ad ac u_5 j_1 hj_1) rfl 6 (by decide) (hts _ kw_222) (fun _ h9 => h9) rfl d_count_78 ?_
              exact W.iret (v := 0) hx hb hr (fun t ht hW => ⟨⟨0, (), rfl, (by first | decide | (simp [v_cou2, v_ct, c_2, c_3, c_6, c_18, c_19]; done) | (exfalso; simp_all; done)), trivial⟩, hS.F ht⟩) hS.2.2 d_count_81
            · by_cases c_21 : wh = 2
              · subst c_21
                refine lv_tableIn (tgt := 82) hx hb d_count_29 (by decide) (by decide) rfl (by decide) ?_
                refine lv_aload_n hx hb d_count_82 rfl (lv_at hl 0 rfl) ?_
                have hFc := fr_all hD hS hA
                refine va_calli (va_runV (As := []) (rest := []) ⟨hx, hb, hml, hown, hts⟩ (c_heads l hfl D ad ac u_5 H.size j_1 hj_1) (cw_v 0 hts kw_1003 kw_1369 kw_1001 kw_1002 kw_5 rfl rfl (by decide +kernel) ⟨Nat.le_of_ble_eq_true rfl, Nat.le_of_ble_eq_true rfl⟩) ⟨fx_blind, va_recv hK hP (ci := 4) (q0 := (18 + j_1)) rfl (fx_rep ad ac u_5 j_1 hj_1), fun U hU hW => fx_pre hU hW hP hK hD hev hNS hS hFc⟩ rfl rfl hl.1 rfl (lv_room (Nat.le_of_ble_eq_true rfl)) d_count_83 ⟨Nat.le_of_ble_eq_true rfl, Nat.le_of_ble_eq_true rfl⟩) hS (fun q _ h => hFc q h) hFc (fun r_22 u_23 t H1 locs ht hvm hw hB hz1 hk1 hS => ?_)
                obtain ⟨hP, -, hD1⟩ := hB
                rw [ht] at hP
                have hD := hD1.weaken (fun _ q _ h => hFc q.1 h)
                generalize H1 = H at hP hS ⊢
                refine W.cs (cells' := 0) (slots' := 0) rfl rfl ?_
                subst hw
                exact W.iret (v := 0) hx hb hr (fun t ht hW => ⟨⟨0, (), rfl, (by first | decide | (simp [v_cou2, v_ct, c_2, c_3, c_6, c_18, c_19, c_20]; done) | (exfalso; simp_all; done)), trivial⟩, hS.F ht⟩) hS.2.2 d_count_86
              · by_cases c_24 : wh = 3
                · subst c_24
                  refine lv_tableIn (tgt := 87) hx hb d_count_29 (by decide) (by decide) rfl (by decide) ?_
                  refine lv_aload_n hx hb d_count_87 rfl (lv_at hl 0 rfl) ?_
                  refine va_get (D := D) (ci := 4) (v := .int 0) (C := R_Rp) (T := F_Rp) (N := 10) hx hb hts i_Rp hown hK hP (18 + j_1) (fx_rep ad ac u_5 j_1 hj_1) rfl 9 (by decide) (hts _ kw_230) (fun _ h9 => h9) rfl d_count_88 ?_
                  exact W.iret (v := 0) hx hb hr (fun t ht hW => ⟨⟨0, (), rfl, (by first | decide | (simp [v_cou2, v_ct, c_2, c_3, c_6, c_18, c_19, c_20, c_21]; done) | (exfalso; simp_all; done)), trivial⟩, hS.F ht⟩) hS.2.2 d_count_91
                · by_cases c_25 : wh = 4
                  · subst c_25
                    refine lv_tableIn (tgt := 92) hx hb d_count_29 (by decide) (by decide) rfl (by decide) ?_
                    refine lv_aload_n hx hb d_count_92 rfl (lv_at hl 0 rfl) ?_
                    refine va_get (D := D) (ci := 4) (v := .int 0) (C := R_Rp) (T := F_Rp) (N := 10) hx hb hts i_Rp hown hK hP (18 + j_1) (fx_rep ad ac u_5 j_1 hj_1) rfl 7 (by decide) (hts _ kw_224) (fun _ h9 => h9) rfl d_count_93 ?_
                    exact W.iret (v := 0) hx hb hr (fun t ht hW => ⟨⟨0, (), rfl, (by first | decide | (simp [v_cou2, v_ct, c_2, c_3, c_6, c_18, c_19, c_20, c_21, c_24]; done) | (exfalso; simp_all; done)), trivial⟩, hS.F ht⟩) hS.2.2 d_count_96
                  · by_cases c_26 : wh = 5
                    · subst c_26
                      refine lv_tableIn (tgt := 97) hx hb d_count_29 (by decide) (by decide) rfl (by decide) ?_
                      refine lv_aload_n hx hb d_count_97 rfl (lv_at hl 0 rfl) ?_
                      refine va_get (D := D) (ci := 4) (v := .int 0) (C := R_Rp) (T := F_Rp) (N := 10) hx hb hts i_Rp hown hK hP (18 + j_1) (fx_rep ad ac u_5 j_1 hj_1) rfl 8 (by decide) (hts _ kw_227) (fun _ h9 => h9) rfl d_count_98 ?_
                      exact W.iret (v := 0) hx hb hr (fun t ht hW => ⟨⟨0, (), rfl, (by first | decide | (simp [v_cou2, v_ct, c_2, c_3, c_6, c_18, c_19, c_20, c_21, c_24, c_25]; done) | (exfalso; simp_all; done)), trivial⟩, hS.F ht⟩) hS.2.2 d_count_101
                    · by_cases c_27 : wh = 6
                      · subst c_27
                        refine lv_tableIn (tgt := 102) hx hb d_count_29 (by decide) (by decide) rfl (by decide) ?_
                        refine lv_aload_n hx hb d_count_102 rfl (lv_at hl 0 rfl) ?_
                        have hFc := fr_all hD hS hA
                        refine va_calli (va_runV (As := []) (rest := []) ⟨hx, hb, hml, hown, hts⟩ (c_civ l hfl D ad ac u_5 H.size j_1 hj_1) (cw_v 0 hts kw_1121 kw_1118 kw_1119 kw_1120 kw_5 rfl rfl (by decide +kernel) ⟨Nat.le_of_ble_eq_true rfl, Nat.le_of_ble_eq_true rfl⟩) ⟨fx_blind, va_recv hK hP (ci := 4) (q0 := (18 + j_1)) rfl (fx_rep ad ac u_5 j_1 hj_1), fun U hU hW => fx_pre hU hW hP hK hD hev hNS hS hFc⟩ rfl rfl hl.1 rfl (lv_room (Nat.le_of_ble_eq_true rfl)) d_count_103 ⟨Nat.le_of_ble_eq_true rfl, Nat.le_of_ble_eq_true rfl⟩) hS (fun q _ h => hFc q h) hFc (fun r_28 u_29 t H1 locs ht hvm hw hB hz1 hk1 hS => ?_)
                        obtain ⟨hP, -, hD1⟩ := hB
                        rw [ht] at hP
                        have hD := hD1.weaken (fun _ q _ h => hFc q.1 h)
                        generalize H1 = H at hP hS ⊢
                        refine W.cs (cells' := 0) (slots' := 0) rfl rfl ?_
                        subst hw
                        exact W.iret (v := 0) hx hb hr (fun t ht hW => ⟨⟨0, (), rfl, (by first | decide | (simp [v_cou2, v_ct, c_2, c_3, c_6, c_18, c_19, c_20, c_21, c_24, c_25, c_26]; done) | (exfalso; simp_all; done)), trivial⟩, hS.F ht⟩) hS.2.2 d_count_106
                      · refine lv_tableOut (tgt := 107) hx hb d_count_29 (by have q0 : wh.toInt ≠ 0 := fun h => c_19 (Int32.toInt_inj.mp (h.trans (by decide))); have q1 : wh.toInt ≠ 1 := fun h => c_20 (Int32.toInt_inj.mp (h.trans (by decide))); have q2 : wh.toInt ≠ 2 := fun h => c_21 (Int32.toInt_inj.mp (h.trans (by decide))); have q3 : wh.toInt ≠ 3 := fun h => c_24 (Int32.toInt_inj.mp (h.trans (by decide))); have q4 : wh.toInt ≠ 4 := fun h => c_25 (Int32.toInt_inj.mp (h.trans (by decide))); have q5 : wh.toInt ≠ 5 := fun h => c_26 (Int32.toInt_inj.mp (h.trans (by decide))); have q6 : wh.toInt ≠ 6 := fun h => c_27 (Int32.toInt_inj.mp (h.trans (by decide))); omega) (by decide) ?_
                        refine lv_iconst (v := (-1)) hx hb d_count_107 (by decide) ?_
                        exact W.iret (v := (-1)) hx hb hr (fun t ht hW => ⟨⟨(-1), (), rfl, (by first | decide | (simp [v_cou2, v_ct, c_2, c_3, c_6, c_18, c_19, c_20, c_21, c_24, c_25, c_26, c_27]; done) | (exfalso; simp_all; done)), trivial⟩, hS.F ht⟩) hS.2.2 d_count_108
        · refine lv_aload_n hx hb d_count_18 rfl (lv_at hl 0 rfl) ?_
          refine va_get (D := D) (ci := 4) (v := .ref (ad (26 + j_1))) (C := R_Rp) (T := F_Rp) (N := 10) hx hb hts i_Rp hown hK hP (18 + j_1) (fx_rep ad ac u_5 j_1 hj_1) rfl 1 (by decide) (hts _ kw_209) (fun _ h9 => h9) rfl d_count_19 ?_
          refine lv_iload_n hx hb d_count_22 rfl (lv_at hl 3 rfl) ?_
          refine lv_bipush (v := 10) hx hb d_count_23 (by decide) ?_
          refine lv_isub hx hb d_count_25 ?_
          refine lv_topi (fun x_30 ex_30 => ?_)
          refine va_iald hx hb hK hP (26 + j_1) 0 (fx_has ad ac u_5 j_1 hj_1) rfl (i := x_30) (by rw [ex_30]; exact in_sub c_6 (Int32.not_le.mp c_18)) d_count_26 ?_
          refine w_i (y := 0) rfl ?_
          exact W.iret (v := 0) hx hb hr (fun t ht hW => ⟨⟨0, (), rfl, (by first | decide | (simp [v_cou2, v_ct, c_2, c_3, c_6, c_18]; done) | (exfalso; simp_all; done)), trivial⟩, hS.F ht⟩) hS.2.2 d_count_27
    · first | exact absurd hq (by simp [k_dro, c_2, c_3]) | (exfalso; simp_all [k_dro])
theorem d_harm_0 : decode prog_1_method_26_code 0 = .ok (.iload_n 2, 1) := by decide +kernel
theorem d_harm_1 : decode prog_1_method_26_code 1 = .ok (.ifCond .lt 9, 3) := by decide +kernel
theorem d_harm_10 : decode prog_1_method_26_code 10 = .ok (.new 93, 3) := by decide +kernel
theorem d_harm_13 : decode prog_1_method_26_code 13 = .ok (.dup, 1) := by decide +kernel
theorem d_harm_14 : decode prog_1_method_26_code 14 = .ok (.invokespecial 95, 3) := by decide +kernel
theorem d_harm_17 : decode prog_1_method_26_code 17 = .ok (.athrow, 1) := by decide +kernel
theorem d_harm_4 : decode prog_1_method_26_code 4 = .ok (.iload_n 2, 1) := by decide +kernel
theorem d_harm_5 : decode prog_1_method_26_code 5 = .ok (.bipush 7, 2) := by decide +kernel
theorem d_harm_7 : decode prog_1_method_26_code 7 = .ok (.if_icmp .le 11, 3) := by decide +kernel
theorem d_harm_18 : decode prog_1_method_26_code 18 = .ok (.iload_n 1, 1) := by decide +kernel
theorem d_harm_19 : decode prog_1_method_26_code 19 = .ok (.ifCond .lt 14, 3) := by decide +kernel
theorem d_harm_22 : decode prog_1_method_26_code 22 = .ok (.iload_n 1, 1) := by decide +kernel
theorem d_harm_23 : decode prog_1_method_26_code 23 = .ok (.aload_n 0, 1) := by decide +kernel
theorem d_harm_24 : decode prog_1_method_26_code 24 = .ok (.getfield 54, 3) := by decide +kernel
theorem d_harm_27 : decode prog_1_method_26_code 27 = .ok (.getfield 80, 3) := by decide +kernel
theorem d_harm_30 : decode prog_1_method_26_code 30 = .ok (.if_icmp .lt 11, 3) := by decide +kernel
set_option maxHeartbeats 4000000 in
set_option maxRecDepth 100000 in
theorem c_harm_1 (l : Launch) (hfl : l.flags = flags0) (D : va_G) (ad : Nat → Nat) (ac : Nat → ClassId) (ck : Nat → Int32) (sz : Nat) (i bt : Int32) (hq : k_har bt = 1) : MeT l ⟨"JoinedTrees", "harm", "(II)V"⟩ (Cond.code ⟨"JoinedTrees", "harm", "(II)V"⟩ prog_1_method_26_code 3 none :: gb) ({ frames := 6, cells := 1, slots := 6, locals := 96 }) (fxPc D ad ac ck sz [.ref (ad 0), .int i, .int bt]) e_IA (va_A (fxW ad ac ck) sz) 1 6 := by
  refine MeT.ofW (cc := prog_1_method_26_code) (maxL := 3) (ret := none) (by decide) rfl ?_
  intro p e s m args below meth c s₁ B hml hno hv
  obtain ⟨rfl, hsz, hP, hK, hD0, hev⟩ := hv
  have hx := B.exec
  have hb := B.bytes
  have hr := B.returns
  have hts : ∀ w9 ∈ gb, w9.before [.ref (ad 0), .int i, .int bt].toArray s = true := fun w9 h => atoms_spec (ws := Cond.code ⟨"JoinedTrees", "harm", "(II)V"⟩ prog_1_method_26_code 3 none :: gb) B.pre w9 (List.mem_cons_of_mem _ h)
  have hown : s.vm.findClass "JoinedTrees" = some m.cls := findClass_of_methodNamed B.named
  have hlocks := B.notSynchronized
  subst hsz
  have hNS := ns_of hP
  have hD := hD0.self (sz := s.heap.size)
  generalize hAe : va_A (fxW ad ac ck) s.heap.size = A at hD hev hNS ⊢
  have hA : ∀ q : Nat, s.heap.size ≤ q → A q := fun q h => by rw [← hAe]; exact Or.inr h
  have hS : va_S A s.heap s.heap [] := va_S.rf
  have hP : va_P D cls (fxW ad ac ck) s.heap := hP
  have hl := lv_entry ([.ref (ad 0), .int i, .int bt]) (n := 3) (Nat.le_of_ble_eq_true rfl)
  rw [lg_entry_eq]
  generalize (lg_sl ([.ref (ad 0), .int i, .int bt]) ++ List.replicate (3 - (lg_sl ([.ref (ad 0), .int i, .int bt])).length) Slot.unset).toArray = ls at hl ⊢
  have hl : lv_has ls 3 [(0, .ref (ad 0)), (1, .int i), (2, .int bt)] := hl
  refine lv_iload_n hx hb d_harm_0 rfl (lv_at hl 2 rfl) ?_
  refine lv_if_lt (tgt := 10) hx hb d_harm_1 (by decide) (fun c_1 => ?_) (fun c_1 => ?_)
  · exact tx_throw (own := "JoinedTrees") (E := e_IA) (names := at_n) (ia := 93) (ic := 95) hfl hx hb hno hlocks hown (by decide +kernel) (by decide +kernel) (hev.atoms hts hev.2.2.2.2.2.1.1 at_IA) (hts _ kw_558) (hts _ kw_16) d_harm_10 d_harm_13 d_harm_14 d_harm_17 (hl.1.trans hml.symm) hS hA hNS (Nat.le_of_ble_eq_true rfl) (Nat.le_of_ble_eq_true rfl) (Nat.le_of_ble_eq_true rfl) (Nat.le_of_ble_eq_true rfl)
  · refine lv_iload_n hx hb d_harm_4 rfl (lv_at hl 2 rfl) ?_
    refine lv_bipush (v := 7) hx hb d_harm_5 (by decide) ?_
    refine lv_icmp_le (tgt := 18) hx hb d_harm_7 (by decide) (fun c_2 => ?_) (fun c_2 => ?_)
    · refine lv_iload_n hx hb d_harm_18 rfl (lv_at hl 1 rfl) ?_
      refine lv_if_lt (tgt := 33) hx hb d_harm_19 (by decide) (fun c_3 => ?_) (fun c_3 => ?_)
      · first | exact absurd hq (by simp [k_har, c_1, c_2, c_3]) | (exfalso; simp_all [k_har])
      · refine lv_iload_n hx hb d_harm_22 rfl (lv_at hl 1 rfl) ?_
        refine lv_aload_n hx hb d_harm_23 rfl (lv_at hl 0 rfl) ?_
        refine va_get (D := D) (ci := 11) (v := .ref (ad 7)) (C := R_JT) (T := F_JT) (N := 13) hx hb hts i_JT hown hK hP 0 rfl rfl 6 (by decide) (hts _ kw_427) (fun _ h9 => h9) rfl d_harm_24 ?_
        refine va_get (D := D) (ci := 5) (v := .int 0) (C := R_Rw) (T := F_Rw) (N := 3) hx hb hts i_Rw hown hK hP 7 rfl rfl 1 (by decide) (hts _ kw_143) (fun _ h9 => h9) rfl d_harm_27 ?_
        refine lv_icmp_lt (tgt := 41) hx hb d_harm_30 (by decide) (fun h => absurd h c_3) (fun _ => ?_)
        first | exact absurd hq (by simp [k_har, c_1, c_2, c_3]) | (exfalso; simp_all [k_har])
    · exact tx_throw (own := "JoinedTrees") (E := e_IA) (names := at_n) (ia := 93) (ic := 95) hfl hx hb hno hlocks hown (by decide +kernel) (by decide +kernel) (hev.atoms hts hev.2.2.2.2.2.1.1 at_IA) (hts _ kw_558) (hts _ kw_16) d_harm_10 d_harm_13 d_harm_14 d_harm_17 (hl.1.trans hml.symm) hS hA hNS (Nat.le_of_ble_eq_true rfl) (Nat.le_of_ble_eq_true rfl) (Nat.le_of_ble_eq_true rfl) (Nat.le_of_ble_eq_true rfl)
theorem d_harm_33 : decode prog_1_method_26_code 33 = .ok (.new 178, 3) := by decide +kernel
theorem d_harm_36 : decode prog_1_method_26_code 36 = .ok (.dup, 1) := by decide +kernel
theorem d_harm_37 : decode prog_1_method_26_code 37 = .ok (.invokespecial 180, 3) := by decide +kernel
theorem d_harm_40 : decode prog_1_method_26_code 40 = .ok (.athrow, 1) := by decide +kernel
set_option maxHeartbeats 4000000 in
set_option maxRecDepth 100000 in
theorem c_harm_2 (l : Launch) (hfl : l.flags = flags0) (D : va_G) (ad : Nat → Nat) (ac : Nat → ClassId) (ck : Nat → Int32) (sz : Nat) (i bt : Int32) (hq : k_har bt = 2) : MeT l ⟨"JoinedTrees", "harm", "(II)V"⟩ (Cond.code ⟨"JoinedTrees", "harm", "(II)V"⟩ prog_1_method_26_code 3 none :: gb) ({ frames := 6, cells := 1, slots := 6, locals := 96 }) (fxPc D ad ac ck sz [.ref (ad 0), .int i, .int bt]) e_NE (va_A (fxW ad ac ck) sz) 1 6 := by
  refine MeT.ofW (cc := prog_1_method_26_code) (maxL := 3) (ret := none) (by decide) rfl ?_
  intro p e s m args below meth c s₁ B hml hno hv
  obtain ⟨rfl, hsz, hP, hK, hD0, hev⟩ := hv
  have hx := B.exec
  have hb := B.bytes
  have hr := B.returns
  have hts : ∀ w9 ∈ gb, w9.before [.ref (ad 0), .int i, .int bt].toArray s = true := fun w9 h => atoms_spec (ws := Cond.code ⟨"JoinedTrees", "harm", "(II)V"⟩ prog_1_method_26_code 3 none :: gb) B.pre w9 (List.mem_cons_of_mem _ h)
  have hown : s.vm.findClass "JoinedTrees" = some m.cls := findClass_of_methodNamed B.named
  have hlocks := B.notSynchronized
  subst hsz
  have hNS := ns_of hP
  have hD := hD0.self (sz := s.heap.size)
  generalize hAe : va_A (fxW ad ac ck) s.heap.size = A at hD hev hNS ⊢
  have hA : ∀ q : Nat, s.heap.size ≤ q → A q := fun q h => by rw [← hAe]; exact Or.inr h
  have hS : va_S A s.heap s.heap [] := va_S.rf
  have hP : va_P D cls (fxW ad ac ck) s.heap := hP
  have hl := lv_entry ([.ref (ad 0), .int i, .int bt]) (n := 3) (Nat.le_of_ble_eq_true rfl)
  rw [lg_entry_eq]
  generalize (lg_sl ([.ref (ad 0), .int i, .int bt]) ++ List.replicate (3 - (lg_sl ([.ref (ad 0), .int i, .int bt])).length) Slot.unset).toArray = ls at hl ⊢
  have hl : lv_has ls 3 [(0, .ref (ad 0)), (1, .int i), (2, .int bt)] := hl
  refine lv_iload_n hx hb d_harm_0 rfl (lv_at hl 2 rfl) ?_
  refine lv_if_lt (tgt := 10) hx hb d_harm_1 (by decide) (fun c_1 => ?_) (fun c_1 => ?_)
  · first | exact absurd hq (by simp [k_har, c_1]) | (exfalso; simp_all [k_har])
  · refine lv_iload_n hx hb d_harm_4 rfl (lv_at hl 2 rfl) ?_
    refine lv_bipush (v := 7) hx hb d_harm_5 (by decide) ?_
    refine lv_icmp_le (tgt := 18) hx hb d_harm_7 (by decide) (fun c_2 => ?_) (fun c_2 => ?_)
    · refine lv_iload_n hx hb d_harm_18 rfl (lv_at hl 1 rfl) ?_
      refine lv_if_lt (tgt := 33) hx hb d_harm_19 (by decide) (fun c_3 => ?_) (fun c_3 => ?_)
      · exact tx_throw (own := "JoinedTrees") (E := e_NE) (names := at_n) (ia := 178) (ic := 180) hfl hx hb hno hlocks hown (by decide +kernel) (by decide +kernel) (hev.atoms hts hev.2.2.2.2.2.1.2.2.1 at_NE) (hts _ kw_629) (hts _ kw_18) d_harm_33 d_harm_36 d_harm_37 d_harm_40 (hl.1.trans hml.symm) hS hA hNS (Nat.le_of_ble_eq_true rfl) (Nat.le_of_ble_eq_true rfl) (Nat.le_of_ble_eq_true rfl) (Nat.le_of_ble_eq_true rfl)
      · refine lv_iload_n hx hb d_harm_22 rfl (lv_at hl 1 rfl) ?_
        refine lv_aload_n hx hb d_harm_23 rfl (lv_at hl 0 rfl) ?_
        refine va_get (D := D) (ci := 11) (v := .ref (ad 7)) (C := R_JT) (T := F_JT) (N := 13) hx hb hts i_JT hown hK hP 0 rfl rfl 6 (by decide) (hts _ kw_427) (fun _ h9 => h9) rfl d_harm_24 ?_
        refine va_get (D := D) (ci := 5) (v := .int 0) (C := R_Rw) (T := F_Rw) (N := 3) hx hb hts i_Rw hown hK hP 7 rfl rfl 1 (by decide) (hts _ kw_143) (fun _ h9 => h9) rfl d_harm_27 ?_
        refine lv_icmp_lt (tgt := 41) hx hb d_harm_30 (by decide) (fun h => absurd h c_3) (fun _ => ?_)
        exact tx_throw (own := "JoinedTrees") (E := e_NE) (names := at_n) (ia := 178) (ic := 180) hfl hx hb hno hlocks hown (by decide +kernel) (by decide +kernel) (hev.atoms hts hev.2.2.2.2.2.1.2.2.1 at_NE) (hts _ kw_629) (hts _ kw_18) d_harm_33 d_harm_36 d_harm_37 d_harm_40 (hl.1.trans hml.symm) hS hA hNS (Nat.le_of_ble_eq_true rfl) (Nat.le_of_ble_eq_true rfl) (Nat.le_of_ble_eq_true rfl) (Nat.le_of_ble_eq_true rfl)
    · first | exact absurd hq (by simp [k_har, c_1, c_2]) | (exfalso; simp_all [k_har])
theorem d_rowat_0 : decode prog_7_method_6_code 0 = .ok (.iload_n 1, 1) := by decide +kernel
theorem d_rowat_1 : decode prog_7_method_6_code 1 = .ok (.ifCond .lt 11, 3) := by decide +kernel
theorem d_rowat_12 : decode prog_7_method_6_code 12 = .ok (.iconst (-1), 1) := by decide +kernel
theorem d_rowat_13 : decode prog_7_method_6_code 13 = .ok (.goto 13, 3) := by decide +kernel
theorem d_rowat_26 : decode prog_7_method_6_code 26 = .ok (.ireturn, 1) := by decide +kernel
theorem d_rowat_4 : decode prog_7_method_6_code 4 = .ok (.iload_n 1, 1) := by decide +kernel
theorem d_rowat_5 : decode prog_7_method_6_code 5 = .ok (.aload_n 0, 1) := by decide +kernel
theorem d_rowat_6 : decode prog_7_method_6_code 6 = .ok (.getfield 13, 3) := by decide +kernel
theorem d_rowat_9 : decode prog_7_method_6_code 9 = .ok (.if_icmp .lt 7, 3) := by decide +kernel
set_option maxHeartbeats 4000000 in
set_option maxRecDepth 100000 in
theorem c_rowat (l : Launch) (hfl : l.flags = flags0) (D : va_G) (ad : Nat → Nat) (ac : Nat → ClassId) (ck : Nat → Int32) (sz : Nat) (i : Int32) : Met l ⟨"JoinedTrees$Row", "at", "(I)I"⟩ (Cond.code ⟨"JoinedTrees$Row", "at", "(I)I"⟩ prog_7_method_6_code 2 (some .int) :: gb) ({ frames := 0, cells := 0, slots := 0, locals := 0 }) (fxPc D ad ac ck sz [.ref (ad 7), .int i]) (va_Qi (fun (r : Int32) (_ : Nat → Int32) => r = (-1)) (fun u t => fxO D ad ac (va_A (fxW ad ac ck) sz) u t) (va_A (fxW ad ac ck) sz)) 0 0 (va_A (fxW ad ac ck) sz) := by
  refine Met.ofW (cc := prog_7_method_6_code) (maxL := 2) (ret := (some .int)) (by decide) rfl ?_
  intro p e s m args below meth c s₁ B hml hv
  obtain ⟨rfl, hsz, hP, hK, hD0, hev⟩ := hv
  have hx := B.exec
  have hb := B.bytes
  have hr := B.returns
  have hts : ∀ w9 ∈ gb, w9.before [.ref (ad 7), .int i].toArray s = true := fun w9 h => atoms_spec (ws := Cond.code ⟨"JoinedTrees$Row", "at", "(I)I"⟩ prog_7_method_6_code 2 (some .int) :: gb) B.pre w9 (List.mem_cons_of_mem _ h)
  have hown : s.vm.findClass "JoinedTrees$Row" = some m.cls := findClass_of_methodNamed B.named
  have hlocks := B.notSynchronized
  subst hsz
  have hNS := ns_of hP
  have hD := hD0.self (sz := s.heap.size)
  generalize hAe : va_A (fxW ad ac ck) s.heap.size = A at hD hev hNS ⊢
  have hA : ∀ q : Nat, s.heap.size ≤ q → A q := fun q h => by rw [← hAe]; exact Or.inr h
  have hS : va_S A s.heap s.heap [] := va_S.rf
  have hP : va_P D cls (fxW ad ac ck) s.heap := hP
  have hl := lv_entry ([.ref (ad 7), .int i]) (n := 2) (Nat.le_of_ble_eq_true rfl)
  rw [lg_entry_eq]
  generalize (lg_sl ([.ref (ad 7), .int i]) ++ List.replicate (2 - (lg_sl ([.ref (ad 7), .int i])).length) Slot.unset).toArray = ls at hl ⊢
  have hl : lv_has ls 2 [(0, .ref (ad 7)), (1, .int i)] := hl
  refine lv_iload_n hx hb d_rowat_0 rfl (lv_at hl 1 rfl) ?_
  refine lv_if_lt (tgt := 12) hx hb d_rowat_1 (by decide) (fun c_1 => ?_) (fun c_1 => ?_)
  · refine lv_iconst (v := (-1)) hx hb d_rowat_12 (by decide) ?_
    refine lv_goto (tgt := 26) hx hb d_rowat_13 (by decide) ?_
    exact W.iret (v := (-1)) hx hb hr (fun t ht hW => ⟨⟨(-1), ck, rfl, rfl, by rw [ht]; exact hP, va_K.moved hW.alike hK, hD⟩, hS.F ht⟩) hS.2.2 d_rowat_26
  · refine lv_iload_n hx hb d_rowat_4 rfl (lv_at hl 1 rfl) ?_
    refine lv_aload_n hx hb d_rowat_5 rfl (lv_at hl 0 rfl) ?_
    refine va_get (D := D) (ci := 5) (v := .int 0) (C := R_Rw) (T := F_Rw) (N := 3) hx hb hts i_Rw hown hK hP 7 rfl rfl 1 (by decide) (hts _ kw_142) (fun _ h9 => h9) rfl d_rowat_6 ?_
    refine lv_icmp_lt (tgt := 16) hx hb d_rowat_9 (by decide) (fun h => absurd h c_1) (fun _ => ?_)
    refine lv_iconst (v := (-1)) hx hb d_rowat_12 (by decide) ?_
    refine lv_goto (tgt := 26) hx hb d_rowat_13 (by decide) ?_
    exact W.iret (v := (-1)) hx hb hr (fun t ht hW => ⟨⟨(-1), ck, rfl, rfl, by rw [ht]; exact hP, va_K.moved hW.alike hK, hD⟩, hS.F ht⟩) hS.2.2 d_rowat_26
theorem d_outc_0 : decode prog_1_method_27_code 0 = .ok (.iload_n 1, 1) := by decide +kernel
theorem d_outc_1 : decode prog_1_method_27_code 1 = .ok (.ifCond .lt 10, 3) := by decide +kernel
theorem d_outc_11 : decode prog_1_method_27_code 11 = .ok (.new 93, 3) := by decide +kernel
theorem d_outc_14 : decode prog_1_method_27_code 14 = .ok (.dup, 1) := by decide +kernel
theorem d_outc_15 : decode prog_1_method_27_code 15 = .ok (.invokespecial 95, 3) := by decide +kernel
theorem d_outc_18 : decode prog_1_method_27_code 18 = .ok (.athrow, 1) := by decide +kernel
theorem d_outc_4 : decode prog_1_method_27_code 4 = .ok (.iload_n 1, 1) := by decide +kernel
theorem d_outc_5 : decode prog_1_method_27_code 5 = .ok (.sipush 8192, 3) := by decide +kernel
theorem d_outc_8 : decode prog_1_method_27_code 8 = .ok (.if_icmp .lt 11, 3) := by decide +kernel
set_option maxHeartbeats 4000000 in
set_option maxRecDepth 100000 in
theorem c_out_1 (l : Launch) (hfl : l.flags = flags0) (D : va_G) (ad : Nat → Nat) (ac : Nat → ClassId) (ck : Nat → Int32) (sz : Nat) (i : Int32) (hq : k_out i = 1) : MeT l ⟨"JoinedTrees", "out", "(I)J"⟩ (Cond.code ⟨"JoinedTrees", "out", "(I)J"⟩ prog_1_method_27_code 5 (some .long) :: gb) ({ frames := 6, cells := 1, slots := 6, locals := 96 }) (fxPc D ad ac ck sz [.ref (ad 0), .int i]) e_IA (va_A (fxW ad ac ck) sz) 1 6 := by
  refine MeT.ofW (cc := prog_1_method_27_code) (maxL := 5) (ret := (some .long)) (by decide) rfl ?_
  intro p e s m args below meth c s₁ B hml hno hv
  obtain ⟨rfl, hsz, hP, hK, hD0, hev⟩ := hv
  have hx := B.exec
  have hb := B.bytes
  have hr := B.returns
  have hts : ∀ w9 ∈ gb, w9.before [.ref (ad 0), .int i].toArray s = true := fun w9 h => atoms_spec (ws := Cond.code ⟨"JoinedTrees", "out", "(I)J"⟩ prog_1_method_27_code 5 (some .long) :: gb) B.pre w9 (List.mem_cons_of_mem _ h)
  have hown : s.vm.findClass "JoinedTrees" = some m.cls := findClass_of_methodNamed B.named
  have hlocks := B.notSynchronized
  subst hsz
  have hNS := ns_of hP
  have hD := hD0.self (sz := s.heap.size)
  generalize hAe : va_A (fxW ad ac ck) s.heap.size = A at hD hev hNS ⊢
  have hA : ∀ q : Nat, s.heap.size ≤ q → A q := fun q h => by rw [← hAe]; exact Or.inr h
  have hS : va_S A s.heap s.heap [] := va_S.rf
  have hP : va_P D cls (fxW ad ac ck) s.heap := hP
  have hl := lv_entry ([.ref (ad 0), .int i]) (n := 5) (Nat.le_of_ble_eq_true rfl)
  rw [lg_entry_eq]
  generalize (lg_sl ([.ref (ad 0), .int i]) ++ List.replicate (5 - (lg_sl ([.ref (ad 0), .int i])).length) Slot.unset).toArray = ls at hl ⊢
  have hl : lv_has ls 5 [(0, .ref (ad 0)), (1, .int i)] := hl
  refine lv_iload_n hx hb d_outc_0 rfl (lv_at hl 1 rfl) ?_
  refine lv_if_lt (tgt := 11) hx hb d_outc_1 (by decide) (fun c_1 => ?_) (fun c_1 => ?_)
  · exact tx_throw (own := "JoinedTrees") (E := e_IA) (names := at_n) (ia := 93) (ic := 95) hfl hx hb hno hlocks hown (by decide +kernel) (by decide +kernel) (hev.atoms hts hev.2.2.2.2.2.1.1 at_IA) (hts _ kw_558) (hts _ kw_16) d_outc_11 d_outc_14 d_outc_15 d_outc_18 (hl.1.trans hml.symm) hS hA hNS (Nat.le_of_ble_eq_true rfl) (Nat.le_of_ble_eq_true rfl) (Nat.le_of_ble_eq_true rfl) (Nat.le_of_ble_eq_true rfl)
  · refine lv_iload_n hx hb d_outc_4 rfl (lv_at hl 1 rfl) ?_
    refine lv_sipush (v := 8192) hx hb d_outc_5 (by decide) ?_
    refine lv_icmp_lt (tgt := 19) hx hb d_outc_8 (by decide) (fun c_2 => ?_) (fun c_2 => ?_)
    · first | exact absurd hq (by simp [k_out, c_1, c_2]) | (exfalso; simp_all [k_out])
    · exact tx_throw (own := "JoinedTrees") (E := e_IA) (names := at_n) (ia := 93) (ic := 95) hfl hx hb hno hlocks hown (by decide +kernel) (by decide +kernel) (hev.atoms hts hev.2.2.2.2.2.1.1 at_IA) (hts _ kw_558) (hts _ kw_16) d_outc_11 d_outc_14 d_outc_15 d_outc_18 (hl.1.trans hml.symm) hS hA hNS (Nat.le_of_ble_eq_true rfl) (Nat.le_of_ble_eq_true rfl) (Nat.le_of_ble_eq_true rfl) (Nat.le_of_ble_eq_true rfl)
theorem d_outc_19 : decode prog_1_method_27_code 19 = .ok (.lconst 0, 1) := by decide +kernel
theorem d_outc_20 : decode prog_1_method_27_code 20 = .ok (.lstore_n 2, 1) := by decide +kernel
theorem d_outc_21 : decode prog_1_method_27_code 21 = .ok (.iconst 0, 1) := by decide +kernel
theorem d_outc_22 : decode prog_1_method_27_code 22 = .ok (.istore 4, 2) := by decide +kernel
theorem d_outc_24 : decode prog_1_method_27_code 24 = .ok (.iload 4, 2) := by decide +kernel
theorem d_outc_26 : decode prog_1_method_27_code 26 = .ok (.bipush 8, 2) := by decide +kernel
theorem d_outc_28 : decode prog_1_method_27_code 28 = .ok (.if_icmp .ge 34, 3) := by decide +kernel
theorem d_outc_31 : decode prog_1_method_27_code 31 = .ok (.lload_n 2, 1) := by decide +kernel
theorem d_outc_32 : decode prog_1_method_27_code 32 = .ok (.bipush 8, 2) := by decide +kernel
theorem d_outc_34 : decode prog_1_method_27_code 34 = .ok (.lshl, 1) := by decide +kernel
theorem d_outc_35 : decode prog_1_method_27_code 35 = .ok (.iconst 0, 1) := by decide +kernel
theorem d_outc_36 : decode prog_1_method_27_code 36 = .ok (.aload_n 0, 1) := by decide +kernel
theorem d_outc_37 : decode prog_1_method_27_code 37 = .ok (.getfield 54, 3) := by decide +kernel
theorem d_outc_40 : decode prog_1_method_27_code 40 = .ok (.bipush 8, 2) := by decide +kernel
theorem d_outc_42 : decode prog_1_method_27_code 42 = .ok (.iload_n 1, 1) := by decide +kernel
theorem d_outc_43 : decode prog_1_method_27_code 43 = .ok (.imul, 1) := by decide +kernel
theorem d_outc_44 : decode prog_1_method_27_code 44 = .ok (.iload 4, 2) := by decide +kernel
theorem d_outc_46 : decode prog_1_method_27_code 46 = .ok (.iadd, 1) := by decide +kernel
theorem d_outc_47 : decode prog_1_method_27_code 47 = .ok (.invokevirtual 293, 3) := by decide +kernel
theorem d_outc_50 : decode prog_1_method_27_code 50 = .ok (.invokestatic 378, 3) := by decide +kernel
theorem d_outc_53 : decode prog_1_method_27_code 53 = .ok (.i2l, 1) := by decide +kernel
theorem d_outc_54 : decode prog_1_method_27_code 54 = .ok (.lor, 1) := by decide +kernel
theorem d_outc_55 : decode prog_1_method_27_code 55 = .ok (.lstore_n 2, 1) := by decide +kernel
theorem d_outc_56 : decode prog_1_method_27_code 56 = .ok (.iinc 4 1, 3) := by decide +kernel
theorem d_outc_59 : decode prog_1_method_27_code 59 = .ok (.goto (-35), 3) := by decide +kernel
theorem d_outc_62 : decode prog_1_method_27_code 62 = .ok (.lload_n 2, 1) := by decide +kernel
theorem d_outc_63 : decode prog_1_method_27_code 63 = .ok (.lreturn, 1) := by decide +kernel
set_option maxHeartbeats 4000000 in
set_option maxRecDepth 100000 in
theorem c_out_0 (l : Launch) (hfl : l.flags = flags0) (D : va_G) (ad : Nat → Nat) (ac : Nat → ClassId) (ck : Nat → Int32) (sz : Nat) (i : Int32) (hq : k_out i = 0) : Met l ⟨"JoinedTrees", "out", "(I)J"⟩ (Cond.code ⟨"JoinedTrees", "out", "(I)J"⟩ prog_1_method_27_code 5 (some .long) :: gb) ({ frames := 1, cells := 0, slots := 0, locals := 24 }) (fxPc D ad ac ck sz [.ref (ad 0), .int i]) (va_Ql (fun (r : Int64) (_ : Unit) => r = 0) (fun _ _ => True) (va_A (fxW ad ac ck) sz)) 0 0 (va_A (fxW ad ac ck) sz) := by
  refine Met.ofW (cc := prog_1_method_27_code) (maxL := 5) (ret := (some .long)) (by decide) rfl ?_
  intro p e s m args below meth c s₁ B hml hv
  obtain ⟨rfl, hsz, hP, hK, hD0, hev⟩ := hv
  have hx := B.exec
  have hb := B.bytes
  have hr := B.returns
  have hts : ∀ w9 ∈ gb, w9.before [.ref (ad 0), .int i].toArray s = true := fun w9 h => atoms_spec (ws := Cond.code ⟨"JoinedTrees", "out", "(I)J"⟩ prog_1_method_27_code 5 (some .long) :: gb) B.pre w9 (List.mem_cons_of_mem _ h)
  have hown : s.vm.findClass "JoinedTrees" = some m.cls := findClass_of_methodNamed B.named
  have hlocks := B.notSynchronized
  subst hsz
  have hNS := ns_of hP
  have hD := hD0.self (sz := s.heap.size)
  generalize hAe : va_A (fxW ad ac ck) s.heap.size = A at hD hev hNS ⊢
  have hA : ∀ q : Nat, s.heap.size ≤ q → A q := fun q h => by rw [← hAe]; exact Or.inr h
  have hS : va_S A s.heap s.heap [] := va_S.rf
  have hP : va_P D cls (fxW ad ac ck) s.heap := hP
  have hl := lv_entry ([.ref (ad 0), .int i]) (n := 5) (Nat.le_of_ble_eq_true rfl)
  rw [lg_entry_eq]
  generalize (lg_sl ([.ref (ad 0), .int i]) ++ List.replicate (5 - (lg_sl ([.ref (ad 0), .int i])).length) Slot.unset).toArray = ls at hl ⊢
  have hl : lv_has ls 5 [(0, .ref (ad 0)), (1, .int i)] := hl
  refine lv_iload_n hx hb d_outc_0 rfl (lv_at hl 1 rfl) ?_
  refine lv_if_lt (tgt := 11) hx hb d_outc_1 (by decide) (fun c_1 => ?_) (fun c_1 => ?_)
  · first | exact absurd hq (by simp [k_out, c_1]) | (exfalso; simp_all [k_out])
  · refine lv_iload_n hx hb d_outc_4 rfl (lv_at hl 1 rfl) ?_
    refine lv_sipush (v := 8192) hx hb d_outc_5 (by decide) ?_
    refine lv_icmp_lt (tgt := 19) hx hb d_outc_8 (by decide) (fun c_2 => ?_) (fun c_2 => ?_)
    · refine lv_lconst (v := 0) hx hb d_outc_19 (by decide) ?_
      refine lv_lstore_n (lv' := [(2, .long 0), (0, .ref (ad 0)), (1, .int i)]) hx hb d_outc_20 rfl hl (by decide) rfl (fun ls hl => ?_)
      refine lv_iconst (v := 0) hx hb d_outc_21 (by decide) ?_
      refine lv_istore (lv' := [(4, .int 0), (2, .long 0), (0, .ref (ad 0)), (1, .int i)]) hx hb d_outc_22 hl (by decide) rfl (fun ls hl => ?_)
      refine lv_iload hx hb d_outc_24 (lv_at hl 0 rfl) ?_
      refine lv_bipush (v := 8) hx hb d_outc_26 (by decide) ?_
      refine lv_icmp_ge (tgt := 62) hx hb d_outc_28 (by decide) (fun h => absurd h (by decide)) (fun _ => ?_)
      refine lv_lload_n hx hb d_outc_31 rfl (lv_at hl 1 rfl) ?_
      refine lv_bipush (v := 8) hx hb d_outc_32 (by decide) ?_
      refine lv_lshl hx hb d_outc_34 rfl ?_
      refine w_l (y := 0) (by decide) ?_
      refine lv_iconst (v := 0) hx hb d_outc_35 (by decide) ?_
      refine lv_aload_n hx hb d_outc_36 rfl (lv_at hl 2 rfl) ?_
      refine va_get (D := D) (ci := 11) (v := .ref (ad 7)) (C := R_JT) (T := F_JT) (N := 13) hx hb hts i_JT hown hK hP 0 rfl rfl 6 (by decide) (hts _ kw_427) (fun _ h9 => h9) rfl d_outc_37 ?_
      refine lv_bipush (v := 8) hx hb d_outc_40 (by decide) ?_
      refine lv_iload_n hx hb d_outc_42 rfl (lv_at hl 3 rfl) ?_
      refine lv_imul hx hb d_outc_43 ?_
      refine lv_topi (fun x_3 ex_3 => ?_)
      refine lv_iload hx hb d_outc_44 (lv_at hl 0 rfl) ?_
      refine lv_iadd hx hb d_outc_46 ?_
      refine lv_topi (fun x_4 ex_4 => ?_)
      have hFc := fr_all hD hS hA
      refine va_calli (va_runV (As := [.int x_4]) (rest := [.int 0, .long 0]) ⟨hx, hb, hml, hown, hts⟩ (c_rowat l hfl D ad ac ck s.heap.size x_4) (cw_v 1 hts kw_689 kw_1136 kw_687 kw_688 kw_4 rfl rfl (by decide +kernel) ⟨Nat.le_of_ble_eq_true rfl, Nat.le_of_ble_eq_true rfl⟩) ⟨fx_blind, va_recv hK hP (ci := 5) (q0 := 7) rfl rfl, fun U hU hW => fx_pre hU hW hP hK hD hev hNS hS hFc⟩ rfl rfl hl.1 rfl (lv_room (Nat.le_of_ble_eq_true rfl)) d_outc_47 ⟨Nat.le_of_ble_eq_true rfl, Nat.le_of_ble_eq_true rfl⟩) hS (fun q _ h => hFc q h) hFc (fun r_5 u_6 t H1 locs ht hvm hw hB hz1 hk1 hS => ?_)
      obtain ⟨hP, -, hD1⟩ := hB
      rw [ht] at hP
      have hD := hD1.weaken (fun _ q _ h => hFc q.1 h)
      generalize H1 = H at hP hS ⊢
      refine W.cs (cells' := 0) (slots' := 0) rfl rfl ?_
      subst hw
      refine va_mmax hx hb (hml.trans hl.1.symm) hown (hts _ kw_1361) (hts _ kw_1102) (hts _ kw_21) (hts _ kw_1103) (Nat.le_of_ble_eq_true rfl) (Nat.le_of_ble_eq_true rfl) (Nat.le_of_ble_eq_true rfl) (Nat.le_of_ble_eq_true rfl) d_outc_50 ?_
      refine w_i (y := 0) (by decide) ?_
      refine lv_i2l hx hb d_outc_53 rfl ?_
      refine w_l (y := 0) (by decide) ?_
      refine lv_lor hx hb d_outc_54 ?_
      refine w_l (y := 0) (by decide) ?_
      refine lv_lstore_n (lv' := [(2, .long 0), (4, .int 0), (0, .ref (ad 0)), (1, .int i)]) hx hb d_outc_55 rfl hl (by decide) rfl (fun ls hl => ?_)
      refine lv_iinc (v := 1) (lv' := [(4, .int 1), (2, .long 0), (0, .ref (ad 0)), (1, .int i)]) hx hb d_outc_56 hl (k := 1) rfl (by decide) (by decide) rfl (fun ls hl => ?_)
      refine lv_goto (tgt := 24) hx hb d_outc_59 (by decide) ?_
      refine lv_iload hx hb d_outc_24 (lv_at hl 0 rfl) ?_
      refine lv_bipush (v := 8) hx hb d_outc_26 (by decide) ?_
      refine lv_icmp_ge (tgt := 62) hx hb d_outc_28 (by decide) (fun h => absurd h (by decide)) (fun _ => ?_)
      refine lv_lload_n hx hb d_outc_31 rfl (lv_at hl 1 rfl) ?_
      refine lv_bipush (v := 8) hx hb d_outc_32 (by decide) ?_
      refine lv_lshl hx hb d_outc_34 rfl ?_
      refine w_l (y := 0) (by decide) ?_
      refine lv_iconst (v := 0) hx hb d_outc_35 (by decide) ?_
      refine lv_aload_n hx hb d_outc_36 rfl (lv_at hl 2 rfl) ?_
      refine va_get (D := D) (ci := 11) (v := .ref (ad 7)) (C := R_JT) (T := F_JT) (N := 13) hx hb hts i_JT hown hK hP 0 rfl rfl 6 (by decide) (hts _ kw_427) (fun _ h9 => h9) rfl d_outc_37 ?_
      refine lv_bipush (v := 8) hx hb d_outc_40 (by decide) ?_
      refine lv_iload_n hx hb d_outc_42 rfl (lv_at hl 3 rfl) ?_
      refine lv_imul hx hb d_outc_43 ?_
      refine lv_topi (fun x_7 ex_7 => ?_)
      refine lv_iload hx hb d_outc_44 (lv_at hl 0 rfl) ?_
      refine lv_iadd hx hb d_outc_46 ?_
      refine lv_topi (fun x_8 ex_8 => ?_)
      have hFc := fr_all hD hS hA
      refine va_calli (va_runV (As := [.int x_8]) (rest := [.int 0, .long 0]) ⟨hx, hb, hml, hown, hts⟩ (c_rowat l hfl D ad ac u_6 H.size x_8) (cw_v 1 hts kw_689 kw_1136 kw_687 kw_688 kw_4 rfl rfl (by decide +kernel) ⟨Nat.le_of_ble_eq_true rfl, Nat.le_of_ble_eq_true rfl⟩) ⟨fx_blind, va_recv hK hP (ci := 5) (q0 := 7) rfl rfl, fun U hU hW => fx_pre hU hW hP hK hD hev hNS hS hFc⟩ rfl rfl hl.1 rfl (lv_room (Nat.le_of_ble_eq_true rfl)) d_outc_47 ⟨Nat.le_of_ble_eq_true rfl, Nat.le_of_ble_eq_true rfl⟩) hS (fun q _ h => hFc q h) hFc (fun r_9 u_10 t H1 locs ht hvm hw hB hz1 hk1 hS => ?_)
      obtain ⟨hP, -, hD1⟩ := hB
      rw [ht] at hP
      have hD := hD1.weaken (fun _ q _ h => hFc q.1 h)
      generalize H1 = H at hP hS ⊢
      refine W.cs (cells' := 0) (slots' := 0) rfl rfl ?_
      subst hw
      refine va_mmax hx hb (hml.trans hl.1.symm) hown (hts _ kw_1361) (hts _ kw_1102) (hts _ kw_21) (hts _ kw_1103) (Nat.le_of_ble_eq_true rfl) (Nat.le_of_ble_eq_true rfl) (Nat.le_of_ble_eq_true rfl) (Nat.le_of_ble_eq_true rfl) d_outc_50 ?_
      refine w_i (y := 0) (by decide) ?_
      refine lv_i2l hx hb d_outc_53 rfl ?_
      refine w_l (y := 0) (by decide) ?_
      refine lv_lor hx hb d_outc_54 ?_
      refine w_l (y := 0) (by decide) ?_
      refine lv_lstore_n (lv' := [(2, .long 0), (4, .int 1), (0, .ref (ad 0)), (1, .int i)]) hx hb d_outc_55 rfl hl (by decide) rfl (fun ls hl => ?_)
      refine lv_iinc (v := 2) (lv' := [(4, .int 2), (2, .long 0), (0, .ref (ad 0)), (1, .int i)]) hx hb d_outc_56 hl (k := 1) rfl (by decide) (by decide) rfl (fun ls hl => ?_)
      refine lv_goto (tgt := 24) hx hb d_outc_59 (by decide) ?_
      refine lv_iload hx hb d_outc_24 (lv_at hl 0 rfl) ?_
      refine lv_bipush (v := 8) hx hb d_outc_26 (by decide) ?_
      refine lv_icmp_ge (tgt := 62) hx hb d_outc_28 (by decide) (fun h => absurd h (by decide)) (fun _ => ?_)
      refine lv_lload_n hx hb d_outc_31 rfl (lv_at hl 1 rfl) ?_
      refine lv_bipush (v := 8) hx hb d_outc_32 (by decide) ?_
      refine lv_lshl hx hb d_outc_34 rfl ?_
      refine w_l (y := 0) (by decide) ?_
      refine lv_iconst (v := 0) hx hb d_outc_35 (by decide) ?_
      refine lv_aload_n hx hb d_outc_36 rfl (lv_at hl 2 rfl) ?_
      refine va_get (D := D) (ci := 11) (v := .ref (ad 7)) (C := R_JT) (T := F_JT) (N := 13) hx hb hts i_JT hown hK hP 0 rfl rfl 6 (by decide) (hts _ kw_427) (fun _ h9 => h9) rfl d_outc_37 ?_
      refine lv_bipush (v := 8) hx hb d_outc_40 (by decide) ?_
      refine lv_iload_n hx hb d_outc_42 rfl (lv_at hl 3 rfl) ?_
      refine lv_imul hx hb d_outc_43 ?_
      refine lv_topi (fun x_11 ex_11 => ?_)
      refine lv_iload hx hb d_outc_44 (lv_at hl 0 rfl) ?_
      refine lv_iadd hx hb d_outc_46 ?_
      refine lv_topi (fun x_12 ex_12 => ?_)
      have hFc := fr_all hD hS hA
      refine va_calli (va_runV (As := [.int x_12]) (rest := [.int 0, .long 0]) ⟨hx, hb, hml, hown, hts⟩ (c_rowat l hfl D ad ac u_10 H.size x_12) (cw_v 1 hts kw_689 kw_1136 kw_687 kw_688 kw_4 rfl rfl (by decide +kernel) ⟨Nat.le_of_ble_eq_true rfl, Nat.le_of_ble_eq_true rfl⟩) ⟨fx_blind, va_recv hK hP (ci := 5) (q0 := 7) rfl rfl, fun U hU hW => fx_pre hU hW hP hK hD hev hNS hS hFc⟩ rfl rfl hl.1 rfl (lv_room (Nat.le_of_ble_eq_true rfl)) d_outc_47 ⟨Nat.le_of_ble_eq_true rfl, Nat.le_of_ble_eq_true rfl⟩) hS (fun q _ h => hFc q h) hFc (fun r_13 u_14 t H1 locs ht hvm hw hB hz1 hk1 hS => ?_)
      obtain ⟨hP, -, hD1⟩ := hB
      rw [ht] at hP
      have hD := hD1.weaken (fun _ q _ h => hFc q.1 h)
      generalize H1 = H at hP hS ⊢
      refine W.cs (cells' := 0) (slots' := 0) rfl rfl ?_
      subst hw
      refine va_mmax hx hb (hml.trans hl.1.symm) hown (hts _ kw_1361) (hts _ kw_1102) (hts _ kw_21) (hts _ kw_1103) (Nat.le_of_ble_eq_true rfl) (Nat.le_of_ble_eq_true rfl) (Nat.le_of_ble_eq_true rfl) (Nat.le_of_ble_eq_true rfl) d_outc_50 ?_
      refine w_i (y := 0) (by decide) ?_
      refine lv_i2l hx hb d_outc_53 rfl ?_
      refine w_l (y := 0) (by decide) ?_
      refine lv_lor hx hb d_outc_54 ?_
      refine w_l (y := 0) (by decide) ?_
      refine lv_lstore_n (lv' := [(2, .long 0), (4, .int 2), (0, .ref (ad 0)), (1, .int i)]) hx hb d_outc_55 rfl hl (by decide) rfl (fun ls hl => ?_)
      refine lv_iinc (v := 3) (lv' := [(4, .int 3), (2, .long 0), (0, .ref (ad 0)), (1, .int i)]) hx hb d_outc_56 hl (k := 1) rfl (by decide) (by decide) rfl (fun ls hl => ?_)
      refine lv_goto (tgt := 24) hx hb d_outc_59 (by decide) ?_
      refine lv_iload hx hb d_outc_24 (lv_at hl 0 rfl) ?_
      refine lv_bipush (v := 8) hx hb d_outc_26 (by decide) ?_
      refine lv_icmp_ge (tgt := 62) hx hb d_outc_28 (by decide) (fun h => absurd h (by decide)) (fun _ => ?_)
      refine lv_lload_n hx hb d_outc_31 rfl (lv_at hl 1 rfl) ?_
      refine lv_bipush (v := 8) hx hb d_outc_32 (by decide) ?_
      refine lv_lshl hx hb d_outc_34 rfl ?_
      refine w_l (y := 0) (by decide) ?_
      refine lv_iconst (v := 0) hx hb d_outc_35 (by decide) ?_
      refine lv_aload_n hx hb d_outc_36 rfl (lv_at hl 2 rfl) ?_
      refine va_get (D := D) (ci := 11) (v := .ref (ad 7)) (C := R_JT) (T := F_JT) (N := 13) hx hb hts i_JT hown hK hP 0 rfl rfl 6 (by decide) (hts _ kw_427) (fun _ h9 => h9) rfl d_outc_37 ?_
      refine lv_bipush (v := 8) hx hb d_outc_40 (by decide) ?_
      refine lv_iload_n hx hb d_outc_42 rfl (lv_at hl 3 rfl) ?_
      refine lv_imul hx hb d_outc_43 ?_
      refine lv_topi (fun x_15 ex_15 => ?_)
      refine lv_iload hx hb d_outc_44 (lv_at hl 0 rfl) ?_
      refine lv_iadd hx hb d_outc_46 ?_
      refine lv_topi (fun x_16 ex_16 => ?_)
      have hFc := fr_all hD hS hA
      refine va_calli (va_runV (As := [.int x_16]) (rest := [.int 0, .long 0]) ⟨hx, hb, hml, hown, hts⟩ (c_rowat l hfl D ad ac u_14 H.size x_16) (cw_v 1 hts kw_689 kw_1136 kw_687 kw_688 kw_4 rfl rfl (by decide +kernel) ⟨Nat.le_of_ble_eq_true rfl, Nat.le_of_ble_eq_true rfl⟩) ⟨fx_blind, va_recv hK hP (ci := 5) (q0 := 7) rfl rfl, fun U hU hW => fx_pre hU hW hP hK hD hev hNS hS hFc⟩ rfl rfl hl.1 rfl (lv_room (Nat.le_of_ble_eq_true rfl)) d_outc_47 ⟨Nat.le_of_ble_eq_true rfl, Nat.le_of_ble_eq_true rfl⟩) hS (fun q _ h => hFc q h) hFc (fun r_17 u_18 t H1 locs ht hvm hw hB hz1 hk1 hS => ?_)
      obtain ⟨hP, -, hD1⟩ := hB
      rw [ht] at hP
      have hD := hD1.weaken (fun _ q _ h => hFc q.1 h)
      generalize H1 = H at hP hS ⊢
      refine W.cs (cells' := 0) (slots' := 0) rfl rfl ?_
      subst hw
      refine va_mmax hx hb (hml.trans hl.1.symm) hown (hts _ kw_1361) (hts _ kw_1102) (hts _ kw_21) (hts _ kw_1103) (Nat.le_of_ble_eq_true rfl) (Nat.le_of_ble_eq_true rfl) (Nat.le_of_ble_eq_true rfl) (Nat.le_of_ble_eq_true rfl) d_outc_50 ?_
      refine w_i (y := 0) (by decide) ?_
      refine lv_i2l hx hb d_outc_53 rfl ?_
      refine w_l (y := 0) (by decide) ?_
      refine lv_lor hx hb d_outc_54 ?_
      refine w_l (y := 0) (by decide) ?_
      refine lv_lstore_n (lv' := [(2, .long 0), (4, .int 3), (0, .ref (ad 0)), (1, .int i)]) hx hb d_outc_55 rfl hl (by decide) rfl (fun ls hl => ?_)
      refine lv_iinc (v := 4) (lv' := [(4, .int 4), (2, .long 0), (0, .ref (ad 0)), (1, .int i)]) hx hb d_outc_56 hl (k := 1) rfl (by decide) (by decide) rfl (fun ls hl => ?_)
      refine lv_goto (tgt := 24) hx hb d_outc_59 (by decide) ?_
      refine lv_iload hx hb d_outc_24 (lv_at hl 0 rfl) ?_
      refine lv_bipush (v := 8) hx hb d_outc_26 (by decide) ?_
      refine lv_icmp_ge (tgt := 62) hx hb d_outc_28 (by decide) (fun h => absurd h (by decide)) (fun _ => ?_)
      refine lv_lload_n hx hb d_outc_31 rfl (lv_at hl 1 rfl) ?_
      refine lv_bipush (v := 8) hx hb d_outc_32 (by decide) ?_
      refine lv_lshl hx hb d_outc_34 rfl ?_
      refine w_l (y := 0) (by decide) ?_
      refine lv_iconst (v := 0) hx hb d_outc_35 (by decide) ?_
      refine lv_aload_n hx hb d_outc_36 rfl (lv_at hl 2 rfl) ?_
      refine va_get (D := D) (ci := 11) (v := .ref (ad 7)) (C := R_JT) (T := F_JT) (N := 13) hx hb hts i_JT hown hK hP 0 rfl rfl 6 (by decide) (hts _ kw_427) (fun _ h9 => h9) rfl d_outc_37 ?_
      refine lv_bipush (v := 8) hx hb d_outc_40 (by decide) ?_
      refine lv_iload_n hx hb d_outc_42 rfl (lv_at hl 3 rfl) ?_
      refine lv_imul hx hb d_outc_43 ?_
      refine lv_topi (fun x_19 ex_19 => ?_)
      refine lv_iload hx hb d_outc_44 (lv_at hl 0 rfl) ?_
      refine lv_iadd hx hb d_outc_46 ?_
      refine lv_topi (fun x_20 ex_20 => ?_)
      have hFc := fr_all hD hS hA
      refine va_calli (va_runV (As := [.int x_20]) (rest := [.int 0, .long 0]) ⟨hx, hb, hml, hown, hts⟩ (c_rowat l hfl D ad ac u_18 H.size x_20) (cw_v 1 hts kw_689 kw_1136 kw_687 kw_688 kw_4 rfl rfl (by decide +kernel) ⟨Nat.le_of_ble_eq_true rfl, Nat.le_of_ble_eq_true rfl⟩) ⟨fx_blind, va_recv hK hP (ci := 5) (q0 := 7) rfl rfl, fun U hU hW => fx_pre hU hW hP hK hD hev hNS hS hFc⟩ rfl rfl hl.1 rfl (lv_room (Nat.le_of_ble_eq_true rfl)) d_outc_47 ⟨Nat.le_of_ble_eq_true rfl, Nat.le_of_ble_eq_true rfl⟩) hS (fun q _ h => hFc q h) hFc (fun r_21 u_22 t H1 locs ht hvm hw hB hz1 hk1 hS => ?_)
      obtain ⟨hP, -, hD1⟩ := hB
      rw [ht] at hP
      have hD := hD1.weaken (fun _ q _ h => hFc q.1 h)
      generalize H1 = H at hP hS ⊢
      refine W.cs (cells' := 0) (slots' := 0) rfl rfl ?_
      subst hw
      refine va_mmax hx hb (hml.trans hl.1.symm) hown (hts _ kw_1361) (hts _ kw_1102) (hts _ kw_21) (hts _ kw_1103) (Nat.le_of_ble_eq_true rfl) (Nat.le_of_ble_eq_true rfl) (Nat.le_of_ble_eq_true rfl) (Nat.le_of_ble_eq_true rfl) d_outc_50 ?_
      refine w_i (y := 0) (by decide) ?_
      refine lv_i2l hx hb d_outc_53 rfl ?_
      refine w_l (y := 0) (by decide) ?_
      refine lv_lor hx hb d_outc_54 ?_
      refine w_l (y := 0) (by decide) ?_
      refine lv_lstore_n (lv' := [(2, .long 0), (4, .int 4), (0, .ref (ad 0)), (1, .int i)]) hx hb d_outc_55 rfl hl (by decide) rfl (fun ls hl => ?_)
      refine lv_iinc (v := 5) (lv' := [(4, .int 5), (2, .long 0), (0, .ref (ad 0)), (1, .int i)]) hx hb d_outc_56 hl (k := 1) rfl (by decide) (by decide) rfl (fun ls hl => ?_)
      refine lv_goto (tgt := 24) hx hb d_outc_59 (by decide) ?_
      refine lv_iload hx hb d_outc_24 (lv_at hl 0 rfl) ?_
      refine lv_bipush (v := 8) hx hb d_outc_26 (by decide) ?_
      refine lv_icmp_ge (tgt := 62) hx hb d_outc_28 (by decide) (fun h => absurd h (by decide)) (fun _ => ?_)
      refine lv_lload_n hx hb d_outc_31 rfl (lv_at hl 1 rfl) ?_
      refine lv_bipush (v := 8) hx hb d_outc_32 (by decide) ?_
      refine lv_lshl hx hb d_outc_34 rfl ?_
      refine w_l (y := 0) (by decide) ?_
      refine lv_iconst (v := 0) hx hb d_outc_35 (by decide) ?_
      refine lv_aload_n hx hb d_outc_36 rfl (lv_at hl 2 rfl) ?_
      refine va_get (D := D) (ci := 11) (v := .ref (ad 7)) (C := R_JT) (T := F_JT) (N := 13) hx hb hts i_JT hown hK hP 0 rfl rfl 6 (by decide) (hts _ kw_427) (fun _ h9 => h9) rfl d_outc_37 ?_
      refine lv_bipush (v := 8) hx hb d_outc_40 (by decide) ?_
      refine lv_iload_n hx hb d_outc_42 rfl (lv_at hl 3 rfl) ?_
      refine lv_imul hx hb d_outc_43 ?_
      refine lv_topi (fun x_23 ex_23 => ?_)
      refine lv_iload hx hb d_outc_44 (lv_at hl 0 rfl) ?_
      refine lv_iadd hx hb d_outc_46 ?_
      refine lv_topi (fun x_24 ex_24 => ?_)
      have hFc := fr_all hD hS hA
      refine va_calli (va_runV (As := [.int x_24]) (rest := [.int 0, .long 0]) ⟨hx, hb, hml, hown, hts⟩ (c_rowat l hfl D ad ac u_22 H.size x_24) (cw_v 1 hts kw_689 kw_1136 kw_687 kw_688 kw_4 rfl rfl (by decide +kernel) ⟨Nat.le_of_ble_eq_true rfl, Nat.le_of_ble_eq_true rfl⟩) ⟨fx_blind, va_recv hK hP (ci := 5) (q0 := 7) rfl rfl, fun U hU hW => fx_pre hU hW hP hK hD hev hNS hS hFc⟩ rfl rfl hl.1 rfl (lv_room (Nat.le_of_ble_eq_true rfl)) d_outc_47 ⟨Nat.le_of_ble_eq_true rfl, Nat.le_of_ble_eq_true rfl⟩) hS (fun q _ h => hFc q h) hFc (fun r_25 u_26 t H1 locs ht hvm hw hB hz1 hk1 hS => ?_)
      obtain ⟨hP, -, hD1⟩ := hB
      rw [ht] at hP
      have hD := hD1.weaken (fun _ q _ h => hFc q.1 h)
      generalize H1 = H at hP hS ⊢
      refine W.cs (cells' := 0) (slots' := 0) rfl rfl ?_
      subst hw
      refine va_mmax hx hb (hml.trans hl.1.symm) hown (hts _ kw_1361) (hts _ kw_1102) (hts _ kw_21) (hts _ kw_1103) (Nat.le_of_ble_eq_true rfl) (Nat.le_of_ble_eq_true rfl) (Nat.le_of_ble_eq_true rfl) (Nat.le_of_ble_eq_true rfl) d_outc_50 ?_
      refine w_i (y := 0) (by decide) ?_
      refine lv_i2l hx hb d_outc_53 rfl ?_
      refine w_l (y := 0) (by decide) ?_
      refine lv_lor hx hb d_outc_54 ?_
      refine w_l (y := 0) (by decide) ?_
      refine lv_lstore_n (lv' := [(2, .long 0), (4, .int 5), (0, .ref (ad 0)), (1, .int i)]) hx hb d_outc_55 rfl hl (by decide) rfl (fun ls hl => ?_)
      refine lv_iinc (v := 6) (lv' := [(4, .int 6), (2, .long 0), (0, .ref (ad 0)), (1, .int i)]) hx hb d_outc_56 hl (k := 1) rfl (by decide) (by decide) rfl (fun ls hl => ?_)
      refine lv_goto (tgt := 24) hx hb d_outc_59 (by decide) ?_
      refine lv_iload hx hb d_outc_24 (lv_at hl 0 rfl) ?_
      refine lv_bipush (v := 8) hx hb d_outc_26 (by decide) ?_
      refine lv_icmp_ge (tgt := 62) hx hb d_outc_28 (by decide) (fun h => absurd h (by decide)) (fun _ => ?_)
      refine lv_lload_n hx hb d_outc_31 rfl (lv_at hl 1 rfl) ?_
      refine lv_bipush (v := 8) hx hb d_outc_32 (by decide) ?_
      refine lv_lshl hx hb d_outc_34 rfl ?_
      refine w_l (y := 0) (by decide) ?_
      refine lv_iconst (v := 0) hx hb d_outc_35 (by decide) ?_
      refine lv_aload_n hx hb d_outc_36 rfl (lv_at hl 2 rfl) ?_
      refine va_get (D := D) (ci := 11) (v := .ref (ad 7)) (C := R_JT) (T := F_JT) (N := 13) hx hb hts i_JT hown hK hP 0 rfl rfl 6 (by decide) (hts _ kw_427) (fun _ h9 => h9) rfl d_outc_37 ?_
      refine lv_bipush (v := 8) hx hb d_outc_40 (by decide) ?_
      refine lv_iload_n hx hb d_outc_42 rfl (lv_at hl 3 rfl) ?_
      refine lv_imul hx hb d_outc_43 ?_
      refine lv_topi (fun x_27 ex_27 => ?_)
      refine lv_iload hx hb d_outc_44 (lv_at hl 0 rfl) ?_
      refine lv_iadd hx hb d_outc_46 ?_
      refine lv_topi (fun x_28 ex_28 => ?_)
      have hFc := fr_all hD hS hA
      refine va_calli (va_runV (As := [.int x_28]) (rest := [.int 0, .long 0]) ⟨hx, hb, hml, hown, hts⟩ (c_rowat l hfl D ad ac u_26 H.size x_28) (cw_v 1 hts kw_689 kw_1136 kw_687 kw_688 kw_4 rfl rfl (by decide +kernel) ⟨Nat.le_of_ble_eq_true rfl, Nat.le_of_ble_eq_true rfl⟩) ⟨fx_blind, va_recv hK hP (ci := 5) (q0 := 7) rfl rfl, fun U hU hW => fx_pre hU hW hP hK hD hev hNS hS hFc⟩ rfl rfl hl.1 rfl (lv_room (Nat.le_of_ble_eq_true rfl)) d_outc_47 ⟨Nat.le_of_ble_eq_true rfl, Nat.le_of_ble_eq_true rfl⟩) hS (fun q _ h => hFc q h) hFc (fun r_29 u_30 t H1 locs ht hvm hw hB hz1 hk1 hS => ?_)
      obtain ⟨hP, -, hD1⟩ := hB
      rw [ht] at hP
      have hD := hD1.weaken (fun _ q _ h => hFc q.1 h)
      generalize H1 = H at hP hS ⊢
      refine W.cs (cells' := 0) (slots' := 0) rfl rfl ?_
      subst hw
      refine va_mmax hx hb (hml.trans hl.1.symm) hown (hts _ kw_1361) (hts _ kw_1102) (hts _ kw_21) (hts _ kw_1103) (Nat.le_of_ble_eq_true rfl) (Nat.le_of_ble_eq_true rfl) (Nat.le_of_ble_eq_true rfl) (Nat.le_of_ble_eq_true rfl) d_outc_50 ?_
      refine w_i (y := 0) (by decide) ?_
      refine lv_i2l hx hb d_outc_53 rfl ?_
      refine w_l (y := 0) (by decide) ?_
      refine lv_lor hx hb d_outc_54 ?_
      refine w_l (y := 0) (by decide) ?_
      refine lv_lstore_n (lv' := [(2, .long 0), (4, .int 6), (0, .ref (ad 0)), (1, .int i)]) hx hb d_outc_55 rfl hl (by decide) rfl (fun ls hl => ?_)
      refine lv_iinc (v := 7) (lv' := [(4, .int 7), (2, .long 0), (0, .ref (ad 0)), (1, .int i)]) hx hb d_outc_56 hl (k := 1) rfl (by decide) (by decide) rfl (fun ls hl => ?_)
      refine lv_goto (tgt := 24) hx hb d_outc_59 (by decide) ?_
      refine lv_iload hx hb d_outc_24 (lv_at hl 0 rfl) ?_
      refine lv_bipush (v := 8) hx hb d_outc_26 (by decide) ?_
      refine lv_icmp_ge (tgt := 62) hx hb d_outc_28 (by decide) (fun h => absurd h (by decide)) (fun _ => ?_)
      refine lv_lload_n hx hb d_outc_31 rfl (lv_at hl 1 rfl) ?_
      refine lv_bipush (v := 8) hx hb d_outc_32 (by decide) ?_
      refine lv_lshl hx hb d_outc_34 rfl ?_
      refine w_l (y := 0) (by decide) ?_
      refine lv_iconst (v := 0) hx hb d_outc_35 (by decide) ?_
      refine lv_aload_n hx hb d_outc_36 rfl (lv_at hl 2 rfl) ?_
      refine va_get (D := D) (ci := 11) (v := .ref (ad 7)) (C := R_JT) (T := F_JT) (N := 13) hx hb hts i_JT hown hK hP 0 rfl rfl 6 (by decide) (hts _ kw_427) (fun _ h9 => h9) rfl d_outc_37 ?_
      refine lv_bipush (v := 8) hx hb d_outc_40 (by decide) ?_
      refine lv_iload_n hx hb d_outc_42 rfl (lv_at hl 3 rfl) ?_
      refine lv_imul hx hb d_outc_43 ?_
      refine lv_topi (fun x_31 ex_31 => ?_)
      refine lv_iload hx hb d_outc_44 (lv_at hl 0 rfl) ?_
      refine lv_iadd hx hb d_outc_46 ?_
      refine lv_topi (fun x_32 ex_32 => ?_)
      have hFc := fr_all hD hS hA
      refine va_calli (va_runV (As := [.int x_32]) (rest := [.int 0, .long 0]) ⟨hx, hb, hml, hown, hts⟩ (c_rowat l hfl D ad ac u_30 H.size x_32) (cw_v 1 hts kw_689 kw_1136 kw_687 kw_688 kw_4 rfl rfl (by decide +kernel) ⟨Nat.le_of_ble_eq_true rfl, Nat.le_of_ble_eq_true rfl⟩) ⟨fx_blind, va_recv hK hP (ci := 5) (q0 := 7) rfl rfl, fun U hU hW => fx_pre hU hW hP hK hD hev hNS hS hFc⟩ rfl rfl hl.1 rfl (lv_room (Nat.le_of_ble_eq_true rfl)) d_outc_47 ⟨Nat.le_of_ble_eq_true rfl, Nat.le_of_ble_eq_true rfl⟩) hS (fun q _ h => hFc q h) hFc (fun r_33 u_34 t H1 locs ht hvm hw hB hz1 hk1 hS => ?_)
      obtain ⟨hP, -, hD1⟩ := hB
      rw [ht] at hP
      have hD := hD1.weaken (fun _ q _ h => hFc q.1 h)
      generalize H1 = H at hP hS ⊢
      refine W.cs (cells' := 0) (slots' := 0) rfl rfl ?_
      subst hw
      refine va_mmax hx hb (hml.trans hl.1.symm) hown (hts _ kw_1361) (hts _ kw_1102) (hts _ kw_21) (hts _ kw_1103) (Nat.le_of_ble_eq_true rfl) (Nat.le_of_ble_eq_true rfl) (Nat.le_of_ble_eq_true rfl) (Nat.le_of_ble_eq_true rfl) d_outc_50 ?_
      refine w_i (y := 0) (by decide) ?_
      refine lv_i2l hx hb d_outc_53 rfl ?_
      refine w_l (y := 0) (by decide) ?_
      refine lv_lor hx hb d_outc_54 ?_
      refine w_l (y := 0) (by decide) ?_
      refine lv_lstore_n (lv' := [(2, .long 0), (4, .int 7), (0, .ref (ad 0)), (1, .int i)]) hx hb d_outc_55 rfl hl (by decide) rfl (fun ls hl => ?_)
      refine lv_iinc (v := 8) (lv' := [(4, .int 8), (2, .long 0), (0, .ref (ad 0)), (1, .int i)]) hx hb d_outc_56 hl (k := 1) rfl (by decide) (by decide) rfl (fun ls hl => ?_)
      refine lv_goto (tgt := 24) hx hb d_outc_59 (by decide) ?_
      refine lv_iload hx hb d_outc_24 (lv_at hl 0 rfl) ?_
      refine lv_bipush (v := 8) hx hb d_outc_26 (by decide) ?_
      refine lv_icmp_ge (tgt := 62) hx hb d_outc_28 (by decide) (fun _ => ?_) (fun h => absurd h (by decide))
      refine lv_lload_n hx hb d_outc_62 rfl (lv_at hl 1 rfl) ?_
      exact W.lret (v := 0) hx hb hr (fun t ht hW => ⟨⟨0, (), rfl, rfl, trivial⟩, hS.F ht⟩) hS.2.2 d_outc_63
    · first | exact absurd hq (by simp [k_out, c_1, c_2]) | (exfalso; simp_all [k_out])
