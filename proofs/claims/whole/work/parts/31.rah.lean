def m_rhex_J64 (S : MS) (t0 : Int32) : Option (MS × Int32) := some (S, t0)
theorem d_rhex_0 : decode prog_14_method_42_code 0 = .ok (.iload_n 0, 1) := by decide +kernel
theorem d_rhex_1 : decode prog_14_method_42_code 1 = .ok (.bipush 48, 2) := by decide +kernel
theorem d_rhex_3 : decode prog_14_method_42_code 3 = .ok (.if_icmp .lt 16, 3) := by decide +kernel
theorem d_rhex_19 : decode prog_14_method_42_code 19 = .ok (.iload_n 0, 1) := by decide +kernel
theorem d_rhex_20 : decode prog_14_method_42_code 20 = .ok (.bipush 97, 2) := by decide +kernel
theorem d_rhex_22 : decode prog_14_method_42_code 22 = .ok (.if_icmp .lt 19, 3) := by decide +kernel
theorem d_rhex_41 : decode prog_14_method_42_code 41 = .ok (.iload_n 0, 1) := by decide +kernel
theorem d_rhex_42 : decode prog_14_method_42_code 42 = .ok (.bipush 65, 2) := by decide +kernel
theorem d_rhex_44 : decode prog_14_method_42_code 44 = .ok (.if_icmp .lt 19, 3) := by decide +kernel
theorem d_rhex_63 : decode prog_14_method_42_code 63 = .ok (.iconst (-1), 1) := by decide +kernel
theorem d_rhex_64 : decode prog_14_method_42_code 64 = .ok (.ireturn, 1) := by decide +kernel
set_option maxHeartbeats 4000000 in
set_option maxRecDepth 100000 in
theorem w_rhex_J64 {p : Program} {l : Launch} {e : Env} {s : State} {m : MethodId} {args : Array Value} {below : List Frame} {meth : Method} {c : Code} {A : Nat → Prop} {D : va_G} {md : Nat → Nat} {mc : Nat → ClassId} {Q : State → Prop} (hC : MCx "JoinedTreesModel" prog_14_method_42_code 1 (some .int) p s m args meth c A D mc) {S : MS} {t0 : Int32} {o : MS × Int32} (Heq : m_rhex_J64 S t0 = some o) (Kr : ∀ r : MS × Int32, o = r → ∀ (pc : Nat) (H : Heap) (locs : List Loc) (ls : Array Slot), decode prog_14_method_42_code pc = .ok (.ireturn, 1) → va_P D cls (mw md mc r.1) H → va_D A (mw md mc r.1) → va_S A s.heap H locs → W p l e ({ frames := 0, cells := 0, slots := 0, locals := 0 }) s m args below meth c H locs 0 0 Q (F0 m pc ls [.int r.2])) : ∀ (H : Heap) (locs : List Loc) (ls : Array Slot), va_P D cls (mw md mc S) H → va_D A (mw md mc S) → va_S A s.heap H locs → lv_has ls 1 [] → W p l e ({ frames := 0, cells := 0, slots := 0, locals := 0 }) s m args below meth c H locs 0 0 Q (F0 m 64 ls [.int t0]) := by
  intro H locs ls hP hD hS hl
  obtain ⟨hx, hb, hr, hml, hown, hts, hK, hA⟩ := id hC
  unfold m_rhex_J64 at Heq
  exact Kr _ (Option.some.inj Heq).symm 64 _ _ _ d_rhex_64 hP hD hS
def m_rhex_J63 (S : MS) : Option (MS × Int32) := m_rhex_J64 S (-1)
set_option maxHeartbeats 4000000 in
set_option maxRecDepth 100000 in
theorem w_rhex_J63 {p : Program} {l : Launch} {e : Env} {s : State} {m : MethodId} {args : Array Value} {below : List Frame} {meth : Method} {c : Code} {A : Nat → Prop} {D : va_G} {md : Nat → Nat} {mc : Nat → ClassId} {Q : State → Prop} (hC : MCx "JoinedTreesModel" prog_14_method_42_code 1 (some .int) p s m args meth c A D mc) {S : MS} {o : MS × Int32} (Heq : m_rhex_J63 S = some o) (Kr : ∀ r : MS × Int32, o = r → ∀ (pc : Nat) (H : Heap) (locs : List Loc) (ls : Array Slot), decode prog_14_method_42_code pc = .ok (.ireturn, 1) → va_P D cls (mw md mc r.1) H → va_D A (mw md mc r.1) → va_S A s.heap H locs → W p l e ({ frames := 0, cells := 0, slots := 0, locals := 0 }) s m args below meth c H locs 0 0 Q (F0 m pc ls [.int r.2])) : ∀ (H : Heap) (locs : List Loc) (ls : Array Slot), va_P D cls (mw md mc S) H → va_D A (mw md mc S) → va_S A s.heap H locs → lv_has ls 1 [] → W p l e ({ frames := 0, cells := 0, slots := 0, locals := 0 }) s m args below meth c H locs 0 0 Q (F0 m 63 ls []) := by
  intro H locs ls hP hD hS hl
  obtain ⟨hx, hb, hr, hml, hown, hts, hK, hA⟩ := id hC
  unfold m_rhex_J63 at Heq
  refine lv_iconst (v := (-1)) hx hb d_rhex_63 (by decide) ?_
  exact w_rhex_J64 hC Heq Kr _ _ _ hP hD hS (lv_sub hl [] rfl)
def m_rhex_J41 (S : MS) (x0 : Int32) : Option (MS × Int32) := (if x0 < 65 then m_rhex_J63 S else (if 70 < x0 then m_rhex_J63 S else m_rhex_J64 S ((x0 - 65) + 10)))
theorem d_rhex_47 : decode prog_14_method_42_code 47 = .ok (.iload_n 0, 1) := by decide +kernel
theorem d_rhex_48 : decode prog_14_method_42_code 48 = .ok (.bipush 70, 2) := by decide +kernel
theorem d_rhex_50 : decode prog_14_method_42_code 50 = .ok (.if_icmp .gt 13, 3) := by decide +kernel
theorem d_rhex_53 : decode prog_14_method_42_code 53 = .ok (.iload_n 0, 1) := by decide +kernel
theorem d_rhex_54 : decode prog_14_method_42_code 54 = .ok (.bipush 65, 2) := by decide +kernel
theorem d_rhex_56 : decode prog_14_method_42_code 56 = .ok (.isub, 1) := by decide +kernel
theorem d_rhex_57 : decode prog_14_method_42_code 57 = .ok (.bipush 10, 2) := by decide +kernel
theorem d_rhex_59 : decode prog_14_method_42_code 59 = .ok (.iadd, 1) := by decide +kernel
theorem d_rhex_60 : decode prog_14_method_42_code 60 = .ok (.goto 4, 3) := by decide +kernel
set_option maxHeartbeats 4000000 in
set_option maxRecDepth 100000 in
theorem w_rhex_J41 {p : Program} {l : Launch} {e : Env} {s : State} {m : MethodId} {args : Array Value} {below : List Frame} {meth : Method} {c : Code} {A : Nat → Prop} {D : va_G} {md : Nat → Nat} {mc : Nat → ClassId} {Q : State → Prop} (hC : MCx "JoinedTreesModel" prog_14_method_42_code 1 (some .int) p s m args meth c A D mc) {S : MS} {x0 : Int32} {o : MS × Int32} (Heq : m_rhex_J41 S x0 = some o) (Kr : ∀ r : MS × Int32, o = r → ∀ (pc : Nat) (H : Heap) (locs : List Loc) (ls : Array Slot), decode prog_14_method_42_code pc = .ok (.ireturn, 1) → va_P D cls (mw md mc r.1) H → va_D A (mw md mc r.1) → va_S A s.heap H locs → W p l e ({ frames := 0, cells := 0, slots := 0, locals := 0 }) s m args below meth c H locs 0 0 Q (F0 m pc ls [.int r.2])) : ∀ (H : Heap) (locs : List Loc) (ls : Array Slot), va_P D cls (mw md mc S) H → va_D A (mw md mc S) → va_S A s.heap H locs → lv_has ls 1 [(0, .int x0)] → W p l e ({ frames := 0, cells := 0, slots := 0, locals := 0 }) s m args below meth c H locs 0 0 Q (F0 m 41 ls []) := by
  intro H locs ls hP hD hS hl
  obtain ⟨hx, hb, hr, hml, hown, hts, hK, hA⟩ := id hC
  unfold m_rhex_J41 at Heq
  refine lv_iload_n hx hb d_rhex_41 rfl (lv_at hl 0 rfl) ?_
  refine lv_bipush (v := 65) hx hb d_rhex_42 (by decide) ?_
  refine lv_icmp_lt (tgt := 63) hx hb d_rhex_44 (by decide) (fun c_1 => ?_) (fun c_1 => ?_)
  · replace Heq := (if_pos c_1).symm.trans Heq
    exact w_rhex_J63 hC Heq Kr _ _ _ hP hD hS (lv_sub hl [] rfl)
  · replace Heq := (if_neg c_1).symm.trans Heq
    refine lv_iload_n hx hb d_rhex_47 rfl (lv_at hl 0 rfl) ?_
    refine lv_bipush (v := 70) hx hb d_rhex_48 (by decide) ?_
    refine lv_icmp_gt (tgt := 63) hx hb d_rhex_50 (by decide) (fun c_2 => ?_) (fun c_2 => ?_)
    · replace Heq := (if_pos c_2).symm.trans Heq
      exact w_rhex_J63 hC Heq Kr _ _ _ hP hD hS (lv_sub hl [] rfl)
    · replace Heq := (if_neg c_2).symm.trans Heq
      refine lv_iload_n hx hb d_rhex_53 rfl (lv_at hl 0 rfl) ?_
      refine lv_bipush (v := 65) hx hb d_rhex_54 (by decide) ?_
      refine lv_isub hx hb d_rhex_56 ?_
      refine w_i (y := x0 - 65) rfl ?_
      refine lv_bipush (v := 10) hx hb d_rhex_57 (by decide) ?_
      refine lv_iadd hx hb d_rhex_59 ?_
      refine w_i (y := (x0 - 65) + 10) rfl ?_
      refine lv_goto (tgt := 64) hx hb d_rhex_60 (by decide) ?_
      exact w_rhex_J64 hC Heq Kr _ _ _ hP hD hS (lv_sub hl [] rfl)
def m_rhex_J19 (S : MS) (x0 : Int32) : Option (MS × Int32) := (if x0 < 97 then m_rhex_J41 S x0 else (if 102 < x0 then m_rhex_J41 S x0 else m_rhex_J64 S ((x0 - 97) + 10)))
theorem d_rhex_25 : decode prog_14_method_42_code 25 = .ok (.iload_n 0, 1) := by decide +kernel
theorem d_rhex_26 : decode prog_14_method_42_code 26 = .ok (.bipush 102, 2) := by decide +kernel
theorem d_rhex_28 : decode prog_14_method_42_code 28 = .ok (.if_icmp .gt 13, 3) := by decide +kernel
theorem d_rhex_31 : decode prog_14_method_42_code 31 = .ok (.iload_n 0, 1) := by decide +kernel
theorem d_rhex_32 : decode prog_14_method_42_code 32 = .ok (.bipush 97, 2) := by decide +kernel
theorem d_rhex_34 : decode prog_14_method_42_code 34 = .ok (.isub, 1) := by decide +kernel
theorem d_rhex_35 : decode prog_14_method_42_code 35 = .ok (.bipush 10, 2) := by decide +kernel
theorem d_rhex_37 : decode prog_14_method_42_code 37 = .ok (.iadd, 1) := by decide +kernel
theorem d_rhex_38 : decode prog_14_method_42_code 38 = .ok (.goto 26, 3) := by decide +kernel
set_option maxHeartbeats 4000000 in
set_option maxRecDepth 100000 in
theorem w_rhex_J19 {p : Program} {l : Launch} {e : Env} {s : State} {m : MethodId} {args : Array Value} {below : List Frame} {meth : Method} {c : Code} {A : Nat → Prop} {D : va_G} {md : Nat → Nat} {mc : Nat → ClassId} {Q : State → Prop} (hC : MCx "JoinedTreesModel" prog_14_method_42_code 1 (some .int) p s m args meth c A D mc) {S : MS} {x0 : Int32} {o : MS × Int32} (Heq : m_rhex_J19 S x0 = some o) (Kr : ∀ r : MS × Int32, o = r → ∀ (pc : Nat) (H : Heap) (locs : List Loc) (ls : Array Slot), decode prog_14_method_42_code pc = .ok (.ireturn, 1) → va_P D cls (mw md mc r.1) H → va_D A (mw md mc r.1) → va_S A s.heap H locs → W p l e ({ frames := 0, cells := 0, slots := 0, locals := 0 }) s m args below meth c H locs 0 0 Q (F0 m pc ls [.int r.2])) : ∀ (H : Heap) (locs : List Loc) (ls : Array Slot), va_P D cls (mw md mc S) H → va_D A (mw md mc S) → va_S A s.heap H locs → lv_has ls 1 [(0, .int x0)] → W p l e ({ frames := 0, cells := 0, slots := 0, locals := 0 }) s m args below meth c H locs 0 0 Q (F0 m 19 ls []) := by
  intro H locs ls hP hD hS hl
  obtain ⟨hx, hb, hr, hml, hown, hts, hK, hA⟩ := id hC
  unfold m_rhex_J19 at Heq
  refine lv_iload_n hx hb d_rhex_19 rfl (lv_at hl 0 rfl) ?_
  refine lv_bipush (v := 97) hx hb d_rhex_20 (by decide) ?_
  refine lv_icmp_lt (tgt := 41) hx hb d_rhex_22 (by decide) (fun c_1 => ?_) (fun c_1 => ?_)
  · replace Heq := (if_pos c_1).symm.trans Heq
    exact w_rhex_J41 hC Heq Kr _ _ _ hP hD hS (lv_sub hl [0] rfl)
  · replace Heq := (if_neg c_1).symm.trans Heq
    refine lv_iload_n hx hb d_rhex_25 rfl (lv_at hl 0 rfl) ?_
    refine lv_bipush (v := 102) hx hb d_rhex_26 (by decide) ?_
    refine lv_icmp_gt (tgt := 41) hx hb d_rhex_28 (by decide) (fun c_2 => ?_) (fun c_2 => ?_)
    · replace Heq := (if_pos c_2).symm.trans Heq
      exact w_rhex_J41 hC Heq Kr _ _ _ hP hD hS (lv_sub hl [0] rfl)
    · replace Heq := (if_neg c_2).symm.trans Heq
      refine lv_iload_n hx hb d_rhex_31 rfl (lv_at hl 0 rfl) ?_
      refine lv_bipush (v := 97) hx hb d_rhex_32 (by decide) ?_
      refine lv_isub hx hb d_rhex_34 ?_
      refine w_i (y := x0 - 97) rfl ?_
      refine lv_bipush (v := 10) hx hb d_rhex_35 (by decide) ?_
      refine lv_iadd hx hb d_rhex_37 ?_
      refine w_i (y := (x0 - 97) + 10) rfl ?_
      refine lv_goto (tgt := 64) hx hb d_rhex_38 (by decide) ?_
      exact w_rhex_J64 hC Heq Kr _ _ _ hP hD hS (lv_sub hl [] rfl)
def m_rhex_J0 (S : MS) (x0 : Int32) : Option (MS × Int32) := (if x0 < 48 then m_rhex_J19 S x0 else (if 57 < x0 then m_rhex_J19 S x0 else m_rhex_J64 S (x0 - 48)))
theorem d_rhex_6 : decode prog_14_method_42_code 6 = .ok (.iload_n 0, 1) := by decide +kernel
theorem d_rhex_7 : decode prog_14_method_42_code 7 = .ok (.bipush 57, 2) := by decide +kernel
theorem d_rhex_9 : decode prog_14_method_42_code 9 = .ok (.if_icmp .gt 10, 3) := by decide +kernel
theorem d_rhex_12 : decode prog_14_method_42_code 12 = .ok (.iload_n 0, 1) := by decide +kernel
theorem d_rhex_13 : decode prog_14_method_42_code 13 = .ok (.bipush 48, 2) := by decide +kernel
theorem d_rhex_15 : decode prog_14_method_42_code 15 = .ok (.isub, 1) := by decide +kernel
theorem d_rhex_16 : decode prog_14_method_42_code 16 = .ok (.goto 48, 3) := by decide +kernel
set_option maxHeartbeats 4000000 in
set_option maxRecDepth 100000 in
theorem w_rhex_J0 {p : Program} {l : Launch} {e : Env} {s : State} {m : MethodId} {args : Array Value} {below : List Frame} {meth : Method} {c : Code} {A : Nat → Prop} {D : va_G} {md : Nat → Nat} {mc : Nat → ClassId} {Q : State → Prop} (hC : MCx "JoinedTreesModel" prog_14_method_42_code 1 (some .int) p s m args meth c A D mc) {S : MS} {x0 : Int32} {o : MS × Int32} (Heq : m_rhex_J0 S x0 = some o) (Kr : ∀ r : MS × Int32, o = r → ∀ (pc : Nat) (H : Heap) (locs : List Loc) (ls : Array Slot), decode prog_14_method_42_code pc = .ok (.ireturn, 1) → va_P D cls (mw md mc r.1) H → va_D A (mw md mc r.1) → va_S A s.heap H locs → W p l e ({ frames := 0, cells := 0, slots := 0, locals := 0 }) s m args below meth c H locs 0 0 Q (F0 m pc ls [.int r.2])) : ∀ (H : Heap) (locs : List Loc) (ls : Array Slot), va_P D cls (mw md mc S) H → va_D A (mw md mc S) → va_S A s.heap H locs → lv_has ls 1 [(0, .int x0)] → W p l e ({ frames := 0, cells := 0, slots := 0, locals := 0 }) s m args below meth c H locs 0 0 Q (F0 m 0 ls []) := by
  intro H locs ls hP hD hS hl
  obtain ⟨hx, hb, hr, hml, hown, hts, hK, hA⟩ := id hC
  unfold m_rhex_J0 at Heq
  refine lv_iload_n hx hb d_rhex_0 rfl (lv_at hl 0 rfl) ?_
  refine lv_bipush (v := 48) hx hb d_rhex_1 (by decide) ?_
  refine lv_icmp_lt (tgt := 19) hx hb d_rhex_3 (by decide) (fun c_1 => ?_) (fun c_1 => ?_)
  · replace Heq := (if_pos c_1).symm.trans Heq
    exact w_rhex_J19 hC Heq Kr _ _ _ hP hD hS (lv_sub hl [0] rfl)
  · replace Heq := (if_neg c_1).symm.trans Heq
    refine lv_iload_n hx hb d_rhex_6 rfl (lv_at hl 0 rfl) ?_
    refine lv_bipush (v := 57) hx hb d_rhex_7 (by decide) ?_
    refine lv_icmp_gt (tgt := 19) hx hb d_rhex_9 (by decide) (fun c_2 => ?_) (fun c_2 => ?_)
    · replace Heq := (if_pos c_2).symm.trans Heq
      exact w_rhex_J19 hC Heq Kr _ _ _ hP hD hS (lv_sub hl [0] rfl)
    · replace Heq := (if_neg c_2).symm.trans Heq
      refine lv_iload_n hx hb d_rhex_12 rfl (lv_at hl 0 rfl) ?_
      refine lv_bipush (v := 48) hx hb d_rhex_13 (by decide) ?_
      refine lv_isub hx hb d_rhex_15 ?_
      refine w_i (y := x0 - 48) rfl ?_
      refine lv_goto (tgt := 64) hx hb d_rhex_16 (by decide) ?_
      exact w_rhex_J64 hC Heq Kr _ _ _ hP hD hS (lv_sub hl [] rfl)
def m_rhex (S : MS) (x0 : Int32) : Option (MS × Int32) := m_rhex_J0 S x0
theorem g_rhex (l : Launch) (D : va_G) (sz : Nat) {md : Nat → Nat} {mc : Nat → ClassId} {S : MS} {x0 : Int32} {o : MS × Int32} (Heq : m_rhex S x0 = some o) : Met l ⟨"JoinedTreesModel", "hex", "(I)I"⟩ (Cond.code ⟨"JoinedTreesModel", "hex", "(I)I"⟩ prog_14_method_42_code 1 (some .int) :: gb) ({ frames := 0, cells := 0, slots := 0, locals := 0 }) (gPc D (mw md mc S) (mty mc) sz [.int x0]) (va_Qi (fun (r : Int32) (_ : Unit) => r = o.2) (fun _ t => gO D (mw md mc o.1) (mty mc) (va_A (mw md mc S) sz) t) (va_A (mw md mc S) sz)) 0 0 (va_A (mw md mc S) sz) := by
  refine Met.ofW (cc := prog_14_method_42_code) (maxL := 1) (ret := (some .int)) (by decide) rfl ?_
  intro p e s m args below meth c s₁ B hml hv
  obtain ⟨rfl, hsz, hP, hK, hD0⟩ := hv
  have hx := B.exec
  have hb := B.bytes
  have hr := B.returns
  have hts : ∀ w9 ∈ gb, w9.before [.int x0].toArray s = true := fun w9 h => atoms_spec (ws := Cond.code ⟨"JoinedTreesModel", "hex", "(I)I"⟩ prog_14_method_42_code 1 (some .int) :: gb) B.pre w9 (List.mem_cons_of_mem _ h)
  have hown : s.vm.findClass "JoinedTreesModel" = some m.cls := findClass_of_methodNamed B.named
  have hlocks := B.notSynchronized
  subst hsz
  have hD := hD0.self (sz := s.heap.size)
  generalize hAe : va_A (mw md mc S) s.heap.size = A at hD ⊢
  have hA : ∀ q : Nat, s.heap.size ≤ q → A q := fun q h => by rw [← hAe]; exact Or.inr h
  have hS : va_S A s.heap s.heap [] := va_S.rf
  have hl := lv_entry ([.int x0]) (n := 1) (Nat.le_of_ble_eq_true rfl)
  rw [lg_entry_eq]
  generalize (lg_sl ([.int x0]) ++ List.replicate (1 - (lg_sl ([.int x0])).length) Slot.unset).toArray = ls at hl ⊢
  have hl : lv_has ls 1 [(0, .int x0)] := hl
  refine w_rhex_J0 ⟨hx, hb, hr, hml, hown, hts, hK, hA⟩ Heq (fun r h pc H locs ls hd hP hD hS => ?_) _ _ _ hP hD hS (lv_sub hl [0] rfl)
  subst h
  exact W.iret hx hb hr (fun t ht hW => ⟨⟨_, (), rfl, rfl, by rw [ht]; exact hP, va_K.moved hW.alike hK, hD⟩, hS.F ht⟩) hS.2.2 hd
def m_rstring_J266 (S : MS) (x1 : Int32) (x2 : Int32) (x3 : Int32) : Option ((MS × Int32 × Int32) ⊕ ((MS × Int32) ⊕ (MS × Int32))) := (if S.i 68 = 0 then gd (S.i 65) 8300 (some (.inl (((S.setA 62 (upd (S.a 62) ((S.i 65).toNatClampNeg) (vp_nar .byte x3.toInt8.toInt32))).setI 65 ((S.i 65) + 1)), x1, x2))) else some (.inr (.inr (S, x2))))
theorem d_rstring_0 : decode prog_14_method_43_code 0 = .ok (.aload_n 0, 1) := by decide +kernel
theorem d_rstring_1 : decode prog_14_method_43_code 1 = .ok (.getfield 332, 3) := by decide +kernel
theorem d_rstring_4 : decode prog_14_method_43_code 4 = .ok (.istore_n 2, 1) := by decide +kernel
theorem d_rstring_5 : decode prog_14_method_43_code 5 = .ok (.aload_n 0, 1) := by decide +kernel
theorem d_rstring_6 : decode prog_14_method_43_code 6 = .ok (.getfield 324, 3) := by decide +kernel
theorem d_rstring_9 : decode prog_14_method_43_code 9 = .ok (.ifCond .ne 290, 3) := by decide +kernel
theorem d_rstring_12 : decode prog_14_method_43_code 12 = .ok (.aload_n 0, 1) := by decide +kernel
theorem d_rstring_13 : decode prog_14_method_43_code 13 = .ok (.invokevirtual 316, 3) := by decide +kernel
theorem d_rstring_16 : decode prog_14_method_43_code 16 = .ok (.bipush 34, 2) := by decide +kernel
theorem d_rstring_18 : decode prog_14_method_43_code 18 = .ok (.if_icmp .eq 281, 3) := by decide +kernel
theorem d_rstring_21 : decode prog_14_method_43_code 21 = .ok (.aload_n 0, 1) := by decide +kernel
theorem d_rstring_22 : decode prog_14_method_43_code 22 = .ok (.invokevirtual 316, 3) := by decide +kernel
theorem d_rstring_25 : decode prog_14_method_43_code 25 = .ok (.istore_n 3, 1) := by decide +kernel
theorem d_rstring_26 : decode prog_14_method_43_code 26 = .ok (.aload_n 0, 1) := by decide +kernel
theorem d_rstring_27 : decode prog_14_method_43_code 27 = .ok (.getfield 313, 3) := by decide +kernel
theorem d_rstring_30 : decode prog_14_method_43_code 30 = .ok (.istore 4, 2) := by decide +kernel
theorem d_rstring_32 : decode prog_14_method_43_code 32 = .ok (.iload_n 3, 1) := by decide +kernel
theorem d_rstring_33 : decode prog_14_method_43_code 33 = .ok (.bipush 32, 2) := by decide +kernel
theorem d_rstring_35 : decode prog_14_method_43_code 35 = .ok (.if_icmp .lt 19, 3) := by decide +kernel
theorem d_rstring_54 : decode prog_14_method_43_code 54 = .ok (.aload_n 0, 1) := by decide +kernel
theorem d_rstring_55 : decode prog_14_method_43_code 55 = .ok (.iconst 1, 1) := by decide +kernel
theorem d_rstring_56 : decode prog_14_method_43_code 56 = .ok (.putfield 324, 3) := by decide +kernel
theorem d_rstring_59 : decode prog_14_method_43_code 59 = .ok (.goto 207, 3) := by decide +kernel
theorem d_rstring_266 : decode prog_14_method_43_code 266 = .ok (.aload_n 0, 1) := by decide +kernel
theorem d_rstring_267 : decode prog_14_method_43_code 267 = .ok (.getfield 324, 3) := by decide +kernel
theorem d_rstring_270 : decode prog_14_method_43_code 270 = .ok (.ifCond .eq 5, 3) := by decide +kernel
theorem d_rstring_275 : decode prog_14_method_43_code 275 = .ok (.aload_n 0, 1) := by decide +kernel
theorem d_rstring_276 : decode prog_14_method_43_code 276 = .ok (.getfield 160, 3) := by decide +kernel
theorem d_rstring_279 : decode prog_14_method_43_code 279 = .ok (.aload_n 0, 1) := by decide +kernel
theorem d_rstring_280 : decode prog_14_method_43_code 280 = .ok (.getfield 332, 3) := by decide +kernel
theorem d_rstring_283 : decode prog_14_method_43_code 283 = .ok (.iload_n 3, 1) := by decide +kernel
theorem d_rstring_284 : decode prog_14_method_43_code 284 = .ok (.i2b, 1) := by decide +kernel
theorem d_rstring_285 : decode prog_14_method_43_code 285 = .ok (.bastore, 1) := by decide +kernel
theorem d_rstring_286 : decode prog_14_method_43_code 286 = .ok (.aload_n 0, 1) := by decide +kernel
theorem d_rstring_287 : decode prog_14_method_43_code 287 = .ok (.dup, 1) := by decide +kernel
theorem d_rstring_288 : decode prog_14_method_43_code 288 = .ok (.getfield 332, 3) := by decide +kernel
theorem d_rstring_291 : decode prog_14_method_43_code 291 = .ok (.iconst 1, 1) := by decide +kernel
theorem d_rstring_292 : decode prog_14_method_43_code 292 = .ok (.iadd, 1) := by decide +kernel
theorem d_rstring_293 : decode prog_14_method_43_code 293 = .ok (.putfield 332, 3) := by decide +kernel
theorem d_rstring_296 : decode prog_14_method_43_code 296 = .ok (.goto (-291), 3) := by decide +kernel
theorem d_rstring_273 : decode prog_14_method_43_code 273 = .ok (.iload_n 2, 1) := by decide +kernel
theorem d_rstring_274 : decode prog_14_method_43_code 274 = .ok (.ireturn, 1) := by decide +kernel
set_option maxHeartbeats 4000000 in
set_option maxRecDepth 100000 in
theorem w_rstring_J266 {p : Program} {l : Launch} {e : Env} {s : State} {m : MethodId} {args : Array Value} {below : List Frame} {meth : Method} {c : Code} {A : Nat → Prop} {D : va_G} {md : Nat → Nat} {mc : Nat → ClassId} {Q : State → Prop} (hC : MCx "JoinedTreesModel" prog_14_method_43_code 8 (some .int) p s m args meth c A D mc) {S : MS} {x1 : Int32} {x2 : Int32} {x3 : Int32} {o : ((MS × Int32 × Int32) ⊕ ((MS × Int32) ⊕ (MS × Int32)))} (Heq : m_rstring_J266 S x1 x2 x3 = some o) (Ka : ∀ b : MS × Int32 × Int32, o = .inl b → ∀ (H : Heap) (locs : List Loc) (ls : Array Slot), va_P D cls (mw md mc b.1) H → va_D A (mw md mc b.1) → va_S A s.heap H locs → lv_has ls 8 [(0, .ref (md 100)), (1, .int b.2.1), (2, .int b.2.2)] → W p l e ({ frames := 1, cells := 0, slots := 0, locals := 20 }) s m args below meth c H locs 0 0 Q (F0 m 5 ls [])) (K0 : ∀ b : MS × Int32, o = .inr (.inl b) → ∀ (H : Heap) (locs : List Loc) (ls : Array Slot), va_P D cls (mw md mc b.1) H → va_D A (mw md mc b.1) → va_S A s.heap H locs → lv_has ls 8 [(0, .ref (md 100)), (2, .int b.2)] → W p l e ({ frames := 1, cells := 0, slots := 0, locals := 20 }) s m args below meth c H locs 0 0 Q (F0 m 299 ls [])) (Kr : ∀ r : MS × Int32, o = .inr (.inr r) → ∀ (pc : Nat) (H : Heap) (locs : List Loc) (ls : Array Slot), decode prog_14_method_43_code pc = .ok (.ireturn, 1) → va_P D cls (mw md mc r.1) H → va_D A (mw md mc r.1) → va_S A s.heap H locs → W p l e ({ frames := 1, cells := 0, slots := 0, locals := 20 }) s m args below meth c H locs 0 0 Q (F0 m pc ls [.int r.2])) : ∀ (H : Heap) (locs : List Loc) (ls : Array Slot), va_P D cls (mw md mc S) H → va_D A (mw md mc S) → va_S A s.heap H locs → lv_has ls 8 [(0, .ref (md 100)), (1, .int x1), (2, .int x2), (3, .int x3)] → W p l e ({ frames := 1, cells := 0, slots := 0, locals := 20 }) s m args below meth c H locs 0 0 Q (F0 m 266 ls []) := by
  intro H locs ls hP hD hS hl
  obtain ⟨hx, hb, hr, hml, hown, hts, hK, hA⟩ := id hC
  unfold m_rstring_J266 at Heq
  refine lv_aload_n hx hb d_rstring_266 rfl (lv_at hl 0 rfl) ?_
  refine va_get (D := D) (ci := 12) (v := .int (S.i 68)) (C := R_MM) (T := F_MM) (N := 77) hx hb hts i_MM hown hK hP 0 rfl rfl 68 (by decide) (hts _ kw_1450) (fun _ h9 => h9) rfl d_rstring_267 ?_
  refine lv_if_eq (tgt := 275) hx hb d_rstring_270 (by decide) (fun c_1 => ?_) (fun c_1 => ?_)
  · replace Heq := (if_pos c_1).symm.trans Heq
    refine lv_aload_n hx hb d_rstring_275 rfl (lv_at hl 0 rfl) ?_
    refine va_get (D := D) (ci := 12) (v := .ref (md 62)) (C := R_MM) (T := F_MM) (N := 77) hx hb hts i_MM hown hK hP 0 rfl rfl 62 (by decide) (hts _ kw_1444) (fun _ h9 => h9) rfl d_rstring_276 ?_
    refine lv_aload_n hx hb d_rstring_279 rfl (lv_at hl 0 rfl) ?_
    refine va_get (D := D) (ci := 12) (v := .int (S.i 65)) (C := R_MM) (T := F_MM) (N := 77) hx hb hts i_MM hown hK hP 0 rfl rfl 65 (by decide) (hts _ kw_1447) (fun _ h9 => h9) rfl d_rstring_280 ?_
    refine lv_iload_n hx hb d_rstring_283 rfl (lv_at hl 3 rfl) ?_
    refine lv_i2b hx hb d_rstring_284 rfl ?_
    refine w_i (y := x3.toInt8.toInt32) rfl ?_
    obtain ⟨hi_2, Heq⟩ := gd_some Heq
    refine va_bast hx hb hK hP hD hS 44 1 rfl rfl (i := S.i 65) (x := x3.toInt8.toInt32) hi_2 d_rstring_285 (fun H locs hP hD hS => ?_)
    rw [mw_A62] at hP hD
    refine lv_aload_n hx hb d_rstring_286 rfl (lv_at hl 0 rfl) ?_
    refine lv_dup hx hb d_rstring_287 rfl ?_
    refine va_get (D := D) (ci := 12) (v := .int (S.i 65)) (C := R_MM) (T := F_MM) (N := 77) hx hb hts i_MM hown hK hP 0 rfl rfl 65 (by decide) (hts _ kw_1447) (fun _ h9 => h9) rfl d_rstring_288 ?_
    refine lv_iconst (v := 1) hx hb d_rstring_291 (by decide) ?_
    refine lv_iadd hx hb d_rstring_292 ?_
    refine w_i (y := (S.i 65) + 1) rfl ?_
    refine va_put (D := D) (ci := 12) (v := .int ((S.i 65) + 1)) (ty := .int) (C := R_MM) (T := F_MM) (N := 77) hx hb hts i_MM t_MM t_MM_ok n_MM hown hK hP hD hS 0 rfl rfl 65 (by decide) (hts _ kw_1447) (fun _ h9 => h9) rfl (by decide +kernel) rfl rfl (Nat.le_of_ble_eq_true rfl) d_rstring_293 (fun H locs hP hD hS => ?_)
    rw [mw_I65] at hP hD
    refine lv_goto (tgt := 5) hx hb d_rstring_296 (by decide) ?_
    exact Ka _ (Option.some.inj Heq).symm _ _ _ hP hD hS (lv_sub hl [0, 1, 2] rfl)
  · replace Heq := (if_neg c_1).symm.trans Heq
    refine lv_iload_n hx hb d_rstring_273 rfl (lv_at hl 2 rfl) ?_
    exact Kr _ (Option.some.inj Heq).symm 274 _ _ _ d_rstring_274 hP hD hS
def m_rstring_J54 (S : MS) (x1 : Int32) (x2 : Int32) (x3 : Int32) : Option ((MS × Int32 × Int32) ⊕ ((MS × Int32) ⊕ (MS × Int32))) := m_rstring_J266 (S.setI 68 1) x1 x2 x3
set_option maxHeartbeats 4000000 in
set_option maxRecDepth 100000 in
theorem w_rstring_J54 {p : Program} {l : Launch} {e : Env} {s : State} {m : MethodId} {args : Array Value} {below : List Frame} {meth : Method} {c : Code} {A : Nat → Prop} {D : va_G} {md : Nat → Nat} {mc : Nat → ClassId} {Q : State → Prop} (hC : MCx "JoinedTreesModel" prog_14_method_43_code 8 (some .int) p s m args meth c A D mc) {S : MS} {x1 : Int32} {x2 : Int32} {x3 : Int32} {o : ((MS × Int32 × Int32) ⊕ ((MS × Int32) ⊕ (MS × Int32)))} (Heq : m_rstring_J54 S x1 x2 x3 = some o) (Ka : ∀ b : MS × Int32 × Int32, o = .inl b → ∀ (H : Heap) (locs : List Loc) (ls : Array Slot), va_P D cls (mw md mc b.1) H → va_D A (mw md mc b.1) → va_S A s.heap H locs → lv_has ls 8 [(0, .ref (md 100)), (1, .int b.2.1), (2, .int b.2.2)] → W p l e ({ frames := 1, cells := 0, slots := 0, locals := 20 }) s m args below meth c H locs 0 0 Q (F0 m 5 ls [])) (K0 : ∀ b : MS × Int32, o = .inr (.inl b) → ∀ (H : Heap) (locs : List Loc) (ls : Array Slot), va_P D cls (mw md mc b.1) H → va_D A (mw md mc b.1) → va_S A s.heap H locs → lv_has ls 8 [(0, .ref (md 100)), (2, .int b.2)] → W p l e ({ frames := 1, cells := 0, slots := 0, locals := 20 }) s m args below meth c H locs 0 0 Q (F0 m 299 ls [])) (Kr : ∀ r : MS × Int32, o = .inr (.inr r) → ∀ (pc : Nat) (H : Heap) (locs : List Loc) (ls : Array Slot), decode prog_14_method_43_code pc = .ok (.ireturn, 1) → va_P D cls (mw md mc r.1) H → va_D A (mw md mc r.1) → va_S A s.heap H locs → W p l e ({ frames := 1, cells := 0, slots := 0, locals := 20 }) s m args below meth c H locs 0 0 Q (F0 m pc ls [.int r.2])) : ∀ (H : Heap) (locs : List Loc) (ls : Array Slot), va_P D cls (mw md mc S) H → va_D A (mw md mc S) → va_S A s.heap H locs → lv_has ls 8 [(0, .ref (md 100)), (1, .int x1), (2, .int x2), (3, .int x3)] → W p l e ({ frames := 1, cells := 0, slots := 0, locals := 20 }) s m args below meth c H locs 0 0 Q (F0 m 54 ls []) := by
  intro H locs ls hP hD hS hl
  obtain ⟨hx, hb, hr, hml, hown, hts, hK, hA⟩ := id hC
  unfold m_rstring_J54 at Heq
  refine lv_aload_n hx hb d_rstring_54 rfl (lv_at hl 0 rfl) ?_
  refine lv_iconst (v := 1) hx hb d_rstring_55 (by decide) ?_
  refine va_put (D := D) (ci := 12) (v := .int 1) (ty := .boolean) (C := R_MM) (T := F_MM) (N := 77) hx hb hts i_MM t_MM t_MM_ok n_MM hown hK hP hD hS 0 rfl rfl 68 (by decide) (hts _ kw_1450) (fun _ h9 => h9) rfl (by decide +kernel) (by decide) (by decide) (Nat.le_of_ble_eq_true rfl) d_rstring_56 (fun H locs hP hD hS => ?_)
  rw [mw_I68] at hP hD
  refine lv_goto (tgt := 266) hx hb d_rstring_59 (by decide) ?_
  exact w_rstring_J266 hC Heq Ka K0 Kr _ _ _ hP hD hS (lv_sub hl [0, 1, 2, 3] rfl)
def m_rstring_J253 (S : MS) (x1 : Int32) (x2 : Int32) (x3 : Int32) : Option ((MS × Int32 × Int32) ⊕ ((MS × Int32) ⊕ (MS × Int32))) := m_rstring_J266 S x1 x2 x3
theorem d_rstring_38 : decode prog_14_method_43_code 38 = .ok (.iload_n 3, 1) := by decide +kernel
theorem d_rstring_39 : decode prog_14_method_43_code 39 = .ok (.bipush 126, 2) := by decide +kernel
theorem d_rstring_41 : decode prog_14_method_43_code 41 = .ok (.if_icmp .gt 13, 3) := by decide +kernel
theorem d_rstring_44 : decode prog_14_method_43_code 44 = .ok (.aload_n 0, 1) := by decide +kernel
theorem d_rstring_45 : decode prog_14_method_43_code 45 = .ok (.getfield 332, 3) := by decide +kernel
theorem d_rstring_48 : decode prog_14_method_43_code 48 = .ok (.iload_n 2, 1) := by decide +kernel
theorem d_rstring_49 : decode prog_14_method_43_code 49 = .ok (.isub, 1) := by decide +kernel
theorem d_rstring_50 : decode prog_14_method_43_code 50 = .ok (.iload_n 1, 1) := by decide +kernel
theorem d_rstring_51 : decode prog_14_method_43_code 51 = .ok (.if_icmp .ne 11, 3) := by decide +kernel
theorem d_rstring_62 : decode prog_14_method_43_code 62 = .ok (.iload_n 3, 1) := by decide +kernel
theorem d_rstring_63 : decode prog_14_method_43_code 63 = .ok (.bipush 92, 2) := by decide +kernel
theorem d_rstring_65 : decode prog_14_method_43_code 65 = .ok (.if_icmp .ne 191, 3) := by decide +kernel
theorem d_rstring_256 : decode prog_14_method_43_code 256 = .ok (.aload_n 0, 1) := by decide +kernel
theorem d_rstring_257 : decode prog_14_method_43_code 257 = .ok (.dup, 1) := by decide +kernel
theorem d_rstring_258 : decode prog_14_method_43_code 258 = .ok (.getfield 313, 3) := by decide +kernel
theorem d_rstring_261 : decode prog_14_method_43_code 261 = .ok (.iconst 1, 1) := by decide +kernel
theorem d_rstring_262 : decode prog_14_method_43_code 262 = .ok (.iadd, 1) := by decide +kernel
theorem d_rstring_263 : decode prog_14_method_43_code 263 = .ok (.putfield 313, 3) := by decide +kernel
theorem d_rstring_68 : decode prog_14_method_43_code 68 = .ok (.aload_n 0, 1) := by decide +kernel
theorem d_rstring_69 : decode prog_14_method_43_code 69 = .ok (.dup, 1) := by decide +kernel
theorem d_rstring_70 : decode prog_14_method_43_code 70 = .ok (.getfield 313, 3) := by decide +kernel
theorem d_rstring_73 : decode prog_14_method_43_code 73 = .ok (.iconst 1, 1) := by decide +kernel
theorem d_rstring_74 : decode prog_14_method_43_code 74 = .ok (.iadd, 1) := by decide +kernel
theorem d_rstring_75 : decode prog_14_method_43_code 75 = .ok (.putfield 313, 3) := by decide +kernel
theorem d_rstring_78 : decode prog_14_method_43_code 78 = .ok (.aload_n 0, 1) := by decide +kernel
theorem d_rstring_79 : decode prog_14_method_43_code 79 = .ok (.invokevirtual 316, 3) := by decide +kernel
theorem d_rstring_82 : decode prog_14_method_43_code 82 = .ok (.istore 5, 2) := by decide +kernel
theorem d_rstring_84 : decode prog_14_method_43_code 84 = .ok (.iload 5, 2) := by decide +kernel
theorem d_rstring_86 : decode prog_14_method_43_code 86 = .ok (.bipush 120, 2) := by decide +kernel
theorem d_rstring_88 : decode prog_14_method_43_code 88 = .ok (.if_icmp .ne 78, 3) := by decide +kernel
theorem d_rstring_166 : decode prog_14_method_43_code 166 = .ok (.iload 5, 2) := by decide +kernel
theorem d_rstring_168 : decode prog_14_method_43_code 168 = .ok (.bipush 110, 2) := by decide +kernel
theorem d_rstring_170 : decode prog_14_method_43_code 170 = .ok (.if_icmp .eq 31, 3) := by decide +kernel
theorem d_rstring_201 : decode prog_14_method_43_code 201 = .ok (.iload 5, 2) := by decide +kernel
theorem d_rstring_203 : decode prog_14_method_43_code 203 = .ok (.bipush 110, 2) := by decide +kernel
theorem d_rstring_205 : decode prog_14_method_43_code 205 = .ok (.if_icmp .ne 8, 3) := by decide +kernel
theorem d_rstring_213 : decode prog_14_method_43_code 213 = .ok (.iload 5, 2) := by decide +kernel
theorem d_rstring_215 : decode prog_14_method_43_code 215 = .ok (.bipush 116, 2) := by decide +kernel
theorem d_rstring_217 : decode prog_14_method_43_code 217 = .ok (.if_icmp .ne 8, 3) := by decide +kernel
theorem d_rstring_225 : decode prog_14_method_43_code 225 = .ok (.iload 5, 2) := by decide +kernel
theorem d_rstring_227 : decode prog_14_method_43_code 227 = .ok (.istore_n 3, 1) := by decide +kernel
theorem d_rstring_228 : decode prog_14_method_43_code 228 = .ok (.goto 8, 3) := by decide +kernel
theorem d_rstring_236 : decode prog_14_method_43_code 236 = .ok (.aload_n 0, 1) := by decide +kernel
theorem d_rstring_237 : decode prog_14_method_43_code 237 = .ok (.getfield 324, 3) := by decide +kernel
theorem d_rstring_240 : decode prog_14_method_43_code 240 = .ok (.ifCond .ne 13, 3) := by decide +kernel
theorem d_rstring_253 : decode prog_14_method_43_code 253 = .ok (.goto 13, 3) := by decide +kernel
set_option maxHeartbeats 4000000 in
set_option maxRecDepth 100000 in
theorem w_rstring_J253 {p : Program} {l : Launch} {e : Env} {s : State} {m : MethodId} {args : Array Value} {below : List Frame} {meth : Method} {c : Code} {A : Nat → Prop} {D : va_G} {md : Nat → Nat} {mc : Nat → ClassId} {Q : State → Prop} (hC : MCx "JoinedTreesModel" prog_14_method_43_code 8 (some .int) p s m args meth c A D mc) {S : MS} {x1 : Int32} {x2 : Int32} {x3 : Int32} {o : ((MS × Int32 × Int32) ⊕ ((MS × Int32) ⊕ (MS × Int32)))} (Heq : m_rstring_J253 S x1 x2 x3 = some o) (Ka : ∀ b : MS × Int32 × Int32, o = .inl b → ∀ (H : Heap) (locs : List Loc) (ls : Array Slot), va_P D cls (mw md mc b.1) H → va_D A (mw md mc b.1) → va_S A s.heap H locs → lv_has ls 8 [(0, .ref (md 100)), (1, .int b.2.1), (2, .int b.2.2)] → W p l e ({ frames := 1, cells := 0, slots := 0, locals := 20 }) s m args below meth c H locs 0 0 Q (F0 m 5 ls [])) (K0 : ∀ b : MS × Int32, o = .inr (.inl b) → ∀ (H : Heap) (locs : List Loc) (ls : Array Slot), va_P D cls (mw md mc b.1) H → va_D A (mw md mc b.1) → va_S A s.heap H locs → lv_has ls 8 [(0, .ref (md 100)), (2, .int b.2)] → W p l e ({ frames := 1, cells := 0, slots := 0, locals := 20 }) s m args below meth c H locs 0 0 Q (F0 m 299 ls [])) (Kr : ∀ r : MS × Int32, o = .inr (.inr r) → ∀ (pc : Nat) (H : Heap) (locs : List Loc) (ls : Array Slot), decode prog_14_method_43_code pc = .ok (.ireturn, 1) → va_P D cls (mw md mc r.1) H → va_D A (mw md mc r.1) → va_S A s.heap H locs → W p l e ({ frames := 1, cells := 0, slots := 0, locals := 20 }) s m args below meth c H locs 0 0 Q (F0 m pc ls [.int r.2])) : ∀ (H : Heap) (locs : List Loc) (ls : Array Slot), va_P D cls (mw md mc S) H → va_D A (mw md mc S) → va_S A s.heap H locs → lv_has ls 8 [(0, .ref (md 100)), (1, .int x1), (2, .int x2), (3, .int x3)] → W p l e ({ frames := 1, cells := 0, slots := 0, locals := 20 }) s m args below meth c H locs 0 0 Q (F0 m 253 ls []) := by
  intro H locs ls hP hD hS hl
  obtain ⟨hx, hb, hr, hml, hown, hts, hK, hA⟩ := id hC
  unfold m_rstring_J253 at Heq
  refine lv_goto (tgt := 266) hx hb d_rstring_253 (by decide) ?_
  exact w_rstring_J266 hC Heq Ka K0 Kr _ _ _ hP hD hS (lv_sub hl [0, 1, 2, 3] rfl)
def m_rstring_J236 (S : MS) (x1 : Int32) (x2 : Int32) (x3 : Int32) : Option ((MS × Int32 × Int32) ⊕ ((MS × Int32) ⊕ (MS × Int32))) := (if S.i 68 = 0 then m_rstring_J253 (S.setI 66 ((S.i 66) + 1)) x1 x2 x3 else m_rstring_J253 S x1 x2 x3)
theorem d_rstring_243 : decode prog_14_method_43_code 243 = .ok (.aload_n 0, 1) := by decide +kernel
theorem d_rstring_244 : decode prog_14_method_43_code 244 = .ok (.dup, 1) := by decide +kernel
theorem d_rstring_245 : decode prog_14_method_43_code 245 = .ok (.getfield 313, 3) := by decide +kernel
theorem d_rstring_248 : decode prog_14_method_43_code 248 = .ok (.iconst 1, 1) := by decide +kernel
theorem d_rstring_249 : decode prog_14_method_43_code 249 = .ok (.iadd, 1) := by decide +kernel
theorem d_rstring_250 : decode prog_14_method_43_code 250 = .ok (.putfield 313, 3) := by decide +kernel
set_option maxHeartbeats 4000000 in
set_option maxRecDepth 100000 in
theorem w_rstring_J236 {p : Program} {l : Launch} {e : Env} {s : State} {m : MethodId} {args : Array Value} {below : List Frame} {meth : Method} {c : Code} {A : Nat → Prop} {D : va_G} {md : Nat → Nat} {mc : Nat → ClassId} {Q : State → Prop} (hC : MCx "JoinedTreesModel" prog_14_method_43_code 8 (some .int) p s m args meth c A D mc) {S : MS} {x1 : Int32} {x2 : Int32} {x3 : Int32} {o : ((MS × Int32 × Int32) ⊕ ((MS × Int32) ⊕ (MS × Int32)))} (Heq : m_rstring_J236 S x1 x2 x3 = some o) (Ka : ∀ b : MS × Int32 × Int32, o = .inl b → ∀ (H : Heap) (locs : List Loc) (ls : Array Slot), va_P D cls (mw md mc b.1) H → va_D A (mw md mc b.1) → va_S A s.heap H locs → lv_has ls 8 [(0, .ref (md 100)), (1, .int b.2.1), (2, .int b.2.2)] → W p l e ({ frames := 1, cells := 0, slots := 0, locals := 20 }) s m args below meth c H locs 0 0 Q (F0 m 5 ls [])) (K0 : ∀ b : MS × Int32, o = .inr (.inl b) → ∀ (H : Heap) (locs : List Loc) (ls : Array Slot), va_P D cls (mw md mc b.1) H → va_D A (mw md mc b.1) → va_S A s.heap H locs → lv_has ls 8 [(0, .ref (md 100)), (2, .int b.2)] → W p l e ({ frames := 1, cells := 0, slots := 0, locals := 20 }) s m args below meth c H locs 0 0 Q (F0 m 299 ls [])) (Kr : ∀ r : MS × Int32, o = .inr (.inr r) → ∀ (pc : Nat) (H : Heap) (locs : List Loc) (ls : Array Slot), decode prog_14_method_43_code pc = .ok (.ireturn, 1) → va_P D cls (mw md mc r.1) H → va_D A (mw md mc r.1) → va_S A s.heap H locs → W p l e ({ frames := 1, cells := 0, slots := 0, locals := 20 }) s m args below meth c H locs 0 0 Q (F0 m pc ls [.int r.2])) : ∀ (H : Heap) (locs : List Loc) (ls : Array Slot), va_P D cls (mw md mc S) H → va_D A (mw md mc S) → va_S A s.heap H locs → lv_has ls 8 [(0, .ref (md 100)), (1, .int x1), (2, .int x2), (3, .int x3)] → W p l e ({ frames := 1, cells := 0, slots := 0, locals := 20 }) s m args below meth c H locs 0 0 Q (F0 m 236 ls []) := by
  intro H locs ls hP hD hS hl
  obtain ⟨hx, hb, hr, hml, hown, hts, hK, hA⟩ := id hC
  unfold m_rstring_J236 at Heq
  refine lv_aload_n hx hb d_rstring_236 rfl (lv_at hl 0 rfl) ?_
  refine va_get (D := D) (ci := 12) (v := .int (S.i 68)) (C := R_MM) (T := F_MM) (N := 77) hx hb hts i_MM hown hK hP 0 rfl rfl 68 (by decide) (hts _ kw_1450) (fun _ h9 => h9) rfl d_rstring_237 ?_
  refine lv_if_ne (tgt := 253) hx hb d_rstring_240 (by decide) (fun c_1 => ?_) (fun c_1 => ?_)
  · replace Heq := (if_neg c_1).symm.trans Heq
    exact w_rstring_J253 hC Heq Ka K0 Kr _ _ _ hP hD hS (lv_sub hl [0, 1, 2, 3] rfl)
  · replace Heq := (if_pos c_1).symm.trans Heq
    refine lv_aload_n hx hb d_rstring_243 rfl (lv_at hl 0 rfl) ?_
    refine lv_dup hx hb d_rstring_244 rfl ?_
    refine va_get (D := D) (ci := 12) (v := .int (S.i 66)) (C := R_MM) (T := F_MM) (N := 77) hx hb hts i_MM hown hK hP 0 rfl rfl 66 (by decide) (hts _ kw_1448) (fun _ h9 => h9) rfl d_rstring_245 ?_
    refine lv_iconst (v := 1) hx hb d_rstring_248 (by decide) ?_
    refine lv_iadd hx hb d_rstring_249 ?_
    refine w_i (y := (S.i 66) + 1) rfl ?_
    refine va_put (D := D) (ci := 12) (v := .int ((S.i 66) + 1)) (ty := .int) (C := R_MM) (T := F_MM) (N := 77) hx hb hts i_MM t_MM t_MM_ok n_MM hown hK hP hD hS 0 rfl rfl 66 (by decide) (hts _ kw_1448) (fun _ h9 => h9) rfl (by decide +kernel) rfl rfl (Nat.le_of_ble_eq_true rfl) d_rstring_250 (fun H locs hP hD hS => ?_)
    rw [mw_I66] at hP hD
    exact w_rstring_J253 hC Heq Ka K0 Kr _ _ _ hP hD hS (lv_sub hl [0, 1, 2, 3] rfl)
def m_rstring_J227 (S : MS) (x1 : Int32) (x2 : Int32) (t0 : Int32) : Option ((MS × Int32 × Int32) ⊕ ((MS × Int32) ⊕ (MS × Int32))) := m_rstring_J236 S x1 x2 t0
set_option maxHeartbeats 4000000 in
set_option maxRecDepth 100000 in
theorem w_rstring_J227 {p : Program} {l : Launch} {e : Env} {s : State} {m : MethodId} {args : Array Value} {below : List Frame} {meth : Method} {c : Code} {A : Nat → Prop} {D : va_G} {md : Nat → Nat} {mc : Nat → ClassId} {Q : State → Prop} (hC : MCx "JoinedTreesModel" prog_14_method_43_code 8 (some .int) p s m args meth c A D mc) {S : MS} {x1 : Int32} {x2 : Int32} {t0 : Int32} {o : ((MS × Int32 × Int32) ⊕ ((MS × Int32) ⊕ (MS × Int32)))} (Heq : m_rstring_J227 S x1 x2 t0 = some o) (Ka : ∀ b : MS × Int32 × Int32, o = .inl b → ∀ (H : Heap) (locs : List Loc) (ls : Array Slot), va_P D cls (mw md mc b.1) H → va_D A (mw md mc b.1) → va_S A s.heap H locs → lv_has ls 8 [(0, .ref (md 100)), (1, .int b.2.1), (2, .int b.2.2)] → W p l e ({ frames := 1, cells := 0, slots := 0, locals := 20 }) s m args below meth c H locs 0 0 Q (F0 m 5 ls [])) (K0 : ∀ b : MS × Int32, o = .inr (.inl b) → ∀ (H : Heap) (locs : List Loc) (ls : Array Slot), va_P D cls (mw md mc b.1) H → va_D A (mw md mc b.1) → va_S A s.heap H locs → lv_has ls 8 [(0, .ref (md 100)), (2, .int b.2)] → W p l e ({ frames := 1, cells := 0, slots := 0, locals := 20 }) s m args below meth c H locs 0 0 Q (F0 m 299 ls [])) (Kr : ∀ r : MS × Int32, o = .inr (.inr r) → ∀ (pc : Nat) (H : Heap) (locs : List Loc) (ls : Array Slot), decode prog_14_method_43_code pc = .ok (.ireturn, 1) → va_P D cls (mw md mc r.1) H → va_D A (mw md mc r.1) → va_S A s.heap H locs → W p l e ({ frames := 1, cells := 0, slots := 0, locals := 20 }) s m args below meth c H locs 0 0 Q (F0 m pc ls [.int r.2])) : ∀ (H : Heap) (locs : List Loc) (ls : Array Slot), va_P D cls (mw md mc S) H → va_D A (mw md mc S) → va_S A s.heap H locs → lv_has ls 8 [(0, .ref (md 100)), (1, .int x1), (2, .int x2)] → W p l e ({ frames := 1, cells := 0, slots := 0, locals := 20 }) s m args below meth c H locs 0 0 Q (F0 m 227 ls [.int t0]) := by
  intro H locs ls hP hD hS hl
  obtain ⟨hx, hb, hr, hml, hown, hts, hK, hA⟩ := id hC
  unfold m_rstring_J227 at Heq
  refine lv_istore_n (lv' := [(3, .int t0), (0, .ref (md 100)), (1, .int x1), (2, .int x2)]) hx hb d_rstring_227 rfl hl (by decide) rfl (fun ls hl => ?_)
  refine lv_goto (tgt := 236) hx hb d_rstring_228 (by decide) ?_
  exact w_rstring_J236 hC Heq Ka K0 Kr _ _ _ hP hD hS (lv_sub hl [1, 2, 3, 0] rfl)
def m_rstring_J201 (S : MS) (x1 : Int32) (x2 : Int32) (x5 : Int32) : Option ((MS × Int32 × Int32) ⊕ ((MS × Int32) ⊕ (MS × Int32))) := (if x5 = 110 then m_rstring_J227 S x1 x2 10 else (if x5 = 116 then m_rstring_J227 S x1 x2 9 else m_rstring_J227 S x1 x2 x5))
theorem d_rstring_220 : decode prog_14_method_43_code 220 = .ok (.bipush 9, 2) := by decide +kernel
theorem d_rstring_222 : decode prog_14_method_43_code 222 = .ok (.goto 5, 3) := by decide +kernel
theorem d_rstring_208 : decode prog_14_method_43_code 208 = .ok (.bipush 10, 2) := by decide +kernel
theorem d_rstring_210 : decode prog_14_method_43_code 210 = .ok (.goto 17, 3) := by decide +kernel
set_option maxHeartbeats 4000000 in
set_option maxRecDepth 100000 in
theorem w_rstring_J201 {p : Program} {l : Launch} {e : Env} {s : State} {m : MethodId} {args : Array Value} {below : List Frame} {meth : Method} {c : Code} {A : Nat → Prop} {D : va_G} {md : Nat → Nat} {mc : Nat → ClassId} {Q : State → Prop} (hC : MCx "JoinedTreesModel" prog_14_method_43_code 8 (some .int) p s m args meth c A D mc) {S : MS} {x1 : Int32} {x2 : Int32} {x5 : Int32} {o : ((MS × Int32 × Int32) ⊕ ((MS × Int32) ⊕ (MS × Int32)))} (Heq : m_rstring_J201 S x1 x2 x5 = some o) (Ka : ∀ b : MS × Int32 × Int32, o = .inl b → ∀ (H : Heap) (locs : List Loc) (ls : Array Slot), va_P D cls (mw md mc b.1) H → va_D A (mw md mc b.1) → va_S A s.heap H locs → lv_has ls 8 [(0, .ref (md 100)), (1, .int b.2.1), (2, .int b.2.2)] → W p l e ({ frames := 1, cells := 0, slots := 0, locals := 20 }) s m args below meth c H locs 0 0 Q (F0 m 5 ls [])) (K0 : ∀ b : MS × Int32, o = .inr (.inl b) → ∀ (H : Heap) (locs : List Loc) (ls : Array Slot), va_P D cls (mw md mc b.1) H → va_D A (mw md mc b.1) → va_S A s.heap H locs → lv_has ls 8 [(0, .ref (md 100)), (2, .int b.2)] → W p l e ({ frames := 1, cells := 0, slots := 0, locals := 20 }) s m args below meth c H locs 0 0 Q (F0 m 299 ls [])) (Kr : ∀ r : MS × Int32, o = .inr (.inr r) → ∀ (pc : Nat) (H : Heap) (locs : List Loc) (ls : Array Slot), decode prog_14_method_43_code pc = .ok (.ireturn, 1) → va_P D cls (mw md mc r.1) H → va_D A (mw md mc r.1) → va_S A s.heap H locs → W p l e ({ frames := 1, cells := 0, slots := 0, locals := 20 }) s m args below meth c H locs 0 0 Q (F0 m pc ls [.int r.2])) : ∀ (H : Heap) (locs : List Loc) (ls : Array Slot), va_P D cls (mw md mc S) H → va_D A (mw md mc S) → va_S A s.heap H locs → lv_has ls 8 [(0, .ref (md 100)), (1, .int x1), (2, .int x2), (5, .int x5)] → W p l e ({ frames := 1, cells := 0, slots := 0, locals := 20 }) s m args below meth c H locs 0 0 Q (F0 m 201 ls []) := by
  intro H locs ls hP hD hS hl
  obtain ⟨hx, hb, hr, hml, hown, hts, hK, hA⟩ := id hC
  unfold m_rstring_J201 at Heq
  refine lv_iload hx hb d_rstring_201 (lv_at hl 3 rfl) ?_
  refine lv_bipush (v := 110) hx hb d_rstring_203 (by decide) ?_
  refine lv_icmp_ne (tgt := 213) hx hb d_rstring_205 (by decide) (fun c_1 => ?_) (fun c_1 => ?_)
  · replace Heq := (if_neg c_1).symm.trans Heq
    refine lv_iload hx hb d_rstring_213 (lv_at hl 3 rfl) ?_
    refine lv_bipush (v := 116) hx hb d_rstring_215 (by decide) ?_
    refine lv_icmp_ne (tgt := 225) hx hb d_rstring_217 (by decide) (fun c_2 => ?_) (fun c_2 => ?_)
    · replace Heq := (if_neg c_2).symm.trans Heq
      refine lv_iload hx hb d_rstring_225 (lv_at hl 3 rfl) ?_
      exact w_rstring_J227 hC Heq Ka K0 Kr _ _ _ hP hD hS (lv_sub hl [0, 1, 2] rfl)
    · replace Heq := (if_pos c_2).symm.trans Heq
      refine lv_bipush (v := 9) hx hb d_rstring_220 (by decide) ?_
      refine lv_goto (tgt := 227) hx hb d_rstring_222 (by decide) ?_
      exact w_rstring_J227 hC Heq Ka K0 Kr _ _ _ hP hD hS (lv_sub hl [0, 1, 2] rfl)
  · replace Heq := (if_pos c_1).symm.trans Heq
    refine lv_bipush (v := 10) hx hb d_rstring_208 (by decide) ?_
    refine lv_goto (tgt := 227) hx hb d_rstring_210 (by decide) ?_
    exact w_rstring_J227 hC Heq Ka K0 Kr _ _ _ hP hD hS (lv_sub hl [0, 1, 2] rfl)
def m_rstring_J163 (S : MS) (x1 : Int32) (x2 : Int32) (x3 : Int32) : Option ((MS × Int32 × Int32) ⊕ ((MS × Int32) ⊕ (MS × Int32))) := m_rstring_J236 S x1 x2 x3
theorem d_rstring_173 : decode prog_14_method_43_code 173 = .ok (.iload 5, 2) := by decide +kernel
theorem d_rstring_175 : decode prog_14_method_43_code 175 = .ok (.bipush 116, 2) := by decide +kernel
theorem d_rstring_177 : decode prog_14_method_43_code 177 = .ok (.if_icmp .eq 24, 3) := by decide +kernel
theorem d_rstring_180 : decode prog_14_method_43_code 180 = .ok (.iload 5, 2) := by decide +kernel
theorem d_rstring_182 : decode prog_14_method_43_code 182 = .ok (.bipush 34, 2) := by decide +kernel
theorem d_rstring_184 : decode prog_14_method_43_code 184 = .ok (.if_icmp .eq 17, 3) := by decide +kernel
theorem d_rstring_187 : decode prog_14_method_43_code 187 = .ok (.iload 5, 2) := by decide +kernel
theorem d_rstring_189 : decode prog_14_method_43_code 189 = .ok (.bipush 92, 2) := by decide +kernel
theorem d_rstring_191 : decode prog_14_method_43_code 191 = .ok (.if_icmp .eq 10, 3) := by decide +kernel
theorem d_rstring_194 : decode prog_14_method_43_code 194 = .ok (.iload 5, 2) := by decide +kernel
theorem d_rstring_196 : decode prog_14_method_43_code 196 = .ok (.bipush 47, 2) := by decide +kernel
theorem d_rstring_198 : decode prog_14_method_43_code 198 = .ok (.if_icmp .ne 33, 3) := by decide +kernel
theorem d_rstring_231 : decode prog_14_method_43_code 231 = .ok (.aload_n 0, 1) := by decide +kernel
theorem d_rstring_232 : decode prog_14_method_43_code 232 = .ok (.iconst 1, 1) := by decide +kernel
theorem d_rstring_233 : decode prog_14_method_43_code 233 = .ok (.putfield 324, 3) := by decide +kernel
theorem d_rstring_91 : decode prog_14_method_43_code 91 = .ok (.aload_n 0, 1) := by decide +kernel
theorem d_rstring_92 : decode prog_14_method_43_code 92 = .ok (.dup, 1) := by decide +kernel
theorem d_rstring_93 : decode prog_14_method_43_code 93 = .ok (.getfield 313, 3) := by decide +kernel
theorem d_rstring_96 : decode prog_14_method_43_code 96 = .ok (.iconst 1, 1) := by decide +kernel
theorem d_rstring_97 : decode prog_14_method_43_code 97 = .ok (.iadd, 1) := by decide +kernel
theorem d_rstring_98 : decode prog_14_method_43_code 98 = .ok (.putfield 313, 3) := by decide +kernel
theorem d_rstring_101 : decode prog_14_method_43_code 101 = .ok (.aload_n 0, 1) := by decide +kernel
theorem d_rstring_102 : decode prog_14_method_43_code 102 = .ok (.invokevirtual 316, 3) := by decide +kernel
theorem d_rstring_105 : decode prog_14_method_43_code 105 = .ok (.invokestatic 335, 3) := by decide +kernel
theorem d_rstring_108 : decode prog_14_method_43_code 108 = .ok (.istore 6, 2) := by decide +kernel
theorem d_rstring_110 : decode prog_14_method_43_code 110 = .ok (.iload 6, 2) := by decide +kernel
theorem d_rstring_112 : decode prog_14_method_43_code 112 = .ok (.ifCond .ge 10, 3) := by decide +kernel
theorem d_rstring_122 : decode prog_14_method_43_code 122 = .ok (.aload_n 0, 1) := by decide +kernel
theorem d_rstring_123 : decode prog_14_method_43_code 123 = .ok (.dup, 1) := by decide +kernel
theorem d_rstring_124 : decode prog_14_method_43_code 124 = .ok (.getfield 313, 3) := by decide +kernel
theorem d_rstring_127 : decode prog_14_method_43_code 127 = .ok (.iconst 1, 1) := by decide +kernel
theorem d_rstring_128 : decode prog_14_method_43_code 128 = .ok (.iadd, 1) := by decide +kernel
theorem d_rstring_129 : decode prog_14_method_43_code 129 = .ok (.putfield 313, 3) := by decide +kernel
theorem d_rstring_132 : decode prog_14_method_43_code 132 = .ok (.aload_n 0, 1) := by decide +kernel
theorem d_rstring_133 : decode prog_14_method_43_code 133 = .ok (.invokevirtual 316, 3) := by decide +kernel
theorem d_rstring_136 : decode prog_14_method_43_code 136 = .ok (.invokestatic 335, 3) := by decide +kernel
theorem d_rstring_139 : decode prog_14_method_43_code 139 = .ok (.istore 7, 2) := by decide +kernel
theorem d_rstring_141 : decode prog_14_method_43_code 141 = .ok (.iload 7, 2) := by decide +kernel
theorem d_rstring_143 : decode prog_14_method_43_code 143 = .ok (.ifCond .ge 11, 3) := by decide +kernel
theorem d_rstring_154 : decode prog_14_method_43_code 154 = .ok (.bipush 16, 2) := by decide +kernel
theorem d_rstring_156 : decode prog_14_method_43_code 156 = .ok (.iload 6, 2) := by decide +kernel
theorem d_rstring_158 : decode prog_14_method_43_code 158 = .ok (.imul, 1) := by decide +kernel
theorem d_rstring_159 : decode prog_14_method_43_code 159 = .ok (.iload 7, 2) := by decide +kernel
theorem d_rstring_161 : decode prog_14_method_43_code 161 = .ok (.iadd, 1) := by decide +kernel
theorem d_rstring_162 : decode prog_14_method_43_code 162 = .ok (.istore_n 3, 1) := by decide +kernel
theorem d_rstring_163 : decode prog_14_method_43_code 163 = .ok (.goto 73, 3) := by decide +kernel
set_option maxHeartbeats 4000000 in
set_option maxRecDepth 100000 in
theorem w_rstring_J163 {p : Program} {l : Launch} {e : Env} {s : State} {m : MethodId} {args : Array Value} {below : List Frame} {meth : Method} {c : Code} {A : Nat → Prop} {D : va_G} {md : Nat → Nat} {mc : Nat → ClassId} {Q : State → Prop} (hC : MCx "JoinedTreesModel" prog_14_method_43_code 8 (some .int) p s m args meth c A D mc) {S : MS} {x1 : Int32} {x2 : Int32} {x3 : Int32} {o : ((MS × Int32 × Int32) ⊕ ((MS × Int32) ⊕ (MS × Int32)))} (Heq : m_rstring_J163 S x1 x2 x3 = some o) (Ka : ∀ b : MS × Int32 × Int32, o = .inl b → ∀ (H : Heap) (locs : List Loc) (ls : Array Slot), va_P D cls (mw md mc b.1) H → va_D A (mw md mc b.1) → va_S A s.heap H locs → lv_has ls 8 [(0, .ref (md 100)), (1, .int b.2.1), (2, .int b.2.2)] → W p l e ({ frames := 1, cells := 0, slots := 0, locals := 20 }) s m args below meth c H locs 0 0 Q (F0 m 5 ls [])) (K0 : ∀ b : MS × Int32, o = .inr (.inl b) → ∀ (H : Heap) (locs : List Loc) (ls : Array Slot), va_P D cls (mw md mc b.1) H → va_D A (mw md mc b.1) → va_S A s.heap H locs → lv_has ls 8 [(0, .ref (md 100)), (2, .int b.2)] → W p l e ({ frames := 1, cells := 0, slots := 0, locals := 20 }) s m args below meth c H locs 0 0 Q (F0 m 299 ls [])) (Kr : ∀ r : MS × Int32, o = .inr (.inr r) → ∀ (pc : Nat) (H : Heap) (locs : List Loc) (ls : Array Slot), decode prog_14_method_43_code pc = .ok (.ireturn, 1) → va_P D cls (mw md mc r.1) H → va_D A (mw md mc r.1) → va_S A s.heap H locs → W p l e ({ frames := 1, cells := 0, slots := 0, locals := 20 }) s m args below meth c H locs 0 0 Q (F0 m pc ls [.int r.2])) : ∀ (H : Heap) (locs : List Loc) (ls : Array Slot), va_P D cls (mw md mc S) H → va_D A (mw md mc S) → va_S A s.heap H locs → lv_has ls 8 [(0, .ref (md 100)), (1, .int x1), (2, .int x2), (3, .int x3)] → W p l e ({ frames := 1, cells := 0, slots := 0, locals := 20 }) s m args below meth c H locs 0 0 Q (F0 m 163 ls []) := by
  intro H locs ls hP hD hS hl
  obtain ⟨hx, hb, hr, hml, hown, hts, hK, hA⟩ := id hC
  unfold m_rstring_J163 at Heq
  refine lv_goto (tgt := 236) hx hb d_rstring_163 (by decide) ?_
  exact w_rstring_J236 hC Heq Ka K0 Kr _ _ _ hP hD hS (lv_sub hl [0, 1, 2, 3] rfl)
def m_rstring_B5 (S : MS) (x1 : Int32) (x2 : Int32) : Option ((MS × Int32 × Int32) ⊕ ((MS × Int32) ⊕ (MS × Int32))) := (if S.i 68 = 0 then ob (m_rsign S) (fun o_2 => (if o_2.2 = 34 then some (.inr (.inl (o_2.1, x2))) else ob (m_rsign o_2.1) (fun o_5 => (if o_5.2 < 32 then m_rstring_J54 o_5.1 x1 x2 o_5.2 else (if 126 < o_5.2 then m_rstring_J54 o_5.1 x1 x2 o_5.2 else (if (o_5.1.i 65) - x2 = x1 then m_rstring_J54 o_5.1 x1 x2 o_5.2 else (if o_5.2 = 92 then ob (m_rsign (o_5.1.setI 66 ((o_5.1.i 66) + 1))) (fun o_11 => (if o_11.2 = 120 then ob (m_rsign (o_11.1.setI 66 ((o_11.1.i 66) + 1))) (fun o_19 => ob (m_rhex o_19.1 o_19.2) (fun o_21 => (if 0 ≤ o_21.2 then ob (m_rsign (o_21.1.setI 66 ((o_21.1.i 66) + 1))) (fun o_24 => ob (m_rhex o_24.1 o_24.2) (fun o_26 => (if 0 ≤ o_26.2 then m_rstring_J163 o_26.1 x1 x2 ((16 * o_21.2) + o_26.2) else m_rstring_J163 (o_26.1.setI 68 1) x1 x2 o_5.2))) else some (.inr (.inr ((o_21.1.setI 68 1), x2)))))) else (if o_11.2 = 110 then m_rstring_J201 o_11.1 x1 x2 o_11.2 else (if o_11.2 = 116 then m_rstring_J201 o_11.1 x1 x2 o_11.2 else (if o_11.2 = 34 then m_rstring_J201 o_11.1 x1 x2 o_11.2 else (if o_11.2 = 92 then m_rstring_J201 o_11.1 x1 x2 o_11.2 else (if o_11.2 = 47 then m_rstring_J201 o_11.1 x1 x2 o_11.2 else m_rstring_J236 (o_11.1.setI 68 1) x1 x2 o_5.2))))))) else m_rstring_J266 (o_5.1.setI 66 ((o_5.1.i 66) + 1)) x1 x2 o_5.2))))))) else some (.inr (.inl (S, x2))))
theorem d_rstring_146 : decode prog_14_method_43_code 146 = .ok (.aload_n 0, 1) := by decide +kernel
theorem d_rstring_147 : decode prog_14_method_43_code 147 = .ok (.iconst 1, 1) := by decide +kernel
theorem d_rstring_148 : decode prog_14_method_43_code 148 = .ok (.putfield 324, 3) := by decide +kernel
theorem d_rstring_151 : decode prog_14_method_43_code 151 = .ok (.goto 12, 3) := by decide +kernel
theorem d_rstring_115 : decode prog_14_method_43_code 115 = .ok (.aload_n 0, 1) := by decide +kernel
theorem d_rstring_116 : decode prog_14_method_43_code 116 = .ok (.iconst 1, 1) := by decide +kernel
theorem d_rstring_117 : decode prog_14_method_43_code 117 = .ok (.putfield 324, 3) := by decide +kernel
theorem d_rstring_120 : decode prog_14_method_43_code 120 = .ok (.iload_n 2, 1) := by decide +kernel
theorem d_rstring_121 : decode prog_14_method_43_code 121 = .ok (.ireturn, 1) := by decide +kernel
set_option maxHeartbeats 4000000 in
set_option maxRecDepth 100000 in
theorem w_rstring_B5 {p : Program} {l : Launch} {e : Env} {s : State} {m : MethodId} {args : Array Value} {below : List Frame} {meth : Method} {c : Code} {A : Nat → Prop} {D : va_G} {md : Nat → Nat} {mc : Nat → ClassId} {Q : State → Prop} (hC : MCx "JoinedTreesModel" prog_14_method_43_code 8 (some .int) p s m args meth c A D mc) {S : MS} {x1 : Int32} {x2 : Int32} {o : ((MS × Int32 × Int32) ⊕ ((MS × Int32) ⊕ (MS × Int32)))} (Heq : m_rstring_B5 S x1 x2 = some o) (Ka : ∀ b : MS × Int32 × Int32, o = .inl b → ∀ (H : Heap) (locs : List Loc) (ls : Array Slot), va_P D cls (mw md mc b.1) H → va_D A (mw md mc b.1) → va_S A s.heap H locs → lv_has ls 8 [(0, .ref (md 100)), (1, .int b.2.1), (2, .int b.2.2)] → W p l e ({ frames := 1, cells := 0, slots := 0, locals := 20 }) s m args below meth c H locs 0 0 Q (F0 m 5 ls [])) (K0 : ∀ b : MS × Int32, o = .inr (.inl b) → ∀ (H : Heap) (locs : List Loc) (ls : Array Slot), va_P D cls (mw md mc b.1) H → va_D A (mw md mc b.1) → va_S A s.heap H locs → lv_has ls 8 [(0, .ref (md 100)), (2, .int b.2)] → W p l e ({ frames := 1, cells := 0, slots := 0, locals := 20 }) s m args below meth c H locs 0 0 Q (F0 m 299 ls [])) (Kr : ∀ r : MS × Int32, o = .inr (.inr r) → ∀ (pc : Nat) (H : Heap) (locs : List Loc) (ls : Array Slot), decode prog_14_method_43_code pc = .ok (.ireturn, 1) → va_P D cls (mw md mc r.1) H → va_D A (mw md mc r.1) → va_S A s.heap H locs → W p l e ({ frames := 1, cells := 0, slots := 0, locals := 20 }) s m args below meth c H locs 0 0 Q (F0 m pc ls [.int r.2])) : ∀ (H : Heap) (locs : List Loc) (ls : Array Slot), va_P D cls (mw md mc S) H → va_D A (mw md mc S) → va_S A s.heap H locs → lv_has ls 8 [(0, .ref (md 100)), (1, .int x1), (2, .int x2)] → W p l e ({ frames := 1, cells := 0, slots := 0, locals := 20 }) s m args below meth c H locs 0 0 Q (F0 m 5 ls []) := by
  intro H locs ls hP hD hS hl
  obtain ⟨hx, hb, hr, hml, hown, hts, hK, hA⟩ := id hC
  unfold m_rstring_B5 at Heq
  refine lv_aload_n hx hb d_rstring_5 rfl (lv_at hl 0 rfl) ?_
  refine va_get (D := D) (ci := 12) (v := .int (S.i 68)) (C := R_MM) (T := F_MM) (N := 77) hx hb hts i_MM hown hK hP 0 rfl rfl 68 (by decide) (hts _ kw_1450) (fun _ h9 => h9) rfl d_rstring_6 ?_
  refine lv_if_ne (tgt := 299) hx hb d_rstring_9 (by decide) (fun c_1 => ?_) (fun c_1 => ?_)
  · replace Heq := (if_neg c_1).symm.trans Heq
    exact K0 _ (Option.some.inj Heq).symm _ _ _ hP hD hS (lv_sub hl [0, 2] rfl)
  · replace Heq := (if_pos c_1).symm.trans Heq
    refine lv_aload_n hx hb d_rstring_12 rfl (lv_at hl 0 rfl) ?_
    obtain ⟨o_2, h_3, Heq⟩ := ob_some Heq
    have hFc := fr_all hD hS hA
    refine va_calli (va_runV (As := []) (rest := []) ⟨hx, hb, hml, hown, hts⟩ (g_rsign l D H.size h_3) (cw_v 0 hts kw_1777 kw_1774 kw_1776 kp_57 kw_11 rfl rfl (by decide +kernel) ⟨Nat.le_of_ble_eq_true rfl, Nat.le_of_ble_eq_true rfl⟩) ⟨g_blind, va_recv hK hP (ci := 12) (q0 := 0) rfl rfl, fun U hU hW => g_pre hU hW hP hK hD⟩ rfl rfl hl.1 rfl (lv_room (Nat.le_of_ble_eq_true rfl)) d_rstring_13 ⟨Nat.le_of_ble_eq_true rfl, Nat.le_of_ble_eq_true rfl⟩) hS (fun q _ h => hFc q h) hFc (fun rz u t H1 locs ht hvm hw hB hz1 hk1 hS => ?_)
    obtain ⟨hP, -, hD1⟩ := hB
    rw [ht] at hP
    have hD := hD1.weaken (fun _ q _ h => hFc q.1 h)
    generalize H1 = H at hP hS ⊢
    refine W.cs (cells' := 0) (slots' := 0) rfl rfl ?_
    subst hw
    refine lv_bipush (v := 34) hx hb d_rstring_16 (by decide) ?_
    refine lv_icmp_eq (tgt := 299) hx hb d_rstring_18 (by decide) (fun c_4 => ?_) (fun c_4 => ?_)
    · replace Heq := (if_pos c_4).symm.trans Heq
      exact K0 _ (Option.some.inj Heq).symm _ _ _ hP hD hS (lv_sub hl [0, 2] rfl)
    · replace Heq := (if_neg c_4).symm.trans Heq
      refine lv_aload_n hx hb d_rstring_21 rfl (lv_at hl 0 rfl) ?_
      obtain ⟨o_5, h_6, Heq⟩ := ob_some Heq
      have hFc := fr_all hD hS hA
      refine va_calli (va_runV (As := []) (rest := []) ⟨hx, hb, hml, hown, hts⟩ (g_rsign l D H.size h_6) (cw_v 0 hts kw_1777 kw_1774 kw_1776 kp_57 kw_11 rfl rfl (by decide +kernel) ⟨Nat.le_of_ble_eq_true rfl, Nat.le_of_ble_eq_true rfl⟩) ⟨g_blind, va_recv hK hP (ci := 12) (q0 := 0) rfl rfl, fun U hU hW => g_pre hU hW hP hK hD⟩ rfl rfl hl.1 rfl (lv_room (Nat.le_of_ble_eq_true rfl)) d_rstring_22 ⟨Nat.le_of_ble_eq_true rfl, Nat.le_of_ble_eq_true rfl⟩) hS (fun q _ h => hFc q h) hFc (fun rz u t H1 locs ht hvm hw hB hz1 hk1 hS => ?_)
      obtain ⟨hP, -, hD1⟩ := hB
      rw [ht] at hP
      have hD := hD1.weaken (fun _ q _ h => hFc q.1 h)
      generalize H1 = H at hP hS ⊢
      refine W.cs (cells' := 0) (slots' := 0) rfl rfl ?_
      subst hw
      refine lv_istore_n (lv' := [(3, .int o_5.2), (0, .ref (md 100)), (1, .int x1), (2, .int x2)]) hx hb d_rstring_25 rfl hl (by decide) rfl (fun ls hl => ?_)
      refine lv_aload_n hx hb d_rstring_26 rfl (lv_at hl 1 rfl) ?_
      refine va_get (D := D) (ci := 12) (v := .int (o_5.1.i 66)) (C := R_MM) (T := F_MM) (N := 77) hx hb hts i_MM hown hK hP 0 rfl rfl 66 (by decide) (hts _ kw_1448) (fun _ h9 => h9) rfl d_rstring_27 ?_
      refine lv_istore (lv' := [(4, .int (o_5.1.i 66)), (3, .int o_5.2), (0, .ref (md 100)), (1, .int x1), (2, .int x2)]) hx hb d_rstring_30 hl (by decide) rfl (fun ls hl => ?_)
      refine lv_iload_n hx hb d_rstring_32 rfl (lv_at hl 1 rfl) ?_
      refine lv_bipush (v := 32) hx hb d_rstring_33 (by decide) ?_
      refine lv_icmp_lt (tgt := 54) hx hb d_rstring_35 (by decide) (fun c_7 => ?_) (fun c_7 => ?_)
      · replace Heq := (if_pos c_7).symm.trans Heq
        exact w_rstring_J54 hC Heq Ka K0 Kr _ _ _ hP hD hS (lv_sub hl [2, 3, 4, 1] rfl)
      · replace Heq := (if_neg c_7).symm.trans Heq
        refine lv_iload_n hx hb d_rstring_38 rfl (lv_at hl 1 rfl) ?_
        refine lv_bipush (v := 126) hx hb d_rstring_39 (by decide) ?_
        refine lv_icmp_gt (tgt := 54) hx hb d_rstring_41 (by decide) (fun c_8 => ?_) (fun c_8 => ?_)
        · replace Heq := (if_pos c_8).symm.trans Heq
          exact w_rstring_J54 hC Heq Ka K0 Kr _ _ _ hP hD hS (lv_sub hl [2, 3, 4, 1] rfl)
        · replace Heq := (if_neg c_8).symm.trans Heq
          refine lv_aload_n hx hb d_rstring_44 rfl (lv_at hl 2 rfl) ?_
          refine va_get (D := D) (ci := 12) (v := .int (o_5.1.i 65)) (C := R_MM) (T := F_MM) (N := 77) hx hb hts i_MM hown hK hP 0 rfl rfl 65 (by decide) (hts _ kw_1447) (fun _ h9 => h9) rfl d_rstring_45 ?_
          refine lv_iload_n hx hb d_rstring_48 rfl (lv_at hl 4 rfl) ?_
          refine lv_isub hx hb d_rstring_49 ?_
          refine w_i (y := (o_5.1.i 65) - x2) rfl ?_
          refine lv_iload_n hx hb d_rstring_50 rfl (lv_at hl 3 rfl) ?_
          refine lv_icmp_ne (tgt := 62) hx hb d_rstring_51 (by decide) (fun c_9 => ?_) (fun c_9 => ?_)
          · replace Heq := (if_neg c_9).symm.trans Heq
            refine lv_iload_n hx hb d_rstring_62 rfl (lv_at hl 1 rfl) ?_
            refine lv_bipush (v := 92) hx hb d_rstring_63 (by decide) ?_
            refine lv_icmp_ne (tgt := 256) hx hb d_rstring_65 (by decide) (fun c_10 => ?_) (fun c_10 => ?_)
            · replace Heq := (if_neg c_10).symm.trans Heq
              refine lv_aload_n hx hb d_rstring_256 rfl (lv_at hl 2 rfl) ?_
              refine lv_dup hx hb d_rstring_257 rfl ?_
              refine va_get (D := D) (ci := 12) (v := .int (o_5.1.i 66)) (C := R_MM) (T := F_MM) (N := 77) hx hb hts i_MM hown hK hP 0 rfl rfl 66 (by decide) (hts _ kw_1448) (fun _ h9 => h9) rfl d_rstring_258 ?_
              refine lv_iconst (v := 1) hx hb d_rstring_261 (by decide) ?_
              refine lv_iadd hx hb d_rstring_262 ?_
              refine w_i (y := (o_5.1.i 66) + 1) rfl ?_
              refine va_put (D := D) (ci := 12) (v := .int ((o_5.1.i 66) + 1)) (ty := .int) (C := R_MM) (T := F_MM) (N := 77) hx hb hts i_MM t_MM t_MM_ok n_MM hown hK hP hD hS 0 rfl rfl 66 (by decide) (hts _ kw_1448) (fun _ h9 => h9) rfl (by decide +kernel) rfl rfl (Nat.le_of_ble_eq_true rfl) d_rstring_263 (fun H locs hP hD hS => ?_)
              rw [mw_I66] at hP hD
              exact w_rstring_J266 hC Heq Ka K0 Kr _ _ _ hP hD hS (lv_sub hl [2, 3, 4, 1] rfl)
            · replace Heq := (if_pos c_10).symm.trans Heq
              refine lv_aload_n hx hb d_rstring_68 rfl (lv_at hl 2 rfl) ?_
              refine lv_dup hx hb d_rstring_69 rfl ?_
              refine va_get (D := D) (ci := 12) (v := .int (o_5.1.i 66)) (C := R_MM) (T := F_MM) (N := 77) hx hb hts i_MM hown hK hP 0 rfl rfl 66 (by decide) (hts _ kw_1448) (fun _ h9 => h9) rfl d_rstring_70 ?_
              refine lv_iconst (v := 1) hx hb d_rstring_73 (by decide) ?_
              refine lv_iadd hx hb d_rstring_74 ?_
              refine w_i (y := (o_5.1.i 66) + 1) rfl ?_
              refine va_put (D := D) (ci := 12) (v := .int ((o_5.1.i 66) + 1)) (ty := .int) (C := R_MM) (T := F_MM) (N := 77) hx hb hts i_MM t_MM t_MM_ok n_MM hown hK hP hD hS 0 rfl rfl 66 (by decide) (hts _ kw_1448) (fun _ h9 => h9) rfl (by decide +kernel) rfl rfl (Nat.le_of_ble_eq_true rfl) d_rstring_75 (fun H locs hP hD hS => ?_)
              rw [mw_I66] at hP hD
              refine lv_aload_n hx hb d_rstring_78 rfl (lv_at hl 2 rfl) ?_
              obtain ⟨o_11, h_12, Heq⟩ := ob_some Heq
              have hFc := fr_all hD hS hA
              refine va_calli (va_runV (As := []) (rest := []) ⟨hx, hb, hml, hown, hts⟩ (g_rsign l D H.size h_12) (cw_v 0 hts kw_1777 kw_1774 kw_1776 kp_57 kw_11 rfl rfl (by decide +kernel) ⟨Nat.le_of_ble_eq_true rfl, Nat.le_of_ble_eq_true rfl⟩) ⟨g_blind, va_recv hK hP (ci := 12) (q0 := 0) rfl rfl, fun U hU hW => g_pre hU hW hP hK hD⟩ rfl rfl hl.1 rfl (lv_room (Nat.le_of_ble_eq_true rfl)) d_rstring_79 ⟨Nat.le_of_ble_eq_true rfl, Nat.le_of_ble_eq_true rfl⟩) hS (fun q _ h => hFc q h) hFc (fun rz u t H1 locs ht hvm hw hB hz1 hk1 hS => ?_)
              obtain ⟨hP, -, hD1⟩ := hB
              rw [ht] at hP
              have hD := hD1.weaken (fun _ q _ h => hFc q.1 h)
              generalize H1 = H at hP hS ⊢
              refine W.cs (cells' := 0) (slots' := 0) rfl rfl ?_
              subst hw
              refine lv_istore (lv' := [(5, .int o_11.2), (4, .int (o_5.1.i 66)), (3, .int o_5.2), (0, .ref (md 100)), (1, .int x1), (2, .int x2)]) hx hb d_rstring_82 hl (by decide) rfl (fun ls hl => ?_)
              refine lv_iload hx hb d_rstring_84 (lv_at hl 0 rfl) ?_
              refine lv_bipush (v := 120) hx hb d_rstring_86 (by decide) ?_
              refine lv_icmp_ne (tgt := 166) hx hb d_rstring_88 (by decide) (fun c_13 => ?_) (fun c_13 => ?_)
              · replace Heq := (if_neg c_13).symm.trans Heq
                refine lv_iload hx hb d_rstring_166 (lv_at hl 0 rfl) ?_
                refine lv_bipush (v := 110) hx hb d_rstring_168 (by decide) ?_
                refine lv_icmp_eq (tgt := 201) hx hb d_rstring_170 (by decide) (fun c_14 => ?_) (fun c_14 => ?_)
                · replace Heq := (if_pos c_14).symm.trans Heq
                  exact w_rstring_J201 hC Heq Ka K0 Kr _ _ _ hP hD hS (lv_sub hl [3, 4, 5, 0] rfl)
                · replace Heq := (if_neg c_14).symm.trans Heq
                  refine lv_iload hx hb d_rstring_173 (lv_at hl 0 rfl) ?_
                  refine lv_bipush (v := 116) hx hb d_rstring_175 (by decide) ?_
                  refine lv_icmp_eq (tgt := 201) hx hb d_rstring_177 (by decide) (fun c_15 => ?_) (fun c_15 => ?_)
                  · replace Heq := (if_pos c_15).symm.trans Heq
                    exact w_rstring_J201 hC Heq Ka K0 Kr _ _ _ hP hD hS (lv_sub hl [3, 4, 5, 0] rfl)
                  · replace Heq := (if_neg c_15).symm.trans Heq
                    refine lv_iload hx hb d_rstring_180 (lv_at hl 0 rfl) ?_
                    refine lv_bipush (v := 34) hx hb d_rstring_182 (by decide) ?_
                    refine lv_icmp_eq (tgt := 201) hx hb d_rstring_184 (by decide) (fun c_16 => ?_) (fun c_16 => ?_)
                    · replace Heq := (if_pos c_16).symm.trans Heq
                      exact w_rstring_J201 hC Heq Ka K0 Kr _ _ _ hP hD hS (lv_sub hl [3, 4, 5, 0] rfl)
                    · replace Heq := (if_neg c_16).symm.trans Heq
                      refine lv_iload hx hb d_rstring_187 (lv_at hl 0 rfl) ?_
                      refine lv_bipush (v := 92) hx hb d_rstring_189 (by decide) ?_
                      refine lv_icmp_eq (tgt := 201) hx hb d_rstring_191 (by decide) (fun c_17 => ?_) (fun c_17 => ?_)
                      · replace Heq := (if_pos c_17).symm.trans Heq
                        exact w_rstring_J201 hC Heq Ka K0 Kr _ _ _ hP hD hS (lv_sub hl [3, 4, 5, 0] rfl)
                      · replace Heq := (if_neg c_17).symm.trans Heq
                        refine lv_iload hx hb d_rstring_194 (lv_at hl 0 rfl) ?_
                        refine lv_bipush (v := 47) hx hb d_rstring_196 (by decide) ?_
                        refine lv_icmp_ne (tgt := 231) hx hb d_rstring_198 (by decide) (fun c_18 => ?_) (fun c_18 => ?_)
                        · replace Heq := (if_neg c_18).symm.trans Heq
                          refine lv_aload_n hx hb d_rstring_231 rfl (lv_at hl 3 rfl) ?_
                          refine lv_iconst (v := 1) hx hb d_rstring_232 (by decide) ?_
                          refine va_put (D := D) (ci := 12) (v := .int 1) (ty := .boolean) (C := R_MM) (T := F_MM) (N := 77) hx hb hts i_MM t_MM t_MM_ok n_MM hown hK hP hD hS 0 rfl rfl 68 (by decide) (hts _ kw_1450) (fun _ h9 => h9) rfl (by decide +kernel) (by decide) (by decide) (Nat.le_of_ble_eq_true rfl) d_rstring_233 (fun H locs hP hD hS => ?_)
                          rw [mw_I68] at hP hD
                          exact w_rstring_J236 hC Heq Ka K0 Kr _ _ _ hP hD hS (lv_sub hl [3, 4, 5, 2] rfl)
                        · replace Heq := (if_pos c_18).symm.trans Heq
                          exact w_rstring_J201 hC Heq Ka K0 Kr _ _ _ hP hD hS (lv_sub hl [3, 4, 5, 0] rfl)
              · replace Heq := (if_pos c_13).symm.trans Heq
                refine lv_aload_n hx hb d_rstring_91 rfl (lv_at hl 3 rfl) ?_
                refine lv_dup hx hb d_rstring_92 rfl ?_
                refine va_get (D := D) (ci := 12) (v := .int (o_11.1.i 66)) (C := R_MM) (T := F_MM) (N := 77) hx hb hts i_MM hown hK hP 0 rfl rfl 66 (by decide) (hts _ kw_1448) (fun _ h9 => h9) rfl d_rstring_93 ?_
                refine lv_iconst (v := 1) hx hb d_rstring_96 (by decide) ?_
                refine lv_iadd hx hb d_rstring_97 ?_
                refine w_i (y := (o_11.1.i 66) + 1) rfl ?_
                refine va_put (D := D) (ci := 12) (v := .int ((o_11.1.i 66) + 1)) (ty := .int) (C := R_MM) (T := F_MM) (N := 77) hx hb hts i_MM t_MM t_MM_ok n_MM hown hK hP hD hS 0 rfl rfl 66 (by decide) (hts _ kw_1448) (fun _ h9 => h9) rfl (by decide +kernel) rfl rfl (Nat.le_of_ble_eq_true rfl) d_rstring_98 (fun H locs hP hD hS => ?_)
                rw [mw_I66] at hP hD
                refine lv_aload_n hx hb d_rstring_101 rfl (lv_at hl 3 rfl) ?_
                obtain ⟨o_19, h_20, Heq⟩ := ob_some Heq
                have hFc := fr_all hD hS hA
                refine va_calli (va_runV (As := []) (rest := []) ⟨hx, hb, hml, hown, hts⟩ (g_rsign l D H.size h_20) (cw_v 0 hts kw_1777 kw_1774 kw_1776 kp_57 kw_11 rfl rfl (by decide +kernel) ⟨Nat.le_of_ble_eq_true rfl, Nat.le_of_ble_eq_true rfl⟩) ⟨g_blind, va_recv hK hP (ci := 12) (q0 := 0) rfl rfl, fun U hU hW => g_pre hU hW hP hK hD⟩ rfl rfl hl.1 rfl (lv_room (Nat.le_of_ble_eq_true rfl)) d_rstring_102 ⟨Nat.le_of_ble_eq_true rfl, Nat.le_of_ble_eq_true rfl⟩) hS (fun q _ h => hFc q h) hFc (fun rz u t H1 locs ht hvm hw hB hz1 hk1 hS => ?_)
                obtain ⟨hP, -, hD1⟩ := hB
                rw [ht] at hP
                have hD := hD1.weaken (fun _ q _ h => hFc q.1 h)
                generalize H1 = H at hP hS ⊢
                refine W.cs (cells' := 0) (slots' := 0) rfl rfl ?_
                subst hw
                obtain ⟨o_21, h_22, Heq⟩ := ob_some Heq
                have hFc := fr_all hD hS hA
                refine va_calli (va_runS (As := [.int o_19.2]) (rest := []) ⟨hx, hb, hml, hown, hts⟩ (g_rhex l D H.size h_22) (cw_s 1 hts kw_1793 kw_1791 kw_1792 kw_11 rfl rfl (by decide +kernel) ⟨Nat.le_of_ble_eq_true rfl, Nat.le_of_ble_eq_true rfl⟩) ⟨g_blind, fun U hU hW => g_pre hU hW hP hK hD⟩ rfl rfl hl.1 rfl (lv_room (Nat.le_of_ble_eq_true rfl)) d_rstring_105 ⟨Nat.le_of_ble_eq_true rfl, Nat.le_of_ble_eq_true rfl⟩) hS (fun q _ h => hFc q h) hFc (fun rz u t H1 locs ht hvm hw hB hz1 hk1 hS => ?_)
                obtain ⟨hP, -, hD1⟩ := hB
                rw [ht] at hP
                have hD := hD1.weaken (fun _ q _ h => hFc q.1 h)
                generalize H1 = H at hP hS ⊢
                refine W.cs (cells' := 0) (slots' := 0) rfl rfl ?_
                subst hw
                refine lv_istore (lv' := [(6, .int o_21.2), (5, .int o_11.2), (4, .int (o_5.1.i 66)), (3, .int o_5.2), (0, .ref (md 100)), (1, .int x1), (2, .int x2)]) hx hb d_rstring_108 hl (by decide) rfl (fun ls hl => ?_)
                refine lv_iload hx hb d_rstring_110 (lv_at hl 0 rfl) ?_
                refine lv_if_ge (tgt := 122) hx hb d_rstring_112 (by decide) (fun c_23 => ?_) (fun c_23 => ?_)
                · replace Heq := (if_pos c_23).symm.trans Heq
                  refine lv_aload_n hx hb d_rstring_122 rfl (lv_at hl 4 rfl) ?_
                  refine lv_dup hx hb d_rstring_123 rfl ?_
                  refine va_get (D := D) (ci := 12) (v := .int (o_21.1.i 66)) (C := R_MM) (T := F_MM) (N := 77) hx hb hts i_MM hown hK hP 0 rfl rfl 66 (by decide) (hts _ kw_1448) (fun _ h9 => h9) rfl d_rstring_124 ?_
                  refine lv_iconst (v := 1) hx hb d_rstring_127 (by decide) ?_
                  refine lv_iadd hx hb d_rstring_128 ?_
                  refine w_i (y := (o_21.1.i 66) + 1) rfl ?_
                  refine va_put (D := D) (ci := 12) (v := .int ((o_21.1.i 66) + 1)) (ty := .int) (C := R_MM) (T := F_MM) (N := 77) hx hb hts i_MM t_MM t_MM_ok n_MM hown hK hP hD hS 0 rfl rfl 66 (by decide) (hts _ kw_1448) (fun _ h9 => h9) rfl (by decide +kernel) rfl rfl (Nat.le_of_ble_eq_true rfl) d_rstring_129 (fun H locs hP hD hS => ?_)
                  rw [mw_I66] at hP hD
                  refine lv_aload_n hx hb d_rstring_132 rfl (lv_at hl 4 rfl) ?_
                  obtain ⟨o_24, h_25, Heq⟩ := ob_some Heq
                  have hFc := fr_all hD hS hA
                  refine va_calli (va_runV (As := []) (rest := []) ⟨hx, hb, hml, hown, hts⟩ (g_rsign l D H.size h_25) (cw_v 0 hts kw_1777 kw_1774 kw_1776 kp_57 kw_11 rfl rfl (by decide +kernel) ⟨Nat.le_of_ble_eq_true rfl, Nat.le_of_ble_eq_true rfl⟩) ⟨g_blind, va_recv hK hP (ci := 12) (q0 := 0) rfl rfl, fun U hU hW => g_pre hU hW hP hK hD⟩ rfl rfl hl.1 rfl (lv_room (Nat.le_of_ble_eq_true rfl)) d_rstring_133 ⟨Nat.le_of_ble_eq_true rfl, Nat.le_of_ble_eq_true rfl⟩) hS (fun q _ h => hFc q h) hFc (fun rz u t H1 locs ht hvm hw hB hz1 hk1 hS => ?_)
                  obtain ⟨hP, -, hD1⟩ := hB
                  rw [ht] at hP
                  have hD := hD1.weaken (fun _ q _ h => hFc q.1 h)
                  generalize H1 = H at hP hS ⊢
                  refine W.cs (cells' := 0) (slots' := 0) rfl rfl ?_
                  subst hw
                  obtain ⟨o_26, h_27, Heq⟩ := ob_some Heq
                  have hFc := fr_all hD hS hA
                  refine va_calli (va_runS (As := [.int o_24.2]) (rest := []) ⟨hx, hb, hml, hown, hts⟩ (g_rhex l D H.size h_27) (cw_s 1 hts kw_1793 kw_1791 kw_1792 kw_11 rfl rfl (by decide +kernel) ⟨Nat.le_of_ble_eq_true rfl, Nat.le_of_ble_eq_true rfl⟩) ⟨g_blind, fun U hU hW => g_pre hU hW hP hK hD⟩ rfl rfl hl.1 rfl (lv_room (Nat.le_of_ble_eq_true rfl)) d_rstring_136 ⟨Nat.le_of_ble_eq_true rfl, Nat.le_of_ble_eq_true rfl⟩) hS (fun q _ h => hFc q h) hFc (fun rz u t H1 locs ht hvm hw hB hz1 hk1 hS => ?_)
                  obtain ⟨hP, -, hD1⟩ := hB
                  rw [ht] at hP
                  have hD := hD1.weaken (fun _ q _ h => hFc q.1 h)
                  generalize H1 = H at hP hS ⊢
                  refine W.cs (cells' := 0) (slots' := 0) rfl rfl ?_
                  subst hw
                  refine lv_istore (lv' := [(7, .int o_26.2), (6, .int o_21.2), (5, .int o_11.2), (4, .int (o_5.1.i 66)), (3, .int o_5.2), (0, .ref (md 100)), (1, .int x1), (2, .int x2)]) hx hb d_rstring_139 hl (by decide) rfl (fun ls hl => ?_)
                  refine lv_iload hx hb d_rstring_141 (lv_at hl 0 rfl) ?_
                  refine lv_if_ge (tgt := 154) hx hb d_rstring_143 (by decide) (fun c_28 => ?_) (fun c_28 => ?_)
                  · replace Heq := (if_pos c_28).symm.trans Heq
                    refine lv_bipush (v := 16) hx hb d_rstring_154 (by decide) ?_
                    refine lv_iload hx hb d_rstring_156 (lv_at hl 1 rfl) ?_
                    refine lv_imul hx hb d_rstring_158 ?_
                    refine w_i (y := 16 * o_21.2) rfl ?_
                    refine lv_iload hx hb d_rstring_159 (lv_at hl 0 rfl) ?_
                    refine lv_iadd hx hb d_rstring_161 ?_
                    refine w_i (y := (16 * o_21.2) + o_26.2) rfl ?_
                    refine lv_istore_n (lv' := [(3, .int ((16 * o_21.2) + o_26.2)), (7, .int o_26.2), (6, .int o_21.2), (5, .int o_11.2), (4, .int (o_5.1.i 66)), (0, .ref (md 100)), (1, .int x1), (2, .int x2)]) hx hb d_rstring_162 rfl hl (by decide) rfl (fun ls hl => ?_)
                    exact w_rstring_J163 hC Heq Ka K0 Kr _ _ _ hP hD hS (lv_sub hl [5, 6, 7, 0] rfl)
                  · replace Heq := (if_neg c_28).symm.trans Heq
                    refine lv_aload_n hx hb d_rstring_146 rfl (lv_at hl 5 rfl) ?_
                    refine lv_iconst (v := 1) hx hb d_rstring_147 (by decide) ?_
                    refine va_put (D := D) (ci := 12) (v := .int 1) (ty := .boolean) (C := R_MM) (T := F_MM) (N := 77) hx hb hts i_MM t_MM t_MM_ok n_MM hown hK hP hD hS 0 rfl rfl 68 (by decide) (hts _ kw_1450) (fun _ h9 => h9) rfl (by decide +kernel) (by decide) (by decide) (Nat.le_of_ble_eq_true rfl) d_rstring_148 (fun H locs hP hD hS => ?_)
                    rw [mw_I68] at hP hD
                    refine lv_goto (tgt := 163) hx hb d_rstring_151 (by decide) ?_
                    exact w_rstring_J163 hC Heq Ka K0 Kr _ _ _ hP hD hS (lv_sub hl [5, 6, 7, 4] rfl)
                · replace Heq := (if_neg c_23).symm.trans Heq
                  refine lv_aload_n hx hb d_rstring_115 rfl (lv_at hl 4 rfl) ?_
                  refine lv_iconst (v := 1) hx hb d_rstring_116 (by decide) ?_
                  refine va_put (D := D) (ci := 12) (v := .int 1) (ty := .boolean) (C := R_MM) (T := F_MM) (N := 77) hx hb hts i_MM t_MM t_MM_ok n_MM hown hK hP hD hS 0 rfl rfl 68 (by decide) (hts _ kw_1450) (fun _ h9 => h9) rfl (by decide +kernel) (by decide) (by decide) (Nat.le_of_ble_eq_true rfl) d_rstring_117 (fun H locs hP hD hS => ?_)
                  rw [mw_I68] at hP hD
                  refine lv_iload_n hx hb d_rstring_120 rfl (lv_at hl 6 rfl) ?_
                  exact Kr _ (Option.some.inj Heq).symm 121 _ _ _ d_rstring_121 hP hD hS
          · replace Heq := (if_pos c_9).symm.trans Heq
            exact w_rstring_J54 hC Heq Ka K0 Kr _ _ _ hP hD hS (lv_sub hl [2, 3, 4, 1] rfl)
def m_rstring_L5 (S : MS) (x1 : Int32) (x2 : Int32) : Option ((MS × Int32) ⊕ (MS × Int32)) := lp (fun a : MS × Int32 × Int32 => m_rstring_B5 a.1 a.2.1 a.2.2) FU (S, x1, x2)
theorem w_rstring_L5 {p : Program} {l : Launch} {e : Env} {s : State} {m : MethodId} {args : Array Value} {below : List Frame} {meth : Method} {c : Code} {A : Nat → Prop} {D : va_G} {md : Nat → Nat} {mc : Nat → ClassId} {Q : State → Prop} (hC : MCx "JoinedTreesModel" prog_14_method_43_code 8 (some .int) p s m args meth c A D mc) {S : MS} {x1 : Int32} {x2 : Int32} {o : ((MS × Int32) ⊕ (MS × Int32))} (Heq : m_rstring_L5 S x1 x2 = some o) (K0 : ∀ b : MS × Int32, o = (.inl b) → ∀ (H : Heap) (locs : List Loc) (ls : Array Slot), va_P D cls (mw md mc b.1) H → va_D A (mw md mc b.1) → va_S A s.heap H locs → lv_has ls 8 [(0, .ref (md 100)), (2, .int b.2)] → W p l e ({ frames := 1, cells := 0, slots := 0, locals := 20 }) s m args below meth c H locs 0 0 Q (F0 m 299 ls [])) (Kr : ∀ r : MS × Int32, o = (.inr r) → ∀ (pc : Nat) (H : Heap) (locs : List Loc) (ls : Array Slot), decode prog_14_method_43_code pc = .ok (.ireturn, 1) → va_P D cls (mw md mc r.1) H → va_D A (mw md mc r.1) → va_S A s.heap H locs → W p l e ({ frames := 1, cells := 0, slots := 0, locals := 20 }) s m args below meth c H locs 0 0 Q (F0 m pc ls [.int r.2])) : ∀ (H : Heap) (locs : List Loc) (ls : Array Slot), va_P D cls (mw md mc S) H → va_D A (mw md mc S) → va_S A s.heap H locs → lv_has ls 8 [(0, .ref (md 100)), (1, .int x1), (2, .int x2)] → W p l e ({ frames := 1, cells := 0, slots := 0, locals := 20 }) s m args below meth c H locs 0 0 Q (F0 m 5 ls []) := by
  refine lp_w (G := fun a : MS × Int32 × Int32 => ∀ (H : Heap) (locs : List Loc) (ls : Array Slot), va_P D cls (mw md mc a.1) H → va_D A (mw md mc a.1) → va_S A s.heap H locs → lv_has ls 8 [(0, .ref (md 100)), (1, .int a.2.1), (2, .int a.2.2)] → W p l e ({ frames := 1, cells := 0, slots := 0, locals := 20 }) s m args below meth c H locs 0 0 Q (F0 m 5 ls [])) ?_ FU (S, x1, x2) Heq
  intro a o1 ho Ka Ke
  exact w_rstring_B5 hC ho (fun b h => Ka b h) (fun b h => K0 b (Ke _ h).symm) (fun r h => Kr r (Ke _ h).symm)
def m_rstring_J299 (S : MS) (x2 : Int32) : Option (MS × Int32) := some (S, x2)
theorem d_rstring_299 : decode prog_14_method_43_code 299 = .ok (.iload_n 2, 1) := by decide +kernel
theorem d_rstring_300 : decode prog_14_method_43_code 300 = .ok (.ireturn, 1) := by decide +kernel
set_option maxHeartbeats 4000000 in
set_option maxRecDepth 100000 in
theorem w_rstring_J299 {p : Program} {l : Launch} {e : Env} {s : State} {m : MethodId} {args : Array Value} {below : List Frame} {meth : Method} {c : Code} {A : Nat → Prop} {D : va_G} {md : Nat → Nat} {mc : Nat → ClassId} {Q : State → Prop} (hC : MCx "JoinedTreesModel" prog_14_method_43_code 8 (some .int) p s m args meth c A D mc) {S : MS} {x2 : Int32} {o : MS × Int32} (Heq : m_rstring_J299 S x2 = some o) (Kr : ∀ r : MS × Int32, o = r → ∀ (pc : Nat) (H : Heap) (locs : List Loc) (ls : Array Slot), decode prog_14_method_43_code pc = .ok (.ireturn, 1) → va_P D cls (mw md mc r.1) H → va_D A (mw md mc r.1) → va_S A s.heap H locs → W p l e ({ frames := 1, cells := 0, slots := 0, locals := 20 }) s m args below meth c H locs 0 0 Q (F0 m pc ls [.int r.2])) : ∀ (H : Heap) (locs : List Loc) (ls : Array Slot), va_P D cls (mw md mc S) H → va_D A (mw md mc S) → va_S A s.heap H locs → lv_has ls 8 [(0, .ref (md 100)), (2, .int x2)] → W p l e ({ frames := 1, cells := 0, slots := 0, locals := 20 }) s m args below meth c H locs 0 0 Q (F0 m 299 ls []) := by
  intro H locs ls hP hD hS hl
  obtain ⟨hx, hb, hr, hml, hown, hts, hK, hA⟩ := id hC
  unfold m_rstring_J299 at Heq
  refine lv_iload_n hx hb d_rstring_299 rfl (lv_at hl 1 rfl) ?_
  exact Kr _ (Option.some.inj Heq).symm 300 _ _ _ d_rstring_300 hP hD hS
def m_rstring_J0 (S : MS) (x1 : Int32) : Option (MS × Int32) := oe (m_rstring_L5 S x1 (S.i 65)) (fun b_1 => m_rstring_J299 b_1.1 b_1.2) (fun r_3 => some r_3)
set_option maxHeartbeats 4000000 in
set_option maxRecDepth 100000 in
theorem w_rstring_J0 {p : Program} {l : Launch} {e : Env} {s : State} {m : MethodId} {args : Array Value} {below : List Frame} {meth : Method} {c : Code} {A : Nat → Prop} {D : va_G} {md : Nat → Nat} {mc : Nat → ClassId} {Q : State → Prop} (hC : MCx "JoinedTreesModel" prog_14_method_43_code 8 (some .int) p s m args meth c A D mc) {S : MS} {x1 : Int32} {o : MS × Int32} (Heq : m_rstring_J0 S x1 = some o) (Kr : ∀ r : MS × Int32, o = r → ∀ (pc : Nat) (H : Heap) (locs : List Loc) (ls : Array Slot), decode prog_14_method_43_code pc = .ok (.ireturn, 1) → va_P D cls (mw md mc r.1) H → va_D A (mw md mc r.1) → va_S A s.heap H locs → W p l e ({ frames := 1, cells := 0, slots := 0, locals := 20 }) s m args below meth c H locs 0 0 Q (F0 m pc ls [.int r.2])) : ∀ (H : Heap) (locs : List Loc) (ls : Array Slot), va_P D cls (mw md mc S) H → va_D A (mw md mc S) → va_S A s.heap H locs → lv_has ls 8 [(0, .ref (md 100)), (1, .int x1)] → W p l e ({ frames := 1, cells := 0, slots := 0, locals := 20 }) s m args below meth c H locs 0 0 Q (F0 m 0 ls []) := by
  intro H locs ls hP hD hS hl
  obtain ⟨hx, hb, hr, hml, hown, hts, hK, hA⟩ := id hC
  unfold m_rstring_J0 at Heq
  refine lv_aload_n hx hb d_rstring_0 rfl (lv_at hl 0 rfl) ?_
  refine va_get (D := D) (ci := 12) (v := .int (S.i 65)) (C := R_MM) (T := F_MM) (N := 77) hx hb hts i_MM hown hK hP 0 rfl rfl 65 (by decide) (hts _ kw_1447) (fun _ h9 => h9) rfl d_rstring_1 ?_
  refine lv_istore_n (lv' := [(2, .int (S.i 65)), (0, .ref (md 100)), (1, .int x1)]) hx hb d_rstring_4 rfl hl (by decide) rfl (fun ls hl => ?_)
  rcases oe_some Heq with ⟨b_1, h_2, Heq⟩ | ⟨r_3, h_2, Heq⟩
  · refine w_rstring_L5 hC h_2 (fun b h => ?_) (fun r h => by cases h) _ _ _ hP hD hS (lv_sub hl [1, 2, 0] rfl)
    cases h
    intro H locs ls hP hD hS hl
    exact w_rstring_J299 hC Heq Kr _ _ _ hP hD hS (lv_sub hl [0, 1] rfl)
  · refine w_rstring_L5 hC h_2 (fun b h => by cases h) (fun r h => ?_) _ _ _ hP hD hS (lv_sub hl [1, 2, 0] rfl)
    cases h
    exact Kr _ (Option.some.inj Heq).symm
def m_rstring (S : MS) (x1 : Int32) : Option (MS × Int32) := m_rstring_J0 S x1
theorem g_rstring (l : Launch) (D : va_G) (sz : Nat) {md : Nat → Nat} {mc : Nat → ClassId} {S : MS} {x1 : Int32} {o : MS × Int32} (Heq : m_rstring S x1 = some o) : Met l ⟨"JoinedTreesModel", "string", "(I)I"⟩ (Cond.code ⟨"JoinedTreesModel", "string", "(I)I"⟩ prog_14_method_43_code 8 (some .int) :: gb) ({ frames := 1, cells := 0, slots := 0, locals := 20 }) (gPc D (mw md mc S) (mty mc) sz [.ref (md 100), .int x1]) (va_Qi (fun (r : Int32) (_ : Unit) => r = o.2) (fun _ t => gO D (mw md mc o.1) (mty mc) (va_A (mw md mc S) sz) t) (va_A (mw md mc S) sz)) 0 0 (va_A (mw md mc S) sz) := by
  refine Met.ofW (cc := prog_14_method_43_code) (maxL := 8) (ret := (some .int)) (by decide) rfl ?_
  intro p e s m args below meth c s₁ B hml hv
  obtain ⟨rfl, hsz, hP, hK, hD0⟩ := hv
  have hx := B.exec
  have hb := B.bytes
  have hr := B.returns
  have hts : ∀ w9 ∈ gb, w9.before [.ref (md 100), .int x1].toArray s = true := fun w9 h => atoms_spec (ws := Cond.code ⟨"JoinedTreesModel", "string", "(I)I"⟩ prog_14_method_43_code 8 (some .int) :: gb) B.pre w9 (List.mem_cons_of_mem _ h)
  have hown : s.vm.findClass "JoinedTreesModel" = some m.cls := findClass_of_methodNamed B.named
  have hlocks := B.notSynchronized
  subst hsz
  have hD := hD0.self (sz := s.heap.size)
  generalize hAe : va_A (mw md mc S) s.heap.size = A at hD ⊢
  have hA : ∀ q : Nat, s.heap.size ≤ q → A q := fun q h => by rw [← hAe]; exact Or.inr h
  have hS : va_S A s.heap s.heap [] := va_S.rf
  have hl := lv_entry ([.ref (md 100), .int x1]) (n := 8) (Nat.le_of_ble_eq_true rfl)
  rw [lg_entry_eq]
  generalize (lg_sl ([.ref (md 100), .int x1]) ++ List.replicate (8 - (lg_sl ([.ref (md 100), .int x1])).length) Slot.unset).toArray = ls at hl ⊢
  have hl : lv_has ls 8 [(0, .ref (md 100)), (1, .int x1)] := hl
  refine w_rstring_J0 ⟨hx, hb, hr, hml, hown, hts, hK, hA⟩ Heq (fun r h pc H locs ls hd hP hD hS => ?_) _ _ _ hP hD hS (lv_sub hl [0, 1] rfl)
  subst h
  exact W.iret hx hb hr (fun t ht hW => ⟨⟨_, (), rfl, rfl, by rw [ht]; exact hP, va_K.moved hW.alike hK, hD⟩, hS.F ht⟩) hS.2.2 hd
def m_rdigits_J52 (S : MS) : Option MS := some (S.setI 68 1)
theorem d_rdigits_0 : decode prog_14_method_44_code 0 = .ok (.aload_n 0, 1) := by decide +kernel
theorem d_rdigits_1 : decode prog_14_method_44_code 1 = .ok (.invokevirtual 316, 3) := by decide +kernel
theorem d_rdigits_4 : decode prog_14_method_44_code 4 = .ok (.bipush 45, 2) := by decide +kernel
theorem d_rdigits_6 : decode prog_14_method_44_code 6 = .ok (.if_icmp .ne 7, 3) := by decide +kernel
theorem d_rdigits_13 : decode prog_14_method_44_code 13 = .ok (.iconst 0, 1) := by decide +kernel
theorem d_rdigits_14 : decode prog_14_method_44_code 14 = .ok (.istore_n 2, 1) := by decide +kernel
theorem d_rdigits_15 : decode prog_14_method_44_code 15 = .ok (.iload_n 2, 1) := by decide +kernel
theorem d_rdigits_16 : decode prog_14_method_44_code 16 = .ok (.ifCond .eq 13, 3) := by decide +kernel
theorem d_rdigits_29 : decode prog_14_method_44_code 29 = .ok (.iconst 0, 1) := by decide +kernel
theorem d_rdigits_30 : decode prog_14_method_44_code 30 = .ok (.istore_n 3, 1) := by decide +kernel
theorem d_rdigits_31 : decode prog_14_method_44_code 31 = .ok (.lconst 0, 1) := by decide +kernel
theorem d_rdigits_32 : decode prog_14_method_44_code 32 = .ok (.lstore 4, 2) := by decide +kernel
theorem d_rdigits_34 : decode prog_14_method_44_code 34 = .ok (.aload_n 0, 1) := by decide +kernel
theorem d_rdigits_35 : decode prog_14_method_44_code 35 = .ok (.invokevirtual 316, 3) := by decide +kernel
theorem d_rdigits_38 : decode prog_14_method_44_code 38 = .ok (.bipush 48, 2) := by decide +kernel
theorem d_rdigits_40 : decode prog_14_method_44_code 40 = .ok (.if_icmp .lt 12, 3) := by decide +kernel
theorem d_rdigits_52 : decode prog_14_method_44_code 52 = .ok (.aload_n 0, 1) := by decide +kernel
theorem d_rdigits_53 : decode prog_14_method_44_code 53 = .ok (.iconst 1, 1) := by decide +kernel
theorem d_rdigits_54 : decode prog_14_method_44_code 54 = .ok (.putfield 324, 3) := by decide +kernel
theorem d_rdigits_57 : decode prog_14_method_44_code 57 = .ok (.return_, 1) := by decide +kernel
set_option maxHeartbeats 4000000 in
set_option maxRecDepth 100000 in
theorem w_rdigits_J52 {p : Program} {l : Launch} {e : Env} {s : State} {m : MethodId} {args : Array Value} {below : List Frame} {meth : Method} {c : Code} {A : Nat → Prop} {D : va_G} {md : Nat → Nat} {mc : Nat → ClassId} {Q : State → Prop} (hC : MCx "JoinedTreesModel" prog_14_method_44_code 7 none p s m args meth c A D mc) {S : MS} {o : MS} (Heq : m_rdigits_J52 S = some o) (Kr : ∀ r : MS, o = r → ∀ (pc : Nat) (H : Heap) (locs : List Loc) (ls : Array Slot), decode prog_14_method_44_code pc = .ok (.return_, 1) → va_P D cls (mw md mc r) H → va_D A (mw md mc r) → va_S A s.heap H locs → W p l e ({ frames := 1, cells := 0, slots := 0, locals := 20 }) s m args below meth c H locs 0 0 Q (F0 m pc ls [])) : ∀ (H : Heap) (locs : List Loc) (ls : Array Slot), va_P D cls (mw md mc S) H → va_D A (mw md mc S) → va_S A s.heap H locs → lv_has ls 7 [(0, .ref (md 100))] → W p l e ({ frames := 1, cells := 0, slots := 0, locals := 20 }) s m args below meth c H locs 0 0 Q (F0 m 52 ls []) := by
  intro H locs ls hP hD hS hl
  obtain ⟨hx, hb, hr, hml, hown, hts, hK, hA⟩ := id hC
  unfold m_rdigits_J52 at Heq
  refine lv_aload_n hx hb d_rdigits_52 rfl (lv_at hl 0 rfl) ?_
  refine lv_iconst (v := 1) hx hb d_rdigits_53 (by decide) ?_
  refine va_put (D := D) (ci := 12) (v := .int 1) (ty := .boolean) (C := R_MM) (T := F_MM) (N := 77) hx hb hts i_MM t_MM t_MM_ok n_MM hown hK hP hD hS 0 rfl rfl 68 (by decide) (hts _ kw_1450) (fun _ h9 => h9) rfl (by decide +kernel) (by decide) (by decide) (Nat.le_of_ble_eq_true rfl) d_rdigits_54 (fun H locs hP hD hS => ?_)
  rw [mw_I68] at hP hD
  exact Kr _ (Option.some.inj Heq).symm 57 _ _ _ d_rdigits_57 hP hD hS
def m_rdigits_J108 (S : MS) : Option ((MS × Int32 × Int32 × Int32 × Int64 × Int32) ⊕ ((MS × Int32 × Int32 × Int64) ⊕ MS)) := some (.inr (.inr (S.setI 68 1)))
theorem d_rdigits_43 : decode prog_14_method_44_code 43 = .ok (.aload_n 0, 1) := by decide +kernel
theorem d_rdigits_44 : decode prog_14_method_44_code 44 = .ok (.invokevirtual 316, 3) := by decide +kernel
theorem d_rdigits_47 : decode prog_14_method_44_code 47 = .ok (.bipush 57, 2) := by decide +kernel
theorem d_rdigits_49 : decode prog_14_method_44_code 49 = .ok (.if_icmp .le 9, 3) := by decide +kernel
theorem d_rdigits_58 : decode prog_14_method_44_code 58 = .ok (.aload_n 0, 1) := by decide +kernel
theorem d_rdigits_59 : decode prog_14_method_44_code 59 = .ok (.invokevirtual 316, 3) := by decide +kernel
theorem d_rdigits_62 : decode prog_14_method_44_code 62 = .ok (.bipush 48, 2) := by decide +kernel
theorem d_rdigits_64 : decode prog_14_method_44_code 64 = .ok (.if_icmp .ne 7, 3) := by decide +kernel
theorem d_rdigits_71 : decode prog_14_method_44_code 71 = .ok (.iconst 0, 1) := by decide +kernel
theorem d_rdigits_72 : decode prog_14_method_44_code 72 = .ok (.istore 6, 2) := by decide +kernel
theorem d_rdigits_74 : decode prog_14_method_44_code 74 = .ok (.aload_n 0, 1) := by decide +kernel
theorem d_rdigits_75 : decode prog_14_method_44_code 75 = .ok (.invokevirtual 316, 3) := by decide +kernel
theorem d_rdigits_78 : decode prog_14_method_44_code 78 = .ok (.bipush 48, 2) := by decide +kernel
theorem d_rdigits_80 : decode prog_14_method_44_code 80 = .ok (.if_icmp .lt 68, 3) := by decide +kernel
theorem d_rdigits_83 : decode prog_14_method_44_code 83 = .ok (.aload_n 0, 1) := by decide +kernel
theorem d_rdigits_84 : decode prog_14_method_44_code 84 = .ok (.invokevirtual 316, 3) := by decide +kernel
theorem d_rdigits_87 : decode prog_14_method_44_code 87 = .ok (.bipush 57, 2) := by decide +kernel
theorem d_rdigits_89 : decode prog_14_method_44_code 89 = .ok (.if_icmp .gt 59, 3) := by decide +kernel
theorem d_rdigits_92 : decode prog_14_method_44_code 92 = .ok (.iload_n 3, 1) := by decide +kernel
theorem d_rdigits_93 : decode prog_14_method_44_code 93 = .ok (.bipush 18, 2) := by decide +kernel
theorem d_rdigits_95 : decode prog_14_method_44_code 95 = .ok (.if_icmp .eq 13, 3) := by decide +kernel
theorem d_rdigits_108 : decode prog_14_method_44_code 108 = .ok (.aload_n 0, 1) := by decide +kernel
theorem d_rdigits_109 : decode prog_14_method_44_code 109 = .ok (.iconst 1, 1) := by decide +kernel
theorem d_rdigits_110 : decode prog_14_method_44_code 110 = .ok (.putfield 324, 3) := by decide +kernel
theorem d_rdigits_113 : decode prog_14_method_44_code 113 = .ok (.return_, 1) := by decide +kernel
set_option maxHeartbeats 4000000 in
set_option maxRecDepth 100000 in
theorem w_rdigits_J108 {p : Program} {l : Launch} {e : Env} {s : State} {m : MethodId} {args : Array Value} {below : List Frame} {meth : Method} {c : Code} {A : Nat → Prop} {D : va_G} {md : Nat → Nat} {mc : Nat → ClassId} {Q : State → Prop} (hC : MCx "JoinedTreesModel" prog_14_method_44_code 7 none p s m args meth c A D mc) {S : MS} {o : ((MS × Int32 × Int32 × Int32 × Int64 × Int32) ⊕ ((MS × Int32 × Int32 × Int64) ⊕ MS))} (Heq : m_rdigits_J108 S = some o) (Ka : ∀ b : MS × Int32 × Int32 × Int32 × Int64 × Int32, o = .inl b → ∀ (H : Heap) (locs : List Loc) (ls : Array Slot), va_P D cls (mw md mc b.1) H → va_D A (mw md mc b.1) → va_S A s.heap H locs → lv_has ls 7 [(0, .ref (md 100)), (1, .int b.2.1), (2, .int b.2.2.1), (3, .int b.2.2.2.1), (4, .long b.2.2.2.2.1), (6, .int b.2.2.2.2.2)] → W p l e ({ frames := 1, cells := 0, slots := 0, locals := 20 }) s m args below meth c H locs 0 0 Q (F0 m 74 ls [])) (K0 : ∀ b : MS × Int32 × Int32 × Int64, o = .inr (.inl b) → ∀ (H : Heap) (locs : List Loc) (ls : Array Slot), va_P D cls (mw md mc b.1) H → va_D A (mw md mc b.1) → va_S A s.heap H locs → lv_has ls 7 [(0, .ref (md 100)), (1, .int b.2.1), (2, .int b.2.2.1), (4, .long b.2.2.2)] → W p l e ({ frames := 1, cells := 0, slots := 0, locals := 20 }) s m args below meth c H locs 0 0 Q (F0 m 148 ls [])) (Kr : ∀ r : MS, o = .inr (.inr r) → ∀ (pc : Nat) (H : Heap) (locs : List Loc) (ls : Array Slot), decode prog_14_method_44_code pc = .ok (.return_, 1) → va_P D cls (mw md mc r) H → va_D A (mw md mc r) → va_S A s.heap H locs → W p l e ({ frames := 1, cells := 0, slots := 0, locals := 20 }) s m args below meth c H locs 0 0 Q (F0 m pc ls [])) : ∀ (H : Heap) (locs : List Loc) (ls : Array Slot), va_P D cls (mw md mc S) H → va_D A (mw md mc S) → va_S A s.heap H locs → lv_has ls 7 [(0, .ref (md 100))] → W p l e ({ frames := 1, cells := 0, slots := 0, locals := 20 }) s m args below meth c H locs 0 0 Q (F0 m 108 ls []) := by
  intro H locs ls hP hD hS hl
  obtain ⟨hx, hb, hr, hml, hown, hts, hK, hA⟩ := id hC
  unfold m_rdigits_J108 at Heq
  refine lv_aload_n hx hb d_rdigits_108 rfl (lv_at hl 0 rfl) ?_
  refine lv_iconst (v := 1) hx hb d_rdigits_109 (by decide) ?_
  refine va_put (D := D) (ci := 12) (v := .int 1) (ty := .boolean) (C := R_MM) (T := F_MM) (N := 77) hx hb hts i_MM t_MM t_MM_ok n_MM hown hK hP hD hS 0 rfl rfl 68 (by decide) (hts _ kw_1450) (fun _ h9 => h9) rfl (by decide +kernel) (by decide) (by decide) (Nat.le_of_ble_eq_true rfl) d_rdigits_110 (fun H locs hP hD hS => ?_)
  rw [mw_I68] at hP hD
  exact Kr _ (Option.some.inj Heq).symm 113 _ _ _ d_rdigits_113 hP hD hS
def m_rdigits_J114 (S : MS) (x1 : Int32) (x2 : Int32) (x3 : Int32) (x4 : Int64) (x6 : Int32) : Option ((MS × Int32 × Int32 × Int32 × Int64 × Int32) ⊕ ((MS × Int32 × Int32 × Int64) ⊕ MS)) := ob (m_rsign S) (fun o_1 => some (.inl ((o_1.1.setI 66 ((o_1.1.i 66) + 1)), x1, x2, (x3 + 1), (((x4 * 10) + o_1.2.toInt64) - 48), x6)))
theorem d_rdigits_98 : decode prog_14_method_44_code 98 = .ok (.iload 6, 2) := by decide +kernel
theorem d_rdigits_100 : decode prog_14_method_44_code 100 = .ok (.ifCond .eq 14, 3) := by decide +kernel
theorem d_rdigits_114 : decode prog_14_method_44_code 114 = .ok (.lload 4, 2) := by decide +kernel
theorem d_rdigits_116 : decode prog_14_method_44_code 116 = .ok (.ldc2_w 338, 3) := by decide +kernel
theorem d_rdigits_119 : decode prog_14_method_44_code 119 = .ok (.lmul, 1) := by decide +kernel
theorem d_rdigits_120 : decode prog_14_method_44_code 120 = .ok (.aload_n 0, 1) := by decide +kernel
theorem d_rdigits_121 : decode prog_14_method_44_code 121 = .ok (.invokevirtual 316, 3) := by decide +kernel
theorem d_rdigits_124 : decode prog_14_method_44_code 124 = .ok (.i2l, 1) := by decide +kernel
theorem d_rdigits_125 : decode prog_14_method_44_code 125 = .ok (.ladd, 1) := by decide +kernel
theorem d_rdigits_126 : decode prog_14_method_44_code 126 = .ok (.ldc2_w 340, 3) := by decide +kernel
theorem d_rdigits_129 : decode prog_14_method_44_code 129 = .ok (.lsub, 1) := by decide +kernel
theorem d_rdigits_130 : decode prog_14_method_44_code 130 = .ok (.lstore 4, 2) := by decide +kernel
theorem d_rdigits_132 : decode prog_14_method_44_code 132 = .ok (.iinc 3 1, 3) := by decide +kernel
theorem d_rdigits_135 : decode prog_14_method_44_code 135 = .ok (.aload_n 0, 1) := by decide +kernel
theorem d_rdigits_136 : decode prog_14_method_44_code 136 = .ok (.dup, 1) := by decide +kernel
theorem d_rdigits_137 : decode prog_14_method_44_code 137 = .ok (.getfield 313, 3) := by decide +kernel
theorem d_rdigits_140 : decode prog_14_method_44_code 140 = .ok (.iconst 1, 1) := by decide +kernel
theorem d_rdigits_141 : decode prog_14_method_44_code 141 = .ok (.iadd, 1) := by decide +kernel
theorem d_rdigits_142 : decode prog_14_method_44_code 142 = .ok (.putfield 313, 3) := by decide +kernel
theorem d_rdigits_145 : decode prog_14_method_44_code 145 = .ok (.goto (-71), 3) := by decide +kernel
set_option maxHeartbeats 4000000 in
set_option maxRecDepth 100000 in
theorem w_rdigits_J114 {p : Program} {l : Launch} {e : Env} {s : State} {m : MethodId} {args : Array Value} {below : List Frame} {meth : Method} {c : Code} {A : Nat → Prop} {D : va_G} {md : Nat → Nat} {mc : Nat → ClassId} {Q : State → Prop} (hC : MCx "JoinedTreesModel" prog_14_method_44_code 7 none p s m args meth c A D mc) {S : MS} {x1 : Int32} {x2 : Int32} {x3 : Int32} {x4 : Int64} {x6 : Int32} {o : ((MS × Int32 × Int32 × Int32 × Int64 × Int32) ⊕ ((MS × Int32 × Int32 × Int64) ⊕ MS))} (Heq : m_rdigits_J114 S x1 x2 x3 x4 x6 = some o) (Ka : ∀ b : MS × Int32 × Int32 × Int32 × Int64 × Int32, o = .inl b → ∀ (H : Heap) (locs : List Loc) (ls : Array Slot), va_P D cls (mw md mc b.1) H → va_D A (mw md mc b.1) → va_S A s.heap H locs → lv_has ls 7 [(0, .ref (md 100)), (1, .int b.2.1), (2, .int b.2.2.1), (3, .int b.2.2.2.1), (4, .long b.2.2.2.2.1), (6, .int b.2.2.2.2.2)] → W p l e ({ frames := 1, cells := 0, slots := 0, locals := 20 }) s m args below meth c H locs 0 0 Q (F0 m 74 ls [])) (K0 : ∀ b : MS × Int32 × Int32 × Int64, o = .inr (.inl b) → ∀ (H : Heap) (locs : List Loc) (ls : Array Slot), va_P D cls (mw md mc b.1) H → va_D A (mw md mc b.1) → va_S A s.heap H locs → lv_has ls 7 [(0, .ref (md 100)), (1, .int b.2.1), (2, .int b.2.2.1), (4, .long b.2.2.2)] → W p l e ({ frames := 1, cells := 0, slots := 0, locals := 20 }) s m args below meth c H locs 0 0 Q (F0 m 148 ls [])) (Kr : ∀ r : MS, o = .inr (.inr r) → ∀ (pc : Nat) (H : Heap) (locs : List Loc) (ls : Array Slot), decode prog_14_method_44_code pc = .ok (.return_, 1) → va_P D cls (mw md mc r) H → va_D A (mw md mc r) → va_S A s.heap H locs → W p l e ({ frames := 1, cells := 0, slots := 0, locals := 20 }) s m args below meth c H locs 0 0 Q (F0 m pc ls [])) : ∀ (H : Heap) (locs : List Loc) (ls : Array Slot), va_P D cls (mw md mc S) H → va_D A (mw md mc S) → va_S A s.heap H locs → lv_has ls 7 [(0, .ref (md 100)), (1, .int x1), (2, .int x2), (3, .int x3), (4, .long x4), (6, .int x6)] → W p l e ({ frames := 1, cells := 0, slots := 0, locals := 20 }) s m args below meth c H locs 0 0 Q (F0 m 114 ls []) := by
  intro H locs ls hP hD hS hl
  obtain ⟨hx, hb, hr, hml, hown, hts, hK, hA⟩ := id hC
  unfold m_rdigits_J114 at Heq
  refine lv_lload hx hb d_rdigits_114 (lv_at hl 4 rfl) ?_
  refine lv_ldc2 (v := 10) hx hb hown (hts _ kw_1798) d_rdigits_116 ?_
  refine lv_lmul hx hb d_rdigits_119 ?_
  refine w_l (y := x4 * 10) rfl ?_
  refine lv_aload_n hx hb d_rdigits_120 rfl (lv_at hl 0 rfl) ?_
  obtain ⟨o_1, h_2, Heq⟩ := ob_some Heq
  have hFc := fr_all hD hS hA
  refine va_calli (va_runV (As := []) (rest := [.long (x4 * 10)]) ⟨hx, hb, hml, hown, hts⟩ (g_rsign l D H.size h_2) (cw_v 0 hts kw_1777 kw_1774 kw_1776 kp_57 kw_11 rfl rfl (by decide +kernel) ⟨Nat.le_of_ble_eq_true rfl, Nat.le_of_ble_eq_true rfl⟩) ⟨g_blind, va_recv hK hP (ci := 12) (q0 := 0) rfl rfl, fun U hU hW => g_pre hU hW hP hK hD⟩ rfl rfl hl.1 rfl (lv_room (Nat.le_of_ble_eq_true rfl)) d_rdigits_121 ⟨Nat.le_of_ble_eq_true rfl, Nat.le_of_ble_eq_true rfl⟩) hS (fun q _ h => hFc q h) hFc (fun rz u t H1 locs ht hvm hw hB hz1 hk1 hS => ?_)
  obtain ⟨hP, -, hD1⟩ := hB
  rw [ht] at hP
  have hD := hD1.weaken (fun _ q _ h => hFc q.1 h)
  generalize H1 = H at hP hS ⊢
  refine W.cs (cells' := 0) (slots' := 0) rfl rfl ?_
  subst hw
  refine lv_i2l hx hb d_rdigits_124 rfl ?_
  refine w_l (y := o_1.2.toInt64) rfl ?_
  refine lv_ladd hx hb d_rdigits_125 ?_
  refine w_l (y := (x4 * 10) + o_1.2.toInt64) rfl ?_
  refine lv_ldc2 (v := 48) hx hb hown (hts _ kw_1799) d_rdigits_126 ?_
  refine lv_lsub hx hb d_rdigits_129 ?_
  refine w_l (y := ((x4 * 10) + o_1.2.toInt64) - 48) rfl ?_
  refine lv_lstore (lv' := [(4, .long (((x4 * 10) + o_1.2.toInt64) - 48)), (0, .ref (md 100)), (1, .int x1), (2, .int x2), (3, .int x3), (6, .int x6)]) hx hb d_rdigits_130 hl (by decide) rfl (fun ls hl => ?_)
  refine lv_iinc (v := x3 + 1) (lv' := [(3, .int (x3 + 1)), (4, .long (((x4 * 10) + o_1.2.toInt64) - 48)), (0, .ref (md 100)), (1, .int x1), (2, .int x2), (6, .int x6)]) hx hb d_rdigits_132 hl (k := 4) rfl rfl (by decide) rfl (fun ls hl => ?_)
  refine lv_aload_n hx hb d_rdigits_135 rfl (lv_at hl 2 rfl) ?_
  refine lv_dup hx hb d_rdigits_136 rfl ?_
  refine va_get (D := D) (ci := 12) (v := .int (o_1.1.i 66)) (C := R_MM) (T := F_MM) (N := 77) hx hb hts i_MM hown hK hP 0 rfl rfl 66 (by decide) (hts _ kw_1448) (fun _ h9 => h9) rfl d_rdigits_137 ?_
  refine lv_iconst (v := 1) hx hb d_rdigits_140 (by decide) ?_
  refine lv_iadd hx hb d_rdigits_141 ?_
  refine w_i (y := (o_1.1.i 66) + 1) rfl ?_
  refine va_put (D := D) (ci := 12) (v := .int ((o_1.1.i 66) + 1)) (ty := .int) (C := R_MM) (T := F_MM) (N := 77) hx hb hts i_MM t_MM t_MM_ok n_MM hown hK hP hD hS 0 rfl rfl 66 (by decide) (hts _ kw_1448) (fun _ h9 => h9) rfl (by decide +kernel) rfl rfl (Nat.le_of_ble_eq_true rfl) d_rdigits_142 (fun H locs hP hD hS => ?_)
  rw [mw_I66] at hP hD
  refine lv_goto (tgt := 74) hx hb d_rdigits_145 (by decide) ?_
  exact Ka _ (Option.some.inj Heq).symm _ _ _ hP hD hS (lv_sub hl [2, 3, 4, 0, 1, 5] rfl)
def m_rdigits_B74 (S : MS) (x1 : Int32) (x2 : Int32) (x3 : Int32) (x4 : Int64) (x6 : Int32) : Option ((MS × Int32 × Int32 × Int32 × Int64 × Int32) ⊕ ((MS × Int32 × Int32 × Int64) ⊕ MS)) := ob (m_rsign S) (fun o_1 => (if o_1.2 < 48 then some (.inr (.inl (o_1.1, x1, x2, x4))) else ob (m_rsign o_1.1) (fun o_4 => (if 57 < o_4.2 then some (.inr (.inl (o_4.1, x1, x2, x4))) else (if x3 = 18 then m_rdigits_J108 o_4.1 else (if x6 = 0 then m_rdigits_J114 o_4.1 x1 x2 x3 x4 x6 else (if x3 = 1 then m_rdigits_J108 o_4.1 else m_rdigits_J114 o_4.1 x1 x2 x3 x4 x6)))))))
theorem d_rdigits_103 : decode prog_14_method_44_code 103 = .ok (.iload_n 3, 1) := by decide +kernel
theorem d_rdigits_104 : decode prog_14_method_44_code 104 = .ok (.iconst 1, 1) := by decide +kernel
theorem d_rdigits_105 : decode prog_14_method_44_code 105 = .ok (.if_icmp .ne 9, 3) := by decide +kernel
set_option maxHeartbeats 4000000 in
set_option maxRecDepth 100000 in
theorem w_rdigits_B74 {p : Program} {l : Launch} {e : Env} {s : State} {m : MethodId} {args : Array Value} {below : List Frame} {meth : Method} {c : Code} {A : Nat → Prop} {D : va_G} {md : Nat → Nat} {mc : Nat → ClassId} {Q : State → Prop} (hC : MCx "JoinedTreesModel" prog_14_method_44_code 7 none p s m args meth c A D mc) {S : MS} {x1 : Int32} {x2 : Int32} {x3 : Int32} {x4 : Int64} {x6 : Int32} {o : ((MS × Int32 × Int32 × Int32 × Int64 × Int32) ⊕ ((MS × Int32 × Int32 × Int64) ⊕ MS))} (Heq : m_rdigits_B74 S x1 x2 x3 x4 x6 = some o) (Ka : ∀ b : MS × Int32 × Int32 × Int32 × Int64 × Int32, o = .inl b → ∀ (H : Heap) (locs : List Loc) (ls : Array Slot), va_P D cls (mw md mc b.1) H → va_D A (mw md mc b.1) → va_S A s.heap H locs → lv_has ls 7 [(0, .ref (md 100)), (1, .int b.2.1), (2, .int b.2.2.1), (3, .int b.2.2.2.1), (4, .long b.2.2.2.2.1), (6, .int b.2.2.2.2.2)] → W p l e ({ frames := 1, cells := 0, slots := 0, locals := 20 }) s m args below meth c H locs 0 0 Q (F0 m 74 ls [])) (K0 : ∀ b : MS × Int32 × Int32 × Int64, o = .inr (.inl b) → ∀ (H : Heap) (locs : List Loc) (ls : Array Slot), va_P D cls (mw md mc b.1) H → va_D A (mw md mc b.1) → va_S A s.heap H locs → lv_has ls 7 [(0, .ref (md 100)), (1, .int b.2.1), (2, .int b.2.2.1), (4, .long b.2.2.2)] → W p l e ({ frames := 1, cells := 0, slots := 0, locals := 20 }) s m args below meth c H locs 0 0 Q (F0 m 148 ls [])) (Kr : ∀ r : MS, o = .inr (.inr r) → ∀ (pc : Nat) (H : Heap) (locs : List Loc) (ls : Array Slot), decode prog_14_method_44_code pc = .ok (.return_, 1) → va_P D cls (mw md mc r) H → va_D A (mw md mc r) → va_S A s.heap H locs → W p l e ({ frames := 1, cells := 0, slots := 0, locals := 20 }) s m args below meth c H locs 0 0 Q (F0 m pc ls [])) : ∀ (H : Heap) (locs : List Loc) (ls : Array Slot), va_P D cls (mw md mc S) H → va_D A (mw md mc S) → va_S A s.heap H locs → lv_has ls 7 [(0, .ref (md 100)), (1, .int x1), (2, .int x2), (3, .int x3), (4, .long x4), (6, .int x6)] → W p l e ({ frames := 1, cells := 0, slots := 0, locals := 20 }) s m args below meth c H locs 0 0 Q (F0 m 74 ls []) := by
  intro H locs ls hP hD hS hl
  obtain ⟨hx, hb, hr, hml, hown, hts, hK, hA⟩ := id hC
  unfold m_rdigits_B74 at Heq
  refine lv_aload_n hx hb d_rdigits_74 rfl (lv_at hl 0 rfl) ?_
  obtain ⟨o_1, h_2, Heq⟩ := ob_some Heq
  have hFc := fr_all hD hS hA
  refine va_calli (va_runV (As := []) (rest := []) ⟨hx, hb, hml, hown, hts⟩ (g_rsign l D H.size h_2) (cw_v 0 hts kw_1777 kw_1774 kw_1776 kp_57 kw_11 rfl rfl (by decide +kernel) ⟨Nat.le_of_ble_eq_true rfl, Nat.le_of_ble_eq_true rfl⟩) ⟨g_blind, va_recv hK hP (ci := 12) (q0 := 0) rfl rfl, fun U hU hW => g_pre hU hW hP hK hD⟩ rfl rfl hl.1 rfl (lv_room (Nat.le_of_ble_eq_true rfl)) d_rdigits_75 ⟨Nat.le_of_ble_eq_true rfl, Nat.le_of_ble_eq_true rfl⟩) hS (fun q _ h => hFc q h) hFc (fun rz u t H1 locs ht hvm hw hB hz1 hk1 hS => ?_)
  obtain ⟨hP, -, hD1⟩ := hB
  rw [ht] at hP
  have hD := hD1.weaken (fun _ q _ h => hFc q.1 h)
  generalize H1 = H at hP hS ⊢
  refine W.cs (cells' := 0) (slots' := 0) rfl rfl ?_
  subst hw
  refine lv_bipush (v := 48) hx hb d_rdigits_78 (by decide) ?_
  refine lv_icmp_lt (tgt := 148) hx hb d_rdigits_80 (by decide) (fun c_3 => ?_) (fun c_3 => ?_)
  · replace Heq := (if_pos c_3).symm.trans Heq
    exact K0 _ (Option.some.inj Heq).symm _ _ _ hP hD hS (lv_sub hl [0, 1, 2, 4] rfl)
  · replace Heq := (if_neg c_3).symm.trans Heq
    refine lv_aload_n hx hb d_rdigits_83 rfl (lv_at hl 0 rfl) ?_
    obtain ⟨o_4, h_5, Heq⟩ := ob_some Heq
    have hFc := fr_all hD hS hA
    refine va_calli (va_runV (As := []) (rest := []) ⟨hx, hb, hml, hown, hts⟩ (g_rsign l D H.size h_5) (cw_v 0 hts kw_1777 kw_1774 kw_1776 kp_57 kw_11 rfl rfl (by decide +kernel) ⟨Nat.le_of_ble_eq_true rfl, Nat.le_of_ble_eq_true rfl⟩) ⟨g_blind, va_recv hK hP (ci := 12) (q0 := 0) rfl rfl, fun U hU hW => g_pre hU hW hP hK hD⟩ rfl rfl hl.1 rfl (lv_room (Nat.le_of_ble_eq_true rfl)) d_rdigits_84 ⟨Nat.le_of_ble_eq_true rfl, Nat.le_of_ble_eq_true rfl⟩) hS (fun q _ h => hFc q h) hFc (fun rz u t H1 locs ht hvm hw hB hz1 hk1 hS => ?_)
    obtain ⟨hP, -, hD1⟩ := hB
    rw [ht] at hP
    have hD := hD1.weaken (fun _ q _ h => hFc q.1 h)
    generalize H1 = H at hP hS ⊢
    refine W.cs (cells' := 0) (slots' := 0) rfl rfl ?_
    subst hw
    refine lv_bipush (v := 57) hx hb d_rdigits_87 (by decide) ?_
    refine lv_icmp_gt (tgt := 148) hx hb d_rdigits_89 (by decide) (fun c_6 => ?_) (fun c_6 => ?_)
    · replace Heq := (if_pos c_6).symm.trans Heq
      exact K0 _ (Option.some.inj Heq).symm _ _ _ hP hD hS (lv_sub hl [0, 1, 2, 4] rfl)
    · replace Heq := (if_neg c_6).symm.trans Heq
      refine lv_iload_n hx hb d_rdigits_92 rfl (lv_at hl 3 rfl) ?_
      refine lv_bipush (v := 18) hx hb d_rdigits_93 (by decide) ?_
      refine lv_icmp_eq (tgt := 108) hx hb d_rdigits_95 (by decide) (fun c_7 => ?_) (fun c_7 => ?_)
      · replace Heq := (if_pos c_7).symm.trans Heq
        exact w_rdigits_J108 hC Heq Ka K0 Kr _ _ _ hP hD hS (lv_sub hl [0] rfl)
      · replace Heq := (if_neg c_7).symm.trans Heq
        refine lv_iload hx hb d_rdigits_98 (lv_at hl 5 rfl) ?_
        refine lv_if_eq (tgt := 114) hx hb d_rdigits_100 (by decide) (fun c_8 => ?_) (fun c_8 => ?_)
        · replace Heq := (if_pos c_8).symm.trans Heq
          exact w_rdigits_J114 hC Heq Ka K0 Kr _ _ _ hP hD hS (lv_sub hl [0, 1, 2, 3, 4, 5] rfl)
        · replace Heq := (if_neg c_8).symm.trans Heq
          refine lv_iload_n hx hb d_rdigits_103 rfl (lv_at hl 3 rfl) ?_
          refine lv_iconst (v := 1) hx hb d_rdigits_104 (by decide) ?_
          refine lv_icmp_ne (tgt := 114) hx hb d_rdigits_105 (by decide) (fun c_9 => ?_) (fun c_9 => ?_)
          · replace Heq := (if_neg c_9).symm.trans Heq
            exact w_rdigits_J114 hC Heq Ka K0 Kr _ _ _ hP hD hS (lv_sub hl [0, 1, 2, 3, 4, 5] rfl)
          · replace Heq := (if_pos c_9).symm.trans Heq
            exact w_rdigits_J108 hC Heq Ka K0 Kr _ _ _ hP hD hS (lv_sub hl [0] rfl)
def m_rdigits_L74 (S : MS) (x1 : Int32) (x2 : Int32) (x3 : Int32) (x4 : Int64) (x6 : Int32) : Option ((MS × Int32 × Int32 × Int64) ⊕ MS) := lp (fun a : MS × Int32 × Int32 × Int32 × Int64 × Int32 => m_rdigits_B74 a.1 a.2.1 a.2.2.1 a.2.2.2.1 a.2.2.2.2.1 a.2.2.2.2.2) FU (S, x1, x2, x3, x4, x6)
theorem w_rdigits_L74 {p : Program} {l : Launch} {e : Env} {s : State} {m : MethodId} {args : Array Value} {below : List Frame} {meth : Method} {c : Code} {A : Nat → Prop} {D : va_G} {md : Nat → Nat} {mc : Nat → ClassId} {Q : State → Prop} (hC : MCx "JoinedTreesModel" prog_14_method_44_code 7 none p s m args meth c A D mc) {S : MS} {x1 : Int32} {x2 : Int32} {x3 : Int32} {x4 : Int64} {x6 : Int32} {o : ((MS × Int32 × Int32 × Int64) ⊕ MS)} (Heq : m_rdigits_L74 S x1 x2 x3 x4 x6 = some o) (K0 : ∀ b : MS × Int32 × Int32 × Int64, o = (.inl b) → ∀ (H : Heap) (locs : List Loc) (ls : Array Slot), va_P D cls (mw md mc b.1) H → va_D A (mw md mc b.1) → va_S A s.heap H locs → lv_has ls 7 [(0, .ref (md 100)), (1, .int b.2.1), (2, .int b.2.2.1), (4, .long b.2.2.2)] → W p l e ({ frames := 1, cells := 0, slots := 0, locals := 20 }) s m args below meth c H locs 0 0 Q (F0 m 148 ls [])) (Kr : ∀ r : MS, o = (.inr r) → ∀ (pc : Nat) (H : Heap) (locs : List Loc) (ls : Array Slot), decode prog_14_method_44_code pc = .ok (.return_, 1) → va_P D cls (mw md mc r) H → va_D A (mw md mc r) → va_S A s.heap H locs → W p l e ({ frames := 1, cells := 0, slots := 0, locals := 20 }) s m args below meth c H locs 0 0 Q (F0 m pc ls [])) : ∀ (H : Heap) (locs : List Loc) (ls : Array Slot), va_P D cls (mw md mc S) H → va_D A (mw md mc S) → va_S A s.heap H locs → lv_has ls 7 [(0, .ref (md 100)), (1, .int x1), (2, .int x2), (3, .int x3), (4, .long x4), (6, .int x6)] → W p l e ({ frames := 1, cells := 0, slots := 0, locals := 20 }) s m args below meth c H locs 0 0 Q (F0 m 74 ls []) := by
  refine lp_w (G := fun a : MS × Int32 × Int32 × Int32 × Int64 × Int32 => ∀ (H : Heap) (locs : List Loc) (ls : Array Slot), va_P D cls (mw md mc a.1) H → va_D A (mw md mc a.1) → va_S A s.heap H locs → lv_has ls 7 [(0, .ref (md 100)), (1, .int a.2.1), (2, .int a.2.2.1), (3, .int a.2.2.2.1), (4, .long a.2.2.2.2.1), (6, .int a.2.2.2.2.2)] → W p l e ({ frames := 1, cells := 0, slots := 0, locals := 20 }) s m args below meth c H locs 0 0 Q (F0 m 74 ls [])) ?_ FU (S, x1, x2, x3, x4, x6) Heq
  intro a o1 ho Ka Ke
  exact w_rdigits_B74 hC ho (fun b h => Ka b h) (fun b h => K0 b (Ke _ h).symm) (fun r h => Kr r (Ke _ h).symm)
def m_rdigits_J172 (S : MS) (t0 : Int64) (t1 : Int32) : Option MS := gd t1 501 (some (S.setN 61 (vp_updL (S.n 61) t1.toNatClampNeg t0)))
theorem d_rdigits_148 : decode prog_14_method_44_code 148 = .ok (.aload_n 0, 1) := by decide +kernel
theorem d_rdigits_149 : decode prog_14_method_44_code 149 = .ok (.getfield 133, 3) := by decide +kernel
theorem d_rdigits_152 : decode prog_14_method_44_code 152 = .ok (.iload_n 1, 1) := by decide +kernel
theorem d_rdigits_153 : decode prog_14_method_44_code 153 = .ok (.iconst 3, 1) := by decide +kernel
theorem d_rdigits_154 : decode prog_14_method_44_code 154 = .ok (.iastore, 1) := by decide +kernel
theorem d_rdigits_155 : decode prog_14_method_44_code 155 = .ok (.aload_n 0, 1) := by decide +kernel
theorem d_rdigits_156 : decode prog_14_method_44_code 156 = .ok (.getfield 157, 3) := by decide +kernel
theorem d_rdigits_159 : decode prog_14_method_44_code 159 = .ok (.iload_n 1, 1) := by decide +kernel
theorem d_rdigits_160 : decode prog_14_method_44_code 160 = .ok (.iload_n 2, 1) := by decide +kernel
theorem d_rdigits_161 : decode prog_14_method_44_code 161 = .ok (.ifCond .eq 9, 3) := by decide +kernel
theorem d_rdigits_170 : decode prog_14_method_44_code 170 = .ok (.lload 4, 2) := by decide +kernel
theorem d_rdigits_172 : decode prog_14_method_44_code 172 = .ok (.lastore, 1) := by decide +kernel
theorem d_rdigits_173 : decode prog_14_method_44_code 173 = .ok (.return_, 1) := by decide +kernel
set_option maxHeartbeats 4000000 in
set_option maxRecDepth 100000 in
theorem w_rdigits_J172 {p : Program} {l : Launch} {e : Env} {s : State} {m : MethodId} {args : Array Value} {below : List Frame} {meth : Method} {c : Code} {A : Nat → Prop} {D : va_G} {md : Nat → Nat} {mc : Nat → ClassId} {Q : State → Prop} (hC : MCx "JoinedTreesModel" prog_14_method_44_code 7 none p s m args meth c A D mc) {S : MS} {t0 : Int64} {t1 : Int32} {o : MS} (Heq : m_rdigits_J172 S t0 t1 = some o) (Kr : ∀ r : MS, o = r → ∀ (pc : Nat) (H : Heap) (locs : List Loc) (ls : Array Slot), decode prog_14_method_44_code pc = .ok (.return_, 1) → va_P D cls (mw md mc r) H → va_D A (mw md mc r) → va_S A s.heap H locs → W p l e ({ frames := 1, cells := 0, slots := 0, locals := 20 }) s m args below meth c H locs 0 0 Q (F0 m pc ls [])) : ∀ (H : Heap) (locs : List Loc) (ls : Array Slot), va_P D cls (mw md mc S) H → va_D A (mw md mc S) → va_S A s.heap H locs → lv_has ls 7 [(0, .ref (md 100))] → W p l e ({ frames := 1, cells := 0, slots := 0, locals := 20 }) s m args below meth c H locs 0 0 Q (F0 m 172 ls [.long t0, .int t1, .ref (md 61)]) := by
  intro H locs ls hP hD hS hl
  obtain ⟨hx, hb, hr, hml, hown, hts, hK, hA⟩ := id hC
  unfold m_rdigits_J172 at Heq
  obtain ⟨hi_1, Heq⟩ := gd_some Heq
  refine va_last hx hb hK hP hD hS 43 3 rfl rfl (i := t1) (x := t0) hi_1 d_rdigits_172 (fun H locs hP hD hS => ?_)
  rw [mw_A61] at hP hD
  exact Kr _ (Option.some.inj Heq).symm 173 _ _ _ d_rdigits_173 hP hD hS
def m_rdigits_J148 (S : MS) (x1 : Int32) (x2 : Int32) (x4 : Int64) : Option MS := gd x1 501 ((if x2 = 0 then m_rdigits_J172 (S.setA 53 (upd (S.a 53) x1.toNatClampNeg 3)) x4 x1 else m_rdigits_J172 (S.setA 53 (upd (S.a 53) x1.toNatClampNeg 3)) (-x4) x1))
theorem d_rdigits_164 : decode prog_14_method_44_code 164 = .ok (.lload 4, 2) := by decide +kernel
theorem d_rdigits_166 : decode prog_14_method_44_code 166 = .ok (.lneg, 1) := by decide +kernel
theorem d_rdigits_167 : decode prog_14_method_44_code 167 = .ok (.goto 5, 3) := by decide +kernel
set_option maxHeartbeats 4000000 in
set_option maxRecDepth 100000 in
theorem w_rdigits_J148 {p : Program} {l : Launch} {e : Env} {s : State} {m : MethodId} {args : Array Value} {below : List Frame} {meth : Method} {c : Code} {A : Nat → Prop} {D : va_G} {md : Nat → Nat} {mc : Nat → ClassId} {Q : State → Prop} (hC : MCx "JoinedTreesModel" prog_14_method_44_code 7 none p s m args meth c A D mc) {S : MS} {x1 : Int32} {x2 : Int32} {x4 : Int64} {o : MS} (Heq : m_rdigits_J148 S x1 x2 x4 = some o) (Kr : ∀ r : MS, o = r → ∀ (pc : Nat) (H : Heap) (locs : List Loc) (ls : Array Slot), decode prog_14_method_44_code pc = .ok (.return_, 1) → va_P D cls (mw md mc r) H → va_D A (mw md mc r) → va_S A s.heap H locs → W p l e ({ frames := 1, cells := 0, slots := 0, locals := 20 }) s m args below meth c H locs 0 0 Q (F0 m pc ls [])) : ∀ (H : Heap) (locs : List Loc) (ls : Array Slot), va_P D cls (mw md mc S) H → va_D A (mw md mc S) → va_S A s.heap H locs → lv_has ls 7 [(0, .ref (md 100)), (1, .int x1), (2, .int x2), (4, .long x4)] → W p l e ({ frames := 1, cells := 0, slots := 0, locals := 20 }) s m args below meth c H locs 0 0 Q (F0 m 148 ls []) := by
  intro H locs ls hP hD hS hl
  obtain ⟨hx, hb, hr, hml, hown, hts, hK, hA⟩ := id hC
  unfold m_rdigits_J148 at Heq
  refine lv_aload_n hx hb d_rdigits_148 rfl (lv_at hl 0 rfl) ?_
  refine va_get (D := D) (ci := 12) (v := .ref (md 53)) (C := R_MM) (T := F_MM) (N := 77) hx hb hts i_MM hown hK hP 0 rfl rfl 53 (by decide) (hts _ kw_1435) (fun _ h9 => h9) rfl d_rdigits_149 ?_
  refine lv_iload_n hx hb d_rdigits_152 rfl (lv_at hl 1 rfl) ?_
  refine lv_iconst (v := 3) hx hb d_rdigits_153 (by decide) ?_
  obtain ⟨hi_1, Heq⟩ := gd_some Heq
  refine va_iast hx hb hK hP hD hS 35 0 rfl rfl (i := x1) (x := 3) hi_1 d_rdigits_154 (fun H locs hP hD hS => ?_)
  rw [mw_A53] at hP hD
  refine lv_aload_n hx hb d_rdigits_155 rfl (lv_at hl 0 rfl) ?_
  refine va_get (D := D) (ci := 12) (v := .ref (md 61)) (C := R_MM) (T := F_MM) (N := 77) hx hb hts i_MM hown hK hP 0 rfl rfl 61 (by decide) (hts _ kw_1443) (fun _ h9 => h9) rfl d_rdigits_156 ?_
  refine lv_iload_n hx hb d_rdigits_159 rfl (lv_at hl 1 rfl) ?_
  refine lv_iload_n hx hb d_rdigits_160 rfl (lv_at hl 2 rfl) ?_
  refine lv_if_eq (tgt := 170) hx hb d_rdigits_161 (by decide) (fun c_2 => ?_) (fun c_2 => ?_)
  · replace Heq := (if_pos c_2).symm.trans Heq
    refine lv_lload hx hb d_rdigits_170 (lv_at hl 3 rfl) ?_
    exact w_rdigits_J172 hC Heq Kr _ _ _ hP hD hS (lv_sub hl [0] rfl)
  · replace Heq := (if_neg c_2).symm.trans Heq
    refine lv_lload hx hb d_rdigits_164 (lv_at hl 3 rfl) ?_
    refine lv_lneg hx hb d_rdigits_166 ?_
    refine w_l (y := -x4) rfl ?_
    refine lv_goto (tgt := 172) hx hb d_rdigits_167 (by decide) ?_
    exact w_rdigits_J172 hC Heq Kr _ _ _ hP hD hS (lv_sub hl [0] rfl)
def m_rdigits_J72 (S : MS) (x1 : Int32) (x2 : Int32) (x3 : Int32) (x4 : Int64) (t0 : Int32) : Option MS := oe (m_rdigits_L74 S x1 x2 x3 x4 t0) (fun b_1 => m_rdigits_J148 b_1.1 b_1.2.1 b_1.2.2.1 b_1.2.2.2) (fun r_3 => some r_3)
set_option maxHeartbeats 4000000 in
set_option maxRecDepth 100000 in
theorem w_rdigits_J72 {p : Program} {l : Launch} {e : Env} {s : State} {m : MethodId} {args : Array Value} {below : List Frame} {meth : Method} {c : Code} {A : Nat → Prop} {D : va_G} {md : Nat → Nat} {mc : Nat → ClassId} {Q : State → Prop} (hC : MCx "JoinedTreesModel" prog_14_method_44_code 7 none p s m args meth c A D mc) {S : MS} {x1 : Int32} {x2 : Int32} {x3 : Int32} {x4 : Int64} {t0 : Int32} {o : MS} (Heq : m_rdigits_J72 S x1 x2 x3 x4 t0 = some o) (Kr : ∀ r : MS, o = r → ∀ (pc : Nat) (H : Heap) (locs : List Loc) (ls : Array Slot), decode prog_14_method_44_code pc = .ok (.return_, 1) → va_P D cls (mw md mc r) H → va_D A (mw md mc r) → va_S A s.heap H locs → W p l e ({ frames := 1, cells := 0, slots := 0, locals := 20 }) s m args below meth c H locs 0 0 Q (F0 m pc ls [])) : ∀ (H : Heap) (locs : List Loc) (ls : Array Slot), va_P D cls (mw md mc S) H → va_D A (mw md mc S) → va_S A s.heap H locs → lv_has ls 7 [(0, .ref (md 100)), (1, .int x1), (2, .int x2), (3, .int x3), (4, .long x4)] → W p l e ({ frames := 1, cells := 0, slots := 0, locals := 20 }) s m args below meth c H locs 0 0 Q (F0 m 72 ls [.int t0]) := by
  intro H locs ls hP hD hS hl
  obtain ⟨hx, hb, hr, hml, hown, hts, hK, hA⟩ := id hC
  unfold m_rdigits_J72 at Heq
  refine lv_istore (lv' := [(6, .int t0), (0, .ref (md 100)), (1, .int x1), (2, .int x2), (3, .int x3), (4, .long x4)]) hx hb d_rdigits_72 hl (by decide) rfl (fun ls hl => ?_)
  rcases oe_some Heq with ⟨b_1, h_2, Heq⟩ | ⟨r_3, h_2, Heq⟩
  · refine w_rdigits_L74 hC h_2 (fun b h => ?_) (fun r h => by cases h) _ _ _ hP hD hS (lv_sub hl [1, 2, 3, 4, 5, 0] rfl)
    cases h
    intro H locs ls hP hD hS hl
    exact w_rdigits_J148 hC Heq Kr _ _ _ hP hD hS (lv_sub hl [0, 1, 2, 3] rfl)
  · refine w_rdigits_L74 hC h_2 (fun b h => by cases h) (fun r h => ?_) _ _ _ hP hD hS (lv_sub hl [1, 2, 3, 4, 5, 0] rfl)
    cases h
    exact Kr _ (Option.some.inj Heq).symm
def m_rdigits_J29 (S : MS) (x1 : Int32) (x2 : Int32) : Option MS := ob (m_rsign S) (fun o_1 => (if o_1.2 < 48 then m_rdigits_J52 o_1.1 else ob (m_rsign o_1.1) (fun o_4 => (if o_4.2 ≤ 57 then ob (m_rsign o_4.1) (fun o_7 => (if o_7.2 = 48 then m_rdigits_J72 o_7.1 x1 x2 0 0 1 else m_rdigits_J72 o_7.1 x1 x2 0 0 0)) else m_rdigits_J52 o_4.1))))
theorem d_rdigits_67 : decode prog_14_method_44_code 67 = .ok (.iconst 1, 1) := by decide +kernel
theorem d_rdigits_68 : decode prog_14_method_44_code 68 = .ok (.goto 4, 3) := by decide +kernel
set_option maxHeartbeats 4000000 in
set_option maxRecDepth 100000 in
theorem w_rdigits_J29 {p : Program} {l : Launch} {e : Env} {s : State} {m : MethodId} {args : Array Value} {below : List Frame} {meth : Method} {c : Code} {A : Nat → Prop} {D : va_G} {md : Nat → Nat} {mc : Nat → ClassId} {Q : State → Prop} (hC : MCx "JoinedTreesModel" prog_14_method_44_code 7 none p s m args meth c A D mc) {S : MS} {x1 : Int32} {x2 : Int32} {o : MS} (Heq : m_rdigits_J29 S x1 x2 = some o) (Kr : ∀ r : MS, o = r → ∀ (pc : Nat) (H : Heap) (locs : List Loc) (ls : Array Slot), decode prog_14_method_44_code pc = .ok (.return_, 1) → va_P D cls (mw md mc r) H → va_D A (mw md mc r) → va_S A s.heap H locs → W p l e ({ frames := 1, cells := 0, slots := 0, locals := 20 }) s m args below meth c H locs 0 0 Q (F0 m pc ls [])) : ∀ (H : Heap) (locs : List Loc) (ls : Array Slot), va_P D cls (mw md mc S) H → va_D A (mw md mc S) → va_S A s.heap H locs → lv_has ls 7 [(0, .ref (md 100)), (1, .int x1), (2, .int x2)] → W p l e ({ frames := 1, cells := 0, slots := 0, locals := 20 }) s m args below meth c H locs 0 0 Q (F0 m 29 ls []) := by
  intro H locs ls hP hD hS hl
  obtain ⟨hx, hb, hr, hml, hown, hts, hK, hA⟩ := id hC
  unfold m_rdigits_J29 at Heq
  refine lv_iconst (v := 0) hx hb d_rdigits_29 (by decide) ?_
  refine lv_istore_n (lv' := [(3, .int 0), (0, .ref (md 100)), (1, .int x1), (2, .int x2)]) hx hb d_rdigits_30 rfl hl (by decide) rfl (fun ls hl => ?_)
  refine lv_lconst (v := 0) hx hb d_rdigits_31 (by decide) ?_
  refine lv_lstore (lv' := [(4, .long 0), (3, .int 0), (0, .ref (md 100)), (1, .int x1), (2, .int x2)]) hx hb d_rdigits_32 hl (by decide) rfl (fun ls hl => ?_)
  refine lv_aload_n hx hb d_rdigits_34 rfl (lv_at hl 2 rfl) ?_
  obtain ⟨o_1, h_2, Heq⟩ := ob_some Heq
  have hFc := fr_all hD hS hA
  refine va_calli (va_runV (As := []) (rest := []) ⟨hx, hb, hml, hown, hts⟩ (g_rsign l D H.size h_2) (cw_v 0 hts kw_1777 kw_1774 kw_1776 kp_57 kw_11 rfl rfl (by decide +kernel) ⟨Nat.le_of_ble_eq_true rfl, Nat.le_of_ble_eq_true rfl⟩) ⟨g_blind, va_recv hK hP (ci := 12) (q0 := 0) rfl rfl, fun U hU hW => g_pre hU hW hP hK hD⟩ rfl rfl hl.1 rfl (lv_room (Nat.le_of_ble_eq_true rfl)) d_rdigits_35 ⟨Nat.le_of_ble_eq_true rfl, Nat.le_of_ble_eq_true rfl⟩) hS (fun q _ h => hFc q h) hFc (fun rz u t H1 locs ht hvm hw hB hz1 hk1 hS => ?_)
  obtain ⟨hP, -, hD1⟩ := hB
  rw [ht] at hP
  have hD := hD1.weaken (fun _ q _ h => hFc q.1 h)
  generalize H1 = H at hP hS ⊢
  refine W.cs (cells' := 0) (slots' := 0) rfl rfl ?_
  subst hw
  refine lv_bipush (v := 48) hx hb d_rdigits_38 (by decide) ?_
  refine lv_icmp_lt (tgt := 52) hx hb d_rdigits_40 (by decide) (fun c_3 => ?_) (fun c_3 => ?_)
  · replace Heq := (if_pos c_3).symm.trans Heq
    exact w_rdigits_J52 hC Heq Kr _ _ _ hP hD hS (lv_sub hl [2] rfl)
  · replace Heq := (if_neg c_3).symm.trans Heq
    refine lv_aload_n hx hb d_rdigits_43 rfl (lv_at hl 2 rfl) ?_
    obtain ⟨o_4, h_5, Heq⟩ := ob_some Heq
    have hFc := fr_all hD hS hA
    refine va_calli (va_runV (As := []) (rest := []) ⟨hx, hb, hml, hown, hts⟩ (g_rsign l D H.size h_5) (cw_v 0 hts kw_1777 kw_1774 kw_1776 kp_57 kw_11 rfl rfl (by decide +kernel) ⟨Nat.le_of_ble_eq_true rfl, Nat.le_of_ble_eq_true rfl⟩) ⟨g_blind, va_recv hK hP (ci := 12) (q0 := 0) rfl rfl, fun U hU hW => g_pre hU hW hP hK hD⟩ rfl rfl hl.1 rfl (lv_room (Nat.le_of_ble_eq_true rfl)) d_rdigits_44 ⟨Nat.le_of_ble_eq_true rfl, Nat.le_of_ble_eq_true rfl⟩) hS (fun q _ h => hFc q h) hFc (fun rz u t H1 locs ht hvm hw hB hz1 hk1 hS => ?_)
    obtain ⟨hP, -, hD1⟩ := hB
    rw [ht] at hP
    have hD := hD1.weaken (fun _ q _ h => hFc q.1 h)
    generalize H1 = H at hP hS ⊢
    refine W.cs (cells' := 0) (slots' := 0) rfl rfl ?_
    subst hw
    refine lv_bipush (v := 57) hx hb d_rdigits_47 (by decide) ?_
    refine lv_icmp_le (tgt := 58) hx hb d_rdigits_49 (by decide) (fun c_6 => ?_) (fun c_6 => ?_)
    · replace Heq := (if_pos c_6).symm.trans Heq
      refine lv_aload_n hx hb d_rdigits_58 rfl (lv_at hl 2 rfl) ?_
      obtain ⟨o_7, h_8, Heq⟩ := ob_some Heq
      have hFc := fr_all hD hS hA
      refine va_calli (va_runV (As := []) (rest := []) ⟨hx, hb, hml, hown, hts⟩ (g_rsign l D H.size h_8) (cw_v 0 hts kw_1777 kw_1774 kw_1776 kp_57 kw_11 rfl rfl (by decide +kernel) ⟨Nat.le_of_ble_eq_true rfl, Nat.le_of_ble_eq_true rfl⟩) ⟨g_blind, va_recv hK hP (ci := 12) (q0 := 0) rfl rfl, fun U hU hW => g_pre hU hW hP hK hD⟩ rfl rfl hl.1 rfl (lv_room (Nat.le_of_ble_eq_true rfl)) d_rdigits_59 ⟨Nat.le_of_ble_eq_true rfl, Nat.le_of_ble_eq_true rfl⟩) hS (fun q _ h => hFc q h) hFc (fun rz u t H1 locs ht hvm hw hB hz1 hk1 hS => ?_)
      obtain ⟨hP, -, hD1⟩ := hB
      rw [ht] at hP
      have hD := hD1.weaken (fun _ q _ h => hFc q.1 h)
      generalize H1 = H at hP hS ⊢
      refine W.cs (cells' := 0) (slots' := 0) rfl rfl ?_
      subst hw
      refine lv_bipush (v := 48) hx hb d_rdigits_62 (by decide) ?_
      refine lv_icmp_ne (tgt := 71) hx hb d_rdigits_64 (by decide) (fun c_9 => ?_) (fun c_9 => ?_)
      · replace Heq := (if_neg c_9).symm.trans Heq
        refine lv_iconst (v := 0) hx hb d_rdigits_71 (by decide) ?_
        exact w_rdigits_J72 hC Heq Kr _ _ _ hP hD hS (lv_sub hl [2, 3, 4, 1, 0] rfl)
      · replace Heq := (if_pos c_9).symm.trans Heq
        refine lv_iconst (v := 1) hx hb d_rdigits_67 (by decide) ?_
        refine lv_goto (tgt := 72) hx hb d_rdigits_68 (by decide) ?_
        exact w_rdigits_J72 hC Heq Kr _ _ _ hP hD hS (lv_sub hl [2, 3, 4, 1, 0] rfl)
    · replace Heq := (if_neg c_6).symm.trans Heq
      exact w_rdigits_J52 hC Heq Kr _ _ _ hP hD hS (lv_sub hl [2] rfl)
def m_rdigits_J14 (S : MS) (x1 : Int32) (t0 : Int32) : Option MS := (if t0 = 0 then m_rdigits_J29 S x1 t0 else m_rdigits_J29 (S.setI 66 ((S.i 66) + 1)) x1 t0)
theorem d_rdigits_19 : decode prog_14_method_44_code 19 = .ok (.aload_n 0, 1) := by decide +kernel
theorem d_rdigits_20 : decode prog_14_method_44_code 20 = .ok (.dup, 1) := by decide +kernel
theorem d_rdigits_21 : decode prog_14_method_44_code 21 = .ok (.getfield 313, 3) := by decide +kernel
theorem d_rdigits_24 : decode prog_14_method_44_code 24 = .ok (.iconst 1, 1) := by decide +kernel
theorem d_rdigits_25 : decode prog_14_method_44_code 25 = .ok (.iadd, 1) := by decide +kernel
theorem d_rdigits_26 : decode prog_14_method_44_code 26 = .ok (.putfield 313, 3) := by decide +kernel
set_option maxHeartbeats 4000000 in
set_option maxRecDepth 100000 in
theorem w_rdigits_J14 {p : Program} {l : Launch} {e : Env} {s : State} {m : MethodId} {args : Array Value} {below : List Frame} {meth : Method} {c : Code} {A : Nat → Prop} {D : va_G} {md : Nat → Nat} {mc : Nat → ClassId} {Q : State → Prop} (hC : MCx "JoinedTreesModel" prog_14_method_44_code 7 none p s m args meth c A D mc) {S : MS} {x1 : Int32} {t0 : Int32} {o : MS} (Heq : m_rdigits_J14 S x1 t0 = some o) (Kr : ∀ r : MS, o = r → ∀ (pc : Nat) (H : Heap) (locs : List Loc) (ls : Array Slot), decode prog_14_method_44_code pc = .ok (.return_, 1) → va_P D cls (mw md mc r) H → va_D A (mw md mc r) → va_S A s.heap H locs → W p l e ({ frames := 1, cells := 0, slots := 0, locals := 20 }) s m args below meth c H locs 0 0 Q (F0 m pc ls [])) : ∀ (H : Heap) (locs : List Loc) (ls : Array Slot), va_P D cls (mw md mc S) H → va_D A (mw md mc S) → va_S A s.heap H locs → lv_has ls 7 [(0, .ref (md 100)), (1, .int x1)] → W p l e ({ frames := 1, cells := 0, slots := 0, locals := 20 }) s m args below meth c H locs 0 0 Q (F0 m 14 ls [.int t0]) := by
  intro H locs ls hP hD hS hl
  obtain ⟨hx, hb, hr, hml, hown, hts, hK, hA⟩ := id hC
  unfold m_rdigits_J14 at Heq
  refine lv_istore_n (lv' := [(2, .int t0), (0, .ref (md 100)), (1, .int x1)]) hx hb d_rdigits_14 rfl hl (by decide) rfl (fun ls hl => ?_)
  refine lv_iload_n hx hb d_rdigits_15 rfl (lv_at hl 0 rfl) ?_
  refine lv_if_eq (tgt := 29) hx hb d_rdigits_16 (by decide) (fun c_1 => ?_) (fun c_1 => ?_)
  · replace Heq := (if_pos c_1).symm.trans Heq
    exact w_rdigits_J29 hC Heq Kr _ _ _ hP hD hS (lv_sub hl [1, 2, 0] rfl)
  · replace Heq := (if_neg c_1).symm.trans Heq
    refine lv_aload_n hx hb d_rdigits_19 rfl (lv_at hl 1 rfl) ?_
    refine lv_dup hx hb d_rdigits_20 rfl ?_
    refine va_get (D := D) (ci := 12) (v := .int (S.i 66)) (C := R_MM) (T := F_MM) (N := 77) hx hb hts i_MM hown hK hP 0 rfl rfl 66 (by decide) (hts _ kw_1448) (fun _ h9 => h9) rfl d_rdigits_21 ?_
    refine lv_iconst (v := 1) hx hb d_rdigits_24 (by decide) ?_
    refine lv_iadd hx hb d_rdigits_25 ?_
    refine w_i (y := (S.i 66) + 1) rfl ?_
    refine va_put (D := D) (ci := 12) (v := .int ((S.i 66) + 1)) (ty := .int) (C := R_MM) (T := F_MM) (N := 77) hx hb hts i_MM t_MM t_MM_ok n_MM hown hK hP hD hS 0 rfl rfl 66 (by decide) (hts _ kw_1448) (fun _ h9 => h9) rfl (by decide +kernel) rfl rfl (Nat.le_of_ble_eq_true rfl) d_rdigits_26 (fun H locs hP hD hS => ?_)
    rw [mw_I66] at hP hD
    exact w_rdigits_J29 hC Heq Kr _ _ _ hP hD hS (lv_sub hl [1, 2, 0] rfl)
def m_rdigits_J0 (S : MS) (x1 : Int32) : Option MS := ob (m_rsign S) (fun o_1 => (if o_1.2 = 45 then m_rdigits_J14 o_1.1 x1 1 else m_rdigits_J14 o_1.1 x1 0))
theorem d_rdigits_9 : decode prog_14_method_44_code 9 = .ok (.iconst 1, 1) := by decide +kernel
theorem d_rdigits_10 : decode prog_14_method_44_code 10 = .ok (.goto 4, 3) := by decide +kernel
set_option maxHeartbeats 4000000 in
set_option maxRecDepth 100000 in
theorem w_rdigits_J0 {p : Program} {l : Launch} {e : Env} {s : State} {m : MethodId} {args : Array Value} {below : List Frame} {meth : Method} {c : Code} {A : Nat → Prop} {D : va_G} {md : Nat → Nat} {mc : Nat → ClassId} {Q : State → Prop} (hC : MCx "JoinedTreesModel" prog_14_method_44_code 7 none p s m args meth c A D mc) {S : MS} {x1 : Int32} {o : MS} (Heq : m_rdigits_J0 S x1 = some o) (Kr : ∀ r : MS, o = r → ∀ (pc : Nat) (H : Heap) (locs : List Loc) (ls : Array Slot), decode prog_14_method_44_code pc = .ok (.return_, 1) → va_P D cls (mw md mc r) H → va_D A (mw md mc r) → va_S A s.heap H locs → W p l e ({ frames := 1, cells := 0, slots := 0, locals := 20 }) s m args below meth c H locs 0 0 Q (F0 m pc ls [])) : ∀ (H : Heap) (locs : List Loc) (ls : Array Slot), va_P D cls (mw md mc S) H → va_D A (mw md mc S) → va_S A s.heap H locs → lv_has ls 7 [(0, .ref (md 100)), (1, .int x1)] → W p l e ({ frames := 1, cells := 0, slots := 0, locals := 20 }) s m args below meth c H locs 0 0 Q (F0 m 0 ls []) := by
  intro H locs ls hP hD hS hl
  obtain ⟨hx, hb, hr, hml, hown, hts, hK, hA⟩ := id hC
  unfold m_rdigits_J0 at Heq
  refine lv_aload_n hx hb d_rdigits_0 rfl (lv_at hl 0 rfl) ?_
  obtain ⟨o_1, h_2, Heq⟩ := ob_some Heq
  have hFc := fr_all hD hS hA
  refine va_calli (va_runV (As := []) (rest := []) ⟨hx, hb, hml, hown, hts⟩ (g_rsign l D H.size h_2) (cw_v 0 hts kw_1777 kw_1774 kw_1776 kp_57 kw_11 rfl rfl (by decide +kernel) ⟨Nat.le_of_ble_eq_true rfl, Nat.le_of_ble_eq_true rfl⟩) ⟨g_blind, va_recv hK hP (ci := 12) (q0 := 0) rfl rfl, fun U hU hW => g_pre hU hW hP hK hD⟩ rfl rfl hl.1 rfl (lv_room (Nat.le_of_ble_eq_true rfl)) d_rdigits_1 ⟨Nat.le_of_ble_eq_true rfl, Nat.le_of_ble_eq_true rfl⟩) hS (fun q _ h => hFc q h) hFc (fun rz u t H1 locs ht hvm hw hB hz1 hk1 hS => ?_)
  obtain ⟨hP, -, hD1⟩ := hB
  rw [ht] at hP
  have hD := hD1.weaken (fun _ q _ h => hFc q.1 h)
  generalize H1 = H at hP hS ⊢
  refine W.cs (cells' := 0) (slots' := 0) rfl rfl ?_
  subst hw
  refine lv_bipush (v := 45) hx hb d_rdigits_4 (by decide) ?_
  refine lv_icmp_ne (tgt := 13) hx hb d_rdigits_6 (by decide) (fun c_3 => ?_) (fun c_3 => ?_)
  · replace Heq := (if_neg c_3).symm.trans Heq
    refine lv_iconst (v := 0) hx hb d_rdigits_13 (by decide) ?_
    exact w_rdigits_J14 hC Heq Kr _ _ _ hP hD hS (lv_sub hl [0, 1] rfl)
  · replace Heq := (if_pos c_3).symm.trans Heq
    refine lv_iconst (v := 1) hx hb d_rdigits_9 (by decide) ?_
    refine lv_goto (tgt := 14) hx hb d_rdigits_10 (by decide) ?_
    exact w_rdigits_J14 hC Heq Kr _ _ _ hP hD hS (lv_sub hl [0, 1] rfl)
def m_rdigits (S : MS) (x1 : Int32) : Option MS := m_rdigits_J0 S x1
theorem g_rdigits (l : Launch) (D : va_G) (sz : Nat) {md : Nat → Nat} {mc : Nat → ClassId} {S : MS} {x1 : Int32} {o : MS} (Heq : m_rdigits S x1 = some o) : Met l ⟨"JoinedTreesModel", "digits", "(I)V"⟩ (Cond.code ⟨"JoinedTreesModel", "digits", "(I)V"⟩ prog_14_method_44_code 7 none :: gb) ({ frames := 1, cells := 0, slots := 0, locals := 20 }) (gPc D (mw md mc S) (mty mc) sz [.ref (md 100), .int x1]) (va_Qv (fun _ : Unit => True) (fun _ t => gO D (mw md mc o) (mty mc) (va_A (mw md mc S) sz) t) (va_A (mw md mc S) sz)) 0 0 (va_A (mw md mc S) sz) := by
  refine Met.ofW (cc := prog_14_method_44_code) (maxL := 7) (ret := none) (by decide) rfl ?_
  intro p e s m args below meth c s₁ B hml hv
  obtain ⟨rfl, hsz, hP, hK, hD0⟩ := hv
  have hx := B.exec
  have hb := B.bytes
  have hr := B.returns
  have hts : ∀ w9 ∈ gb, w9.before [.ref (md 100), .int x1].toArray s = true := fun w9 h => atoms_spec (ws := Cond.code ⟨"JoinedTreesModel", "digits", "(I)V"⟩ prog_14_method_44_code 7 none :: gb) B.pre w9 (List.mem_cons_of_mem _ h)
  have hown : s.vm.findClass "JoinedTreesModel" = some m.cls := findClass_of_methodNamed B.named
  have hlocks := B.notSynchronized
  subst hsz
  have hD := hD0.self (sz := s.heap.size)
  generalize hAe : va_A (mw md mc S) s.heap.size = A at hD ⊢
  have hA : ∀ q : Nat, s.heap.size ≤ q → A q := fun q h => by rw [← hAe]; exact Or.inr h
  have hS : va_S A s.heap s.heap [] := va_S.rf
  have hl := lv_entry ([.ref (md 100), .int x1]) (n := 7) (Nat.le_of_ble_eq_true rfl)
  rw [lg_entry_eq]
  generalize (lg_sl ([.ref (md 100), .int x1]) ++ List.replicate (7 - (lg_sl ([.ref (md 100), .int x1])).length) Slot.unset).toArray = ls at hl ⊢
  have hl : lv_has ls 7 [(0, .ref (md 100)), (1, .int x1)] := hl
  refine w_rdigits_J0 ⟨hx, hb, hr, hml, hown, hts, hK, hA⟩ Heq (fun r h pc H locs ls hd hP hD hS => ?_) _ _ _ hP hD hS (lv_sub hl [0, 1] rfl)
  subst h
  exact W.vret hx hb hr (fun t ht hW => ⟨⟨(), rfl, trivial, by rw [ht]; exact hP, va_K.moved hW.alike hK, hD⟩, hS.F ht⟩) hS.2.2 hd
