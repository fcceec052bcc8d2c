/-! THE CLAIM OUT OF ONE WALK OF THE LAW'S BODY. Your part is whole_start (and what it stands on); all else here is the same for every law, but numbers. -/
def R_law : String := "JoinedTreesLaw"
def lw_P (b : Addr) (xs : List Int32) (args : Array Value) (s : State) : Prop := args = #[.ref b] ∧ s.IntsAt b xs ∧ xs.length ≤ 7 ∧ (Jvm.Cond.and given_1 narrow_1).before args s = true
def lw_Q (_ : Array Value) (s : State) (o : Outcome) (t : State) : Prop := o = .returned (some (.int 1)) ∧ Framed s o t [] 600002 7302232
def lw_Z (below : List Frame) (a : Array Value) (s : State) : State → Prop := fun t => ∃ o, t.status = .running ∧ Ended t below o ∧ lw_Q a s o t
/-- the law's own end, with 1 on the stack, nothing written that was there before, its room as the claim has it -/
theorem lw_ret {p : Program} {l : Launch} {e : Env} {s : State} {m : MethodId} {below : List Frame} {meth : Method} {c : Code} {b : Nat} (hx : p.tables.exec = Jvm.exec) (hb : c.code = code) (hr : meth.sig.returnType = ret) (hlocks : meth.locks = false) {pc : Nat} {H : Heap} {ls : Array Slot} (hdg : decode code pc = .ok (.ireturn, 1)) : W p l e room_1 s m #[Value.ref b] below meth c H [] 600002 7302232 (lw_Z below #[Value.ref b] s) (F0 m pc ls [.int 1]) := by
  intro T hT X
  obtain ⟨fs, hret, hrun, hended, hW, hframe⟩ := X.leave (v := some (.int 1)) (hlocks := hlocks) (fun h => by rw [hr] at h; cases h)
  have hmeth' : T.vm.method? m = some meth := X.method'
  refine ⟨T.setFrames fs, ?_, .returned (some (.int 1)), hrun, hended, rfl, ⟨_, rfl⟩, hW, hframe⟩
  jvm_step X.here [X.here.top, hx, hb, hdg, hmeth', hr, ret, narrow_b1]
  (try refine ⟨rfl, ?_⟩); (try refine ⟨rfl, ?_⟩)
  first | (intro acts; rw [hret _ acts rfl rfl rfl]) | rw [hret _ _ rfl rfl rfl]
  exact Steps.refl _
/-- what holds at the law's entry: the machine, the code, the tables' words (any of lw_tbl by 'hts w (by decide +kernel)'), the script of L ints xs at the cell b, what the Statement gives of the start (any of its parts by flat_of_before) -/
def lw_At (p : Program) (s : State) (m : MethodId) (meth : Method) (c : Code) (b L : Nat) (xs : Nat → Int32) : Prop :=
  p.tables.exec = Jvm.exec ∧ c.code = code ∧ meth.sig.returnType = ret ∧ c.maxLocals = 8 ∧ s.vm.findClass R_law = some m.cls ∧ (∀ w ∈ lw_tbl, w.before #[Value.ref b] s = true) ∧ va_X b L xs s s.heap ∧ b < s.heap.size ∧ meth.locks = false ∧ (Jvm.Cond.and given_1 narrow_1).before #[Value.ref b] s = true

theorem tm_1 {w : Cond} (i : Nat) (h : tables_1_1[i]? = some w) : w ∈ lw_tbl := List.mem_append_right _ (List.mem_append_left _ (List.mem_of_getElem? h))
theorem tm_2 {w : Cond} (i : Nat) (h : tables_1_2[i]? = some w) : w ∈ lw_tbl := List.mem_append_right _ (List.mem_append_right _ (List.mem_append_left _ (List.mem_of_getElem? h)))
theorem tm_3 {w : Cond} (i : Nat) (h : tables_1_3[i]? = some w) : w ∈ lw_tbl := List.mem_append_right _ (List.mem_append_right _ (List.mem_append_right _ (List.mem_append_left _ (List.mem_of_getElem? h))))
theorem tm_4 {w : Cond} (i : Nat) (h : tables_1_4[i]? = some w) : w ∈ lw_tbl := List.mem_append_right _ (List.mem_append_right _ (List.mem_append_right _ (List.mem_append_right _ (List.mem_append_left _ (List.mem_of_getElem? h)))))
theorem tm_5 {w : Cond} (i : Nat) (h : tables_1_5[i]? = some w) : w ∈ lw_tbl := List.mem_append_right _ (List.mem_append_right _ (List.mem_append_right _ (List.mem_append_right _ (List.mem_append_right _ (List.mem_append_left _ (List.mem_of_getElem? h))))))
theorem tm_6 {w : Cond} (i : Nat) (h : tables_1_6[i]? = some w) : w ∈ lw_tbl := List.mem_append_right _ (List.mem_append_right _ (List.mem_append_right _ (List.mem_append_right _ (List.mem_append_right _ (List.mem_append_right _ (List.mem_append_left _ (List.mem_of_getElem? h)))))))
theorem tm_7 {w : Cond} (i : Nat) (h : tables_1_7[i]? = some w) : w ∈ lw_tbl := List.mem_append_right _ (List.mem_append_right _ (List.mem_append_right _ (List.mem_append_right _ (List.mem_append_right _ (List.mem_append_right _ (List.mem_append_right _ (List.mem_append_left _ (List.mem_of_getElem? h))))))))
theorem tm_8 {w : Cond} (i : Nat) (h : tables_1_8[i]? = some w) : w ∈ lw_tbl := List.mem_append_right _ (List.mem_append_right _ (List.mem_append_right _ (List.mem_append_right _ (List.mem_append_right _ (List.mem_append_right _ (List.mem_append_right _ (List.mem_append_right _ (List.mem_append_left _ (List.mem_of_getElem? h)))))))))
theorem tm_9 {w : Cond} (i : Nat) (h : tables_1_9[i]? = some w) : w ∈ lw_tbl := List.mem_append_right _ (List.mem_append_right _ (List.mem_append_right _ (List.mem_append_right _ (List.mem_append_right _ (List.mem_append_right _ (List.mem_append_right _ (List.mem_append_right _ (List.mem_append_right _ (List.mem_of_getElem? h)))))))))
abbrev lA (s : State) : Nat → Prop := fun q => s.heap.size ≤ q
theorem nc_of {args : Array Value} {s : State} {E C : String} (h : (Cond.not (.castable E C)).before args s = true) : tx_NC E C s := by
  intro cE cC h1 h2
  simpa [Cond.before, Cond.holds, Cond.value, h1, h2] using h
theorem law_crc {s : State} {b : Nat} (hts : ∀ w ∈ lw_tbl, w.before #[Value.ref b] s = true) (hgv : (Jvm.Cond.and given_1 narrow_1).before #[Value.ref b] s = true) : evc (lA s) s := by
  have hs := flat_of_before _ hgv
  have hn : ∀ a : Nat, a < s.heap.size → ¬ lA s a := fun a h => Nat.not_le.mpr h
  obtain ⟨t, h1, h2⟩ := va_Tof (A := lA s) (args := #[Value.ref b]) (s := s) (tm := .static "JoinedTrees$Saver" "CRC_OF_FOUR_BITS" "[I") (ty := .int) (N := 16) (f := fun j => .int (crcT j)) (by decide) (hs _ (by decide +kernel))
    (Cond.eq_int (n := 16) (hs (Cond.eq (.length (.static "JoinedTrees$Saver" "CRC_OF_FOUR_BITS" "[I")) (.int 16)) (by decide +kernel)) rfl)
    (fun j hj => Cond.eq_int (n := crcT j) (b := .int (crcT j)) (hs (Cond.eq (.elem (.static "JoinedTrees$Saver" "CRC_OF_FOUR_BITS" "[I") (.int (Int32.ofNat j))) (.int (crcT j))) (by revert hj; revert j; decide +kernel)) rfl) hn
  exact ⟨t, va_Zof (hts _ (tm_6 114 (by decide +kernel))) (hts _ (tm_1 10 (by decide +kernel))) h1 hn, h2⟩
theorem law_ev {s : State} {b : Nat} (hts : ∀ w ∈ lw_tbl, w.before #[Value.ref b] s = true) (hgv : (Jvm.Cond.and given_1 narrow_1).before #[Value.ref b] s = true) : ev (lA s) s := by
  have hs := flat_of_before _ hgv
  have hn : ∀ a : Nat, a < s.heap.size → ¬ lA s a := fun a h => Nat.not_le.mpr h
  refine ⟨⟨va_Zqof (hts _ (tm_3 24 (by decide +kernel))) (hts _ (tm_1 12 (by decide +kernel))) (hs _ (by decide +kernel)) hn, law_crc hts hgv⟩, va_Zqof (hts _ (tm_3 26 (by decide +kernel))) (hts _ (tm_1 12 (by decide +kernel))) (hs _ (by decide +kernel)) hn, (show (Cond.laysStatic Bundle.tN "UNASSIGNED_STACK" Bundle.steD).before #[] s = true from (show (Cond.laysStatic Bundle.tN "UNASSIGNED_STACK" Bundle.steD).before #[Value.ref b] s = true from (hts _ (tm_3 24 (by decide +kernel))))), (show (Cond.laysStatic Bundle.tN "SUPPRESSED_SENTINEL" Bundle.listD).before #[] s = true from (show (Cond.laysStatic Bundle.tN "SUPPRESSED_SENTINEL" Bundle.listD).before #[Value.ref b] s = true from (hts _ (tm_3 26 (by decide +kernel))))), ?_⟩
  exact ⟨⟨va_AO.of (A := #[Value.ref b]) (hts _ (tm_1 133 (by decide +kernel))), va_AO.of (A := #[Value.ref b]) (hts _ (tm_1 160 (by decide +kernel))), va_AO.of (A := #[Value.ref b]) (hts _ (tm_1 193 (by decide +kernel))), va_AO.of (A := #[Value.ref b]) (hts _ (tm_2 47 (by decide +kernel))), (show (Cond.arrayOver (.array .boolean)).before #[] s = true from (show (Cond.arrayOver (.array .boolean)).before #[Value.ref b] s = true from (hts _ (tm_6 179 (by decide +kernel)))))⟩,
    ⟨va_Nw.of rfl (hts _ (tm_3 80 (by decide +kernel))), va_Nw.of rfl (hts _ (tm_3 170 (by decide +kernel))), va_Nw.of rfl (hts _ (tm_3 151 (by decide +kernel))), va_Nw.of rfl (hts _ (tm_2 239 (by decide +kernel)))⟩,
    ⟨va_Nw.of rfl (hts _ (tm_1 38 (by decide +kernel))), va_Nw.of rfl (hts _ (tm_2 51 (by decide +kernel)))⟩,
    ⟨nc_of (hs _ (by decide +kernel)), nc_of (hs _ (by decide +kernel)), nc_of (hs _ (by decide +kernel))⟩,
    va_Nw.of rfl (hts _ (tm_3 0 (by decide +kernel))), va_Nw.of rfl (hts _ (tm_3 2 (by decide +kernel))), va_Nw.of rfl (hts _ (tm_3 4 (by decide +kernel)))⟩
theorem d_oc {A : Nat → Prop} {X Y : va_W} {o : Nat} {e e' : va_E} (hD : va_D A ((X ++ [(o, e)]) ++ Y)) : va_D A ([(o, e')] ++ Y) := by
  have g : ∀ (i : Nat) (p : Nat × va_E), ([(o, e')] ++ Y)[i]? = some p → ∃ p' : Nat × va_E, ((X ++ [(o, e)]) ++ Y)[X.length + i]? = some p' ∧ p'.1 = p.1 := by
    intro i p hi
    cases i with
    | zero =>
      cases hi
      exact ⟨(o, e), by rw [List.getElem?_append_left (by simp), List.getElem?_append_right (by omega)]; simp, rfl⟩
    | succ i =>
      refine ⟨p, ?_, rfl⟩
      rw [List.getElem?_append_right (by simp)]
      simpa [Nat.add_sub_cancel_left, Nat.add_comm, Nat.add_left_comm, Nat.add_assoc] using hi
  refine ⟨fun i j p q hp hq h => ?_, fun i p hp => ?_⟩
  · obtain ⟨p', h1, h2⟩ := g i p hp
    obtain ⟨q', h3, h4⟩ := g j q hq
    have := hD.1 _ _ p' q' h1 h3 (by rw [h2, h4, h])
    omega
  · obtain ⟨p', h1, h2⟩ := g i p hp
    rw [← h2]
    exact hD.2 _ p' h1
theorem d_x {A : Nat → Prop} {X Y : va_W} (hD : va_D A (X ++ Y)) : ∀ (i j : Nat) (p q : Nat × va_E), X[i]? = some p → Y[j]? = some q → p.1 ≠ q.1 := by
  intro i j p q hp hq h
  have h1 : (X ++ Y)[i]? = some p := by rw [List.getElem?_append_left (List.getElem?_eq_some_iff.mp hp).1]; exact hp
  have h2 : (X ++ Y)[X.length + j]? = some q := by rw [List.getElem?_append_right (by omega)]; simpa using hq
  have := hD.1 _ _ p q h1 h2 h
  have := (List.getElem?_eq_some_iff.mp hp).1
  omega
theorem p_perm {D : va_G} {cl : List vw_C} {X Y Z : va_W} {H : Heap} (hP : va_P D cl ((X ++ Y) ++ Z) H) : va_P D cl ((X ++ Z) ++ Y) H := ((p_l (p_l hP)).app (p_r hP)).app (p_r (p_l hP))
theorem d_perm {A : Nat → Prop} {X Y Z : va_W} (hD : va_D A ((X ++ Y) ++ Z)) : va_D A ((X ++ Z) ++ Y) := by
  have hx := d_x hD
  have hy := d_x (d_l hD)
  refine ((d_l (d_l hD)).app (d_r hD) (fun i j p q hp hq => ?_)).app (d_r (d_l hD)) (fun i j p q hp hq => ?_)
  · exact hx i j p q (by rw [List.getElem?_append_left (List.getElem?_eq_some_iff.mp hp).1]; exact hp) hq
  · by_cases hi : i < X.length
    · rw [List.getElem?_append_left hi] at hp
      exact hy i j p q hp hq
    · rw [List.getElem?_append_right (by omega)] at hp
      exact fun h => hx (X.length + j) (i - X.length) q p (by rw [List.getElem?_append_right (by omega)]; simpa using hq) hp h.symm
theorem join_last {A0 : Nat → Prop} {D : va_G} {cl : List vw_C} {X w1 : va_W} {x : Nat × va_E} {H H1 : Heap} (hP : va_P D cl (X ++ [x]) H) (hD : va_D A0 (X ++ [x])) (hk : ∀ q : Nat, q < H.size → ¬ va_A [x] H.size q → H1[q]? = H[q]?) (hF : ∀ q, va_A [x] H.size q → A0 q) (hP1 : va_P D cl w1 H1) (hD1 : va_D (va_A [x] H.size) w1) : va_P D cl (X ++ w1) H1 ∧ va_D A0 (X ++ w1) := by
  have hn : ∀ (k : Nat) (q : Nat × va_E), X[k]? = some q → ¬ va_A [x] H.size q.1 := by
    intro k q hq h
    rcases h with ⟨i, e, h⟩ | h
    · exact d_x hD k i q (q.1, e) hq h rfl
    · exact absurd ((p_l hP) k q hq).lt (by omega)
  refine ⟨((p_l hP).kept (fun k q hq => hk q.1 ((p_l hP) k q hq).lt (hn k q hq))).app hP1, (d_l hD).app (hD1.weaken (fun k q hq h => hF q.1 h)) (fun i j p q hp hq h => hn i p hp ?_)⟩
  rw [h]
  exact hD1.2 j q hq
theorem bool_K {args : Array Value} {s : State} (h : (Cond.arrayClass .boolean).before args s = true) : ∃ c : ClassId, ArrOfT s c .boolean ∧ va_RA s c .boolean := by
  obtain ⟨c, k, comp, h1, h2, h3⟩ := Cond.arrayClass_spec (show (Cond.arrayClass .boolean).holds args s none s [] = true from h)
  exact ⟨c, fun n z => ⟨fun k h => (by cases h), k, h2, comp, h3⟩, h1⟩
theorem obj_K {s : State} {C : String} (h : va_AO C s) : ∃ c : ClassId, ArrOfT s c (.object C) ∧ va_RA s c (.object C) := by
  obtain ⟨comp, c, k, h1, h2, h3, h4, h5⟩ := Cond.arrayOver_spec h
  exact ⟨c, fun n z => ⟨fun k h => (by cases h), k, h3, comp, h4⟩, k, comp, h3, h4, h1, h5⟩
theorem law_K {args : Array Value} {s : State} (hts : ∀ w ∈ gb, w.before args s = true) : ∃ D : va_G, va_K D cls [] s := by
  obtain ⟨c0, f0, h0⟩ := u_known (C := R_Ch) (T := F_Ch) (N := 7) (n := 7) hts i_Ch (hts _ kw_995)
  obtain ⟨c1, f1, h1⟩ := u_known (C := R_Rd) (T := F_Rd) (N := 10) (n := 10) hts i_Rd (hts _ kw_281)
  obtain ⟨c2, f2, h2⟩ := u_known (C := R_Wr) (T := F_Wr) (N := 2) (n := 2) hts i_Wr (hts _ kw_378)
  obtain ⟨c3, f3, h3⟩ := u_known (C := R_Op) (T := F_Op) (N := 15) (n := 15) hts i_Op (hts _ kw_43)
  obtain ⟨c4, f4, h4⟩ := u_known (C := R_Rp) (T := F_Rp) (N := 10) (n := 10) hts i_Rp (hts _ kw_194)
  obtain ⟨c5, f5, h5⟩ := u_known (C := R_Rw) (T := F_Rw) (N := 3) (n := 3) hts i_Rw (hts _ kw_135)
  obtain ⟨c6, f6, h6⟩ := u_known (C := R_Sv) (T := F_Sv) (N := 6) (n := 6) hts i_Sv (hts _ kw_396)
  obtain ⟨c7, f7, h7⟩ := u_known (C := R_Sp) (T := F_Sp) (N := 3) (n := 3) hts i_Sp (hts _ kw_735)
  obtain ⟨c8, f8, h8⟩ := u_known (C := R_St) (T := F_St) (N := 6) (n := 6) hts i_St (hts _ kw_37)
  obtain ⟨c9, f9, h9⟩ := u_known (C := R_Va) (T := F_Va) (N := 10) (n := 10) hts i_Va (hts _ kw_290)
  obtain ⟨c10, f10, h10⟩ := u_known (C := R_Vw) (T := F_Vw) (N := 5) (n := 5) hts i_Vw (hts _ kw_255)
  obtain ⟨c11, f11, h11⟩ := u_known (C := R_JT) (T := F_JT) (N := 13) (n := 13) hts i_JT (hts _ kw_29)
  obtain ⟨c12, f12, h12⟩ := u_known (C := R_MM) (T := F_MM) (N := 77) (n := 77) hts i_MM (hts _ kw_1371)
  refine ⟨(fun k => ([c0, c1, c2, c3, c4, c5, c6, c7, c8, c9, c10, c11, c12] : List ClassId).getD k 0, fun k => ([f0, f1, f2, f3, f4, f5, f6, f7, f8, f9, f10, f11, f12] : List (Nat → Nat)).getD k (fun _ => 0)), fun k q hq => ?_, fun k q h => by simp at h⟩
  match k, hq with
  | 0, hq => cases hq; exact h0
  | 1, hq => cases hq; exact h1
  | 2, hq => cases hq; exact h2
  | 3, hq => cases hq; exact h3
  | 4, hq => cases hq; exact h4
  | 5, hq => cases hq; exact h5
  | 6, hq => cases hq; exact h6
  | 7, hq => cases hq; exact h7
  | 8, hq => cases hq; exact h8
  | 9, hq => cases hq; exact h9
  | 10, hq => cases hq; exact h10
  | 11, hq => cases hq; exact h11
  | 12, hq => cases hq; exact h12
  | k + 13, hq => simp [cls] at hq
/-- the array classes, all of fxT -/
theorem law_T {D : va_G} {s : State} {ac : Nat → ClassId} {md : Nat → Nat} {mc : Nat → ClassId} {cA : ClassId} {args : Array Value} (hts : ∀ w ∈ gb, w.before args s = true) (hev : ev_v s) (hK : va_K D cls ((jtT ac ++ mT mc) ++ [(cA, .long)]) s) : ∃ ac' : Nat → ClassId, (∀ (ad : Nat → Nat) (ck : Nat → Int32), fxW ad ac' ck = fxW ad ac ck) ∧ ac' 7 = cA ∧ va_K D cls (fxT ac' ++ mT mc) s := by
  obtain ⟨c2, h2, h2'⟩ := bool_K (hts _ kw_253)
  obtain ⟨c6, h6, h6'⟩ := obj_K hev.1.2.2.2.1
  refine ⟨fun i => if i = 2 then c2 else if i = 6 then c6 else if i = 7 then cA else ac i, fun _ _ => rfl, rfl, hK.1, fun k q hq => ?_⟩
  match k, hq with
  | 0, hq => exact hK.2 0 q hq
  | 1, hq => exact hK.2 1 q hq
  | 2, hq => cases hq; exact ⟨h2, h2'⟩
  | 3, hq => exact hK.2 2 q hq
  | 4, hq => exact hK.2 3 q hq
  | 5, hq => exact hK.2 4 q hq
  | 6, hq => cases hq; exact ⟨h6, h6'⟩
  | 7, hq => exact hK.2 7 q hq
  | 8, hq => exact hK.2 5 q hq
  | 9, hq => exact hK.2 6 q hq
  | k + 10, hq => simp at hq
/-- what holds at the law's loop -/
def LwS (p : Program) (s : State) (m : MethodId) (meth : Method) (c : Code) (b L : Nat) (xs : Nat → Int32) (D : va_G) (ad : Nat → Nat) (ac : Nat → ClassId) (md : Nat → Nat) (mc : Nat → ClassId) (o : Nat) (H : Heap) (locs : List Loc) (ls : Array Slot) : Prop :=
  p.tables.exec = Jvm.exec ∧ c.code = code ∧ meth.sig.returnType = ret ∧ c.maxLocals = 8 ∧ s.vm.findClass "JoinedTreesLaw" = some m.cls ∧ (∀ w ∈ gb, w.before #[Value.ref b] s = true) ∧ va_X b L xs s s.heap ∧ b < s.heap.size ∧ meth.locks = false ∧ ev (lA s) s ∧
  va_P D cls ((fxW ad ac (fun _ => 0) ++ [oc ac o (fun _ => 0)]) ++ mW md mc) H ∧ va_K D cls (fxT ac ++ mT mc) s ∧ va_D (lA s) ((fxW ad ac (fun _ => 0) ++ [oc ac o (fun _ => 0)]) ++ mW md mc) ∧ va_S (lA s) s.heap H locs ∧ lv_has ls 8 [(4, .int 0), (3, .ref o), (2, .ref (md 100)), (1, .ref (ad 0)), (0, .ref b)]
theorem d_law_0 : decode code 0 = .ok (.new 8, 3) := by decide +kernel
theorem d_law_3 : decode code 3 = .ok (.dup, 1) := by decide +kernel
theorem d_law_4 : decode code 4 = .ok (.invokespecial 110, 3) := by decide +kernel
theorem d_law_7 : decode code 7 = .ok (.astore_n 1, 1) := by decide +kernel
theorem d_law_8 : decode code 8 = .ok (.new 111, 3) := by decide +kernel
theorem d_law_11 : decode code 11 = .ok (.dup, 1) := by decide +kernel
theorem d_law_12 : decode code 12 = .ok (.invokespecial 113, 3) := by decide +kernel
theorem d_law_15 : decode code 15 = .ok (.astore_n 2, 1) := by decide +kernel
theorem d_law_16 : decode code 16 = .ok (.iconst 1, 1) := by decide +kernel
theorem d_law_17 : decode code 17 = .ok (.newarray .long, 2) := by decide +kernel
theorem d_law_19 : decode code 19 = .ok (.astore_n 3, 1) := by decide +kernel
theorem d_law_20 : decode code 20 = .ok (.iconst 0, 1) := by decide +kernel
theorem d_law_21 : decode code 21 = .ok (.istore 4, 2) := by decide +kernel
set_option maxHeartbeats 4000000 in
set_option maxRecDepth 100000 in
theorem law_start {p : Program} {e : Env} {s : State} {m : MethodId} {below : List Frame} {meth : Method} {c : Code} (l : Launch) {b L : Nat} {xs : Nat → Int32} (C0 : lw_At p s m meth c b L xs) (k : ∀ (D : va_G) (ad : Nat → Nat) (ac : Nat → ClassId) (md : Nat → Nat) (mc : Nat → ClassId) (o : Nat) (H : Heap) (locs : List Loc) (ls : Array Slot), LwS p s m meth c b L xs D ad ac md mc o H locs ls → W p l e room_1 s m #[Value.ref b] below meth c H locs 636 1394874 (lw_Z below #[Value.ref b] s) (F0 m 23 ls [])) : W p l e room_1 s m #[Value.ref b] below meth c s.heap [] 0 0 (lw_Z below #[Value.ref b] s) (entryFrame m ([Value.ref b] : List Value).toArray 8) := by
  obtain ⟨hx, hb, hr, hml, hown, hts0, hX, hbl, hlocks, hgv⟩ := C0
  have hts := gb_hts hts0
  have hev := law_ev hts0 hgv
  have hA : ∀ q : Nat, s.heap.size ≤ q → lA s q := fun _ h => h
  obtain ⟨D, hK⟩ := law_K hts
  have hS : va_S (lA s) s.heap s.heap [] := va_S.rf
  have hP : va_P D cls [] s.heap := fun k q h => by simp at h
  have hD : va_D (lA s) [] := ⟨fun i j p q h => by simp at h, fun k q h => by simp at h⟩
  have hl := lv_entry ([.ref b]) (n := 8) (Nat.le_of_ble_eq_true rfl)
  rw [lg_entry_eq]
  generalize (lg_sl ([.ref b]) ++ List.replicate (8 - (lg_sl ([.ref b])).length) Slot.unset).toArray = ls at hl ⊢
  have hl : lv_has ls 8 [(0, .ref b)] := hl
  have hown : s.vm.findClass "JoinedTreesLaw" = some m.cls := hown
  refine va_new (D := D) (ci := 11) (fs := [.null, .null, .null, .null, .null, .null, .null, .int 0, .null, .null, .null, .int 0, .int 0]) (C := R_JT) (T := F_JT) (N := 13) hx hb hts i_JT t_JT t_JT_ok hown (hts _ kw_28) (hts _ kw_29) (hts _ kw_1) hK hP hD hS hA rfl (by decide +kernel) (Nat.le_of_ble_eq_true rfl) (Nat.le_of_ble_eq_true rfl) d_law_0 (fun q_1 H hP hD hS => ?_)
  have hP : va_P D cls [(q_1, .inr (11, [.null, .null, .null, .null, .null, .null, .null, .int 0, .null, .null, .null, .int 0, .int 0]))] H := hP
  have hD : va_D (lA s) [(q_1, .inr (11, [.null, .null, .null, .null, .null, .null, .null, .int 0, .null, .null, .null, .int 0, .int 0]))] := hD
  refine W.cs (cells' := 1) (slots' := 13) rfl rfl ?_
  refine lv_dup hx hb d_law_3 rfl ?_
  have hPc := hP
  have hDc := hD
  have hKc := hK.sub (tys' := []) [] rfl
  have hFc := fr_all hDc hS hA
  refine va_callv (va_runI (As := []) (rest := [.ref q_1]) ⟨hx, hb, hml, hown, hts⟩ (g_jtI l D H.size q_1) (cw_i 0 hts kw_32 kw_30 kw_31 kw_1 rfl rfl rfl (by decide +kernel) ⟨Nat.le_of_ble_eq_true rfl, Nat.le_of_ble_eq_true rfl⟩) ⟨gv_blind, fun U hU hW => gv_pre hev.2.2.2.2 hU hW hPc hKc hDc⟩ rfl rfl hl.1 rfl (lv_room (Nat.le_of_ble_eq_true rfl)) d_law_4 ⟨Nat.le_of_ble_eq_true rfl, Nat.le_of_ble_eq_true rfl⟩) hS (fun q _ h => hFc q h) hFc (fun u t H1 locs ht hvm hw hB hz1 hk1 hS => ?_)
  obtain ⟨ad, ac⟩ := u
  subst hw
  obtain ⟨hP1, hK1, hD1⟩ := hB
  rw [ht] at hP1
  have hK1 := va_K.moved hvm.symm hK1
  obtain ⟨hP, hD⟩ := join_last (X := []) hP hD hk1 hFc hP1 hD1
  have hK : va_K D cls (jtT ac) s := hK1
  generalize H1 = H at hP hS ⊢
  have hP : va_P D cls (fxW ad ac (fun _ => 0)) H := hP
  have hD : va_D (lA s) (fxW ad ac (fun _ => 0)) := hD
  refine W.cs (cells' := 560) (slots' := 345136) rfl rfl ?_
  refine lv_astore_n (lv' := [(1, .ref (ad 0)), (0, .ref b)]) hx hb d_law_7 rfl hl (by decide) rfl (fun ls hl => ?_)
  refine va_new (D := D) (ci := 12) (fs := [.int 0, .null, .null, .null, .int 0, .int 0, .int 0, .int 0, .null, .null, .null, .null, .null, .null, .null, .null, .null, .null, .null, .null, .null, .null, .null, .int 0, .null, .int 0, .null, .int 0, .null, .null, .null, .null, .null, .null, .int 0, .int 0, .null, .null, .null, .null, .null, .int 0, .int 0, .int 0, .null, .null, .null, .int 0, .null, .null, .int 0, .null, .int 0, .null, .null, .null, .null, .null, .null, .null, .null, .null, .null, .null, .int 0, .int 0, .int 0, .int 0, .int 0, .int 0, .null, .int 0, .null, .int 0, .int 0, .int 0, .int 0]) (C := R_MM) (T := F_MM) (N := 77) hx hb hts i_MM t_MM t_MM_ok hown (hts _ kw_1370) (hts _ kw_1371) (hts _ kw_11) hK hP hD hS hA rfl (by decide +kernel) (Nat.le_of_ble_eq_true rfl) (Nat.le_of_ble_eq_true rfl) d_law_8 (fun q2 H hP hD hS => ?_)
  refine W.cs (cells' := 561) (slots' := 345213) rfl rfl ?_
  refine lv_dup hx hb d_law_11 rfl ?_
  have hPc := p_r hP
  have hDc := d_r hD
  have hKc := hK.sub (tys' := []) [] rfl
  have hFc := fr_all hDc hS hA
  refine va_callv (va_runI (As := []) (rest := [.ref q2]) ⟨hx, hb, hml, hown, hts⟩ (g_mmI l D H.size q2) (cw_i 0 hts kw_1374 kw_1372 kw_1373 kw_11 rfl rfl rfl (by decide +kernel) ⟨Nat.le_of_ble_eq_true rfl, Nat.le_of_ble_eq_true rfl⟩) ⟨gv_blind, fun U hU hW => gv_pre hev.2.2.2.2 hU hW hPc hKc hDc⟩ rfl rfl hl.1 rfl (lv_room (Nat.le_of_ble_eq_true rfl)) d_law_12 ⟨Nat.le_of_ble_eq_true rfl, Nat.le_of_ble_eq_true rfl⟩) hS (fun q _ h => hFc q h) hFc (fun u t H1 locs ht hvm hw hB hz1 hk1 hS => ?_)
  obtain ⟨md, mc⟩ := u
  subst hw
  obtain ⟨hP1, hK1, hD1⟩ := hB
  rw [ht] at hP1
  have hK1 := va_K.moved hvm.symm hK1
  obtain ⟨hP, hD⟩ := join_last hP hD hk1 hFc hP1 hD1
  have hK := (hK.sub (tys' := jtT ac) [0, 1, 2, 3, 4] rfl).app hK1
  generalize H1 = H at hP hS ⊢
  refine W.cs (cells' := 635) (slots' := 1394873) rfl rfl ?_
  refine lv_astore_n (lv' := [(2, .ref (md 100)), (1, .ref (ad 0)), (0, .ref b)]) hx hb d_law_15 rfl hl (by decide) rfl (fun ls hl => ?_)
  refine lv_iconst (v := 1) hx hb d_law_16 (by decide) ?_
  refine va_newa (atype := .long) (N' := 1) (a0 := (1, .inr (.inl (fun _ => 0)))) (ty := .long) hx hb (hts _ kw_1614) rfl hK hP hD hS hA (fun _ => rfl) (by decide) (by decide) (by decide) (Nat.le_of_ble_eq_true rfl) (Nat.le_of_ble_eq_true rfl) d_law_17 (fun o cA H hK hP hD hS => ?_)
  refine W.cs (cells' := 636) (slots' := 1394874) rfl rfl ?_
  obtain ⟨ac', hac, hc7, hKn⟩ := law_T (md := md) hts hev.2.2.2.2 hK
  subst hc7
  rw [← hac] at hP hD
  have hP := p_perm hP
  have hD := d_perm hD
  refine lv_astore_n (lv' := [(3, .ref o), (2, .ref (md 100)), (1, .ref (ad 0)), (0, .ref b)]) hx hb d_law_19 rfl hl (by decide) rfl (fun ls hl => ?_)
  refine lv_iconst (v := 0) hx hb d_law_20 (by decide) ?_
  refine lv_istore (lv' := [(4, .int 0), (3, .ref o), (2, .ref (md 100)), (1, .ref (ad 0)), (0, .ref b)]) hx hb d_law_21 hl (by decide) rfl (fun ls hl => ?_)
  exact k D ad ac' md mc o H _ ls ⟨hx, hb, hr, hml, hown, hts, hX, hbl, hlocks, hev, hP, hKn, hD, hS, lv_sub hl [0, 1, 2, 3, 4] rfl⟩
