/-! THE CLAIM OUT OF ONE WALK OF THE LAW'S BODY. Your part is whole_start (and what it stands on); all else here is the same for every law, but numbers. -/
def R_law : String := "JoinedTreesLaw"
def lw_P (b : Addr) (xs : List Int32) (args : Array Value) (s : State) : Prop := args = #[.ref b] ∧ s.IntsAt b xs ∧ xs.length ≤ 3584 ∧ (Jvm.Cond.and given_1 narrow_1).before args s = true
def lw_Q (_ : Array Value) (s : State) (o : Outcome) (t : State) : Prop := o = .returned (some (.int 1)) ∧ Framed s o t [] 601024 7293034
def lw_Z (below : List Frame) (a : Array Value) (s : State) : State → Prop := fun t => ∃ o, t.status = .running ∧ Ended t below o ∧ lw_Q a s o t
/-- the law's own end, with 1 on the stack, nothing written that was there before, its room as the claim has it -/
theorem lw_ret {p : Program} {l : Launch} {e : Env} {s : State} {m : MethodId} {below : List Frame} {meth : Method} {c : Code} {b : Nat} (hx : p.tables.exec = Jvm.exec) (hb : c.code = code) (hr : meth.sig.returnType = ret) (hlocks : meth.locks = false) {pc : Nat} {H : Heap} {ls : Array Slot} (hdg : decode code pc = .ok (.ireturn, 1)) : W p l e room_1 s m #[Value.ref b] below meth c H [] 601024 7293034 (lw_Z below #[Value.ref b] s) (F0 m pc ls [.int 1]) := by
  intro T hT X
  obtain ⟨fs, hret, hrun, hended, hW, hframe⟩ := X.leave (v := some (.int 1)) (hlocks := hlocks) (fun h => by rw [hr] at h; cases h)
  have hmeth' : T.vm.method? m = some meth := X.method'
  refine ⟨T.setFrames fs, ?_, .returned (some (.int 1)), hrun, hended, rfl, ⟨_, rfl⟩, hW, hframe⟩
  jvm_step X.here [X.here.top, hx, hb, hdg, hmeth', hr, ret, narrow_b1]
  (try refine ⟨rfl, ?_⟩); (try refine ⟨rfl, ?_⟩)
  first | (intro acts; rw [hret _ acts rfl rfl rfl]) | rw [hret _ _ rfl rfl rfl]
  exact Steps.refl _
/-- what holds at the law's entry: the machine, the code, the tables' words (any of lw_tbl by 'hts w (by decide +kernel)'), the script of L ints xs at the cell b, what the Statement gives of the start (any of its parts by flat_of_before) -/
def lw_At (p : Program) (s : State) (m : MethodId) (meth : Method) (c : Code) (b L : Nat) (xs : Nat → Int32) : Prop :=
  p.tables.exec = Jvm.exec ∧ c.code = code ∧ meth.sig.returnType = ret ∧ c.maxLocals = 8 ∧ s.vm.findClass R_law = some m.cls ∧ (∀ w ∈ lw_tbl, w.before #[Value.ref b] s = true) ∧ va_X b L xs s s.heap ∧ b < s.heap.size ∧ meth.locks = false ∧ (Jvm.Cond.and given_1 narrow_1).before #[Value.ref b] s = true

theorem tm_1 {w : Cond} (i : Nat) (h : tables_1_1[i]? = some w) : w ∈ lw_tbl := List.mem_append_right _ (List.mem_append_left _ (List.mem_of_getElem? h))
theorem tm_2 {w : Cond} (i : Nat) (h : tables_1_2[i]? = some w) : w ∈ lw_tbl := List.mem_append_right _ (List.mem_append_right _ (List.mem_append_left _ (List.mem_of_getElem? h)))
theorem tm_3 {w : Cond} (i : Nat) (h : tables_1_3[i]? = some w) : w ∈ lw_tbl := List.mem_append_right _ (List.mem_append_right _ (List.mem_append_right _ (List.mem_append_left _ (List.mem_of_getElem? h))))
theorem tm_4 {w : Cond} (i : Nat) (h : tables_1_4[i]? = some w) : w ∈ lw_tbl := List.mem_append_right _ (List.mem_append_right _ (List.mem_append_right _ (List.mem_append_right _ (List.mem_append_left _ (List.mem_of_getElem? h)))))
theorem tm_5 {w : Cond} (i : Nat) (h : tables_1_5[i]? = some w) : w ∈ lw_tbl := List.mem_append_right _ (List.mem_append_right _ (List.mem_append_right _ (List.mem_append_right _ (List.mem_append_right _ (List.mem_append_left _ (List.mem_of_getElem? h))))))
theorem tm_6 {w : Cond} (i : Nat) (h : tables_1_6[i]? = some w) : w ∈ lw_tbl := List.mem_append_right _ (List.mem_append_right _ (List.mem_append_right _ (List.mem_append_right _ (List.mem_append_right _ (List.mem_append_right _ (List.mem_append_left _ (List.mem_of_getElem? h)))))))
theorem tm_7 {w : Cond} (i : Nat) (h : tables_1_7[i]? = some w) : w ∈ lw_tbl := List.mem_append_right _ (List.mem_append_right _ (List.mem_append_right _ (List.mem_append_right _ (List.mem_append_right _ (List.mem_append_right _ (List.mem_append_right _ (List.mem_append_left _ (List.mem_of_getElem? h))))))))
theorem tm_8 {w : Cond} (i : Nat) (h : tables_1_8[i]? = some w) : w ∈ lw_tbl := List.mem_append_right _ (List.mem_append_right _ (List.mem_append_right _ (List.mem_append_right _ (List.mem_append_right _ (List.mem_append_right _ (List.mem_append_right _ (List.mem_append_right _ (List.mem_append_left _ (List.mem_of_getElem? h)))))))))
theorem tm_9 {w : Cond} (i : Nat) (h : tables_1_9[i]? = some w) : w ∈ lw_tbl := List.mem_append_right _ (List.mem_append_right _ (List.mem_append_right _ (List.mem_append_right _ (List.mem_append_right _ (List.mem_append_right _ (List.mem_append_right _ (List.mem_append_right _ (List.mem_append_right _ (List.mem_of_getElem? h)))))))))
abbrev lA (s : State) : Nat → Prop := fun q => s.heap.size ≤ q
theorem nc_of {args : Array Value} {s : State} {E C : String} (h : (Cond.not (.castable E C)).before args s = true) : tx_NC E C s := by
  intro cE cC h1 h2
  simpa [Cond.before, Cond.holds, Cond.value, h1, h2] using h
theorem law_crc {s : State} {b : Nat} (hts : ∀ w ∈ lw_tbl, w.before #[Value.ref b] s = true) (hgv : (Jvm.Cond.and given_1 narrow_1).before #[Value.ref b] s = true) : evc (lA s) s := by
  have hs := flat_of_before _ hgv
  have hn : ∀ a : Nat, a < s.heap.size → ¬ lA s a := fun a h => Nat.not_le.mpr h
  obtain ⟨t, h1, h2⟩ := va_Tof (A := lA s) (args := #[Value.ref b]) (s := s) (tm := .static "JoinedTrees$Saver" "CRC_OF_FOUR_BITS" "[I") (ty := .int) (N := 16) (f := fun j => .int (crcT j)) (by decide) (hs _ (by decide +kernel))
    (Cond.eq_int (n := 16) (hs (Cond.eq (.length (.static "JoinedTrees$Saver" "CRC_OF_FOUR_BITS" "[I")) (.int 16)) (by decide +kernel)) rfl)
    (fun j hj => Cond.eq_int (n := crcT j) (b := .int (crcT j)) (hs (Cond.eq (.elem (.static "JoinedTrees$Saver" "CRC_OF_FOUR_BITS" "[I") (.int (Int32.ofNat j))) (.int (crcT j))) (by revert hj; revert j; decide +kernel)) rfl) hn
  exact ⟨t, va_Zof (hts _ (tm_6 114 (by decide +kernel))) (hts _ (tm_1 10 (by decide +kernel))) h1 hn, h2⟩
theorem law_ev {s : State} {b : Nat} (hts : ∀ w ∈ lw_tbl, w.before #[Value.ref b] s = true) (hgv : (Jvm.Cond.and given_1 narrow_1).before #[Value.ref b] s = true) : ev (lA s) s := by
  have hs := flat_of_before _ hgv
  have hn : ∀ a : Nat, a < s.heap.size → ¬ lA s a := fun a h => Nat.not_le.mpr h
  refine ⟨⟨va_Zqof (hts _ (tm_3 24 (by decide +kernel))) (hts _ (tm_1 12 (by decide +kernel))) (hs _ (by decide +kernel)) hn, law_crc hts hgv⟩, va_Zqof (hts _ (tm_3 26 (by decide +kernel))) (hts _ (tm_1 12 (by decide +kernel))) (hs _ (by decide +kernel)) hn, (show (Cond.laysStatic Bundle.tN "UNASSIGNED_STACK" Bundle.steD).before #[] s = true from (show (Cond.laysStatic Bundle.tN "UNASSIGNED_STACK" Bundle.steD).before #[Value.ref b] s = true from (hts _ (tm_3 24 (by decide +kernel))))), (show (Cond.laysStatic Bundle.tN "SUPPRESSED_SENTINEL" Bundle.listD).before #[] s = true from (show (Cond.laysStatic Bundle.tN "SUPPRESSED_SENTINEL" Bundle.listD).before #[Value.ref b] s = true from (hts _ (tm_3 26 (by decide +kernel))))), ?_⟩
  exact ⟨⟨va_AO.of (A := #[Value.ref b]) (hts _ (tm_1 133 (by decide +kernel))), va_AO.of (A := #[Value.ref b]) (hts _ (tm_1 160 (by decide +kernel))), va_AO.of (A := #[Value.ref b]) (hts _ (tm_1 193 (by decide +kernel))), va_AO.of (A := #[Value.ref b]) (hts _ (tm_2 47 (by decide +kernel))), (show (Cond.arrayOver (.array .boolean)).before #[] s = true from (show (Cond.arrayOver (.array .boolean)).before #[Value.ref b] s = true from (hts _ (tm_6 179 (by decide +kernel)))))⟩,
    ⟨va_Nw.of rfl (hts _ (tm_3 80 (by decide +kernel))), va_Nw.of rfl (hts _ (tm_3 170 (by decide +kernel))), va_Nw.of rfl (hts _ (tm_3 151 (by decide +kernel))), va_Nw.of rfl (hts _ (tm_2 239 (by decide +kernel)))⟩,
    ⟨va_Nw.of rfl (hts _ (tm_1 38 (by decide +kernel))), va_Nw.of rfl (hts _ (tm_2 51 (by decide +kernel)))⟩,
    ⟨nc_of (hs _ (by decide +kernel)), nc_of (hs _ (by decide +kernel)), nc_of (hs _ (by decide +kernel))⟩,
    va_Nw.of rfl (hts _ (tm_3 0 (by decide +kernel))), va_Nw.of rfl (hts _ (tm_3 2 (by decide +kernel))), va_Nw.of rfl (hts _ (tm_3 4 (by decide +kernel)))⟩
theorem law_eN {s : State} {b : Nat} (hts : ∀ w ∈ lw_tbl, w.before #[Value.ref b] s = true) : eN s := ⟨va_Nw.of rfl (hts _ (tm_5 2 (by decide +kernel))), va_Nw.of rfl (hts _ (tm_6 134 (by decide +kernel))), va_Nw.of rfl (hts _ (tm_5 96 (by decide +kernel)))⟩
theorem law_eH {s : State} {b : Nat} (hgv : (Jvm.Cond.and given_1 narrow_1).before #[Value.ref b] s = true) : eH s := by
  have hs := flat_of_before _ hgv
  exact ⟨nc_of (hs _ (by decide +kernel)), nc_of (hs _ (by decide +kernel)), nc_of (hs _ (by decide +kernel)), nc_of (hs _ (by decide +kernel)), nc_of (hs _ (by decide +kernel))⟩
/-- a text of the code -/
theorem str_of {s : State} {args : Array Value} {own tx : String} {k n : Nat} {f : Nat → Int32} (hn0 : n < 2 ^ 31) (hr : (Cond.stringRef own k tx).before args s = true) (hex : (Cond.exactly (.string own k) "java/lang/String").before args s = true) (hco : (Cond.eq (.field (.string own k) "java/lang/String" "coder" "B") (.int 0)).before args s = true) (harr : (Cond.arrayOf (.field (.string own k) "java/lang/String" "value" "[B") .byte).before args s = true) (hlen : (Cond.eq (.length (.field (.string own k) "java/lang/String" "value" "[B")) (.int (Int32.ofNat n))).before args s = true) (hel : ∀ j, j < n → (Cond.eq (.elem (.field (.string own k) "java/lang/String" "value" "[B") (.int (Int32.ofNat j))) (.int (f j))).before args s = true) :
    ∃ a v, vk_R own k tx a s ∧ va_O "java/lang/String" a (lA s) s s.heap ∧ va_OF "java/lang/String" "coder" "B" (.int 0) a (lA s) s s.heap ∧ va_OF "java/lang/String" "value" "[B" (.ref v) a (lA s) s s.heap ∧ va_T .byte v n (fun j => .int (f j)) (lA s) s s.heap := by
  have hn : ∀ a : Nat, a < s.heap.size → ¬ lA s a := fun a h => Nat.not_le.mpr h
  obtain ⟨a, c, cA, kA, q1, -⟩ := Cond.exactly_spec (args := args) (first := s) (o := none) (s := s) (idx := []) (t := .string own k) (cls := "java/lang/String") hex
  obtain ⟨v, h1, h2⟩ := va_Tof (A := lA s) (args := args) (s := s) (tm := .field (.string own k) "java/lang/String" "value" "[B") (ty := .byte) (N := n) (f := fun j => .int (f j)) hn0 harr (Cond.eq_int hlen rfl) (fun j hj => Cond.eq_int (hel j hj) rfl) hn
  exact ⟨a, v, vk_R.of hr q1, va_Oof hex q1 hn, vk_OFof q1 (Cond.eq_int hco rfl) hn, vk_OFof q1 h1 hn, h2⟩
theorem forall9 {P : Nat → Prop} (h0 : P 0) (h1 : P 1) (h2 : P 2) (h3 : P 3) (h4 : P 4) (h5 : P 5) (h6 : P 6) (h7 : P 7) (h8 : P 8) : ∀ i, i < 9 → P i := by
  intro i hi
  match i, hi with
  | 0, _ => exact h0
  | 1, _ => exact h1
  | 2, _ => exact h2
  | 3, _ => exact h3
  | 4, _ => exact h4
  | 5, _ => exact h5
  | 6, _ => exact h6
  | 7, _ => exact h7
  | 8, _ => exact h8
set_option maxHeartbeats 4000000 in
theorem law_sE {s : State} {b : Nat} (hts : ∀ w ∈ lw_tbl, w.before #[Value.ref b] s = true) (hgv : (Jvm.Cond.and given_1 narrow_1).before #[Value.ref b] s = true) : ∃ sad sav : Nat → Nat, sE sad sav (lA s) s := by
  have hs := flat_of_before _ hgv
  have hn : ∀ a : Nat, a < s.heap.size → ¬ lA s a := fun a h => Nat.not_le.mpr h
  obtain ⟨a0, v0, r0, o0, c0, w0, t0⟩ := str_of (s := s) (args := #[Value.ref b]) (own := "JoinedTreesModel") (tx := "null") (k := 351) (n := sLn 0) (f := sCh 0) (by decide) (hts _ (tm_8 98 (by decide +kernel))) (hs _ (by decide +kernel)) (hs _ (by decide +kernel)) (hs _ (by decide +kernel)) (hs _ (by decide +kernel)) (fun j hj => hs _ (by revert hj; revert j; decide +kernel))
  obtain ⟨a1, v1, r1, o1, c1, w1, t1⟩ := str_of (s := s) (args := #[Value.ref b]) (own := "JoinedTreesModel") (tx := "false") (k := 353) (n := sLn 1) (f := sCh 1) (by decide) (hts _ (tm_8 99 (by decide +kernel))) (hs _ (by decide +kernel)) (hs _ (by decide +kernel)) (hs _ (by decide +kernel)) (hs _ (by decide +kernel)) (fun j hj => hs _ (by revert hj; revert j; decide +kernel))
  obtain ⟨a2, v2, r2, o2, c2, w2, t2⟩ := str_of (s := s) (args := #[Value.ref b]) (own := "JoinedTreesModel") (tx := "true") (k := 355) (n := sLn 2) (f := sCh 2) (by decide) (hts _ (tm_8 100 (by decide +kernel))) (hs _ (by decide +kernel)) (hs _ (by decide +kernel)) (hs _ (by decide +kernel)) (hs _ (by decide +kernel)) (fun j hj => hs _ (by revert hj; revert j; decide +kernel))
  obtain ⟨a3, v3, r3, o3, c3, w3, t3⟩ := str_of (s := s) (args := #[Value.ref b]) (own := "JoinedTrees$JsonReader") (tx := "null") (k := 113) (n := sLn 3) (f := sCh 3) (by decide) (hts _ (tm_4 183 (by decide +kernel))) (hs _ (by decide +kernel)) (hs _ (by decide +kernel)) (hs _ (by decide +kernel)) (hs _ (by decide +kernel)) (fun j hj => hs _ (by revert hj; revert j; decide +kernel))
  obtain ⟨a4, v4, r4, o4, c4, w4, t4⟩ := str_of (s := s) (args := #[Value.ref b]) (own := "JoinedTrees$JsonReader") (tx := "false") (k := 119) (n := sLn 4) (f := sCh 4) (by decide) (hts _ (tm_4 236 (by decide +kernel))) (hs _ (by decide +kernel)) (hs _ (by decide +kernel)) (hs _ (by decide +kernel)) (hs _ (by decide +kernel)) (fun j hj => hs _ (by revert hj; revert j; decide +kernel))
  obtain ⟨a5, v5, r5, o5, c5, w5, t5⟩ := str_of (s := s) (args := #[Value.ref b]) (own := "JoinedTrees$JsonReader") (tx := "true") (k := 121) (n := sLn 5) (f := sCh 5) (by decide) (hts _ (tm_4 237 (by decide +kernel))) (hs _ (by decide +kernel)) (hs _ (by decide +kernel)) (hs _ (by decide +kernel)) (hs _ (by decide +kernel)) (fun j hj => hs _ (by revert hj; revert j; decide +kernel))
  obtain ⟨a6, v6, r6, o6, c6, w6, t6⟩ := str_of (s := s) (args := #[Value.ref b]) (own := "JoinedTrees$JsonWriter") (tx := "null") (k := 90) (n := sLn 6) (f := sCh 6) (by decide) (hts _ (tm_6 25 (by decide +kernel))) (hs _ (by decide +kernel)) (hs _ (by decide +kernel)) (hs _ (by decide +kernel)) (hs _ (by decide +kernel)) (fun j hj => hs _ (by revert hj; revert j; decide +kernel))
  obtain ⟨a7, v7, r7, o7, c7, w7, t7⟩ := str_of (s := s) (args := #[Value.ref b]) (own := "JoinedTrees$JsonWriter") (tx := "false") (k := 96) (n := sLn 7) (f := sCh 7) (by decide) (hts _ (tm_6 33 (by decide +kernel))) (hs _ (by decide +kernel)) (hs _ (by decide +kernel)) (hs _ (by decide +kernel)) (hs _ (by decide +kernel)) (fun j hj => hs _ (by revert hj; revert j; decide +kernel))
  obtain ⟨a8, v8, r8, o8, c8, w8, t8⟩ := str_of (s := s) (args := #[Value.ref b]) (own := "JoinedTrees$JsonWriter") (tx := "true") (k := 98) (n := sLn 8) (f := sCh 8) (by decide) (hts _ (tm_6 34 (by decide +kernel))) (hs _ (by decide +kernel)) (hs _ (by decide +kernel)) (hs _ (by decide +kernel)) (hs _ (by decide +kernel)) (fun j hj => hs _ (by revert hj; revert j; decide +kernel))
  refine ⟨fun i => [a0, a1, a2, a3, a4, a5, a6, a7, a8].getD i 0, fun i => [v0, v1, v2, v3, v4, v5, v6, v7, v8].getD i 0, ?_, ?_, ?_⟩
  · exact forall9 ⟨r0, o0, c0, w0, t0⟩ ⟨r1, o1, c1, w1, t1⟩ ⟨r2, o2, c2, w2, t2⟩ ⟨r3, o3, c3, w3, t3⟩ ⟨r4, o4, c4, w4, t4⟩ ⟨r5, o5, c5, w5, t5⟩ ⟨r6, o6, c6, w6, t6⟩ ⟨r7, o7, c7, w7, t7⟩ ⟨r8, o8, c8, w8, t8⟩
  · exact va_Zof (hts _ (tm_4 197 (by decide +kernel))) (hts _ (tm_1 22 (by decide +kernel))) (Cond.eq_int (hs (Cond.eq (.static "java/lang/String" "COMPACT_STRINGS" "Z") (.int 1)) (by decide +kernel)) rfl) hn
  · exact va_Zqof (hts _ (tm_4 213 (by decide +kernel))) (hts _ (tm_1 24 (by decide +kernel))) (hs _ (by decide +kernel)) hn
theorem arr_K {args : Array Value} {s : State} {ty : FieldType} (h : (Cond.arrayClass ty).before args s = true) (hp : ty = .int ∨ ty = .byte ∨ ty = .boolean ∨ ty = .long) : ∃ c : ClassId, ArrOfT s c ty ∧ va_RA s c ty := by
  obtain ⟨c, k, comp, h1, h2, h3⟩ := Cond.arrayClass_spec (show (Cond.arrayClass ty).holds args s none s [] = true from h)
  rcases hp with rfl | rfl | rfl | rfl <;> exact ⟨c, fun n z => ⟨fun k h => (by cases h), k, h2, comp, h3⟩, h1⟩
theorem obj_K {s : State} {C : String} (h : va_AO C s) : ∃ c : ClassId, ArrOfT s c (.object C) ∧ va_RA s c (.object C) := by
  obtain ⟨comp, c, k, h1, h2, h3, h4, h5⟩ := Cond.arrayOver_spec h
  exact ⟨c, fun n z => ⟨fun k h => (by cases h), k, h3, comp, h4⟩, k, comp, h3, h4, h1, h5⟩
theorem abo_K {s : State} (h : (Cond.arrayOver (.array .boolean)).before #[] s = true) : ∃ c : ClassId, ArrOfT s c (.array .boolean) ∧ va_RA s c (.array .boolean) := by
  obtain ⟨comp, c, k, h1, h2, h3, h4, h5⟩ := arrayOverA_spec h
  exact ⟨c, fun n z => ⟨fun k h => (by cases h), k, h3, comp, h4⟩, h5⟩
theorem law_K {args : Array Value} {s : State} (hts : ∀ w ∈ gb, w.before args s = true) : ∃ D : va_G, va_K D cls [] s := by
  obtain ⟨c0, f0, h0⟩ := u_known (C := R_Ch) (T := F_Ch) (N := 7) (n := 7) hts i_Ch (hts _ kw_995)
  obtain ⟨c1, f1, h1⟩ := u_known (C := R_Rd) (T := F_Rd) (N := 10) (n := 10) hts i_Rd (hts _ kw_281)
  obtain ⟨c2, f2, h2⟩ := u_known (C := R_Wr) (T := F_Wr) (N := 2) (n := 2) hts i_Wr (hts _ kw_378)
  obtain ⟨c3, f3, h3⟩ := u_known (C := R_Op) (T := F_Op) (N := 15) (n := 15) hts i_Op (hts _ kw_43)
  obtain ⟨c4, f4, h4⟩ := u_known (C := R_Rp) (T := F_Rp) (N := 10) (n := 10) hts i_Rp (hts _ kw_194)
  obtain ⟨c5, f5, h5⟩ := u_known (C := R_Rw) (T := F_Rw) (N := 3) (n := 3) hts i_Rw (hts _ kw_135)
  obtain ⟨c6, f6, h6⟩ := u_known (C := R_Sv) (T := F_Sv) (N := 6) (n := 6) hts i_Sv (hts _ kw_396)
  obtain ⟨c7, f7, h7⟩ := u_known (C := R_Sp) (T := F_Sp) (N := 3) (n := 3) hts i_Sp (hts _ kw_735)
  obtain ⟨c8, f8, h8⟩ := u_known (C := R_St) (T := F_St) (N := 6) (n := 6) hts i_St (hts _ kw_37)
  obtain ⟨c9, f9, h9⟩ := u_known (C := R_Va) (T := F_Va) (N := 10) (n := 10) hts i_Va (hts _ kw_290)
  obtain ⟨c10, f10, h10⟩ := u_known (C := R_Vw) (T := F_Vw) (N := 5) (n := 5) hts i_Vw (hts _ kw_255)
  obtain ⟨c11, f11, h11⟩ := u_known (C := R_JT) (T := F_JT) (N := 13) (n := 13) hts i_JT (hts _ kw_29)
  obtain ⟨c12, f12, h12⟩ := u_known (C := R_MM) (T := F_MM) (N := 77) (n := 77) hts i_MM (hts _ kw_1371)
  refine ⟨(fun k => ([c0, c1, c2, c3, c4, c5, c6, c7, c8, c9, c10, c11, c12] : List ClassId).getD k 0, fun k => ([f0, f1, f2, f3, f4, f5, f6, f7, f8, f9, f10, f11, f12] : List (Nat → Nat)).getD k (fun _ => 0)), fun k q hq => ?_, fun k q h => by simp at h⟩
  match k, hq with
  | 0, hq => cases hq; exact h0
  | 1, hq => cases hq; exact h1
  | 2, hq => cases hq; exact h2
  | 3, hq => cases hq; exact h3
  | 4, hq => cases hq; exact h4
  | 5, hq => cases hq; exact h5
  | 6, hq => cases hq; exact h6
  | 7, hq => cases hq; exact h7
  | 8, hq => cases hq; exact h8
  | 9, hq => cases hq; exact h9
  | 10, hq => cases hq; exact h10
  | 11, hq => cases hq; exact h11
  | 12, hq => cases hq; exact h12
  | k + 13, hq => simp [cls] at hq
/-- the array classes of both worlds -/
theorem law_T {D : va_G} {s : State} {args : Array Value} (hts : ∀ w ∈ gb, w.before args s = true) (hev : ev_v s) (hK : va_K D cls [] s) : ∃ (cc mc : Nat → ClassId), va_K D cls (cty cc ++ mty mc) s := by
  obtain ⟨x0, a0, b0⟩ := arr_K (hts _ kw_252) (by simp)
  obtain ⟨x1, a1, b1⟩ := arr_K (hts _ kw_158) (by simp)
  obtain ⟨x2, a2, b2⟩ := arr_K (hts _ kw_253) (by simp)
  obtain ⟨x3, a3, b3⟩ := arr_K (hts _ kw_1614) (by simp)
  obtain ⟨x5, a5, b5⟩ := obj_K hev.1.1
  obtain ⟨x6, a6, b6⟩ := obj_K hev.1.2.1
  obtain ⟨x7, a7, b7⟩ := obj_K hev.1.2.2.1
  obtain ⟨x8, a8, b8⟩ := obj_K hev.1.2.2.2.1
  obtain ⟨x4, a4, b4⟩ := abo_K hev.1.2.2.2.2
  refine ⟨fun i => if i = 12 then x0 else if i = 13 then x1 else if i = 14 then x2 else if i = 15 then x5 else if i = 16 then x6 else if i = 17 then x7 else x8, fun i => if i = 0 then x0 else if i = 1 then x1 else if i = 2 then x2 else if i = 3 then x3 else x4, hK.1, fun k q hq => ?_⟩
  match k, hq with
  | 0, hq => cases hq; exact ⟨a0, b0⟩
  | 1, hq => cases hq; exact ⟨a1, b1⟩
  | 2, hq => cases hq; exact ⟨a2, b2⟩
  | 3, hq => cases hq; exact ⟨a5, b5⟩
  | 4, hq => cases hq; exact ⟨a6, b6⟩
  | 5, hq => cases hq; exact ⟨a7, b7⟩
  | 6, hq => cases hq; exact ⟨a8, b8⟩
  | 7, hq => cases hq; exact ⟨a0, b0⟩
  | 8, hq => cases hq; exact ⟨a1, b1⟩
  | 9, hq => cases hq; exact ⟨a2, b2⟩
  | 10, hq => cases hq; exact ⟨a3, b3⟩
  | 11, hq => cases hq; exact ⟨a4, b4⟩
  | k + 12, hq => simp at hq
theorem p_perm {D : va_G} {cl : List vw_C} {X Y Z : va_W} {H : Heap} (hP : va_P D cl ((X ++ Y) ++ Z) H) : va_P D cl ((X ++ Z) ++ Y) H := ((p_l (p_l hP)).app (p_r hP)).app (p_r (p_l hP))
theorem d_perm {A : Nat → Prop} {X Y Z : va_W} (hD : va_D A ((X ++ Y) ++ Z)) : va_D A ((X ++ Z) ++ Y) := by
  have hx := d_x hD
  have hy := d_x (d_l hD)
  refine ((d_l (d_l hD)).app (d_r hD) (fun i j p q hp hq => ?_)).app (d_r (d_l hD)) (fun i j p q hp hq => ?_)
  · exact hx i j p q (by rw [List.getElem?_append_left (List.getElem?_eq_some_iff.mp hp).1]; exact hp) hq
  · by_cases hi : i < X.length
    · rw [List.getElem?_append_left hi] at hp
      exact hy i j p q hp hq
    · rw [List.getElem?_append_right (by omega)] at hp
      exact fun h => hx (X.length + j) (i - X.length) q p (by rw [List.getElem?_append_right (by omega)]; simpa using hq) hp h.symm
theorem map_u {x : Option MS} {S1 : MS} {u : Unit} (h : x.map (fun S' => (S', ())) = some (S1, u)) : x = some S1 := by
  cases x with
  | none => cases h
  | some w => cases h; rfl
theorem at_mid {α : Type} {X Y : List α} {x : α} : ((X ++ [x]) ++ Y)[X.length]? = some x := by rw [List.getElem?_append_left (by simp)]; exact at_last
theorem as_P {D : va_G} {cl : List vw_C} {X Y Z : va_W} {H : Heap} (h : va_P D cl ((X ++ Y) ++ Z) H) : va_P D cl (X ++ (Y ++ Z)) H := by rw [← List.append_assoc]; exact h
theorem as_D {A : Nat → Prop} {X Y Z : va_W} (h : va_D A ((X ++ Y) ++ Z)) : va_D A (X ++ (Y ++ Z)) := by rw [← List.append_assoc]; exact h
theorem sa_P {D : va_G} {cl : List vw_C} {X Y Z : va_W} {H : Heap} (h : va_P D cl (X ++ (Y ++ Z)) H) : va_P D cl ((X ++ Y) ++ Z) H := by rw [List.append_assoc]; exact h
theorem sa_D {A : Nat → Prop} {X Y Z : va_W} (h : va_D A (X ++ (Y ++ Z))) : va_D A ((X ++ Y) ++ Z) := by rw [List.append_assoc]; exact h
/-- what holds at the law's loop -/
def LwW (p : Program) (s : State) (m : MethodId) (meth : Method) (c : Code) (b L : Nat) (xs : Nat → Int32) (D : va_G) (cc : Nat → ClassId) (md : Nat → Nat) (mc : Nat → ClassId) (o : Nat) (cL : ClassId) (sad sav : Nat → Nat) (i : Nat) (ad : Nat → Nat → Nat) (ov : Nat → Int64) (N : Nat → Nat) (C : CS) (S : MS) (A : AS) (rd : Nat) (H : Heap) (locs : List Loc) (ls : Array Slot) : Prop :=
  (p.tables.exec = Jvm.exec ∧ c.code = code ∧ meth.sig.returnType = ret ∧ c.maxLocals = 8 ∧ s.vm.findClass "JoinedTreesLaw" = some m.cls ∧ (∀ w ∈ gb, w.before #[Value.ref b] s = true) ∧ va_X b L xs s s.heap ∧ b < s.heap.size ∧ meth.locks = false ∧ L ≤ 3584) ∧ (ev (lA s) s ∧ sE sad sav (lA s) s ∧ eN s ∧ eH s) ∧
  (va_P D cls ((cw ad cc N C ++ [oA cL o ov]) ++ mw md mc S) H ∧ va_K D cls ((cty cc ++ [(cL, .long)]) ++ mty mc) s ∧ va_D (lA s) ((cw ad cc N C ++ [oA cL o ov]) ++ mw md mc S) ∧ va_S (lA s) s.heap H locs ∧ lv_has ls 8 [(4, .int (nI i)), (3, .ref o), (2, .ref (md 100)), (1, .ref (ad 11 0)), (0, .ref b)]) ∧ INV S N C A rd
