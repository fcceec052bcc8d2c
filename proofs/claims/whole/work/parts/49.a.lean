/-! THE CLASS'S METHODS THAT MAKE OBJECTS. Printed by wip/gen/adec.py -/
theorem nm_I {D : va_G} {cl : List vw_C} {cc : Nat → ClassId} {s : State} (hK : va_K D cl (cty cc) s) : s.vm.findClass "[I" = some (cc 12) := by
  have h := (hK.2 0 (cc 12, .int) rfl).2
  have e1 : ("[" ++ FieldType.int.toString) = "[I" := by decide +kernel
  have h1 : s.vm.findClass ("[" ++ FieldType.int.toString) = some (cc 12) := h
  rw [e1] at h1
  exact h1
theorem fit_I {cA : ClassId} {n : Nat} {f : Nat → Int32} : ∀ (i : Nat) (v : Value), (vp_cell cA (n, .inl f)).slots[i]? = some v → fits .int v = true := by
  intro i v h
  obtain ⟨j, rfl⟩ : ∃ j, v = .int j := by
    have h1 : (vp_cell cA (n, .inl f)) = arrV cA n (fun j => .int (f j)) := rfl
    rw [h1] at h
    have hi : i < n := by
      have := (Array.getElem?_eq_some_iff.mp h).1
      rwa [arrV_size] at this
    rw [arrV_read _ _ hi] at h
    exact ⟨_, (Option.some.inj h).symm⟩
  rfl
section THRB
variable {p : Program} {l : Launch} {e : Env} {R : Room} {s : State} {m : MethodId} {args : Array Value} {below : List Frame} {meth : Method} {c : Code} {H : Heap} {locs : List Loc} {cells slots : Nat}
theorem tx_thrB {cc : ByteArray} {pc k : Nat} {ls : Array Slot} {D : va_G} {ws : va_W} {A : Nat → Prop} {B : Heap → Prop} (hfl : l.flags = flags0) (hx : p.tables.exec = Jvm.exec) (hb : c.code = cc) (hno : c.exceptionTable.isEmpty = true) (hlocks : meth.locks = false) (hown : s.vm.findClass "JoinedTrees" = some m.cls) (hts : ∀ w ∈ gb, w.before args s = true) (hev : ev A s) (hN : eN s) (hNS : tx_NS A s) (hd : thD cc k pc) (hsz : ls.size = c.maxLocals) (hP : va_P D cls ws H) (hS : va_S A s.heap H locs) (hA : ∀ q, s.heap.size ≤ q → A q)
    (hc : cells + 1 ≤ R.cells) (hs6 : slots + 6 ≤ R.slots) (hRf : 5 < R.frames) (hRl : 81 ≤ R.locals) (hB : ∀ H1, va_P D cls ws H1 → B H1) : W p l e R s m args below meth c H locs cells slots (tx_MQ below (exN k) A B s (cells + 1) (slots + 6)) (F0 m pc ls []) := by
  obtain ⟨hk, d0, d3, d4, d7⟩ := hd
  have htU : ∀ U : State, s.WarmedH U.vm → ∀ w ∈ gb, w.before args U = true := fun U hW w hw => word_at hW (good_of_word (gb_good hw)) (hts w hw)
  refine tx_throw (own := "JoinedTrees") (E := exN k) (names := at_n) hfl hx hb hno hlocks hown (ex_fit k hk) (by decide +kernel) (fun U hW h1 h2 => ?_) (fun U hW => htU U hW _ (ex_cl k hk)) (fun U hW => htU U hW _ (ex_in k hk)) d0 d3 d4 d7 hsz hS hA hc hs6 hRf hRl (fun H1 hk1 => hB H1 (hP.kept (fun i q hq => hk1 q.1 (hP i q hq).lt)))
  have hS2 : va_S A s.heap U.heap [] := ⟨h1, h2, fun q hq => by simp at hq⟩
  have hvU := hev.go hNS hS2 (fun _ h => h) rfl hW
  exact hvU.atoms (htU U hW) (ex_cast hvU.2.2.2.2 (hN.warm hW) k hk) (at_at k hk)
end THRB
