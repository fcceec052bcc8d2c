/-! 'new' IN THE CLASS'S WORLD: the row. -/
theorem tri {τ : Type} {x y : τ} {a b c s : Nat} (h : some (x, c, s) = some (y, a, b)) : y = x ∧ a = c ∧ b = s := by
  cases h
  exact ⟨rfl, rfl, rfl⟩
theorem lv_cast {ls : Array Slot} {n : Nat} {l1 l2 : List (Nat × Value)} (h : lv_has ls n l1) (e : l1 = l2) : lv_has ls n l2 := e ▸ h
def zVal : Nat → Value
  | 0 => .int 0
  | 1 => .long 0
  | _ + 2 => .null
theorem cFs_zero {ad : Nat → Nat → Nat} {S : CS} {k j n : Nat} : ∀ (ts : List Nat) (f : Nat), cFs ad (S.new k j n) k j f ts = ts.map zVal := by
  intro ts
  induction ts with
  | nil => intro f; rfl
  | cons t ts ih =>
    intro f
    rw [cFs, ih, List.map_cons]
    congr 1
    match t with
    | 0 => exact congrArg Value.int (if_pos ⟨rfl, rfl⟩)
    | 1 => exact congrArg Value.long (if_pos ⟨rfl, rfl⟩)
    | t + 2 => exact congrArg (rv ad t) (show (S.new k j n).r k f j = none from if_pos ⟨rfl, rfl⟩)
theorem cell_newO {ad : Nat → Nat → Nat} {cc : Nat → ClassId} {N : Nat → Nat} {S : CS} {k q n : Nat} (hk : k < 12) : cCell (adU ad k (N k) q) cc (S.new k (N k) n) k (N k) = (q, .inr (k, (cFT.getD k []).map zVal)) := by
  unfold cCell
  rw [if_pos hk, show adU ad k (N k) q k (N k) = q from if_pos ⟨rfl, rfl⟩]
  unfold cObj
  rw [cFs_zero]
theorem cell_newQ {ad : Nat → Nat → Nat} {cc : Nat → ClassId} {N : Nat → Nat} {S : CS} {k q n : Nat} (hk : 15 ≤ k) : cCell (adU ad k (N k) q) cc (S.new k (N k) n) k (N k) = (q, .inl (cc k, n, .inr (.inr (.inr (.inr (fun _ => none)))))) := by
  unfold cCell
  rw [if_neg (by omega), if_neg (by omega), show adU ad k (N k) q k (N k) = q from if_pos ⟨rfl, rfl⟩, show (S.new k (N k) n).z k (N k) = n from if_pos ⟨rfl, rfl⟩]
  have e1 : (fun p => ((S.new k (N k) n).q k (N k) p).map (adU ad k (N k) q (cET k))) = fun _ => none := by
    funext p
    rw [show (S.new k (N k) n).q k (N k) p = none from if_pos ⟨rfl, rfl⟩]
    rfl
  rw [e1]
theorem cell_newA {ad : Nat → Nat → Nat} {cc : Nat → ClassId} {N : Nat → Nat} {S : CS} {k q n : Nat} (hk : 12 ≤ k ∧ k < 15) : cCell (adU ad k (N k) q) cc (S.new k (N k) n) k (N k) = (q, .inl (cc k, n, .inl (fun _ => 0))) := by
  unfold cCell
  rw [if_neg (by omega), if_pos hk.2, show adU ad k (N k) q k (N k) = q from if_pos ⟨rfl, rfl⟩, show (S.new k (N k) n).z k (N k) = n from if_pos ⟨rfl, rfl⟩]
  have e1 : (S.new k (N k) n).a k (N k) = fun _ => 0 := by
    funext p
    exact if_pos ⟨rfl, rfl⟩
  rw [e1]
/-- behind a 'new': the world is the tables' again, over a map of addresses that has grown -/
theorem cw_born {A : Nat → Prop} {D : va_G} {H : Heap} {ad : Nat → Nat → Nat} {cc : Nat → ClassId} {N : Nat → Nat} {S : CS} {k q n : Nat} {x : Nat × va_E} (hw : wfN N S k) (hk : k < 19) (hx : cCell (adU ad k (N k) q) cc (S.new k (N k) n) k (N k) = x) (hP : va_P D cls (cw ad cc N S ++ [x]) H) (hD : va_D A (cw ad cc N S ++ [x])) :
    ∃ ad' : Nat → Nat → Nat, Ext ad N ad' (Nup N k) ∧ ad' k (N k) = q ∧ (∀ k1 j, k1 ≠ k → ad' k1 j = ad k1 j) ∧ va_P D cls (cw ad' cc (Nup N k) (S.new k (N k) n)) H ∧ va_D A (cw ad' cc (Nup N k) (S.new k (N k) n)) := by
  subst hx
  exact ⟨adU ad k (N k) q, Ext.up, if_pos ⟨rfl, rfl⟩, fun k1 j h => if_neg (fun z => h z.1), p_perm2 (cw_new hw hk) hP, d_perm2 (cw_new hw hk) hD⟩
/-- a throw's world, said more weakly -/
theorem tx_Thr.mono {p : Program} {l : Launch} {e : Env} {R : Room} {s : State} {m : MethodId} {args : Array Value} {below : List Frame} {meth : Method} {c : Code} {H : Heap} {locs : List Loc} {cells slots mc ms : Nat} {g : JFrame} {rest : List Value} {E : String} {A : Nat → Prop} {B B' : Heap → Prop}
    (h : tx_Thr p l e R s m args below meth c H locs cells slots mc ms g rest E A B) (hB : ∀ H1, B H1 → B' H1) : tx_Thr p l e R s m args below meth c H locs cells slots mc ms g rest E A B' := by
  intro T hT X
  obtain ⟨y, ce, T', L, h1, h2, h3, h4, h5, h6, h7, h8, h9, h10⟩ := h T hT X
  exact ⟨y, ce, T', L, h1, h2, h3, h4, h5, h6, h7, h8, hB _ h9, h10⟩
