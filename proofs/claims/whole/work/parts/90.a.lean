/-! THE LAW: a call of both. -/
/-- what a call of the helper and one of the reference leave -/
def LWS {β : Type} (tl : β → Int64) (A : AS) (rd : Nat) (H : Option (((Nat → Nat) × CS × (Nat → Int64) × Int32) × Nat × Nat)) (Y : Option (MS × β)) : Prop :=
  ∃ N' C' ov' k c z S' b A' rd', H = some ((N', C', ov', k), c, z) ∧ Y = some (S', b) ∧ S'.i 0 = k ∧ (k = 0 → ov' 0 = tl b) ∧ INV S' N' C' A' rd' ∧ A.n ≤ A'.n ∧ A.m ≤ A'.m ∧ rd' ≤ rd + 50000 ∧ c ≤ 2 * (A'.n - A.n) + 3 * (A'.m - A.m) + 1 ∧ z ≤ 23 * (A'.n - A.n) + 40 * (A'.m - A.m) + 6
section LWA
variable {S : MS} {N : Nat → Nat} {C : CS} {A : AS} {rd : Nat} {ov : Nat → Int64} {hd : List (Nat × Int32)}
theorem oU_0 {v : Int64} : oU ov v 0 = v := by
  unfold oU vp_updL
  rw [if_pos (by decide)]
theorem lk_ne {hd : List (Nat × Int32)} (h : ∀ p, p ∈ hd → p.2 ≠ 0) {t : Nat} {k : Int32} (hk : hd.lookup t = some k) : k ≠ 0 := by
  induction hd with
  | nil => cases hk
  | cons p l ih =>
    rw [List.lookup_cons] at hk
    by_cases e : t == p.1
    · rw [e] at hk
      obtain rfl := Option.some.inj hk
      exact h p List.mem_cons_self
    · rw [show (t == p.1) = false by simpa using e] at hk
      exact ih (fun q hq => h q (List.mem_cons_of_mem _ hq)) hk
theorem ALIKE.st (h11 : N 11 = 1) {x : Option ((((Nat → Nat) × CS × Int32) ⊕ ((Nat → Nat) × CS × Nat)) × Nat × Nat)} {y : Option (MS × Int32)} (hh : ∀ p, p ∈ hd → p.2 ≠ 0) (h : ALIKE hd A rd N x y) : LWS Int32.toInt64 A rd (gl 0 (N 11) (hA hd ov x)) y := by
  rw [gl_ok (by omega)]
  rcases h with ⟨N', C', v, c, z, S', A', rd', h1, h2, h3, h4, h5, h6, h7, h8, h9, h10⟩ | ⟨C', t, k, v, S', rd', h1, h2, h3, h4, h5, h6, h7⟩
  · refine ⟨N', C', oU ov v.toInt64, 0, c, z, S', v, A', rd', by rw [h1]; rfl, h2, h3, fun _ => oU_0, h4, h5, h6, h8, by omega, by omega⟩
  · refine ⟨N, C', ov, k, 1, 6, S', v, A, rd', ?_, h3, h4, fun g => absurd g (lk_ne hh h2), h5, Nat.le_refl _, Nat.le_refl _, h7, by omega, by omega⟩
    rw [h1]
    unfold hA
    simp only [h2]
theorem RLIKE.st {β : Type} {tl : β → Int64} (h11 : N 11 = 1) {x : Option ((CS × β) ⊕ (CS × Nat))} {y : Option (MS × β)} (hh : ∀ p, p ∈ hd → p.2 ≠ 0) (h : RLIKE hd A rd N x y) : LWS tl A rd (gl 0 (N 11) (hR Prod.fst (fun ov r => oU ov (tl r.2)) hd N ov x)) y := by
  rw [gl_ok (by omega)]
  rcases h with ⟨C', v, S', rd', h1, h2, h3, h4, h5, h6⟩ | ⟨C', t, k, v, S', rd', h1, h2, h3, h4, h5, h6, h7⟩
  · exact ⟨N, C', oU ov (tl v), 0, 0, 0, S', v, A, rd', by rw [h1]; rfl, h2, h3, fun _ => oU_0, h4, Nat.le_refl _, Nat.le_refl _, h6, by omega, by omega⟩
  · refine ⟨N, C', ov, k, 1, 6, S', v, A, rd', ?_, h3, h4, fun g => absurd g (lk_ne hh h2), h5, Nat.le_refl _, Nat.le_refl _, h7, by omega, by omega⟩
    rw [h1]
    unfold hR
    simp only [h2]
theorem SLIKE.st (h11 : N 11 = 1) {x : Option ((CS × Int32) ⊕ (CS × Nat))} {y : Option (MS × Int32)} (hh : ∀ p, p ∈ hd → p.2 ≠ 0) (h : SLIKE hd A rd N x y) : LWS Int32.toInt64 A rd (gl 0 (N 11) (hR Prod.fst (fun ov r => oU ov r.2.toInt64) hd N ov x)) y := by
  rw [gl_ok (by omega)]
  rcases h with ⟨C', v, S', A', rd', h1, h2, h3, h4, h5, h6, h7, h8⟩ | ⟨C', t, k, v, S', rd', h1, h2, h3, h4, h5, h6, h7⟩
  · exact ⟨N, C', oU ov v.toInt64, 0, 0, 0, S', v, A', rd', by rw [h1]; rfl, h2, h3, fun _ => oU_0, h4, by omega, by omega, h8, by omega, by omega⟩
  · refine ⟨N, C', ov, k, 1, 6, S', v, A, rd', ?_, h3, h4, fun g => absurd g (lk_ne hh h2), h5, Nat.le_refl _, Nat.le_refl _, h7, by omega, by omega⟩
    rw [h1]
    unfold hR
    simp only [h2]
theorem hd1 : ∀ p, p ∈ ([(1, 1), (2, 2), (3, 3), (4, 4)] : List (Nat × Int32)) → p.2 ≠ 0 := by decide
theorem st_feed (hI : INV S N C A rd) (hrd : rd + 60000 < 2 ^ 30) (p0 p1 p2 p3 p4 : Int32) : LWS Int32.toInt64 A rd (h_feed N C ov p0 p1 p2 p3 p4) (m_rfeed S p0 p1 p2 p3 p4) := (call_feed hI p0 p1 p2 p3 p4).st hI.2.1.nn.2.2.2.2.2.2.2.2.2.2.2.1 (by decide)
theorem st_end (hI : INV S N C A rd) (hrd : rd + 60000 < 2 ^ 30) (p0 : Int32) : LWS Int32.toInt64 A rd (h_end N C ov p0) (m_rend S p0) := (call_end hI p0).st hI.2.1.nn.2.2.2.2.2.2.2.2.2.2.2.1 (by decide)
theorem st_set (hI : INV S N C A rd) (hrd : rd + 60000 < 2 ^ 30) (p0 p1 p2 : Int32) (p3 : Int64) : LWS Int32.toInt64 A rd (h_set N C ov p0 p1 p2 p3) (m_rset S p0 p1 p2 p3) := (call_set hI hrd p0 p1 p2 p3).st hI.2.1.nn.2.2.2.2.2.2.2.2.2.2.2.1 hd1
theorem st_put (hI : INV S N C A rd) (hrd : rd + 60000 < 2 ^ 30) (p0 p1 p2 p3 : Int32) (p4 : Int64) : LWS Int32.toInt64 A rd (h_put N C ov p0 p1 p2 p3 p4) (m_rput S p0 p1 p2 p3 p4) := (call_put hI hrd p0 p1 p2 p3 p4).st hI.2.1.nn.2.2.2.2.2.2.2.2.2.2.2.1 hd1
theorem st_insert (hI : INV S N C A rd) (hrd : rd + 60000 < 2 ^ 30) (p0 p1 p2 p3 : Int32) (p4 : Int64) : LWS Int32.toInt64 A rd (h_insert N C ov p0 p1 p2 p3 p4) (m_rinsert S p0 p1 p2 p3 p4) := (call_insert hI hrd p0 p1 p2 p3 p4).st hI.2.1.nn.2.2.2.2.2.2.2.2.2.2.2.1 hd1
theorem st_splice (hI : INV S N C A rd) (hrd : rd + 60000 < 2 ^ 30) (p0 p1 p2 p3 : Int32) : LWS Int32.toInt64 A rd (h_splice N C ov p0 p1 p2 p3) (m_rsplice S p0 p1 p2 p3) := (call_splice hI hrd p0 p1 p2 p3).st hI.2.1.nn.2.2.2.2.2.2.2.2.2.2.2.1 hd1
theorem st_erase (hI : INV S N C A rd) (hrd : rd + 60000 < 2 ^ 30) (p0 p1 p2 : Int32) : LWS Int32.toInt64 A rd (h_erase N C ov p0 p1 p2) (m_rerase S p0 p1 p2) := (call_erase hI hrd p0 p1 p2).st hI.2.1.nn.2.2.2.2.2.2.2.2.2.2.2.1 hd1
theorem st_add (hI : INV S N C A rd) (hrd : rd + 60000 < 2 ^ 30) (p0 p1 p2 : Int32) (p3 : Int64) : LWS Int32.toInt64 A rd (h_add N C ov p0 p1 p2 p3) (m_radd S p0 p1 p2 p3) := (call_add hI hrd p0 p1 p2 p3).st hI.2.1.nn.2.2.2.2.2.2.2.2.2.2.2.1 hd1
theorem st_read (hI : INV S N C A rd) (hrd : rd + 60000 < 2 ^ 30) (p0 p1 : Int32) : LWS Int32.toInt64 A rd (h_read N C ov p0 p1) (m_rread S p0 p1) := (call_read hI hrd p0 p1).st hI.2.1.nn.2.2.2.2.2.2.2.2.2.2.2.1 hd1
theorem st_commit (hI : INV S N C A rd) (hrd : rd + 60000 < 2 ^ 30) (p0 : Int32) : LWS Int32.toInt64 A rd (h_commit N C ov p0) (m_rcommit S p0) := (call_commit hI p0).st hI.2.1.nn.2.2.2.2.2.2.2.2.2.2.2.1 (by decide)
theorem st_drop (hI : INV S N C A rd) (hrd : rd + 60000 < 2 ^ 30) (p0 : Int32) : LWS Int32.toInt64 A rd (h_drop N C ov p0) (m_rdrop S p0) := (call_drop hI p0).st hI.2.1.nn.2.2.2.2.2.2.2.2.2.2.2.1 (by decide)
theorem st_send (hI : INV S N C A rd) (hrd : rd + 60000 < 2 ^ 30) (p0 p1 p2 p3 : Int32) : LWS Int32.toInt64 A rd (h_send N C ov p0 p1 p2 p3) (m_rsend S p0 p1 p2 p3) := (call_send hI p0 p1 p2 p3).st hI.2.1.nn.2.2.2.2.2.2.2.2.2.2.2.1 (by decide)
theorem st_join (hI : INV S N C A rd) (hrd : rd + 60000 < 2 ^ 30) (p0 p1 : Int32) : LWS Int32.toInt64 A rd (h_join N C ov p0 p1) (m_rjoin S p0 p1) := (call_join hI p0 p1).st hI.2.1.nn.2.2.2.2.2.2.2.2.2.2.2.1 (by decide)
theorem st_look (hI : INV S N C A rd) (hrd : rd + 60000 < 2 ^ 30) (p0 p1 p2 : Int32) : LWS Int32.toInt64 A rd (h_look N C ov p0 p1 p2) (m_rlook S p0 p1 p2) := (call_look hI p0 p1 p2).st hI.2.1.nn.2.2.2.2.2.2.2.2.2.2.2.1 (by decide)
theorem st_object (hI : INV S N C A rd) (hrd : rd + 60000 < 2 ^ 30) (p0 p1 p2 : Int32) : LWS Int32.toInt64 A rd (h_object N C ov p0 p1 p2) (m_robject S p0 p1 p2) := (call_object hI hrd p0 p1 p2).st hI.2.1.nn.2.2.2.2.2.2.2.2.2.2.2.1 (by decide)
theorem st_key (hI : INV S N C A rd) (hrd : rd + 60000 < 2 ^ 30) (p0 p1 p2 p3 : Int32) : LWS Int32.toInt64 A rd (h_key N C ov p0 p1 p2 p3) (m_rkey S p0 p1 p2 p3) := (call_key hI hrd p0 p1 p2 p3).st hI.2.1.nn.2.2.2.2.2.2.2.2.2.2.2.1 (by decide)
theorem st_candidate (hI : INV S N C A rd) (hrd : rd + 60000 < 2 ^ 30) (p0 p1 p2 p3 p4 : Int32) : LWS id A rd (h_candidate N C ov p0 p1 p2 p3 p4) (m_rcandidate S p0 p1 p2 p3 p4) := (call_candidate hI hrd p0 p1 p2 p3 p4).st (tl := id) hI.2.1.nn.2.2.2.2.2.2.2.2.2.2.2.1 (by decide)
theorem st_letter (hI : INV S N C A rd) (hrd : rd + 60000 < 2 ^ 30) (p0 p1 p2 : Int32) : LWS Int32.toInt64 A rd (h_letter N C ov p0 p1 p2) (m_rletter S p0 p1 p2) := (call_letter hI hrd p0 p1 p2).st hI.2.1.nn.2.2.2.2.2.2.2.2.2.2.2.1 (by decide)
theorem st_element (hI : INV S N C A rd) (hrd : rd + 60000 < 2 ^ 30) (p0 p1 p2 : Int32) : LWS Int32.toInt64 A rd (h_element N C ov p0 p1 p2) (m_relement S p0 p1 p2) := (call_element hI hrd p0 p1 p2).st hI.2.1.nn.2.2.2.2.2.2.2.2.2.2.2.1 (by decide)
theorem st_index (hI : INV S N C A rd) (hrd : rd + 60000 < 2 ^ 30) (p0 p1 p2 : Int32) : LWS Int32.toInt64 A rd (h_index N C ov p0 p1 p2) (m_rindex S p0 p1 p2) := (call_index hI hrd p0 p1 p2).st hI.2.1.nn.2.2.2.2.2.2.2.2.2.2.2.1 (by decide)
theorem st_find (hI : INV S N C A rd) (hrd : rd + 60000 < 2 ^ 30) (p0 : Int32) : LWS Int32.toInt64 A rd (h_find N C ov p0) (m_rfind2 S p0) := (call_find hI hrd p0).st hI.2.1.nn.2.2.2.2.2.2.2.2.2.2.2.1 (by decide)
theorem st_text (hI : INV S N C A rd) (hrd : rd + 60000 < 2 ^ 30) (p0 p1 : Int32) : LWS Int32.toInt64 A rd (h_text N C ov p0 p1) (m_rtext S p0 p1) := (call_text hI hrd p0 p1).st hI.2.1.nn.2.2.2.2.2.2.2.2.2.2.2.1 (by decide)
theorem st_save (hI : INV S N C A rd) (hrd : rd + 60000 < 2 ^ 30) (p0 : Int32) : LWS Int32.toInt64 A rd (h_save N C ov p0) (m_rsave S p0) := (call_save hI p0).st hI.2.1.nn.2.2.2.2.2.2.2.2.2.2.2.1 (by decide)
theorem st_load (hI : INV S N C A rd) (hrd : rd + 60000 < 2 ^ 30) (p0 : Int32) : LWS Int32.toInt64 A rd (h_load N C ov p0) (m_rload S p0) := (call_load hI p0).st hI.2.1.nn.2.2.2.2.2.2.2.2.2.2.2.1 (by decide)
theorem st_out (hI : INV S N C A rd) (hrd : rd + 60000 < 2 ^ 30) (p0 : Int32) : LWS id A rd (h_out N C ov p0) (m_rout S p0) := (call_out hI p0).st (tl := id) hI.2.1.nn.2.2.2.2.2.2.2.2.2.2.2.1 (by decide)
theorem st_count (hI : INV S N C A rd) (hrd : rd + 60000 < 2 ^ 30) (p0 p1 : Int32) : LWS Int32.toInt64 A rd (h_count N C ov p0 p1) (m_rcount S p0 p1) := (call_count hI p0 p1).st hI.2.1.nn.2.2.2.2.2.2.2.2.2.2.2.1 (by decide)
theorem st_harm (hI : INV S N C A rd) (hrd : rd + 60000 < 2 ^ 30) (p0 p1 : Int32) : LWS (β := Unit) (fun _ => ov 0) A rd (h_harm N C ov p0 p1) ((m_rharm S p0 p1).map (fun S' => (S', ()))) := by
  unfold h_harm
  rw [gl_ok (show 0 < N 11 by rw [hI.2.1.nn.2.2.2.2.2.2.2.2.2.2.2.1]; decide)]
  rcases call_harm hI p0 p1 with ⟨C', S', h1, h2, h3, h4⟩ | ⟨t, k, h1, h2, h3, h4⟩
  · exact ⟨N, C', ov, 0, 0, 0, S', (), A, rd, by rw [h1]; rfl, by rw [h2]; rfl, h3, fun _ => rfl, h4, Nat.le_refl _, Nat.le_refl _, by omega, by omega, by omega⟩
  · refine ⟨N, C, ov, nI k, 1, 6, S.setI 0 (nI k), (), A, rd, ?_, by rw [h3]; rfl, by rw [MS.i_setI, if_pos rfl], fun _ => rfl, h4, Nat.le_refl _, Nat.le_refl _, by omega, by omega, by omega⟩
    rw [h1]
    unfold hR
    simp only [h2]
end LWA
