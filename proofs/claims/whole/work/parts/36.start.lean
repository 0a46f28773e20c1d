/-! THE CLAIM OUT OF ONE WALK OF THE LAW'S BODY. Your part is whole_start (and what it stands on); all else here is the same for every law, but numbers. -/
def R_law : String := "RedoQuorumLaw"
def lw_P (b : Addr) (xs : List Int32) (args : Array Value) (s : State) : Prop := args = #[.ref b] ∧ s.IntsAt b xs ∧ xs.length ≤ 2560 ∧ (Jvm.Cond.and given_1 narrow_1).before args s = true
def lw_Q (_ : Array Value) (s : State) (o : Outcome) (t : State) : Prop := o = .returned (some (.int 1)) ∧ Framed s o t [] 600000 7302250
def lw_Z (below : List Frame) (a : Array Value) (s : State) : State → Prop := fun t => ∃ o, t.status = .running ∧ Ended t below o ∧ lw_Q a s o t
/-- the law's own end, with 1 on the stack, nothing written that was there before, its room as the claim has it -/
theorem lw_ret {p : Program} {l : Launch} {e : Env} {s : State} {m : MethodId} {below : List Frame} {meth : Method} {c : Code} {b : Nat} (hx : p.tables.exec = Jvm.exec) (hb : c.code = code) (hr : meth.sig.returnType = ret) (hlocks : meth.locks = false) {pc : Nat} {H : Heap} {ls : Array Slot} (hdg : decode code pc = .ok (.ireturn, 1)) : W p l e room_1 s m #[Value.ref b] below meth c H [] 600000 7302250 (lw_Z below #[Value.ref b] s) (F0 m pc ls [.int 1]) := by
  intro T hT X
  obtain ⟨fs, hret, hrun, hended, hW, hframe⟩ := X.leave (v := some (.int 1)) (hlocks := hlocks) (fun h => by rw [hr] at h; cases h)
  have hmeth' : T.vm.method? m = some meth := X.method'
  refine ⟨T.setFrames fs, ?_, .returned (some (.int 1)), hrun, hended, rfl, ⟨_, rfl⟩, hW, hframe⟩
  jvm_step X.here [X.here.top, hx, hb, hdg, hmeth', hr, ret, narrow_b1]
  (try refine ⟨rfl, ?_⟩); (try refine ⟨rfl, ?_⟩)
  first | (intro acts; rw [hret _ acts rfl rfl rfl]) | rw [hret _ _ rfl rfl rfl]
  exact Steps.refl _
/-- what holds at the law's entry: the machine, the code, the tables' words (any of lw_tbl by 'hts w (by decide +kernel)'), the script of L ints xs at the cell b, what the Statement gives of the start (any of its parts by flat_of_before) -/
def lw_At (p : Program) (s : State) (m : MethodId) (meth : Method) (c : Code) (b L : Nat) (xs : Nat → Int32) : Prop :=
  p.tables.exec = Jvm.exec ∧ c.code = code ∧ meth.sig.returnType = ret ∧ c.maxLocals = 4 ∧ s.vm.findClass R_law = some m.cls ∧ (∀ w ∈ lw_tbl, w.before #[Value.ref b] s = true) ∧ va_X b L xs s s.heap ∧ b < s.heap.size ∧ meth.locks = false ∧ (Jvm.Cond.and given_1 narrow_1).before #[Value.ref b] s = true
theorem q_kinds {s : State} {args : Array Value} (hts : ∀ w ∈ lw_tbl, w.before args s = true) : ∃ D : va_G, q_K D s := by
  have kn : ∀ {i : Nat} {C : String} {T : u_T} {N : Nat}, q_lays i C T N → Cond.instantiable C N ∈ lw_tbl → ∃ z : ClassId × (Nat → Nat), u_Kn s C T N z.1 z.2 := by
    intro i C T N hl hi
    obtain ⟨cC, iS, h⟩ := u_known (ws := u_ws C T N) (args := args) (fun w hw => hts w (hl.2 w hw).1) (fun w h => h) (hts _ hi)
    exact ⟨(cC, iS), h⟩
  have hc : ∀ c : Nat, ∃ z : ClassId × (Nat → Nat), ∀ q, q_cl[c]? = some q → u_Kn s q.1 q.2.1 q.2.2 z.1 z.2 := by
    intro c
    match c with
    | 0 => obtain ⟨z, h⟩ := kn lay_0 is_Q.1; exact ⟨z, fun q hq => by cases hq; exact h⟩
    | 1 => obtain ⟨z, h⟩ := kn lay_1 is_L.1; exact ⟨z, fun q hq => by cases hq; exact h⟩
    | 2 => obtain ⟨z, h⟩ := kn lay_2 is_T.1; exact ⟨z, fun q hq => by cases hq; exact h⟩
    | 3 => obtain ⟨z, h⟩ := kn lay_3 is_G.1; exact ⟨z, fun q hq => by cases hq; exact h⟩
    | 4 => obtain ⟨z, h⟩ := kn lay_4 is_C.1; exact ⟨z, fun q hq => by cases hq; exact h⟩
    | 5 => obtain ⟨z, h⟩ := kn lay_5 is_H.1; exact ⟨z, fun q hq => by cases hq; exact h⟩
    | 6 => obtain ⟨z, h⟩ := kn lay_6 is_M.1; exact ⟨z, fun q hq => by cases hq; exact h⟩
    | n + 7 => exact ⟨(0, fun _ => 0), fun q hq => by cases hq⟩
  refine ⟨(fun c => (Classical.choose (hc c)).1, fun c => (Classical.choose (hc c)).2), fun w hw hm => q_mv_at hm (State.WarmedH.refl s) (hts w hw), fun c q hq => Classical.choose_spec (hc c) q hq, fun k q hk => by cases hk⟩
/-- the walk of the law's body, out of what the two sides are to each other -/
theorem start_of {Inv : qI → Prop} (ho : ∀ N, N ≤ 2560 → oks Inv N) (h0 : ∀ J : qI, (∀ a j, a ≠ 0 → J a j = 0) → Inv (jc J)) {p : Program} {e : Env} {s : State} {m : MethodId} {below : List Frame} {meth : Method} {c : Code} (l : Launch) {b L : Nat} {xs : Nat → Int32} (hL : L ≤ 2560) (C0 : lw_At p s m meth c b L xs) :
    W p l e room_1 s m #[Value.ref b] below meth c s.heap [] 0 0 (lw_Z below #[Value.ref b] s) (entryFrame m ([Value.ref b] : List Value).toArray 4) := by
  obtain ⟨hx, hb, hr, hml, hown, hts, hX, hbl, hlk, -⟩ := C0
  obtain ⟨D, hK⟩ := q_kinds hts
  have hJ : ∀ a j, a ≠ 0 → (fun (a j : Nat) => if a = 0 then (xs j).toInt else 0 : qI) a j = 0 := fun a j h => if_neg h
  have hbody := lw_body (ho L hL) hL _ hJ (h0 _ hJ)
  generalize hJe : (fun (a j : Nat) => if a = 0 then (xs j).toInt else 0 : qI) = J at hbody
  have hJ0 : ∀ j, J 0 j = (xs j).toInt := fun j => by rw [← hJe]; rfl
  have hJin : ∀ a j, q_in (J a j) := fun a j => by
    rw [← hJe]
    show q_in (if a = 0 then (xs j).toInt else 0)
    split
    · exact ⟨by have := Int32.le_toInt (xs j); omega, by have := Int32.toInt_lt (xs j); omega⟩
    · exact q_in0
  obtain ⟨scr, g1, g2, g3, g4, g5⟩ := hX
  have hH : q_H D s (b, s.heap.size - 1) (SQ0 L) J s.heap := by
    refine ⟨?_, ?_, fun q hq => by cases hq; rfl, hJin, fun k q hk => ?_⟩
    · show s.heap.size = s.heap.size - 1 + 1
      omega
    · show b ≤ s.heap.size - 1
      omega
    · have hk0 : k = 0 := by
        have := (List.getElem?_eq_some_iff.mp hk).1
        simp at this
        omega
      subst hk0
      cases hk
      refine ⟨fun h => absurd h (show ¬ 200 < 100 by decide), fun _ h => absurd h (show ¬ 200 < 200 by decide), fun _ => ⟨scr, g1, g2, g3, g4, fun j hj => ?_⟩⟩
      rw [g5 j hj, hJ0, Int32.ofInt_toInt]
  have hen := q_has_entry (B := (b, s.heap.size - 1)) (as := [.inr (some 0)]) (n := 4) (by decide)
  have hW := hbody p l e s m #[Value.ref b] below meth c s.heap [] D (b, s.heap.size - 1) _ ⟨hx, hb, hml, hown, hr, hlk, fun h => absurd h (by decide), hK⟩ va_S.rf hH hen (fun v hv => by
    simp at hv
    subst hv
    trivial) (fun v hv => by cases hv)
  rw [lg_entry_eq]
  intro T hT X
  obtain ⟨t, a1, o, b1, b2, ⟨⟨r, S', I', e1, e2, e3, e4⟩, -⟩, L9, b4, b5⟩ := hW T hT X
  refine ⟨t, a1, o, b1, b2, ?_, b4.1, b4.2.1, b4.2.2.weaken (fun y hy hlt => ?_) (Nat.le_refl _) (Nat.le_refl _)⟩
  · rw [e1, show r = some (.inl 1) from e3]
    rfl
  · have h9 : s.heap.size - 1 < y.base := b5 y hy
    exact absurd hlt (Nat.not_lt.mpr (Nat.le_of_pred_lt (show Nat.pred s.heap.size < y.base from h9)))
