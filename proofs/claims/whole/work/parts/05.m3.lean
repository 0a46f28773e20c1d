/-! The machine's rows: fields, arrays, new cells. -/
/-- what the tables say of a class's fields -/
def q_lays (ci : Nat) (C : String) (T : u_T) (N : Nat) : Prop := q_cl[ci]? = some (C, T, N) ∧ ∀ w ∈ u_ws C T N, w ∈ lw_tbl ∧ q_mv w = true
/-- the types of its fields, and that their names differ -/
def q_typs (T : u_T) (N : Nat) (ty : Nat → FieldType) : Prop := (∀ k, k < N → parseFieldDescriptor (T k).2.2.1 = some (ty k)) ∧ ∀ a, a < N → ∀ b, b < N → a ≠ b → (T a).2.1 ≠ (T b).2.1
theorem q_lays.hts {ci : Nat} {C : String} {T : u_T} {N : Nat} (h : q_lays ci C T N) {D : va_G} {s : State} {args : Array Value} (hK : q_K D s) : ∀ w ∈ u_ws C T N, w.before args s = true :=
  fun w hw => hK.at (h.2 w hw).1 (h.2 w hw).2
/-- how the method may name the field: of its own class, or a nest mate's -/
def q_link (own : String) (index : Nat) (C name desc : String) : Prop := (Cond.fieldLink own index C name desc ∈ lw_tbl ∧ q_mv (Cond.fieldLink own index C name desc) = true) ∨ ∃ host, Cond.fieldLinkNest own index C name desc host ∈ lw_tbl
section QF
variable {M : qM} {R : Room} {mc ms k n pc : Nat} {L : List (Option qV)} {st : List qV} {S : qS} {I : qI} {P : qP}
theorem q_getf {a ci N index f : Nat} {vs : List qV} {C : String} {T : u_T} (hd : decode M.2.1 pc = .ok (.getfield index, 3)) (hc : q_lays ci C T N) (hci : ci < 100) (ha : S[a]? = some (ci, N, vs)) (hf : f < N) (hl : q_link M.1.cls index C (T f).2.1 (T f).2.2.1) (hown : (T f).1 = C)
    (K : q_Ev M R mc ms k n (pc + 3) L (q_sl vs (I a) f :: st) S I P) : q_Ev M R mc ms k n pc L (.inr (some a) :: st) S I P := by
  intro p l e s m args below meth c H locs D B ls C0 hS hH hL oL oS
  have o := q_oks_cons.mp oS
  have K1 := K p l e s m args below meth c H locs D B ls C0 hS hH hL oL (q_oks_cons.mpr ⟨q_sl_ok hH vs a f, o.2⟩)
  have hK : q_K D s := C0.2.2.2.2.2.2.2
  obtain ⟨r, h1, -, cell, g1, g2, g3, g4⟩ := (hH.2.2.2.2 a _ ha).1 hci
  have hr : r = (C, T, N) := Option.some.inj (h1.symm.trans hc.1)
  subst hr
  obtain ⟨hSl, hfc, kC, hkC, hkind⟩ := hK.2.1 ci _ hc.1
  obtain ⟨cf, kf, fi, fd, hi, hsl⟩ := hSl f hf
  have hst := (u_facts hfc hkC (u_lays (args := args) (hc.hts hK) (fun w h => h) hf) hi).1
  dsimp only at hi hSl hst
  rw [hown] at hi
  rcases hl with hl | ⟨host, hl⟩
  · exact W.getf C0.1 C0.2.1 C0.2.2.2.1 (hK.at hl.1 hl.2) hi hst g1 (by rw [g3]; exact fun h => by cases h) (by rw [hsl]; exact g4 f hf) rfl rfl hd K1
  · exact va_Wgetf C0.1 C0.2.1 C0.2.2.2.1 (hK.at hl rfl) hi hst g1 (by rw [g3]; exact fun h => by cases h) (by rw [hsl]; exact g4 f hf) rfl rfl hd K1
/-- a number's field is read -/
theorem q_getI {a ci N index f : Nat} {z : Int} {vs : List qV} {C : String} {T : u_T} (hd : decode M.2.1 pc = .ok (.getfield index, 3)) (hc : q_lays ci C T N) (hci : ci < 100) (ha : S[a]? = some (ci, N, vs)) (hf : f < N) (hl : q_link M.1.cls index C (T f).2.1 (T f).2.2.1) (hown : (T f).1 = C) (hv : vs[f]? = some (.inl z))
    (K : q_Ev M R mc ms k n (pc + 3) L (.inl (I a f) :: st) S I P) : q_Ev M R mc ms k n pc L (.inr (some a) :: st) S I P := by
  refine q_getf hd hc hci ha hf hl hown ?_
  have e : q_sl vs (I a) f = .inl (I a f) := by unfold q_sl; rw [hv]
  rw [e]
  exact K
theorem q_getR {a ci N index f : Nat} {r : Option Nat} {vs : List qV} {C : String} {T : u_T} (hd : decode M.2.1 pc = .ok (.getfield index, 3)) (hc : q_lays ci C T N) (hci : ci < 100) (ha : S[a]? = some (ci, N, vs)) (hf : f < N) (hl : q_link M.1.cls index C (T f).2.1 (T f).2.2.1) (hown : (T f).1 = C) (hv : vs[f]? = some (.inr r))
    (K : q_Ev M R mc ms k n (pc + 3) L (.inr r :: st) S I P) : q_Ev M R mc ms k n pc L (.inr (some a) :: st) S I P := by
  refine q_getf hd hc hci ha hf hl hown ?_
  have e : q_sl vs (I a) f = .inr r := by unfold q_sl; rw [hv]
  rw [e]
  exact K
/-- what a store of v into the field f does -/
theorem q_putA {a ci N index f : Nat} {v : qV} {vs vs' : List qV} {I' : qI} {C : String} {T : u_T} {ty : Nat → FieldType} (hd : decode M.2.1 pc = .ok (.putfield index, 3)) (hc : q_lays ci C T N) (hty : q_typs T N ty) (hci : ci < 100) (ha : S[a]? = some (ci, N, vs)) (hf : f < N) (hl : q_link M.1.cls index C (T f).2.1 (T f).2.2.1) (hown : (T f).1 = C)
    (hfin : (T f).2.2.2 = false ∨ ((T f).2.2.2 = true ∧ M.1.name = "<init>" ∧ C = M.1.cls ∧ Cond.fieldLink M.1.cls index C (T f).2.1 (T f).2.2.1 ∈ lw_tbl ∧ q_mv (Cond.fieldLink M.1.cls index C (T f).2.1 (T f).2.2.1) = true))
    (hn : ∀ B, narrow (ty f) (q_v B v) = q_v B v) (hfit : ∀ B, fits (ty f) (q_v B v) = true)
    (hI : ∀ b, b ≠ a → I' b = I b) (hr : q_ok v → (∀ j, q_in (I a j)) → ∀ j, q_in (I' a j)) (hV : ∀ j, j < N → q_sl vs' (I' a) j = if j = f then v else q_sl vs (I a) j)
    (K : q_Ev M R mc ms k n (pc + 3) L st (S.set a (ci, N, vs')) I' P) : q_Ev M R mc ms k n pc L (v :: .inr (some a) :: st) S I P := by
  intro p l e s m args below meth c H locs D B ls C0 hS hH hL oL oS
  have ov := (q_oks_cons.mp oS).1
  have o := q_oks_cons.mp (q_oks_cons.mp oS).2
  have hK : q_K D s := C0.2.2.2.2.2.2.2
  have ha0 : a ≠ 0 := hH.ne0 ha (by show ci < 200; omega)
  have hap := va_apart (own := M.1.cls) (args := args) (hc.hts hK) (fun w h => h) ty hty.1 hty.2 hK.2 hc.1
  obtain ⟨r, h1, -, cell, g1, g2, g3, g4⟩ := (hH.2.2.2.2 a _ ha).1 hci
  have hr0 : r = (C, T, N) := Option.some.inj (h1.symm.trans hc.1)
  subst hr0
  obtain ⟨hSl, hfc, kC, hkC, hkind⟩ := hK.2.1 ci _ hc.1
  obtain ⟨cf, kf, fi, fd, hi, hsl⟩ := hSl f hf
  have hst := (u_facts hfc hkC (u_lays (args := args) (hc.hts hK) (fun w h => h) hf) hi).1
  have hlay : (u_lay C T f).before args s = true := hc.hts hK _ (u_in_lay hf)
  dsimp only at hi hSl hst g4 hkC hfc hkind
  have fin : ∀ (H' : Heap), H'[q_g B a]? = some (cell.setSlot fd.slot (q_v B v)) → H'.size = H.size → (∀ q, q ≠ q_g B a → H'[q]? = H[q]?) → W p l e R s m args below meth c H' (locs ++ [⟨q_g B a, fd.slot⟩]) k n (MQ below (q_Qc D B P) args s mc ms (q_fr B)) (F0 m (pc + 3) ls (st.map (q_v B))) := by
    intro H' e1 e2 e3
    refine K p l e s m args below meth c H' _ D B ls C0 (hS.put e2 e3 (q_g_fr ha0)) (hH.put ha ha0 e2 e3 hI (hr ov (hH.2.2.2.1 a)) ⟨fun _ => ⟨_, hc.1, rfl, ?_⟩, fun h => by simp only at h; omega, fun h => by simp only at h; omega⟩) hL oL o.2
    refine t_OB.to (V := updV (fun j => q_v B (q_sl vs (I a) j)) f (q_v B v)) ⟨_, e1, g2, g3, ?_⟩ (fun j hj => ?_)
    · rw [hsl]
      exact t_set g4 hap hf _
    · show updV _ f _ j = q_v B (q_sl vs' (I' a) j)
      rw [hV j hj]
      unfold updV
      split <;> rfl
  have hsz : fd.slot < cell.slots.size := by rw [hsl]; exact k2_hasslot (g4 f hf)
  rcases hfin with hfin | ⟨hfin, hini, hC, hlk⟩
  · unfold u_lay at hlay
    rw [if_neg (by rw [hfin]; decide)] at hlay
    have h6 := u_store hfc hkC hkind hlay hi (hty.1 f hf) (hn B) (hfit B)
    rw [hown] at hi
    rcases hl with hl | ⟨host, hl⟩
    · exact W.putK C0.1 C0.2.1 (f := fd) ⟨C0.2.2.2.1, hK.at hl.1 hl.2, ⟨_, _, _, hi⟩, hst⟩ (by rw [g2]; exact h6) g1 g3 hsz rfl rfl hd fin
    · exact va_WputK C0.1 C0.2.1 (f := fd) C0.2.2.2.1 (hK.at hl rfl) hi hst (by rw [g2]; exact h6) g1 g3 hsz rfl rfl hd fin
  · unfold u_lay at hlay
    rw [if_pos hfin] at hlay
    have h6 := u_fits hfc hkC hkind (Or.inr hlay) hi (hty.1 f hf) (hn B) (hfit B)
    have hcf : m.cls = cf := by
      obtain ⟨_, _, c', _, _, _, -, -, hf', -, -, -, hown2, -⟩ := Cond.laysFinal_spec hlay
      have e1 : c' = cf := by have := hi.symm.trans hf'; simp at this; exact this.1.symm
      rw [hown, hC] at hown2
      rw [← e1]
      exact Option.some.inj (C0.2.2.2.1.symm.trans hown2)
    rw [hown] at hi
    exact W.putFinK C0.1 C0.2.1 C0.2.2.2.1 (hK.at hlk.1 hlk.2) hi hst hcf (C0.2.2.2.2.2.2.1 hini) (by rw [g2]; exact h6) g1 g3 hsz rfl rfl hd fin
/-- a number into a field -/
theorem q_putI {a ci N index f : Nat} {x z : Int} {vs : List qV} {C : String} {T : u_T} {ty : Nat → FieldType} (hd : decode M.2.1 pc = .ok (.putfield index, 3)) (hc : q_lays ci C T N) (hty : q_typs T N ty) (hci : ci < 100) (ha : S[a]? = some (ci, N, vs)) (hf : f < N) (hl : q_link M.1.cls index C (T f).2.1 (T f).2.2.1) (hown : (T f).1 = C)
    (hfin : (T f).2.2.2 = false ∨ ((T f).2.2.2 = true ∧ M.1.name = "<init>" ∧ C = M.1.cls ∧ Cond.fieldLink M.1.cls index C (T f).2.1 (T f).2.2.1 ∈ lw_tbl ∧ q_mv (Cond.fieldLink M.1.cls index C (T f).2.1 (T f).2.2.1) = true))
    (ht : ty f = .int ∨ (ty f = .boolean ∧ (x = 0 ∨ x = 1))) (hv : vs[f]? = some (.inl z))
    (K : q_Ev M R mc ms k n (pc + 3) L st S (q_up I a f x) P) : q_Ev M R mc ms k n pc L (.inl x :: .inr (some a) :: st) S I P := by
  have e : S.set a (ci, N, vs) = S := by
    apply List.ext_getElem?
    intro j
    by_cases hj : j = a
    · subst hj
      rw [List.getElem?_set_self (List.getElem?_eq_some_iff.mp ha).1, ha]
    · rw [List.getElem?_set_ne (Ne.symm hj)]
  refine q_putA (v := .inl x) (vs' := vs) (I' := q_up I a f x) hd hc hty hci ha hf hl hown hfin (fun B => ?_) (fun B => ?_) q_up_off (fun ov h => q_up_ok h ov) (fun j _ => q_sl_up (fun r h => by rw [hv] at h; cases h) j) (by rw [e]; exact K)
  · rcases ht with ht | ⟨ht, hx⟩
    · rw [ht]; rfl
    · rw [ht]; rcases hx with rfl | rfl <;> rfl
  · rcases ht with ht | ⟨ht, hx⟩
    · rw [ht]; rfl
    · rw [ht]; rcases hx with rfl | rfl <;> rfl
/-- a cell into a field -/
theorem q_putR {a ci N index f : Nat} {r : Nat} {v0 : qV} {vs : List qV} {C : String} {T : u_T} {ty : Nat → FieldType} (hd : decode M.2.1 pc = .ok (.putfield index, 3)) (hc : q_lays ci C T N) (hty : q_typs T N ty) (hci : ci < 100) (ha : S[a]? = some (ci, N, vs)) (hf : f < N) (hl : q_link M.1.cls index C (T f).2.1 (T f).2.2.1) (hown : (T f).1 = C)
    (hfin : (T f).2.2.2 = false ∨ ((T f).2.2.2 = true ∧ M.1.name = "<init>" ∧ C = M.1.cls ∧ Cond.fieldLink M.1.cls index C (T f).2.1 (T f).2.2.1 ∈ lw_tbl ∧ q_mv (Cond.fieldLink M.1.cls index C (T f).2.1 (T f).2.2.1) = true))
    (ht : ∀ b, narrow (ty f) (.ref b) = .ref b ∧ fits (ty f) (.ref b) = true) (hv : vs[f]? = some v0)
    (K : q_Ev M R mc ms k n (pc + 3) L st (S.set a (ci, N, vs.set f (.inr (some r)))) I P) : q_Ev M R mc ms k n pc L (.inr (some r) :: .inr (some a) :: st) S I P := by
  exact q_putA (v := .inr (some r)) (vs' := vs.set f (.inr (some r))) (I' := I) hd hc hty hci ha hf hl hown hfin (fun B => (ht _).1) (fun B => (ht _).2) (fun _ _ => rfl) (fun _ h => h) (fun j _ => q_sl_set (List.getElem?_eq_some_iff.mp hv).1 j) K
/-- arrays -/
theorem q_iald {a N i : Nat} {x : Int} {vs : List qV} (hd : decode M.2.1 pc = .ok (.iaload, 1)) (ha : S[a]? = some (100, N, vs)) (hx : x = (i : Int)) (hi : i < N) (hv : vs[i]? = none)
    (K : q_Ev M R mc ms k n (pc + 1) L (.inl (I a i) :: st) S I P) : q_Ev M R mc ms k n pc L (.inl x :: .inr (some a) :: st) S I P := by
  intro p l e s m args below meth c H locs D B ls C0 hS hH hL oL oS
  subst hx
  have ox : q_in (i : Int) := (q_oks_cons.mp oS).1
  have o := q_oks_cons.mp (q_oks_cons.mp oS).2
  obtain ⟨ty, cA, e1, e2, e3, e4⟩ := (hH.2.2.2.2 a _ ha).2.1 (show 100 ≤ 100 by decide) (show 100 < 200 by decide)
  cases e1
  refine W.iald (v := q_v B (.inl (I a i))) C0.1 C0.2.1 e4 (e2 N _) (fun q => by cases q) (by rw [arrV_size]; exact q_vin hi ox) (by rw [q_clamp ox, arrV_read _ _ hi]; simp only [q_sl, hv]) rfl rfl hd ?_
  exact K p l e s m args below meth c H locs D B ls C0 hS hH hL oL (q_oks_cons.mpr ⟨hH.2.2.2.1 a i, o.2⟩)
theorem q_zald {a N i : Nat} {x : Int} {vs : List qV} (hd : decode M.2.1 pc = .ok (.baload, 1)) (ha : S[a]? = some (101, N, vs)) (hx : x = (i : Int)) (hi : i < N) (hv : vs[i]? = none)
    (K : q_Ev M R mc ms k n (pc + 1) L (.inl (I a i) :: st) S I P) : q_Ev M R mc ms k n pc L (.inl x :: .inr (some a) :: st) S I P := by
  intro p l e s m args below meth c H locs D B ls C0 hS hH hL oL oS
  subst hx
  have ox : q_in (i : Int) := (q_oks_cons.mp oS).1
  have o := q_oks_cons.mp (q_oks_cons.mp oS).2
  obtain ⟨ty, cA, e1, e2, e3, e4⟩ := (hH.2.2.2.2 a _ ha).2.1 (show 100 ≤ 101 by decide) (show 101 < 200 by decide)
  cases e1
  refine W.zald (v := q_v B (.inl (I a i))) C0.1 C0.2.1 e4 (e2 N _) (fun q => by cases q) (by rw [arrV_size]; exact q_vin hi ox) (by rw [q_clamp ox, arrV_read _ _ hi]; simp only [q_sl, hv]) rfl rfl hd ?_
  exact K p l e s m args below meth c H locs D B ls C0 hS hH hL oL (q_oks_cons.mpr ⟨hH.2.2.2.1 a i, o.2⟩)
theorem q_aald {t a N i : Nat} {x : Int} {r : Option Nat} {vs : List qV} {E : String} (hd : decode M.2.1 pc = .ok (.aaload, 1)) (ht : 100 ≤ t ∧ t < 200 ∧ q_ty t = some (.object E)) (ha : S[a]? = some (t, N, vs)) (hx : x = (i : Int)) (hi : i < N) (hv : vs[i]? = some (.inr r))
    (K : q_Ev M R mc ms k n (pc + 1) L (.inr r :: st) S I P) : q_Ev M R mc ms k n pc L (.inl x :: .inr (some a) :: st) S I P := by
  intro p l e s m args below meth c H locs D B ls C0 hS hH hL oL oS
  subst hx
  have ox : q_in (i : Int) := (q_oks_cons.mp oS).1
  have o := q_oks_cons.mp (q_oks_cons.mp oS).2
  obtain ⟨ty, cA, e1, e2, e3, e4⟩ := (hH.2.2.2.2 a _ ha).2.1 ht.1 ht.2.1
  cases ht.2.2.symm.trans e1
  refine W.aald (v := q_v B (.inr r)) (ty := .object E) C0.1 C0.2.1 e4 (e2 N _) rfl (fun q => by cases q) (by rw [arrV_size]; exact q_vin hi ox) (by rw [q_clamp ox, arrV_read _ _ hi]; simp only [q_sl, hv]) rfl rfl hd ?_
  exact K p l e s m args below meth c H locs D B ls C0 hS hH hL oL (q_oks_cons.mpr ⟨trivial, o.2⟩)
theorem q_arr {D : va_G} {U : State} {B : Nat × Nat} {S : qS} {I : qI} {H H1 : Heap} {t a N i : Nat} {x : Int} {vs : List qV} {ty : FieldType} {cA : ClassId} (hH : q_H D U B S I H) (ha : S[a]? = some (t, N, vs)) (ht : 100 ≤ t ∧ t < 200) (ha0 : a ≠ 0) (e1 : q_ty t = some ty) (e2 : ArrOfT U cA ty) (e3 : va_RA U cA ty) (hv : vs[i]? = none) (hx : q_in x)
    (g1 : H1[q_g B a]? = some ((arrV cA N (fun j => q_v B (q_sl vs (I a) j))).setSlot i (.int (Int32.ofInt x)))) (g2 : H1.size = H.size) (g3 : ∀ q, q ≠ q_g B a → H1[q]? = H[q]?) : q_H D U B S (q_up I a i x) H1 := by
  refine hH.put' ha ha0 g2 g3 q_up_off (q_up_ok (hH.2.2.2.1 a) hx) ⟨fun h => by have : t < 100 := h; omega, fun _ _ => ⟨ty, cA, e1, e2, e3, ?_⟩, fun h => by have : 200 ≤ t := h; omega⟩
  rw [g1, arrV_store]
  congr 2
  funext j
  show updV _ i _ j = q_v B (q_sl vs (q_up I a i x a) j)
  rw [q_sl_up (fun r h => by rw [hv] at h; cases h) j]
  unfold updV
  split <;> rfl
theorem q_iast {a N i : Nat} {x y : Int} {vs : List qV} (hd : decode M.2.1 pc = .ok (.iastore, 1)) (ha : S[a]? = some (100, N, vs)) (hy : y = (i : Int)) (hi : i < N) (hv : vs[i]? = none)
    (K : q_Ev M R mc ms k n (pc + 1) L st S (q_up I a i x) P) : q_Ev M R mc ms k n pc L (.inl x :: .inl y :: .inr (some a) :: st) S I P := by
  intro p l e s m args below meth c H locs D B ls C0 hS hH hL oL oS
  subst hy
  have ox : q_in x := (q_oks_cons.mp oS).1
  have oi : q_in (i : Int) := (q_oks_cons.mp (q_oks_cons.mp oS).2).1
  have o := q_oks_cons.mp (q_oks_cons.mp (q_oks_cons.mp oS).2).2
  have ha0 : a ≠ 0 := hH.ne0 ha (show 100 < 200 by decide)
  obtain ⟨ty, cA, e1, e2, e3, e4⟩ := (hH.2.2.2.2 a _ ha).2.1 (show 100 ≤ 100 by decide) (show 100 < 200 by decide)
  cases e1
  refine W.iast C0.1 C0.2.1 e4 (e2 N _) (fun q => by cases q) (by rw [arrV_size]; exact q_vin hi oi) rfl rfl hd fun H1 g1 g2 g3 => ?_
  rw [q_clamp oi] at g1 ⊢
  exact K p l e s m args below meth c H1 _ D B ls C0 (hS.put g2 g3 (q_g_fr ha0)) (q_arr hH ha (by decide) ha0 rfl e2 e3 hv ox g1 g2 g3) hL oL o.2
theorem q_zast {a N i : Nat} {x y : Int} {vs : List qV} (hd : decode M.2.1 pc = .ok (.bastore, 1)) (ha : S[a]? = some (101, N, vs)) (hy : y = (i : Int)) (hi : i < N) (hv : vs[i]? = none) (hz : x = 0 ∨ x = 1)
    (K : q_Ev M R mc ms k n (pc + 1) L st S (q_up I a i x) P) : q_Ev M R mc ms k n pc L (.inl x :: .inl y :: .inr (some a) :: st) S I P := by
  intro p l e s m args below meth c H locs D B ls C0 hS hH hL oL oS
  subst hy
  have ox : q_in x := (q_oks_cons.mp oS).1
  have oi : q_in (i : Int) := (q_oks_cons.mp (q_oks_cons.mp oS).2).1
  have o := q_oks_cons.mp (q_oks_cons.mp (q_oks_cons.mp oS).2).2
  have ha0 : a ≠ 0 := hH.ne0 ha (show 101 < 200 by decide)
  obtain ⟨ty, cA, e1, e2, e3, e4⟩ := (hH.2.2.2.2 a _ ha).2.1 (show 100 ≤ 101 by decide) (show 101 < 200 by decide)
  cases e1
  have hn : narrow .boolean (.int (Int32.ofInt x)) = .int (Int32.ofInt x) := by rcases hz with rfl | rfl <;> decide
  refine W.zast C0.1 C0.2.1 e4 (e2 N _) (fun q => by cases q) (by rw [arrV_size]; exact q_vin hi oi) rfl rfl hd fun H1 g1 g2 g3 => ?_
  rw [q_clamp oi] at g1 ⊢
  rw [hn] at g1
  exact K p l e s m args below meth c H1 _ D B ls C0 (hS.put g2 g3 (q_g_fr ha0)) (q_arr hH ha (by decide) ha0 rfl e2 e3 hv ox g1 g2 g3) hL oL o.2
/-- a made object into an array -/
theorem q_aast {t a N i r ci N' : Nat} {y : Int} {v0 : qV} {vs vs' : List qV} {E : String} {T : u_T} (hd : decode M.2.1 pc = .ok (.aastore, 1)) (ht : 100 ≤ t ∧ t < 200 ∧ q_ty t = some (.object E)) (ha : S[a]? = some (t, N, vs)) (hr : S[r]? = some (ci, N', vs')) (hci : ci < 100) (hcl : q_cl[ci]? = some (E, T, N')) (hy : y = (i : Int)) (hi : i < N) (hv : vs[i]? = some v0)
    (K : q_Ev M R mc ms k n (pc + 1) L st (S.set a (t, N, vs.set i (.inr (some r)))) I P) : q_Ev M R mc ms k n pc L (.inr (some r) :: .inl y :: .inr (some a) :: st) S I P := by
  intro p l e s m args below meth c H locs D B ls C0 hS hH hL oL oS
  subst hy
  have oi : q_in (i : Int) := (q_oks_cons.mp (q_oks_cons.mp oS).2).1
  have o := q_oks_cons.mp (q_oks_cons.mp (q_oks_cons.mp oS).2).2
  have hK : q_K D s := C0.2.2.2.2.2.2.2
  have ha0 : a ≠ 0 := hH.ne0 ha (by show t < 200; exact ht.2.1)
  obtain ⟨ty, cA, e1, e2, e3, e4⟩ := (hH.2.2.2.2 a _ ha).2.1 ht.1 ht.2.1
  cases ht.2.2.symm.trans e1
  obtain ⟨r', f1, -, cellV, f2, f3, f4, -⟩ := (hH.2.2.2.2 r _ hr).1 hci
  have hcls := (hK.2.1 ci _ hcl).2
  obtain ⟨kA, comp, k1, k2, k3, k4⟩ := e3
  have hcomp : comp = D.1 ci := Option.some.inj (k3.symm.trans hcls.1)
  subst hcomp
  have hcls' := hcls
  obtain ⟨kC, hkC, -⟩ := hcls.2
  refine W.aast C0.1 C0.2.1 e4 (fun q h => by cases h) (fun h => by cases h) k1 k2 rfl hkC ⟨fun h => q_vin hi oi (Or.inl h), by rw [arrV_size, q_clamp oi]; exact hi⟩ f2 (fun q h => by rw [f4] at h; cases h) (by rw [f3]; exact hkC) (by rw [f3]; exact va_assign hcls') rfl rfl hd fun H1 g1 g2 g3 => ?_
  rw [q_clamp oi] at g1 ⊢
  refine K p l e s m args below meth c H1 _ D B ls C0 (hS.put g2 g3 (q_g_fr ha0)) (hH.put ha ha0 g2 g3 (fun _ _ => rfl) (hH.2.2.2.1 a) ⟨fun h => by have : t < 100 := h; omega, fun _ _ => ⟨_, cA, e1, e2, ⟨kA, _, k1, k2, k3, k4⟩, ?_⟩, fun h => by have : 200 ≤ t := h; omega⟩) hL oL o.2
  rw [g1, arrV_store]
  congr 2
  funext j
  show updV _ i _ j = q_v B (q_sl (vs.set i (.inr (some r))) (I a) j)
  rw [q_sl_set (List.getElem?_eq_some_iff.mp hv).1]
  unfold updV
  split <;> rfl
/-- the script -/
theorem q_sld {a N i : Nat} {x : Int} {vs : List qV} (hd : decode M.2.1 pc = .ok (.iaload, 1)) (ha : S[a]? = some (200, N, vs)) (hx : x = (i : Int)) (hi : i < N)
    (K : q_Ev M R mc ms k n (pc + 1) L (.inl (I a i) :: st) S I P) : q_Ev M R mc ms k n pc L (.inl x :: .inr (some a) :: st) S I P := by
  intro p l e s m args below meth c H locs D B ls C0 hS hH hL oL oS
  subst hx
  have ox : q_in (i : Int) := (q_oks_cons.mp oS).1
  have o := q_oks_cons.mp (q_oks_cons.mp oS).2
  obtain ⟨scr, e1, e2, e3, e4, e5⟩ := (hH.2.2.2.2 a _ ha).2.2 (Nat.le_refl _)
  refine W.iald (v := q_v B (.inl (I a i))) C0.1 C0.2.1 e1 e2 e3 (by rw [e4]; exact q_vin hi ox) (by rw [q_clamp ox]; exact e5 i hi) rfl rfl hd ?_
  exact K p l e s m args below meth c H locs D B ls C0 hS hH hL oL (q_oks_cons.mpr ⟨hH.2.2.2.1 a i, o.2⟩)
theorem q_slen {a N : Nat} {vs : List qV} (hd : decode M.2.1 pc = .ok (.arraylength, 1)) (ha : S[a]? = some (200, N, vs)) (hN : q_in (N : Int))
    (K : q_Ev M R mc ms k n (pc + 1) L (.inl (N : Int) :: st) S I P) : q_Ev M R mc ms k n pc L (.inr (some a) :: st) S I P := by
  intro p l e s m args below meth c H locs D B ls C0 hS hH hL oL oS
  have o := q_oks_cons.mp oS
  obtain ⟨scr, e1, e2, e3, e4, e5⟩ := (hH.2.2.2.2 a _ ha).2.2 (Nat.le_refl _)
  refine W.alen (n := Int32.ofInt (N : Int)) C0.1 C0.2.1 e1 e2 (by rw [e4]; exact Int32.ofInt_eq_ofNat.symm) rfl rfl hd ?_
  exact K p l e s m args below meth c H locs D B ls C0 hS hH hL oL (q_oks_cons.mpr ⟨hN, o.2⟩)
/-- new arrays and objects -/
theorem q_newa {at_ : ArrayType} {t N : Nat} {x : Int} {ty : FieldType} (hd : decode M.2.1 pc = .ok (.newarray at_, 2)) (hty : newarray.typeOf at_ = ty) (ht : 100 ≤ t ∧ t < 200 ∧ q_ty t = some ty) (hdv : defaultValue ty = .int (Int32.ofInt 0)) (hra : ∀ (U : State) (cA : ClassId), U.vm.findClass ("[" ++ ty.toString) = some cA → va_RA U cA ty) (hw : Cond.arrayClass ty ∈ lw_tbl) (hx : x = (N : Int)) (hb : N * componentBytes ty ≤ 536870912) (hR : k + 1 ≤ R.cells ∧ n + N ≤ R.slots) (hS0 : S ≠ []) (hI : ∀ j, I S.length j = 0)
    (K : q_Ev M R mc ms (k + 1) (n + N) (pc + 2) L (.inr (some S.length) :: st) (S ++ [(t, N, [])]) I P) : q_Ev M R mc ms k n pc L (.inl x :: st) S I P := by
  intro p l e s m args below meth c H locs D B ls C0 hS hH hL oL oS
  subst hx; subst hty
  have ox : q_in (N : Int) := (q_oks_cons.mp oS).1
  have o := q_oks_cons.mp oS
  have hK : q_K D s := C0.2.2.2.2.2.2.2
  have hl : 0 < S.length := List.length_pos_iff.mpr hS0
  refine va_newaK C0.1 C0.2.1 (hK.at hw rfl) rfl hd rfl (fun h => q_vin (N := N + 1) (Nat.lt_succ_self N) ox (Or.inl h)) (q_clamp ox) hb hR.1 hR.2 rfl fun H1 cA e1 z1 o1 hAr hNm => ?_
  have e9 : (q_v B (.inr (some S.length)) : Value) = .ref H.size := by
    show Value.ref (q_g B S.length) = _
    unfold q_g
    rw [if_neg (by omega), hH.1]
  have K1 := K p l e s m args below meth c H1 locs D B ls C0 ⟨Nat.le_trans hS.1 (by omega), fun q h1 h2 => (o1 q (Nat.lt_of_lt_of_le h1 hS.1)).trans (hS.2.1 q h1 h2), hS.2.2⟩
    (hH.push hS0 z1 o1 ⟨fun h => by have : t < 100 := h; omega, fun _ _ => ⟨_, cA, ht.2.2, hAr, hra s cA hNm, ?_⟩, fun h => by have : 200 ≤ t := h; omega⟩) hL oL (q_oks_cons.mpr ⟨trivial, o.2⟩)
  · rw [List.map_cons, e9] at K1
    exact K1
  · rw [e1]
    congr 2
    funext j
    rw [hdv]
    show _ = q_v B (q_sl [] (I S.length) j)
    simp [q_sl, hI j, q_v]
theorem q_anew {index t N : Nat} {x : Int} {E : String} (hd : decode M.2.1 pc = .ok (.anewarray index, 3)) (ht : 100 ≤ t ∧ t < 200 ∧ q_ty t = some (.object E)) (hw1 : Cond.classLink M.1.cls index E ∈ lw_tbl) (hw3 : q_mv (Cond.classLink M.1.cls index E) = true) (hw2 : Cond.arrayOver (.object E) ∈ lw_tbl) (hx : x = (N : Int)) (hb : N * 4 ≤ 536870912) (hR : k + 1 ≤ R.cells ∧ n + N ≤ R.slots) (hS0 : S ≠ [])
    (K : q_Ev M R mc ms (k + 1) (n + N) (pc + 3) L (.inr (some S.length) :: st) (S ++ [(t, N, List.replicate N (.inr none))]) I P) : q_Ev M R mc ms k n pc L (.inl x :: st) S I P := by
  intro p l e s m args below meth c H locs D B ls C0 hS hH hL oL oS
  subst hx
  have ox : q_in (N : Int) := (q_oks_cons.mp oS).1
  have o := q_oks_cons.mp oS
  have hK : q_K D s := C0.2.2.2.2.2.2.2
  have hl : 0 < S.length := List.length_pos_iff.mpr hS0
  have hc := q_clamp ox
  refine W.anew C0.1 C0.2.1 C0.2.2.2.1 (hK.at hw1 hw3) (hK.at hw2 rfl) rfl hd rfl (fun h => q_vin (N := N + 1) (Nat.lt_succ_self N) ox (Or.inl h)) (by rw [hc]; exact hb) hR.1 (by rw [hc]; exact hR.2) fun cA kA comp f1 f2 f3 f4 => ?_
  rw [hc]
  generalize hH1 : H.push ({ cls := cA, slots := Array.replicate N .null, vm := .none } : Cell) = H1
  have z1 : H1.size = H.size + 1 := by rw [← hH1, Array.size_push]
  have e1 : H1[H.size]? = some (arrV cA N (fun _ => .null)) := by rw [← hH1, Array.getElem?_push_size, ← arrV_new]
  have o1 : ∀ q : Nat, q < H.size → H1[q]? = H[q]? := fun q hq => by rw [← hH1, Array.getElem?_push, if_neg (Nat.ne_of_lt hq)]
  have hAr : ArrOfT s cA (.object E) := fun N z => ⟨(fun k h => by cases h), kA, f2, comp, f3⟩
  have e9 : (q_v B (.inr (some S.length)) : Value) = .ref H.size := by
    show Value.ref (q_g B S.length) = _
    unfold q_g
    rw [if_neg (by omega), hH.1]
  have K1 := K p l e s m args below meth c H1 locs D B ls C0 ⟨Nat.le_trans hS.1 (by omega), fun q h1 h2 => (o1 q (Nat.lt_of_lt_of_le h1 hS.1)).trans (hS.2.1 q h1 h2), hS.2.2⟩
    (hH.push hS0 z1 o1 ⟨fun h => by have : t < 100 := h; omega, fun _ _ => ⟨_, cA, ht.2.2, hAr, ⟨kA, comp, f2, f3, f4, f1⟩, ?_⟩, fun h => by have : 200 ≤ t := h; omega⟩) hL oL (q_oks_cons.mpr ⟨trivial, o.2⟩)
  · rw [List.map_cons, e9] at K1
    exact K1
  · rw [e1]
    congr 1
    show arrV cA N _ = arrV cA N _
    unfold arrV
    congr 1
    apply Array.ext
    · simp
    · intro j h1 h2
      simp at h1
      simp [q_sl, h1, q_v]
theorem q_new {index ci N : Nat} {C : String} {T : u_T} {ty : Nat → FieldType} {vs : List qV} (hd : decode M.2.1 pc = .ok (.new index, 3)) (hc : q_lays ci C T N) (hci : ci < 100) (hty : q_typs T N ty) (hw1 : Cond.classLink M.1.cls index C ∈ lw_tbl ∧ q_mv (Cond.classLink M.1.cls index C) = true) (hw2 : Cond.instantiable C N ∈ lw_tbl ∧ q_mv (Cond.instantiable C N) = true) (hw3 : Cond.initialized C ∈ lw_tbl ∧ q_mv (Cond.initialized C) = true) (hR : k + 1 ≤ R.cells ∧ n + N ≤ R.slots) (hS0 : S ≠ [])
    (hI : ∀ j, I S.length j = 0) (hvs : ∀ B j, j < N → defaultValue (ty j) = q_v B (q_sl vs (fun _ => 0) j))
    (K : q_Ev M R mc ms (k + 1) (n + N) (pc + 3) L (.inr (some S.length) :: st) (S ++ [(ci, N, vs)]) I P) : q_Ev M R mc ms k n pc L st S I P := by
  intro p l e s m args below meth c H locs D B ls C0 hS hH hL oL oS
  have hK : q_K D s := C0.2.2.2.2.2.2.2
  have hl : 0 < S.length := List.length_pos_iff.mpr hS0
  have hKn := hK.2.1 ci _ hc.1
  have hI0 : I S.length = fun _ => 0 := funext hI
  refine W.newcK C0.1 C0.2.1 C0.2.2.2.1 (hK.at hw1.1 hw1.2) (hK.at hw2.1 hw2.2) (hK.at hw3.1 hw3.2) rfl hd hR.1 hR.2 hKn.2.1 rfl fun H1 kC hkC e1 z1 o1 => ?_
  have e9 : (q_v B (.inr (some S.length)) : Value) = .ref H.size := by
    show Value.ref (q_g B S.length) = _
    unfold q_g
    rw [if_neg (by omega), hH.1]
  have K1 := K p l e s m args below meth c H1 locs D B ls C0 ⟨Nat.le_trans hS.1 (by omega), fun q h1 h2 => (o1 q (Nat.lt_of_lt_of_le h1 hS.1)).trans (hS.2.1 q h1 h2), hS.2.2⟩
    (hH.push hS0 z1 o1 ⟨fun _ => ⟨_, hc.1, rfl, (u_born (args := args) ty (hc.hts hK) (fun w h => h) hKn hkC e1 hty.1).to (fun j hj => ?_)⟩, fun h => by have : 100 ≤ ci := h; omega, fun h => by have : 200 ≤ ci := h; omega⟩) hL oL (q_oks_cons.mpr ⟨trivial, oS⟩)
  · rw [List.map_cons, e9] at K1
    exact K1
  · rw [hI0]
    exact hvs B j hj
end QF
