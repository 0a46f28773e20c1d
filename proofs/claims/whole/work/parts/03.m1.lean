/-! The small machine: values are integers or numbers of cells; cell 0 is the script, the others are the cells that were made since the law's start, in the order of their making. -/
abbrev qV : Type := Int ⊕ Option Nat
abbrev qS : Type := List (Nat × Nat × List qV)
abbrev qI : Type := Nat → Nat → Int
abbrev qM : Type := MethodName × ByteArray × Nat × Option FieldType
/-- where the cell of a number lies -/
def q_g (B : Nat × Nat) (k : Nat) : Nat := if k = 0 then B.1 else B.2 + k
def q_v (B : Nat × Nat) (v : qV) : Value := match v with
  | .inl z => .int (Int32.ofInt z)
  | .inr (some k) => .ref (q_g B k)
  | .inr none => .null
abbrev q_in (z : Int) : Prop := -2147483648 ≤ z ∧ z < 2147483648
def q_ok (v : qV) : Prop := match v with
  | .inl z => q_in z
  | .inr _ => True
def q_oks (st : List qV) : Prop := ∀ v ∈ st, q_ok v
def q_okL (L : List (Option qV)) : Prop := ∀ v, some v ∈ L → q_ok v
/-- a slot: a reference where the shape says so, else a number -/
def q_sl (x : List qV) (f : Nat → Int) (j : Nat) : qV := match x[j]? with
  | some (.inr r) => .inr r
  | _ => .inl (f j)
def q_ty (t : Nat) : Option FieldType := q_tys[t - 100]?
def q_cell (D : va_G) (U : State) (B : Nat × Nat) (a : Nat) (q : Nat × Nat × List qV) (f : Nat → Int) (H : Heap) : Prop :=
  (q.1 < 100 → ∃ r : vw_C, q_cl[q.1]? = some r ∧ q.2.1 = r.2.2 ∧ t_OB a (D.1 q.1) r.2.2 (D.2 q.1) H (fun j => q_v B (q_sl q.2.2 f j))) ∧
  (100 ≤ q.1 → q.1 < 200 → ∃ (ty : FieldType) (cA : ClassId), q_ty q.1 = some ty ∧ ArrOfT U cA ty ∧ va_RA U cA ty ∧ H[a]? = some (arrV cA q.2.1 (fun j => q_v B (q_sl q.2.2 f j)))) ∧
  (200 ≤ q.1 → ∃ scr : Cell, H[a]? = some scr ∧ U.isArrayOf scr .int ∧ scr.vm ≠ .unknown ∧ scr.slots.size = q.2.1 ∧ ∀ j : Nat, j < q.2.1 → scr.slots[j]? = some (.int (Int32.ofInt (f j))))
def q_H (D : va_G) (U : State) (B : Nat × Nat) (S : qS) (I : qI) (H : Heap) : Prop :=
  H.size = B.2 + S.length ∧ B.1 ≤ B.2 ∧ (∀ q, S[0]? = some q → q.1 = 200) ∧ (∀ a j, q_in (I a j)) ∧ ∀ k q, S[k]? = some q → q_cell D U B (q_g B k) q (I k) H
def q_mv (w : Cond) : Bool := match w with
  | .fieldLinkNest .. => true
  | .methodLinkNest .. => true
  | .arrayOver (.object _) => true
  | w => goodWord w
def q_K (D : va_G) (U : State) : Prop := (∀ w ∈ lw_tbl, q_mv w = true → w.before #[] U = true) ∧ va_K D q_cl [] U
def q_fr (B : Nat × Nat) : Nat → Prop := fun q => B.2 < q
abbrev qP : Type := Option qV → qS → qI → Prop
def q_Qc (D : va_G) (B : Nat × Nat) (P : qP) : Array Value → State → Outcome → State → Prop := fun _ st oc t =>
  (∃ (r : Option qV) (S : qS) (I : qI), oc = .returned (r.map (q_v B)) ∧ (∀ v, r = some v → q_ok v) ∧ P r S I ∧ q_H D t B S I t.heap) ∧ va_F (q_fr B) st t
def q_ws (M : qM) : List Cond := [Cond.code M.1 M.2.1 M.2.2.1 M.2.2.2]
def q_Pc (D : va_G) (B : Nat × Nat) (as : List qV) (S : qS) (I : qI) : Array Value → State → Prop := fun a U => a = (as.map (q_v B)).toArray ∧ q_oks as ∧ q_K D U ∧ q_H D U B S I U.heap
def q_rm (d mc ms : Nat) : Room := { frames := d, cells := mc, slots := ms, locals := 40 * d }
/-- a method's contract -/
def q_Met (M : qM) (d mc ms : Nat) (as : List qV) (S : qS) (I : qI) (P : qP) : Prop :=
  ∀ (l : Launch) (D : va_G) (B : Nat × Nat), Met l M.1 (q_ws M) (q_rm d mc ms) (q_Pc D B as S I) (q_Qc D B P) mc ms (q_fr B)
def q_Cx (p : Program) (s : State) (m : MethodId) (meth : Method) (c : Code) (D : va_G) (M : qM) : Prop :=
  p.tables.exec = Jvm.exec ∧ c.code = M.2.1 ∧ c.maxLocals = M.2.2.1 ∧ s.vm.findClass M.1.cls = some m.cls ∧ meth.sig.returnType = M.2.2.2 ∧ meth.locks = false ∧ (M.1.name = "<init>" → meth.name = "<init>") ∧ q_K D s
def q_has (B : Nat × Nat) (ls : Array Slot) (nL : Nat) (L : List (Option qV)) : Prop := ls.size = nL ∧ lv_wf ls ∧ ∀ (i : Nat) (v : qV), L[i]? = some (some v) → ls[i]? = some (.val (q_v B v))
/-- from here the method comes to its end, with P of its answer and of the cells -/
def q_Ev (M : qM) (R : Room) (mc ms k n pc : Nat) (L : List (Option qV)) (st : List qV) (S : qS) (I : qI) (P : qP) : Prop :=
  ∀ (p : Program) (l : Launch) (e : Env) (s : State) (m : MethodId) (args : Array Value) (below : List Frame) (meth : Method) (c : Code) (H : Heap) (locs : List Loc) (D : va_G) (B : Nat × Nat) (ls : Array Slot),
    q_Cx p s m meth c D M → va_S (q_fr B) s.heap H locs → q_H D s B S I H → q_has B ls M.2.2.1 L → q_okL L → q_oks st →
    W p l e R s m args below meth c H locs k n (MQ below (q_Qc D B P) args s mc ms (q_fr B)) (F0 m pc ls (st.map (q_v B)))
def q_up (I : qI) (a k : Nat) (x : Int) : qI := fun a' k' => if a' = a ∧ k' = k then x else I a' k'

theorem q_v_cat (B : Nat × Nat) (v : qV) : (q_v B v).category = 1 := by rcases v with z | (_ | k) <;> rfl
theorem q_cats (B : Nat × Nat) : ∀ st : List qV, ((st.map (q_v B)).map fun v => v.category).sum = st.length
  | [] => rfl
  | v :: st => by
    have := q_cats B st
    simp only [List.map_cons, List.sum_cons, List.length_cons, q_v_cat, this]
    omega
theorem q_oks_cons {v : qV} {st : List qV} : q_oks (v :: st) ↔ q_ok v ∧ q_oks st := by
  constructor
  · exact fun h => ⟨h v List.mem_cons_self, fun w hw => h w (List.mem_cons_of_mem _ hw)⟩
  · rintro ⟨h1, h2⟩ w hw
    rcases List.mem_cons.mp hw with rfl | hw
    · exact h1
    · exact h2 w hw
theorem q_oks_app {a b : List qV} : q_oks (a ++ b) ↔ q_oks a ∧ q_oks b := by
  constructor
  · exact fun h => ⟨fun w hw => h w (List.mem_append_left _ hw), fun w hw => h w (List.mem_append_right _ hw)⟩
  · rintro ⟨h1, h2⟩ w hw
    rcases List.mem_append.mp hw with hw | hw
    · exact h1 w hw
    · exact h2 w hw
theorem q_oks_rev {a : List qV} (h : q_oks a.reverse) : q_oks a := fun w hw => h w (List.mem_reverse.mpr hw)
theorem q_toInt {z : Int} (h : q_in z) : (Int32.ofInt z).toInt = z := Int32.toInt_ofInt_of_le (by have := h.1; omega) (by have := h.2; omega)
theorem q_clamp {n : Nat} (h : q_in (n : Int)) : (Int32.ofInt (n : Int)).toNatClampNeg = n := by
  show (Int32.ofInt (n : Int)).toInt.toNat = n
  rw [q_toInt h]
  omega
theorem q_lt {x y : Int} (hx : q_in x) (hy : q_in y) : Int32.ofInt x < Int32.ofInt y ↔ x < y := by rw [Int32.lt_iff_toInt_lt, q_toInt hx, q_toInt hy]
theorem q_le {x y : Int} (hx : q_in x) (hy : q_in y) : Int32.ofInt x ≤ Int32.ofInt y ↔ x ≤ y := by rw [Int32.le_iff_toInt_le, q_toInt hx, q_toInt hy]
theorem q_eq {x y : Int} (hx : q_in x) (hy : q_in y) : Int32.ofInt x = Int32.ofInt y ↔ x = y := by rw [← Int32.toInt_inj, q_toInt hx, q_toInt hy]
theorem q_in0 : q_in 0 := by unfold q_in; omega
theorem q_ofInt0 : (0 : Int32) = Int32.ofInt 0 := by decide
theorem q_vin {n N : Nat} (h : n < N) (hN : q_in (n : Int)) : ¬ (Int32.ofInt (n : Int) < 0 ∨ N ≤ (Int32.ofInt (n : Int)).toNatClampNeg) := by
  rw [q_clamp hN, q_ofInt0, q_lt hN q_in0]
  omega
theorem q_g_inj {B : Nat × Nat} (hB : B.1 ≤ B.2) {k j : Nat} (h : q_g B k = q_g B j) : k = j := by
  unfold q_g at h
  split at h <;> split at h <;> omega
theorem q_g_fr {B : Nat × Nat} {k : Nat} (h : k ≠ 0) : q_fr B (q_g B k) := by
  unfold q_fr q_g
  rw [if_neg h]
  omega
theorem q_mv_at {w : Cond} {s U : State} {args a' : Array Value} (h : q_mv w = true) (hW : s.WarmedH U.vm) (hb : w.before args s = true) : w.before a' U = true := by
  unfold q_mv at h
  split at h
  · exact va_Nw.use rfl (va_Nw.warmF hW (va_Nw.of rfl hb))
  · exact va_Nw.use rfl (va_Nw.warmM hW (va_Nw.of rfl hb))
  · exact va_AO.use (va_AO.moved hW.alike (va_AO.of hb))
  · exact word_at hW (good_of_word h) hb
theorem q_K.moved {D : va_G} {s U : State} (hW : s.WarmedH U.vm) (h : q_K D s) : q_K D U :=
  ⟨fun w hw hm => q_mv_at hm hW (h.1 w hw hm), va_K.moved hW.alike h.2⟩
theorem q_K.at {D : va_G} {s : State} {args : Array Value} (h : q_K D s) {w : Cond} (hw : w ∈ lw_tbl) (hm : q_mv w = true) : w.before args s = true :=
  q_mv_at hm (State.WarmedH.refl s) (h.1 w hw hm)
theorem q_cell.moved {D : va_G} {u U : State} {B : Nat × Nat} {a : Nat} {q : Nat × Nat × List qV} {f : Nat → Int} {H : Heap} (hvm : u.vm.Alike U.vm) (h : q_cell D u B a q f H) : q_cell D U B a q f H := by
  refine ⟨h.1, fun h1 h2 => ?_, fun h1 => ?_⟩
  · obtain ⟨ty, cA, e1, e2, e3, e4⟩ := h.2.1 h1 h2
    exact ⟨ty, cA, e1, arrOfT_moved hvm e2, e3.moved hvm, e4⟩
  · obtain ⟨scr, e1, e2, e3⟩ := h.2.2 h1
    exact ⟨scr, e1, State.isArrayOf_alike hvm e2, e3⟩
theorem q_cell.kept {D : va_G} {U : State} {B : Nat × Nat} {a : Nat} {q : Nat × Nat × List qV} {f : Nat → Int} {H H1 : Heap} (h : q_cell D U B a q f H) (hq : H1[a]? = H[a]?) : q_cell D U B a q f H1 := by
  refine ⟨fun h1 => ?_, fun h1 h2 => ?_, fun h1 => ?_⟩
  · obtain ⟨r, e1, e2, e3⟩ := h.1 h1
    exact ⟨r, e1, e2, e3.kept hq⟩
  · obtain ⟨ty, cA, e1, e2, e3, e4⟩ := h.2.1 h1 h2
    exact ⟨ty, cA, e1, e2, e3, hq.trans e4⟩
  · obtain ⟨scr, e1, e2⟩ := h.2.2 h1
    exact ⟨scr, hq.trans e1, e2⟩
theorem q_H.moved {D : va_G} {u U : State} {B : Nat × Nat} {S : qS} {I : qI} {H : Heap} (hvm : u.vm.Alike U.vm) (h : q_H D u B S I H) : q_H D U B S I H :=
  ⟨h.1, h.2.1, h.2.2.1, h.2.2.2.1, fun k q hk => (h.2.2.2.2 k q hk).moved hvm⟩
/-- one own cell is changed: the shape q' and the numbers I' there -/
theorem q_H.put {D : va_G} {U : State} {B : Nat × Nat} {S : qS} {I I' : qI} {H H1 : Heap} {a : Nat} {q q' : Nat × Nat × List qV} (h : q_H D U B S I H) (ha : S[a]? = some q) (ha0 : a ≠ 0) (hz : H1.size = H.size) (ho : ∀ x, x ≠ q_g B a → H1[x]? = H[x]?)
    (hI : ∀ k, k ≠ a → I' k = I k) (hr : ∀ j, q_in (I' a j)) (hc : q_cell D U B (q_g B a) q' (I' a) H1) : q_H D U B (S.set a q') I' H1 := by
  obtain ⟨h1, h2, h3, h4, h5⟩ := h
  refine ⟨by rw [hz, h1, List.length_set], h2, fun q0 hq0 => ?_, fun k j => ?_, fun k q0 hk => ?_⟩
  · rw [List.getElem?_set_ne ha0] at hq0
    exact h3 q0 hq0
  · by_cases hk : k = a
    · subst hk; exact hr j
    · rw [hI k hk]; exact h4 k j
  · by_cases hka : k = a
    · subst hka
      rw [List.getElem?_set_self (List.getElem?_eq_some_iff.mp ha).1] at hk
      cases hk
      exact hc
    · rw [List.getElem?_set_ne (Ne.symm hka)] at hk
      rw [hI k hka]
      exact (h5 k q0 hk).kept (ho _ (fun z => hka (q_g_inj h2 z)))
theorem q_H.put' {D : va_G} {U : State} {B : Nat × Nat} {S : qS} {I I' : qI} {H H1 : Heap} {a : Nat} {q : Nat × Nat × List qV} (h : q_H D U B S I H) (ha : S[a]? = some q) (ha0 : a ≠ 0) (hz : H1.size = H.size) (ho : ∀ x, x ≠ q_g B a → H1[x]? = H[x]?)
    (hI : ∀ k, k ≠ a → I' k = I k) (hr : ∀ j, q_in (I' a j)) (hc : q_cell D U B (q_g B a) q (I' a) H1) : q_H D U B S I' H1 := by
  have h9 := h.put ha ha0 hz ho hI hr hc
  have e : S.set a q = S := by
    apply List.ext_getElem?
    intro k
    by_cases hk : k = a
    · subst hk
      rw [List.getElem?_set_self (List.getElem?_eq_some_iff.mp ha).1, ha]
    · rw [List.getElem?_set_ne (Ne.symm hk)]
  rw [e] at h9
  exact h9
theorem q_H.ne0 {D : va_G} {U : State} {B : Nat × Nat} {S : qS} {I : qI} {H : Heap} {a : Nat} {q : Nat × Nat × List qV} (h : q_H D U B S I H) (ha : S[a]? = some q) (hq : q.1 < 200) : a ≠ 0 := by
  rintro rfl
  have := h.2.2.1 q ha
  omega
/-- one more cell -/
theorem q_H.push {D : va_G} {U : State} {B : Nat × Nat} {S : qS} {I : qI} {H H1 : Heap} {q : Nat × Nat × List qV} (h : q_H D U B S I H) (hS : S ≠ []) (hz : H1.size = H.size + 1) (ho : ∀ x, x < H.size → H1[x]? = H[x]?)
    (hc : q_cell D U B H.size q (I S.length) H1) : q_H D U B (S ++ [q]) I H1 := by
  obtain ⟨h1, h2, h3, h4, h5⟩ := h
  have hl : 0 < S.length := List.length_pos_iff.mpr hS
  refine ⟨by rw [hz, h1, List.length_append]; rfl, h2, fun q0 hq0 => ?_, h4, fun k q0 hk => ?_⟩
  · rw [List.getElem?_append_left hl] at hq0
    exact h3 q0 hq0
  · by_cases hkl : k < S.length
    · rw [List.getElem?_append_left hkl] at hk
      have h6 := h5 k q0 hk
      refine h6.kept (ho _ ?_)
      unfold q_g
      split <;> omega
    · have hk1 : k < (S ++ [q]).length := (List.getElem?_eq_some_iff.mp hk).1
      rw [List.length_append] at hk1
      have hk2 : k = S.length := by simp at hk1; omega
      subst hk2
      rw [List.getElem?_append_right (Nat.le_refl _), Nat.sub_self] at hk
      cases hk
      have e : q_g B S.length = H.size := by
        unfold q_g
        rw [if_neg (by omega), h1]
      rw [e]
      exact hc
theorem q_has.get {B : Nat × Nat} {ls : Array Slot} {nL : Nat} {L : List (Option qV)} (h : q_has B ls nL L) {i : Nat} {v : qV} (hi : L[i]? = some (some v)) : ls[i]? = some (.val (q_v B v)) := h.2.2 i v hi
def q_ps (B : Nat × Nat) (L : List (Option qV)) : List (Nat × Value) := (List.range L.length).filterMap fun i => (L[i]?.join).map fun v => (i, q_v B v)
theorem q_ps_mem {B : Nat × Nat} {L : List (Option qV)} {i : Nat} {v : qV} (h : L[i]? = some (some v)) : (i, q_v B v) ∈ q_ps B L := by
  refine List.mem_filterMap.mpr ⟨i, List.mem_range.mpr (List.getElem?_eq_some_iff.mp h).1, ?_⟩
  rw [h]; rfl
theorem q_has.lv {B : Nat × Nat} {ls : Array Slot} {nL : Nat} {L : List (Option qV)} (h : q_has B ls nL L) : lv_has ls nL (q_ps B L) := by
  refine ⟨h.1, h.2.1, fun q hq => ?_⟩
  obtain ⟨i, -, hi⟩ := List.mem_filterMap.mp hq
  cases hL : L[i]? with
  | none => rw [hL] at hi; cases hi
  | some o =>
    rw [hL] at hi
    cases o with
    | none => cases hi
    | some v =>
      cases hi
      exact h.2.2 i v hL
theorem q_has.set {B : Nat × Nat} {ls' : Array Slot} {nL : Nat} {L : List (Option qV)} {i : Nat} {v : qV} (h' : lv_has ls' nL ((i, q_v B v) :: (q_ps B L).filter (fun q => !(q.1 == i) && !(q.1 + 1 == i && q.2.category == 2)))) : q_has B ls' nL (L.set i (some v)) := by
  refine ⟨h'.1, h'.2.1, fun j w hj => ?_⟩
  by_cases hji : j = i
  · subst hji
    rw [List.getElem?_set_self (by have := (List.getElem?_eq_some_iff.mp hj).1; rwa [List.length_set] at this)] at hj
    cases hj
    exact h'.2.2 _ List.mem_cons_self
  · rw [List.getElem?_set_ne (Ne.symm hji)] at hj
    refine h'.2.2 (j, q_v B w) (List.mem_cons_of_mem _ (List.mem_filter.mpr ⟨q_ps_mem hj, ?_⟩))
    simp [hji, q_v_cat]
theorem q_okL.set {L : List (Option qV)} {i : Nat} {v : qV} (h : q_okL L) (hv : q_ok v) : q_okL (L.set i (some v)) := by
  intro w hw
  rcases List.mem_or_eq_of_mem_set hw with h1 | h1
  · exact h w h1
  · cases h1; exact hv
theorem q_okL.get {L : List (Option qV)} (h : q_okL L) {i : Nat} {v : qV} (hi : L[i]? = some (some v)) : q_ok v := h v (List.mem_of_getElem? hi)
theorem q_sl_set {x : List qV} {f : Nat → Int} {k : Nat} {r : Option Nat} (hk : k < x.length) (j : Nat) : q_sl (x.set k (.inr r)) f j = if j = k then .inr r else q_sl x f j := by
  unfold q_sl
  by_cases h : j = k
  · subst h
    rw [List.getElem?_set_self hk, if_pos rfl]
  · rw [List.getElem?_set_ne (Ne.symm h), if_neg h]
theorem q_sl_ok {D : va_G} {U : State} {B : Nat × Nat} {S : qS} {I : qI} {H : Heap} (h : q_H D U B S I H) (x : List qV) (a j : Nat) : q_ok (q_sl x (I a) j) := by
  unfold q_sl
  split
  · trivial
  · exact h.2.2.2.1 a j
theorem q_up_ok {I : qI} {a k : Nat} {x : Int} (h : ∀ j, q_in (I a j)) (hx : q_in x) : ∀ j, q_in (q_up I a k x a j) := by
  intro j
  unfold q_up
  split
  · exact hx
  · exact h j
theorem q_up_off {I : qI} {a k : Nat} {x : Int} : ∀ b, b ≠ a → q_up I a k x b = I b := fun b hb => funext fun j => if_neg fun h => hb h.1
theorem q_sl_up {x : List qV} {I : qI} {a k : Nat} {z : Int} (hk : ∀ r, x[k]? ≠ some (.inr r)) (j : Nat) : q_sl x (q_up I a k z a) j = if j = k then .inl z else q_sl x (I a) j := by
  unfold q_sl
  by_cases h : j = k
  · subst h
    rw [if_pos rfl]
    split
    · next r hr => exact absurd hr (hk r)
    · simp [q_up]
  · rw [if_neg h]
    split
    · rfl
    · simp [q_up, h]
