/-! The machine's rows: calls, and a method's entry. -/
theorem q_go {p : Program} {l : Launch} {e : Env} {R : Room} {s : State} {m : MethodId} {args : Array Value} {below : List Frame} {meth : Method} {c : Code} {H : Heap} {locs : List Loc} {k n mc' ms' pc : Nat} {ls : Array Slot} {st0 rest : List Value} {D : va_G} {B : Nat × Nat} {P' : qP} {a : Array Value} {Q : State → Prop}
    (hr : va_Run p l e R s m args below meth c H locs k n mc' ms' (F0 m pc ls st0) rest (q_Qc D B P' a) (q_fr B)) (hS : va_S (q_fr B) s.heap H locs)
    (kk : ∀ (r : Option qV) (S' : qS) (I' : qI) (H1 : Heap) (locs1 : List Loc), P' r S' I' → (∀ v, r = some v → q_ok v) → q_H D s B S' I' H1 → va_S (q_fr B) s.heap H1 locs1 → W p l e R s m args below meth c H1 locs1 (k + mc') (n + ms') Q (F0 m (pc + 3) ls ((r.map (q_v B)).toList ++ rest))) :
    W p l e R s m args below meth c H locs k n Q (F0 m pc ls st0) := by
  intro T hT X
  obtain ⟨v, st₀, t, T', Lx, h0, X', hLx, e1, e2, ⟨⟨r, S', I', hv, ho, hp, hq⟩, hz, hk⟩, stp⟩ := hr T hT X
  cases hv
  rw [h0] at hz hk
  have hal : s.vm.Alike t.vm := by rw [← e2]; exact X'.warmed.alike
  obtain ⟨t2, a1, b1⟩ := kk r S' I' T'.heap (locs ++ Lx) hp ho (by rw [e1]; exact hq.moved hal.symm)
    ⟨Nat.le_trans hS.1 (by rw [e1]; exact hz), fun q h1 h2 => by rw [e1, hk q (Nat.lt_of_lt_of_le h1 hS.1) h2]; exact hS.2.1 q h1 h2, fun q hq => by
      rcases List.mem_append.mp hq with h | h
      · exact hS.2.2 q h
      · exact hLx q h⟩ T' rfl X'
  exact ⟨t2, stp t2 a1, b1⟩
theorem q_blind {D : va_G} {B : Nat × Nat} {as : List qV} {S : qS} {I : qI} : FrameBlind (q_Pc D B as S I) := by
  intro a U g mk h
  obtain ⟨h1, h2, h3, h4⟩ := h
  exact ⟨h1, h2, h3.moved (State.WarmedH.refl U), h4.moved (Vm.Alike.refl U.vm)⟩
theorem q_pre {D : va_G} {B : Nat × Nat} {as : List qV} {S : qS} {I : qI} {s : State} {H : Heap} (ho : q_oks as) (hK : q_K D s) (hH : q_H D s B S I H) : ∀ U : State, U.heap = H → s.WarmedH U.vm → q_Pc D B as S I (as.map (q_v B)).toArray U :=
  fun U hU hW => ⟨rfl, ho, hK.moved hW, by rw [hU]; exact hH.moved hW.alike⟩
/-- what the tables say of a callee -/
def q_code (N : qM) (np : Nat) : Prop := (Cond.code N.1 N.2.1 N.2.2.1 N.2.2.2 ∈ lw_tbl ∧ q_mv (Cond.code N.1 N.2.1 N.2.2.1 N.2.2.2) = true) ∧ (Cond.initialized N.1.cls ∈ lw_tbl ∧ q_mv (Cond.initialized N.1.cls) = true) ∧ (N.1.cls ≠ "java/lang/invoke/MethodHandle" ∧ N.1.cls ≠ "java/lang/invoke/VarHandle") ∧ (parseMethodDescriptor N.1.desc).map (fun d => d.parameters.length) = some np
def q_inst (N : qM) : Prop := Cond.instanceMethod N.1 ∈ lw_tbl ∧ q_mv (Cond.instanceMethod N.1) = true
def q_sel (N : qM) : Prop := Cond.selects N.1.cls N.1 N.1 ∈ lw_tbl ∧ q_mv (Cond.selects N.1.cls N.1 N.1) = true
def q_stat (N : qM) : Prop := Cond.static N.1 ∈ lw_tbl ∧ q_mv (Cond.static N.1) = true
def q_mlink (own : String) (index : Nat) (N : qM) : Prop := (Cond.methodLink own index N.1 ∈ lw_tbl ∧ q_mv (Cond.methodLink own index N.1) = true) ∨ ∃ host, Cond.methodLinkNest own index N.1 host ∈ lw_tbl
theorem q_codeW {N : qM} {np : Nat} (h : q_code N np) {D : va_G} {s : State} (hK : q_K D s) : ∀ w ∈ q_ws N, ∀ (a' : Array Value) (U : State), s.WarmedH U.vm → w.before a' U = true := by
  intro w hw a' U hW
  rw [List.mem_singleton.mp hw]
  exact q_mv_at h.1.2 hW (hK.at (args := #[]) h.1.1 h.1.2)
theorem q_room {d mc ms maxL : Nat} {R : Room} (h : d + 1 ≤ R.frames ∧ 19 + maxL + 40 * d ≤ R.locals) : (q_rm d mc ms).frames + 1 ≤ R.frames ∧ 8 + (maxL + 11) + (q_rm d mc ms).locals ≤ R.locals := by
  unfold q_rm
  exact ⟨h.1, by have := h.2; show 8 + (maxL + 11) + 40 * d ≤ R.locals; omega⟩
theorem q_CB {N : qM} {np : Nat} (h : q_code N np) {D : va_G} {s : State} (hK : q_K D s) {R : Room} {args : Array Value} {own : String} {index d mc ms : Nat} (hl : Cond.methodLink own index N.1 ∈ lw_tbl ∧ q_mv (Cond.methodLink own index N.1) = true) (hR : d + 1 ≤ R.frames ∧ 19 + N.2.2.1 + 40 * d ≤ R.locals) :
    CallB R s args own index N.1 N.2.1 N.2.2.1 N.2.2.2 (q_ws N) (q_rm d mc ms) mc ms np :=
  ⟨rfl, rfl, (q_room (mc := mc) (ms := ms) hR).1, (q_room (mc := mc) (ms := ms) hR).2, q_codeW h hK, List.mem_singleton.mpr rfl, hK.at h.1.1 h.1.2, hK.at h.2.1.1 h.2.1.2, h.2.2.1, fun sig hs => by
    have h2 := h.2.2.2
    rw [hs] at h2
    exact (Option.some.inj h2).symm, hK.at hl.1 hl.2⟩
theorem q_CN {N : qM} {np : Nat} (h : q_code N np) {D : va_G} {s : State} (hK : q_K D s) {R : Room} {args : Array Value} {own host : String} {index d mc ms : Nat} (hl : Cond.methodLinkNest own index N.1 host ∈ lw_tbl) (hR : d + 1 ≤ R.frames ∧ 19 + N.2.2.1 + 40 * d ≤ R.locals) :
    va_CN R s args own index N.1 host N.2.1 N.2.2.1 N.2.2.2 (q_ws N) (q_rm d mc ms) mc ms np :=
  ⟨⟨rfl, rfl, (q_room (mc := mc) (ms := ms) hR).1, (q_room (mc := mc) (ms := ms) hR).2, q_codeW h hK, List.mem_singleton.mpr rfl⟩, hK.at h.1.1 h.1.2, hK.at h.2.1.1 h.2.1.2, h.2.2.1, fun sig hs => by
    have h2 := h.2.2.2
    rw [hs] at h2
    exact (Option.some.inj h2).symm, hK.at hl rfl⟩
section QC
variable {M : qM} {R : Room} {mc ms k n pc : Nat} {L : List (Option qV)} {st : List qV} {S : qS} {I : qI} {P : qP}
theorem q_rest {m : MethodId} {ls : Array Slot} {B : Nat × Nat} {st : List qV} {x : List Value} (h : st.length ≤ 8) : 2 * (F0 m pc ls x).monitorRoom + ((st.map (q_v B)).map fun v => v.category).sum ≤ 8 := by
  rw [q_cats]
  show 2 * 0 + st.length ≤ 8
  omega
/-- a call of an object's method -/
theorem q_callV {N : qM} {d mc' ms' index np a ci nf : Nat} {as : List qV} {vs : List qV} {P' : qP} {T : u_T} {Nf : Nat} (hd : decode M.2.1 pc = .ok (.invokevirtual index, 3)) (hM : q_Met N d mc' ms' (.inr (some a) :: as) S I P') (hc : q_code N np) (hi : q_inst N) (hs : q_sel N) (hl : q_mlink M.1.cls index N)
    (ha : S[a]? = some (ci, nf, vs)) (hci : ci < 100) (hcl : q_cl[ci]? = some (N.1.cls, T, Nf)) (hnp : as.length = np) (hst : st.length ≤ 8) (hR : d + 1 ≤ R.frames ∧ 19 + N.2.2.1 + 40 * d ≤ R.locals) (hf : k + mc' ≤ R.cells ∧ n + ms' ≤ R.slots) {stk : List qV} (hstk : stk = as.reverse ++ .inr (some a) :: st)
    (K : ∀ (r : Option qV) (S' : qS) (I' : qI), P' r S' I' → q_Ev M R mc ms (k + mc') (n + ms') (pc + 3) L (r.toList ++ st) S' I' P) : q_Ev M R mc ms k n pc L stk S I P := by
  intro p l e s m args below meth c H locs D B ls C0 hS hH hL oL oS
  subst hstk
  have hK : q_K D s := C0.2.2.2.2.2.2.2
  have o1 := q_oks_app.mp oS
  have oas : q_oks (.inr (some a) :: as) := q_oks_cons.mpr ⟨trivial, q_oks_rev o1.1⟩
  have ost := (q_oks_cons.mp o1.2).2
  obtain ⟨r0, f1, -, cellV, f2, f3, f4, -⟩ := (hH.2.2.2.2 a _ ha).1 hci
  have hrecv : ∃ cellB : Cell, H[q_g B a]? = some cellB ∧ cellB.vm.isStatics = false ∧ s.vm.findClass N.1.cls = some cellB.cls := ⟨cellV, f2, by rw [f4]; rfl, by rw [f3]; exact (hK.2.1 ci _ hcl).2.1⟩
  have hPV : PreV s H N.1.cls (q_g B a) (q_Pc D B (.inr (some a) :: as) S I) (as.map (q_v B)) := ⟨q_blind, hrecv, q_pre oas hK hH⟩
  have hstack : (F0 m pc ls ((as.reverse ++ .inr (some a) :: st).map (q_v B))).stack = (as.map (q_v B)).reverse ++ .ref (q_g B a) :: st.map (q_v B) := by
    show (as.reverse ++ .inr (some a) :: st).map (q_v B) = _
    rw [List.map_append, List.map_reverse]
    rfl
  have hS9 : CallFix p m c M.2.1 M.2.2.1 s args [] M.1.cls := ⟨C0.1, C0.2.1, C0.2.2.1, C0.2.2.2.1, fun w h => by cases h⟩
  have fin : ∀ (r : Option qV) (S' : qS) (I' : qI) (H1 : Heap) (locs1 : List Loc), P' r S' I' → (∀ v, r = some v → q_ok v) → q_H D s B S' I' H1 → va_S (q_fr B) s.heap H1 locs1 → W p l e R s m args below meth c H1 locs1 (k + mc') (n + ms') (MQ below (q_Qc D B P) args s mc ms (q_fr B)) (F0 m (pc + 3) ls ((r.map (q_v B)).toList ++ st.map (q_v B))) := by
    intro r S' I' H1 locs1 hp ho hq hS1
    have K1 := K r S' I' hp p l e s m args below meth c H1 locs1 D B ls C0 hS1 hq hL oL (q_oks_app.mpr ⟨fun v hv => ho v (Option.mem_toList.mp hv), ost⟩)
    cases r <;> exact K1
  rcases hl with hl | ⟨host, hl⟩
  · exact q_go (va_runV (b := q_g B a) (As := as.map (q_v B)) (rest := st.map (q_v B)) hS9 (hM l D B) ⟨q_CB hc hK hl hR, hK.at hi.1 hi.2, hK.at hs.1 hs.2⟩ hPV rfl (by rw [List.length_map]; exact hnp) hL.1 hstack (q_rest hst) hd hf) hS fin
  · exact q_go (va_runVN (b := q_g B a) (As := as.map (q_v B)) (rest := st.map (q_v B)) hS9 (hM l D B) ⟨q_CN hc hK hl hR, hK.at hi.1 hi.2, hK.at hs.1 hs.2⟩ hPV rfl (by rw [List.length_map]; exact hnp) hL.1 hstack (q_rest hst) hd hf) hS fin
/-- a call of a static method -/
theorem q_callS {N : qM} {d mc' ms' index np : Nat} {as : List qV} {P' : qP} (hd : decode M.2.1 pc = .ok (.invokestatic index, 3)) (hM : q_Met N d mc' ms' as S I P') (hc : q_code N np) (hi : q_stat N) (hl : q_mlink M.1.cls index N)
    (hnp : as.length = np) (hst : st.length ≤ 8) (hR : d + 1 ≤ R.frames ∧ 19 + N.2.2.1 + 40 * d ≤ R.locals) (hf : k + mc' ≤ R.cells ∧ n + ms' ≤ R.slots) {stk : List qV} (hstk : stk = as.reverse ++ st)
    (K : ∀ (r : Option qV) (S' : qS) (I' : qI), P' r S' I' → q_Ev M R mc ms (k + mc') (n + ms') (pc + 3) L (r.toList ++ st) S' I' P) : q_Ev M R mc ms k n pc L stk S I P := by
  intro p l e s m args below meth c H locs D B ls C0 hS hH hL oL oS
  subst hstk
  have hK : q_K D s := C0.2.2.2.2.2.2.2
  have o1 := q_oks_app.mp oS
  have oas : q_oks as := q_oks_rev o1.1
  have ost := o1.2
  have hPS : PreS s H (q_Pc D B as S I) (as.map (q_v B)) := ⟨q_blind, q_pre oas hK hH⟩
  have hstack : (F0 m pc ls ((as.reverse ++ st).map (q_v B))).stack = (as.map (q_v B)).reverse ++ st.map (q_v B) := by
    show (as.reverse ++ st).map (q_v B) = _
    rw [List.map_append, List.map_reverse]
  have hS9 : CallFix p m c M.2.1 M.2.2.1 s args [] M.1.cls := ⟨C0.1, C0.2.1, C0.2.2.1, C0.2.2.2.1, fun w h => by cases h⟩
  have fin : ∀ (r : Option qV) (S' : qS) (I' : qI) (H1 : Heap) (locs1 : List Loc), P' r S' I' → (∀ v, r = some v → q_ok v) → q_H D s B S' I' H1 → va_S (q_fr B) s.heap H1 locs1 → W p l e R s m args below meth c H1 locs1 (k + mc') (n + ms') (MQ below (q_Qc D B P) args s mc ms (q_fr B)) (F0 m (pc + 3) ls ((r.map (q_v B)).toList ++ st.map (q_v B))) := by
    intro r S' I' H1 locs1 hp ho hq hS1
    have K1 := K r S' I' hp p l e s m args below meth c H1 locs1 D B ls C0 hS1 hq hL oL (q_oks_app.mpr ⟨fun v hv => ho v (Option.mem_toList.mp hv), ost⟩)
    cases r <;> exact K1
  rcases hl with hl | ⟨host, hl⟩
  · exact q_go (va_runS (As := as.map (q_v B)) (rest := st.map (q_v B)) hS9 (hM l D B) ⟨q_CB hc hK hl hR, hK.at hi.1 hi.2⟩ hPS rfl (by rw [List.length_map]; exact hnp) hL.1 hstack (q_rest hst) hd hf) hS fin
  · exact q_go (va_runSN (As := as.map (q_v B)) (rest := st.map (q_v B)) hS9 (hM l D B) ⟨q_CN hc hK hl hR, hK.at hi.1 hi.2, trivial⟩ hPS rfl (by rw [List.length_map]; exact hnp) hL.1 hstack (q_rest hst) hd hf) hS fin
/-- a call of a constructor -/
theorem q_callI {N : qM} {d mc' ms' index np a : Nat} {as : List qV} {P' : qP} (hd : decode M.2.1 pc = .ok (.invokespecial index, 3)) (hM : q_Met N d mc' ms' (.inr (some a) :: as) S I P') (hc : q_code N np) (hret : N.2.2.2 = none) (hy : N.1.name = "<init>") (hi : q_inst N) (hl : q_mlink M.1.cls index N)
    (hnp : as.length = np) (hst : st.length ≤ 8) (hR : d + 1 ≤ R.frames ∧ 19 + N.2.2.1 + 40 * d ≤ R.locals) (hf : k + mc' ≤ R.cells ∧ n + ms' ≤ R.slots) {stk : List qV} (hstk : stk = as.reverse ++ .inr (some a) :: st)
    (K : ∀ (r : Option qV) (S' : qS) (I' : qI), P' r S' I' → q_Ev M R mc ms (k + mc') (n + ms') (pc + 3) L (r.toList ++ st) S' I' P) : q_Ev M R mc ms k n pc L stk S I P := by
  intro p l e s m args below meth c H locs D B ls C0 hS hH hL oL oS
  subst hstk
  have hK : q_K D s := C0.2.2.2.2.2.2.2
  have o1 := q_oks_app.mp oS
  have oas : q_oks (.inr (some a) :: as) := q_oks_cons.mpr ⟨trivial, q_oks_rev o1.1⟩
  have ost := (q_oks_cons.mp o1.2).2
  have hPS : PreS s H (q_Pc D B (.inr (some a) :: as) S I) (.ref (q_g B a) :: as.map (q_v B)) := ⟨q_blind, q_pre oas hK hH⟩
  have hstack : (F0 m pc ls ((as.reverse ++ .inr (some a) :: st).map (q_v B))).stack = (as.map (q_v B)).reverse ++ .ref (q_g B a) :: st.map (q_v B) := by
    show (as.reverse ++ .inr (some a) :: st).map (q_v B) = _
    rw [List.map_append, List.map_reverse]
    rfl
  have hS9 : CallFix p m c M.2.1 M.2.2.1 s args [] M.1.cls := ⟨C0.1, C0.2.1, C0.2.2.1, C0.2.2.2.1, fun w h => by cases h⟩
  have fin : ∀ (r : Option qV) (S' : qS) (I' : qI) (H1 : Heap) (locs1 : List Loc), P' r S' I' → (∀ v, r = some v → q_ok v) → q_H D s B S' I' H1 → va_S (q_fr B) s.heap H1 locs1 → W p l e R s m args below meth c H1 locs1 (k + mc') (n + ms') (MQ below (q_Qc D B P) args s mc ms (q_fr B)) (F0 m (pc + 3) ls ((r.map (q_v B)).toList ++ st.map (q_v B))) := by
    intro r S' I' H1 locs1 hp ho hq hS1
    have K1 := K r S' I' hp p l e s m args below meth c H1 locs1 D B ls C0 hS1 hq hL oL (q_oks_app.mpr ⟨fun v hv => ho v (Option.mem_toList.mp hv), ost⟩)
    cases r <;> exact K1
  obtain ⟨y, bytes, maxL, ret⟩ := N
  dsimp only at hret
  subst hret
  rcases hl with hl | ⟨host, hl⟩
  · exact q_go (va_runI (b := q_g B a) (As := as.map (q_v B)) (rest := st.map (q_v B)) hS9 (hM l D B) ⟨q_CB hc hK hl hR, hy, hK.at hi.1 hi.2⟩ hPS rfl (by rw [List.length_map]; exact hnp) hL.1 hstack (q_rest hst) hd hf) hS fin
  · exact q_go (va_runIN (b := q_g B a) (As := as.map (q_v B)) (rest := st.map (q_v B)) hS9 (hM l D B) ⟨q_CN hc hK hl hR, hy, hK.at hi.1 hi.2⟩ hPS rfl (by rw [List.length_map]; exact hnp) hL.1 hstack (q_rest hst) hd hf) hS fin
/-- Object's own constructor -/
theorem q_obj {index a : Nat} (hd : decode M.2.1 pc = .ok (.invokespecial index, 3)) (hw1 : Cond.methodLink M.1.cls index Lib.objectInit ∈ lw_tbl ∧ q_mv (Cond.methodLink M.1.cls index Lib.objectInit) = true) (hw2 : Cond.instanceMethod Lib.objectInit ∈ lw_tbl ∧ q_mv (Cond.instanceMethod Lib.objectInit) = true) (hw3 : Cond.code Lib.objectInit ⟨#[0xb1]⟩ 1 none ∈ lw_tbl ∧ q_mv (Cond.code Lib.objectInit ⟨#[0xb1]⟩ 1 none) = true) (hR : 1 ≤ R.frames ∧ 20 ≤ R.locals) (hst : st.length ≤ 8)
    (K : q_Ev M R mc ms k n (pc + 3) L st S I P) : q_Ev M R mc ms k n pc L (.inr (some a) :: st) S I P := by
  intro p l e s m args below meth c H locs D B ls C0 hS hH hL oL oS
  have hK : q_K D s := C0.2.2.2.2.2.2.2
  have o := q_oks_cons.mp oS
  refine W.objInit C0.1 C0.2.1 C0.2.2.2.1 (hK.at hw1.1 hw1.2) (hK.at hw2.1 hw2.2) (hK.at hw3.1 hw3.2) rfl (by rw [C0.2.2.1]; exact hL.1) rfl hd hR.1 ?_ (K p l e s m args below meth c H locs D B ls C0 hS hH hL oL o.2)
  rw [q_cats]
  show 2 * 0 + st.length + 12 ≤ R.locals
  omega
theorem q_max {index : Nat} {x y : Int} (hd : decode M.2.1 pc = .ok (.invokestatic index, 3)) (hw1 : Cond.methodLink M.1.cls index Lib.Math.max.name ∈ lw_tbl ∧ q_mv (Cond.methodLink M.1.cls index Lib.Math.max.name) = true) (hw2 : Cond.static Lib.Math.max.name ∈ lw_tbl ∧ q_mv (Cond.static Lib.Math.max.name) = true) (hw3 : Cond.initialized "java/lang/Math" ∈ lw_tbl ∧ q_mv (Cond.initialized "java/lang/Math") = true) (hw4 : Cond.code Lib.Math.max.name Lib.Math.max.code 2 (some .int) ∈ lw_tbl ∧ q_mv (Cond.code Lib.Math.max.name Lib.Math.max.code 2 (some .int)) = true) (hR : 1 ≤ R.frames ∧ 21 ≤ R.locals) (hf : k ≤ R.cells ∧ n ≤ R.slots) (hst : st.length ≤ 8)
    (K : q_Ev M R mc ms k n (pc + 3) L (.inl (if x < y then y else x) :: st) S I P) : q_Ev M R mc ms k n pc L (.inl y :: .inl x :: st) S I P := by
  intro p l e s m args below meth c H locs D B ls C0 hS hH hL oL oS
  have hK : q_K D s := C0.2.2.2.2.2.2.2
  have oy : q_in y := (q_oks_cons.mp oS).1
  have o := q_oks_cons.mp (q_oks_cons.mp oS).2
  have ox : q_in x := o.1
  refine va_mmax C0.1 C0.2.1 (by rw [C0.2.2.1, hL.1]) C0.2.2.2.1 (hK.at hw1.1 hw1.2) (hK.at hw2.1 hw2.2) (hK.at hw3.1 hw3.2) (hK.at hw4.1 hw4.2) hR.1 (by rw [q_cats]; omega) hf.1 hf.2 hd ?_
  have K1 := K p l e s m args below meth c H locs D B ls C0 hS hH hL oL (q_oks_cons.mpr ⟨by split; exact oy; exact ox, o.2⟩)
  by_cases h : x < y
  · rw [if_pos ((q_lt ox oy).mpr h)]
    rw [if_pos h] at K1
    exact K1
  · rw [if_neg (fun z => h ((q_lt ox oy).mp z))]
    rw [if_neg h] at K1
    exact K1
theorem q_min {index : Nat} {x y : Int} (hd : decode M.2.1 pc = .ok (.invokestatic index, 3)) (hw1 : Cond.methodLink M.1.cls index Lib.Math.min.name ∈ lw_tbl ∧ q_mv (Cond.methodLink M.1.cls index Lib.Math.min.name) = true) (hw2 : Cond.static Lib.Math.min.name ∈ lw_tbl ∧ q_mv (Cond.static Lib.Math.min.name) = true) (hw3 : Cond.initialized "java/lang/Math" ∈ lw_tbl ∧ q_mv (Cond.initialized "java/lang/Math") = true) (hw4 : Cond.code Lib.Math.min.name Lib.Math.min.code 2 (some .int) ∈ lw_tbl ∧ q_mv (Cond.code Lib.Math.min.name Lib.Math.min.code 2 (some .int)) = true) (hR : 1 ≤ R.frames ∧ 21 ≤ R.locals) (hf : k ≤ R.cells ∧ n ≤ R.slots) (hst : st.length ≤ 8)
    (K : q_Ev M R mc ms k n (pc + 3) L (.inl (if y < x then y else x) :: st) S I P) : q_Ev M R mc ms k n pc L (.inl y :: .inl x :: st) S I P := by
  intro p l e s m args below meth c H locs D B ls C0 hS hH hL oL oS
  have hK : q_K D s := C0.2.2.2.2.2.2.2
  have oy : q_in y := (q_oks_cons.mp oS).1
  have o := q_oks_cons.mp (q_oks_cons.mp oS).2
  have ox : q_in x := o.1
  refine va_mmin C0.1 C0.2.1 (by rw [C0.2.2.1, hL.1]) C0.2.2.2.1 (hK.at hw1.1 hw1.2) (hK.at hw2.1 hw2.2) (hK.at hw3.1 hw3.2) (hK.at hw4.1 hw4.2) hR.1 (by rw [q_cats]; omega) hf.1 hf.2 hd ?_
  have K1 := K p l e s m args below meth c H locs D B ls C0 hS hH hL oL (q_oks_cons.mpr ⟨by split; exact oy; exact ox, o.2⟩)
  by_cases h : y < x
  · rw [if_pos ((q_lt oy ox).mpr h)]
    rw [if_pos h] at K1
    exact K1
  · rw [if_neg (fun z => h ((q_lt oy ox).mp z))]
    rw [if_neg h] at K1
    exact K1
end QC
theorem q_args (B : Nat × Nat) : ∀ (as : List qV) (i j : Nat) (v : qV), as[j]? = some v → (i + j, q_v B v) ∈ lv_args i (as.map (q_v B))
  | [], i, j, v, h => by simp at h
  | w :: as, i, 0, v, h => by
    cases h
    exact List.mem_cons_self
  | w :: as, i, j + 1, v, h => by
    have h1 := q_args B as (i + 1) j v h
    show (i + (j + 1), q_v B v) ∈ (i, q_v B w) :: lv_args (if (q_v B w).category = 2 then i + 2 else i + 1) (as.map (q_v B))
    rw [q_v_cat, if_neg (by decide), show i + (j + 1) = i + 1 + j by omega]
    exact List.mem_cons_of_mem _ h1
theorem q_sll (B : Nat × Nat) : ∀ as : List qV, (lg_sl (as.map (q_v B))).length = as.length
  | [] => rfl
  | v :: as => by
    have := q_sll B as
    show (lg_sl (q_v B v :: as.map (q_v B))).length = _
    unfold lg_sl at *
    rw [List.flatMap_cons, q_v_cat, if_neg (by decide), List.length_append, this]
    show 1 + as.length = as.length + 1
    omega
theorem q_has_entry {B : Nat × Nat} {as : List qV} {n : Nat} (h : as.length ≤ n) : q_has B ((lg_sl (as.map (q_v B)) ++ List.replicate (n - (lg_sl (as.map (q_v B))).length) Slot.unset).toArray) n (as.map some ++ List.replicate (n - as.length) none) := by
  have h1 := lv_entry (as.map (q_v B)) (n := n) (by rw [q_sll]; exact h)
  refine ⟨h1.1, h1.2.1, fun i v hi => ?_⟩
  have hi' : as[i]? = some v := by
    by_cases hl : i < as.length
    · rw [List.getElem?_append_left (by rw [List.length_map]; exact hl), List.getElem?_map] at hi
      cases ha : as[i]? with
      | none => rw [ha] at hi; cases hi
      | some w => rw [ha] at hi; cases hi; rfl
    · rw [List.getElem?_append_right (by rw [List.length_map]; omega), List.getElem?_replicate] at hi
      split at hi <;> cases hi
  have h2 := h1.2.2 _ (q_args B as 0 i v hi')
  rw [Nat.zero_add] at h2
  exact h2
/-- a method's contract out of its walk -/
theorem q_enter {M : qM} {d mc ms : Nat} {as : List qV} {S : qS} {I : qI} {P : qP} (hy : plainName M.1.cls = true) (ha : as.length ≤ M.2.2.1) (K : q_Ev M (q_rm d mc ms) mc ms 0 0 0 (as.map some ++ List.replicate (M.2.2.1 - as.length) none) [] S I P) : q_Met M d mc ms as S I P := by
  intro l D B
  refine Met.ofW (cc := M.2.1) (maxL := M.2.2.1) (ret := M.2.2.2) hy rfl ?_
  intro p e s m args below meth c s₁ Bd hml hv
  obtain ⟨rfl, ho, hK, hH⟩ := hv
  have hown : s.vm.findClass M.1.cls = some m.cls := findClass_of_methodNamed Bd.named
  have hnm : M.1.name = "<init>" → meth.name = "<init>" := fun h => (name_of_methodNamed Bd.named Bd.method).1.trans h
  rw [lg_entry_eq]
  refine K p l e s m _ below meth c s.heap [] D B _ ⟨Bd.exec, Bd.bytes, hml, hown, Bd.returns, Bd.notSynchronized, hnm, hK⟩ va_S.rf hH (q_has_entry ha) (fun v hv => ?_) (fun v hv => by cases hv)
  rcases List.mem_append.mp hv with h | h
  · obtain ⟨w, hw, e9⟩ := List.mem_map.mp h
    cases e9
    exact ho v hw
  · have := List.eq_of_mem_replicate h
    cases this
/-- the answer and the cells are these -/
def q_is (r : Option qV) (S : qS) (I : qI) : qP := fun r' S' I' => r' = r ∧ S' = S ∧ I' = I
theorem q_isrfl {r : Option qV} {S : qS} {I : qI} : q_is r S I r S I := ⟨rfl, rfl, rfl⟩
theorem q_Met.mono {M : qM} {d mc ms : Nat} {as : List qV} {S : qS} {I : qI} {P P' : qP} (h : q_Met M d mc ms as S I P) (hP : ∀ r S I, P r S I → P' r S I) : q_Met M d mc ms as S I P' := by
  intro l D B
  have h1 := h l D B
  intro p e ha hc hk s m args below hf hfit hpre htr
  obtain ⟨k, o, h1, h2, h3, ⟨⟨⟨r, S', I', e1, e2, e3, e4⟩, e5⟩, e6⟩⟩ := h1 p e ha hc hk s m args below hf hfit hpre htr
  exact ⟨k, o, h1, h2, h3, ⟨⟨⟨r, S', I', e1, e2, hP _ _ _ e3, e4⟩, e5⟩, e6⟩⟩
section QD
variable {M : qM} {R : Room} {mc ms k n pc : Nat} {L : List (Option qV)} {st : List qV} {S : qS} {I : qI} {P : qP}
/-- calls whose answer is known -/
theorem q_callV1 {N : qM} {d mc' ms' index np a ci nf : Nat} {as : List qV} {vs : List qV} {v : qV} {S' : qS} {I' : qI} {T : u_T} {Nf : Nat} (hd : decode M.2.1 pc = .ok (.invokevirtual index, 3)) (hM : q_Met N d mc' ms' (.inr (some a) :: as) S I (q_is (some v) S' I')) (hc : q_code N np) (hi : q_inst N) (hs : q_sel N) (hl : q_mlink M.1.cls index N)
    (ha : S[a]? = some (ci, nf, vs)) (hci : ci < 100) (hcl : q_cl[ci]? = some (N.1.cls, T, Nf)) (hnp : as.length = np) (hst : st.length ≤ 8) (hR : d + 1 ≤ R.frames ∧ 19 + N.2.2.1 + 40 * d ≤ R.locals) (hf : k + mc' ≤ R.cells ∧ n + ms' ≤ R.slots) {stk : List qV} (hstk : stk = as.reverse ++ .inr (some a) :: st)
    (K : q_Ev M R mc ms (k + mc') (n + ms') (pc + 3) L (v :: st) S' I' P) : q_Ev M R mc ms k n pc L stk S I P :=
  q_callV hd hM hc hi hs hl ha hci hcl hnp hst hR hf hstk (by rintro _ _ _ ⟨rfl, rfl, rfl⟩; exact K)
theorem q_callV0 {N : qM} {d mc' ms' index np a ci nf : Nat} {as : List qV} {vs : List qV} {S' : qS} {I' : qI} {T : u_T} {Nf : Nat} (hd : decode M.2.1 pc = .ok (.invokevirtual index, 3)) (hM : q_Met N d mc' ms' (.inr (some a) :: as) S I (q_is none S' I')) (hc : q_code N np) (hi : q_inst N) (hs : q_sel N) (hl : q_mlink M.1.cls index N)
    (ha : S[a]? = some (ci, nf, vs)) (hci : ci < 100) (hcl : q_cl[ci]? = some (N.1.cls, T, Nf)) (hnp : as.length = np) (hst : st.length ≤ 8) (hR : d + 1 ≤ R.frames ∧ 19 + N.2.2.1 + 40 * d ≤ R.locals) (hf : k + mc' ≤ R.cells ∧ n + ms' ≤ R.slots) {stk : List qV} (hstk : stk = as.reverse ++ .inr (some a) :: st)
    (K : q_Ev M R mc ms (k + mc') (n + ms') (pc + 3) L st S' I' P) : q_Ev M R mc ms k n pc L stk S I P :=
  q_callV hd hM hc hi hs hl ha hci hcl hnp hst hR hf hstk (by rintro _ _ _ ⟨rfl, rfl, rfl⟩; exact K)
theorem q_callS1 {N : qM} {d mc' ms' index np : Nat} {as : List qV} {v : qV} {S' : qS} {I' : qI} (hd : decode M.2.1 pc = .ok (.invokestatic index, 3)) (hM : q_Met N d mc' ms' as S I (q_is (some v) S' I')) (hc : q_code N np) (hi : q_stat N) (hl : q_mlink M.1.cls index N)
    (hnp : as.length = np) (hst : st.length ≤ 8) (hR : d + 1 ≤ R.frames ∧ 19 + N.2.2.1 + 40 * d ≤ R.locals) (hf : k + mc' ≤ R.cells ∧ n + ms' ≤ R.slots) {stk : List qV} (hstk : stk = as.reverse ++ st)
    (K : q_Ev M R mc ms (k + mc') (n + ms') (pc + 3) L (v :: st) S' I' P) : q_Ev M R mc ms k n pc L stk S I P :=
  q_callS hd hM hc hi hl hnp hst hR hf hstk (by rintro _ _ _ ⟨rfl, rfl, rfl⟩; exact K)
theorem q_callI0 {N : qM} {d mc' ms' index np a : Nat} {as : List qV} {S' : qS} {I' : qI} (hd : decode M.2.1 pc = .ok (.invokespecial index, 3)) (hM : q_Met N d mc' ms' (.inr (some a) :: as) S I (q_is none S' I')) (hc : q_code N np) (hret : N.2.2.2 = none) (hy : N.1.name = "<init>") (hi : q_inst N) (hl : q_mlink M.1.cls index N)
    (hnp : as.length = np) (hst : st.length ≤ 8) (hR : d + 1 ≤ R.frames ∧ 19 + N.2.2.1 + 40 * d ≤ R.locals) (hf : k + mc' ≤ R.cells ∧ n + ms' ≤ R.slots) {stk : List qV} (hstk : stk = as.reverse ++ .inr (some a) :: st)
    (K : q_Ev M R mc ms (k + mc') (n + ms') (pc + 3) L st S' I' P) : q_Ev M R mc ms k n pc L stk S I P :=
  q_callI hd hM hc hret hy hi hl hnp hst hR hf hstk (by rintro _ _ _ ⟨rfl, rfl, rfl⟩; exact K)
end QD
