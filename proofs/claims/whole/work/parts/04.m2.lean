/-! The machine's rows: an instruction, a row. -/
section QR
variable {M : qM} {R : Room} {mc ms k n pc : Nat} {L : List (Option qV)} {st : List qV} {S : qS} {I : qI} {P : qP}
theorem q_iconst {z : Int} (hd : decode M.2.1 pc = .ok (.iconst z, 1)) (hz : q_in z) (K : q_Ev M R mc ms k n (pc + 1) L (.inl z :: st) S I P) : q_Ev M R mc ms k n pc L st S I P := by
  intro p l e s m args below meth c H locs D B ls C hS hH hL oL oS
  exact lv_iconst C.1 C.2.1 hd rfl (K p l e s m args below meth c H locs D B ls C hS hH hL oL (q_oks_cons.mpr ⟨hz, oS⟩))
theorem q_bipush {z : Int} (hd : decode M.2.1 pc = .ok (.bipush z, 2)) (hz : q_in z) (hb : (Int8.ofInt z).toInt32 = Int32.ofInt z) (K : q_Ev M R mc ms k n (pc + 2) L (.inl z :: st) S I P) : q_Ev M R mc ms k n pc L st S I P := by
  intro p l e s m args below meth c H locs D B ls C hS hH hL oL oS
  exact lv_bipush C.1 C.2.1 hd hb (K p l e s m args below meth c H locs D B ls C hS hH hL oL (q_oks_cons.mpr ⟨hz, oS⟩))
theorem q_sipush {z : Int} (hd : decode M.2.1 pc = .ok (.sipush z, 3)) (hz : q_in z) (hb : (Int16.ofInt z).toInt32 = Int32.ofInt z) (K : q_Ev M R mc ms k n (pc + 3) L (.inl z :: st) S I P) : q_Ev M R mc ms k n pc L st S I P := by
  intro p l e s m args below meth c H locs D B ls C hS hH hL oL oS
  exact lv_sipush C.1 C.2.1 hd hb (K p l e s m args below meth c H locs D B ls C hS hH hL oL (q_oks_cons.mpr ⟨hz, oS⟩))
theorem q_iload_n {f : Fin 4} {x : Int} (hd : decode M.2.1 pc = .ok (.iload_n f, 1)) (hx : L[(f : Nat)]? = some (some (.inl x))) (K : q_Ev M R mc ms k n (pc + 1) L (.inl x :: st) S I P) : q_Ev M R mc ms k n pc L st S I P := by
  intro p l e s m args below meth c H locs D B ls C hS hH hL oL oS
  exact lv_iload_n C.1 C.2.1 hd rfl (hL.get hx) (K p l e s m args below meth c H locs D B ls C hS hH hL oL (q_oks_cons.mpr ⟨oL.get hx, oS⟩))
theorem q_iload {i : Nat} {x : Int} (hd : decode M.2.1 pc = .ok (.iload i, 2)) (hx : L[i]? = some (some (.inl x))) (K : q_Ev M R mc ms k n (pc + 2) L (.inl x :: st) S I P) : q_Ev M R mc ms k n pc L st S I P := by
  intro p l e s m args below meth c H locs D B ls C hS hH hL oL oS
  exact lv_iload C.1 C.2.1 hd (hL.get hx) (K p l e s m args below meth c H locs D B ls C hS hH hL oL (q_oks_cons.mpr ⟨oL.get hx, oS⟩))
theorem q_aload_n {f : Fin 4} {a : Nat} (hd : decode M.2.1 pc = .ok (.aload_n f, 1)) (hx : L[(f : Nat)]? = some (some (.inr (some a)))) (K : q_Ev M R mc ms k n (pc + 1) L (.inr (some a) :: st) S I P) : q_Ev M R mc ms k n pc L st S I P := by
  intro p l e s m args below meth c H locs D B ls C hS hH hL oL oS
  exact lv_aload_n C.1 C.2.1 hd rfl (hL.get hx) (K p l e s m args below meth c H locs D B ls C hS hH hL oL (q_oks_cons.mpr ⟨oL.get hx, oS⟩))
theorem q_aload {i : Nat} {a : Nat} (hd : decode M.2.1 pc = .ok (.aload i, 2)) (hx : L[i]? = some (some (.inr (some a)))) (K : q_Ev M R mc ms k n (pc + 2) L (.inr (some a) :: st) S I P) : q_Ev M R mc ms k n pc L st S I P := by
  intro p l e s m args below meth c H locs D B ls C hS hH hL oL oS
  exact lv_aload C.1 C.2.1 hd (hL.get hx) (K p l e s m args below meth c H locs D B ls C hS hH hL oL (q_oks_cons.mpr ⟨oL.get hx, oS⟩))
theorem q_istore_n {f : Fin 4} {x : Int} (hd : decode M.2.1 pc = .ok (.istore_n f, 1)) (hi : (f : Nat) < M.2.2.1) (K : q_Ev M R mc ms k n (pc + 1) (L.set (f : Nat) (some (.inl x))) st S I P) : q_Ev M R mc ms k n pc L (.inl x :: st) S I P := by
  intro p l e s m args below meth c H locs D B ls C hS hH hL oL oS
  have o := q_oks_cons.mp oS
  exact lv_istore_n C.1 C.2.1 hd rfl hL.lv hi rfl fun ls' h' => K p l e s m args below meth c H locs D B ls' C hS hH (q_has.set h') (oL.set o.1) o.2
theorem q_istore {i : Nat} {x : Int} (hd : decode M.2.1 pc = .ok (.istore i, 2)) (hi : i < M.2.2.1) (K : q_Ev M R mc ms k n (pc + 2) (L.set i (some (.inl x))) st S I P) : q_Ev M R mc ms k n pc L (.inl x :: st) S I P := by
  intro p l e s m args below meth c H locs D B ls C hS hH hL oL oS
  have o := q_oks_cons.mp oS
  exact lv_istore C.1 C.2.1 hd hL.lv hi rfl fun ls' h' => K p l e s m args below meth c H locs D B ls' C hS hH (q_has.set h') (oL.set o.1) o.2
theorem q_astore_n {f : Fin 4} {a : Nat} (hd : decode M.2.1 pc = .ok (.astore_n f, 1)) (hi : (f : Nat) < M.2.2.1) (K : q_Ev M R mc ms k n (pc + 1) (L.set (f : Nat) (some (.inr (some a)))) st S I P) : q_Ev M R mc ms k n pc L (.inr (some a) :: st) S I P := by
  intro p l e s m args below meth c H locs D B ls C hS hH hL oL oS
  have o := q_oks_cons.mp oS
  exact lv_astore_n C.1 C.2.1 hd rfl hL.lv hi rfl fun ls' h' => K p l e s m args below meth c H locs D B ls' C hS hH (q_has.set (v := .inr (some a)) h') (oL.set o.1) o.2
theorem q_astore {i : Nat} {a : Nat} (hd : decode M.2.1 pc = .ok (.astore i, 2)) (hi : i < M.2.2.1) (K : q_Ev M R mc ms k n (pc + 2) (L.set i (some (.inr (some a)))) st S I P) : q_Ev M R mc ms k n pc L (.inr (some a) :: st) S I P := by
  intro p l e s m args below meth c H locs D B ls C hS hH hL oL oS
  have o := q_oks_cons.mp oS
  exact lv_astore C.1 C.2.1 hd hL.lv hi rfl fun ls' h' => K p l e s m args below meth c H locs D B ls' C hS hH (q_has.set (v := .inr (some a)) h') (oL.set o.1) o.2
theorem q_iinc {i : Nat} {z x y : Int} (hd : decode M.2.1 pc = .ok (.iinc i z, 3)) (hx : L[i]? = some (some (.inl x))) (hi : i < M.2.2.1) (hy : x + z = y) (hr : q_in y) (K : q_Ev M R mc ms k n (pc + 3) (L.set i (some (.inl y))) st S I P) : q_Ev M R mc ms k n pc L st S I P := by
  intro p l e s m args below meth c H locs D B ls C hS hH hL oL oS
  subst hy
  obtain ⟨j, hj⟩ := List.getElem?_of_mem (q_ps_mem (B := B) hx)
  exact lv_iinc C.1 C.2.1 hd hL.lv hj (Int32.ofInt_add x z).symm hi rfl fun ls' h' => K p l e s m args below meth c H locs D B ls' C hS hH (q_has.set (v := .inl (x + z)) h') (oL.set hr) oS
theorem q_iadd {x y z : Int} (hd : decode M.2.1 pc = .ok (.iadd, 1)) (hz : x + y = z) (hr : q_in z) (K : q_Ev M R mc ms k n (pc + 1) L (.inl z :: st) S I P) : q_Ev M R mc ms k n pc L (.inl y :: .inl x :: st) S I P := by
  intro p l e s m args below meth c H locs D B ls C hS hH hL oL oS
  subst hz
  have o := q_oks_cons.mp (q_oks_cons.mp oS).2
  refine lv_iadd C.1 C.2.1 hd ?_
  rw [← Int32.ofInt_add]
  exact K p l e s m args below meth c H locs D B ls C hS hH hL oL (q_oks_cons.mpr ⟨hr, o.2⟩)
theorem q_isub {x y z : Int} (hd : decode M.2.1 pc = .ok (.isub, 1)) (hz : x - y = z) (hr : q_in z) (K : q_Ev M R mc ms k n (pc + 1) L (.inl z :: st) S I P) : q_Ev M R mc ms k n pc L (.inl y :: .inl x :: st) S I P := by
  intro p l e s m args below meth c H locs D B ls C hS hH hL oL oS
  subst hz
  have o := q_oks_cons.mp (q_oks_cons.mp oS).2
  refine lv_isub C.1 C.2.1 hd ?_
  rw [← Int32.ofInt_sub]
  exact K p l e s m args below meth c H locs D B ls C hS hH hL oL (q_oks_cons.mpr ⟨hr, o.2⟩)
theorem q_imul {x y z : Int} (hd : decode M.2.1 pc = .ok (.imul, 1)) (hz : x * y = z) (hr : q_in z) (K : q_Ev M R mc ms k n (pc + 1) L (.inl z :: st) S I P) : q_Ev M R mc ms k n pc L (.inl y :: .inl x :: st) S I P := by
  intro p l e s m args below meth c H locs D B ls C hS hH hL oL oS
  subst hz
  have o := q_oks_cons.mp (q_oks_cons.mp oS).2
  refine lv_imul C.1 C.2.1 hd ?_
  rw [← Int32.ofInt_mul]
  exact K p l e s m args below meth c H locs D B ls C hS hH hL oL (q_oks_cons.mpr ⟨hr, o.2⟩)
theorem q_tdiv_in {x y : Int} (hx : q_in x) (hy : 0 < y) : q_in (x.tdiv y) := by
  have h1 := Int.natAbs_tdiv x y
  have h2 : (x.tdiv y).natAbs ≤ x.natAbs := by rw [h1]; exact Nat.div_le_self _ _
  by_cases hx0 : 0 ≤ x
  · have h3 : 0 ≤ x.tdiv y := Int.tdiv_nonneg hx0 (by omega)
    exact ⟨by omega, by have := hx.2; omega⟩
  · have h3 : (-x).tdiv y = -(x.tdiv y) := Int.neg_tdiv ..
    have h4 : 0 ≤ (-x).tdiv y := Int.tdiv_nonneg (by omega) (by omega)
    exact ⟨by have := hx.1; omega, by omega⟩
theorem q_div32 {x y : Int} (ox : q_in x) (oy : q_in y) (hy : 0 < y) : Int32.ofInt x / Int32.ofInt y = Int32.ofInt (x.tdiv y) := by
  have hne : Int32.ofInt y ≠ -1 := by
    intro h
    have h2 := congrArg Int32.toInt h
    rw [q_toInt oy] at h2
    have h1 : (-1 : Int32).toInt = -1 := by decide
    rw [h1] at h2
    omega
  rw [← Int32.toInt_inj, Int32.toInt_div_of_ne_right _ _ hne, q_toInt ox, q_toInt oy, q_toInt (q_tdiv_in ox hy)]
theorem q_idiv {x y : Int} (hd : decode M.2.1 pc = .ok (.idiv, 1)) (hy : 0 < y) (K : q_Ev M R mc ms k n (pc + 1) L (.inl (x.tdiv y) :: st) S I P) : q_Ev M R mc ms k n pc L (.inl y :: .inl x :: st) S I P := by
  intro p l e s m args below meth c H locs D B ls C hS hH hL oL oS
  have oy : q_in y := (q_oks_cons.mp oS).1
  have o := q_oks_cons.mp (q_oks_cons.mp oS).2
  have ox : q_in x := o.1
  refine lv_idiv C.1 C.2.1 hd (fun h => ?_) ?_
  · rw [q_ofInt0, q_eq oy q_in0] at h; omega
  rw [q_div32 ox oy hy]
  exact K p l e s m args below meth c H locs D B ls C hS hH hL oL (q_oks_cons.mpr ⟨q_tdiv_in ox hy, o.2⟩)
theorem q_irem {x y : Int} (hd : decode M.2.1 pc = .ok (.irem, 1)) (hy : 0 < y) (K : q_Ev M R mc ms k n (pc + 1) L (.inl (x.tmod y) :: st) S I P) : q_Ev M R mc ms k n pc L (.inl y :: .inl x :: st) S I P := by
  intro p l e s m args below meth c H locs D B ls C hS hH hL oL oS
  have oy : q_in y := (q_oks_cons.mp oS).1
  have o := q_oks_cons.mp (q_oks_cons.mp oS).2
  have ox : q_in x := o.1
  have hb := tmod_bounds (a := x) hy
  have hr : q_in (x.tmod y) := by unfold q_in at *; omega
  have e1 : Int32.ofInt x - Int32.ofInt x / Int32.ofInt y * Int32.ofInt y = Int32.ofInt (x.tmod y) := by
    rw [← Int32.toInt_inj, rem_toInt, q_toInt ox, q_toInt oy, q_toInt hr]
  refine lv_irem C.1 C.2.1 hd (fun h => ?_) ?_
  · rw [q_ofInt0, q_eq oy q_in0] at h; omega
  rw [e1]
  exact K p l e s m args below meth c H locs D B ls C hS hH hL oL (q_oks_cons.mpr ⟨hr, o.2⟩)
theorem q_iand {x y : Int} (hd : decode M.2.1 pc = .ok (.iand, 1)) (K : ∀ z, q_in z → q_Ev M R mc ms k n (pc + 1) L (.inl z :: st) S I P) : q_Ev M R mc ms k n pc L (.inl y :: .inl x :: st) S I P := by
  intro p l e s m args below meth c H locs D B ls C hS hH hL oL oS
  have o := q_oks_cons.mp (q_oks_cons.mp oS).2
  refine lv_iand C.1 C.2.1 hd ?_
  have hz : q_in (Int32.ofInt x &&& Int32.ofInt y).toInt := ⟨by have := Int32.le_toInt (Int32.ofInt x &&& Int32.ofInt y); omega, by have := Int32.toInt_lt (Int32.ofInt x &&& Int32.ofInt y); omega⟩
  have K1 := K _ hz p l e s m args below meth c H locs D B ls C hS hH hL oL (q_oks_cons.mpr ⟨hz, o.2⟩)
  rw [show (Int32.ofInt x &&& Int32.ofInt y) = Int32.ofInt (Int32.ofInt x &&& Int32.ofInt y).toInt from (Int32.ofInt_toInt _).symm]
  exact K1
theorem q_dup {v : qV} (hd : decode M.2.1 pc = .ok (.dup, 1)) (K : q_Ev M R mc ms k n (pc + 1) L (v :: v :: st) S I P) : q_Ev M R mc ms k n pc L (v :: st) S I P := by
  intro p l e s m args below meth c H locs D B ls C hS hH hL oL oS
  have o := q_oks_cons.mp oS
  exact lv_dup C.1 C.2.1 hd (q_v_cat B v) (K p l e s m args below meth c H locs D B ls C hS hH hL oL (q_oks_cons.mpr ⟨o.1, oS⟩))
theorem q_pop {v : qV} (hd : decode M.2.1 pc = .ok (.pop, 1)) (K : q_Ev M R mc ms k n (pc + 1) L st S I P) : q_Ev M R mc ms k n pc L (v :: st) S I P := by
  intro p l e s m args below meth c H locs D B ls C hS hH hL oL oS
  have o := q_oks_cons.mp oS
  exact lv_pop C.1 C.2.1 hd (q_v_cat B v) (K p l e s m args below meth c H locs D B ls C hS hH hL oL o.2)
theorem q_goto {off : Int} {tgt : Nat} (hd : decode M.2.1 pc = .ok (.goto off, 3)) (ht : (pc : Int) + off = (tgt : Int)) (K : q_Ev M R mc ms k n tgt L st S I P) : q_Ev M R mc ms k n pc L st S I P := by
  intro p l e s m args below meth c H locs D B ls C hS hH hL oL oS
  exact lv_goto C.1 C.2.1 hd ht (K p l e s m args below meth c H locs D B ls C hS hH hL oL oS)
theorem q_icmp_eq {x y : Int} {off : Int} {tgt : Nat} (hd : decode M.2.1 pc = .ok (.if_icmp .eq off, 3)) (ht : (pc : Int) + off = (tgt : Int)) (kt : x = y → q_Ev M R mc ms k n tgt L st S I P) (kf : ¬ x = y → q_Ev M R mc ms k n (pc + 3) L st S I P) : q_Ev M R mc ms k n pc L (.inl y :: .inl x :: st) S I P := by
  intro p l e s m args below meth c H locs D B ls C hS hH hL oL oS
  have oy : q_in y := (q_oks_cons.mp oS).1
  have o := q_oks_cons.mp (q_oks_cons.mp oS).2
  have ox : q_in x := o.1
  have kt := fun h => kt h p l e s m args below meth c H locs D B ls C hS hH hL oL o.2
  have kf := fun h => kf h p l e s m args below meth c H locs D B ls C hS hH hL oL o.2
  exact lv_icmp_eq C.1 C.2.1 hd ht (fun h => kt ((q_eq ox oy).mp h)) (fun h => kf fun z => h ((q_eq ox oy).mpr z))
theorem q_if_eq {x : Int} {off : Int} {tgt : Nat} (hd : decode M.2.1 pc = .ok (.ifCond .eq off, 3)) (ht : (pc : Int) + off = (tgt : Int)) (kt : x = 0 → q_Ev M R mc ms k n tgt L st S I P) (kf : ¬ x = 0 → q_Ev M R mc ms k n (pc + 3) L st S I P) : q_Ev M R mc ms k n pc L (.inl x :: st) S I P := by
  intro p l e s m args below meth c H locs D B ls C hS hH hL oL oS
  have oy : q_in 0 := q_in0
  have o := q_oks_cons.mp oS
  have ox : q_in x := o.1
  have kt := fun h => kt h p l e s m args below meth c H locs D B ls C hS hH hL oL o.2
  have kf := fun h => kf h p l e s m args below meth c H locs D B ls C hS hH hL oL o.2
  exact lv_if_eq C.1 C.2.1 hd ht (fun h => kt ((q_eq ox oy).mp h)) (fun h => kf fun z => h ((q_eq ox oy).mpr z))
theorem q_icmp_ne {x y : Int} {off : Int} {tgt : Nat} (hd : decode M.2.1 pc = .ok (.if_icmp .ne off, 3)) (ht : (pc : Int) + off = (tgt : Int)) (kt : ¬ x = y → q_Ev M R mc ms k n tgt L st S I P) (kf : x = y → q_Ev M R mc ms k n (pc + 3) L st S I P) : q_Ev M R mc ms k n pc L (.inl y :: .inl x :: st) S I P := by
  intro p l e s m args below meth c H locs D B ls C hS hH hL oL oS
  have oy : q_in y := (q_oks_cons.mp oS).1
  have o := q_oks_cons.mp (q_oks_cons.mp oS).2
  have ox : q_in x := o.1
  have kt := fun h => kt h p l e s m args below meth c H locs D B ls C hS hH hL oL o.2
  have kf := fun h => kf h p l e s m args below meth c H locs D B ls C hS hH hL oL o.2
  exact lv_icmp_ne C.1 C.2.1 hd ht (fun h => kt fun z => h ((q_eq ox oy).mpr z)) (fun h => kf ((q_eq ox oy).mp h))
theorem q_if_ne {x : Int} {off : Int} {tgt : Nat} (hd : decode M.2.1 pc = .ok (.ifCond .ne off, 3)) (ht : (pc : Int) + off = (tgt : Int)) (kt : ¬ x = 0 → q_Ev M R mc ms k n tgt L st S I P) (kf : x = 0 → q_Ev M R mc ms k n (pc + 3) L st S I P) : q_Ev M R mc ms k n pc L (.inl x :: st) S I P := by
  intro p l e s m args below meth c H locs D B ls C hS hH hL oL oS
  have oy : q_in 0 := q_in0
  have o := q_oks_cons.mp oS
  have ox : q_in x := o.1
  have kt := fun h => kt h p l e s m args below meth c H locs D B ls C hS hH hL oL o.2
  have kf := fun h => kf h p l e s m args below meth c H locs D B ls C hS hH hL oL o.2
  exact lv_if_ne C.1 C.2.1 hd ht (fun h => kt fun z => h ((q_eq ox oy).mpr z)) (fun h => kf ((q_eq ox oy).mp h))
theorem q_icmp_lt {x y : Int} {off : Int} {tgt : Nat} (hd : decode M.2.1 pc = .ok (.if_icmp .lt off, 3)) (ht : (pc : Int) + off = (tgt : Int)) (kt : x < y → q_Ev M R mc ms k n tgt L st S I P) (kf : ¬ x < y → q_Ev M R mc ms k n (pc + 3) L st S I P) : q_Ev M R mc ms k n pc L (.inl y :: .inl x :: st) S I P := by
  intro p l e s m args below meth c H locs D B ls C hS hH hL oL oS
  have oy : q_in y := (q_oks_cons.mp oS).1
  have o := q_oks_cons.mp (q_oks_cons.mp oS).2
  have ox : q_in x := o.1
  have kt := fun h => kt h p l e s m args below meth c H locs D B ls C hS hH hL oL o.2
  have kf := fun h => kf h p l e s m args below meth c H locs D B ls C hS hH hL oL o.2
  exact lv_icmp_lt C.1 C.2.1 hd ht (fun h => kt ((q_lt ox oy).mp h)) (fun h => kf fun z => h ((q_lt ox oy).mpr z))
theorem q_if_lt {x : Int} {off : Int} {tgt : Nat} (hd : decode M.2.1 pc = .ok (.ifCond .lt off, 3)) (ht : (pc : Int) + off = (tgt : Int)) (kt : x < 0 → q_Ev M R mc ms k n tgt L st S I P) (kf : ¬ x < 0 → q_Ev M R mc ms k n (pc + 3) L st S I P) : q_Ev M R mc ms k n pc L (.inl x :: st) S I P := by
  intro p l e s m args below meth c H locs D B ls C hS hH hL oL oS
  have oy : q_in 0 := q_in0
  have o := q_oks_cons.mp oS
  have ox : q_in x := o.1
  have kt := fun h => kt h p l e s m args below meth c H locs D B ls C hS hH hL oL o.2
  have kf := fun h => kf h p l e s m args below meth c H locs D B ls C hS hH hL oL o.2
  exact lv_if_lt C.1 C.2.1 hd ht (fun h => kt ((q_lt ox oy).mp h)) (fun h => kf fun z => h ((q_lt ox oy).mpr z))
theorem q_icmp_ge {x y : Int} {off : Int} {tgt : Nat} (hd : decode M.2.1 pc = .ok (.if_icmp .ge off, 3)) (ht : (pc : Int) + off = (tgt : Int)) (kt : y ≤ x → q_Ev M R mc ms k n tgt L st S I P) (kf : ¬ y ≤ x → q_Ev M R mc ms k n (pc + 3) L st S I P) : q_Ev M R mc ms k n pc L (.inl y :: .inl x :: st) S I P := by
  intro p l e s m args below meth c H locs D B ls C hS hH hL oL oS
  have oy : q_in y := (q_oks_cons.mp oS).1
  have o := q_oks_cons.mp (q_oks_cons.mp oS).2
  have ox : q_in x := o.1
  have kt := fun h => kt h p l e s m args below meth c H locs D B ls C hS hH hL oL o.2
  have kf := fun h => kf h p l e s m args below meth c H locs D B ls C hS hH hL oL o.2
  exact lv_icmp_ge C.1 C.2.1 hd ht (fun h => kt ((q_le oy ox).mp h)) (fun h => kf fun z => h ((q_le oy ox).mpr z))
theorem q_if_ge {x : Int} {off : Int} {tgt : Nat} (hd : decode M.2.1 pc = .ok (.ifCond .ge off, 3)) (ht : (pc : Int) + off = (tgt : Int)) (kt : 0 ≤ x → q_Ev M R mc ms k n tgt L st S I P) (kf : ¬ 0 ≤ x → q_Ev M R mc ms k n (pc + 3) L st S I P) : q_Ev M R mc ms k n pc L (.inl x :: st) S I P := by
  intro p l e s m args below meth c H locs D B ls C hS hH hL oL oS
  have oy : q_in 0 := q_in0
  have o := q_oks_cons.mp oS
  have ox : q_in x := o.1
  have kt := fun h => kt h p l e s m args below meth c H locs D B ls C hS hH hL oL o.2
  have kf := fun h => kf h p l e s m args below meth c H locs D B ls C hS hH hL oL o.2
  exact lv_if_ge C.1 C.2.1 hd ht (fun h => kt ((q_le oy ox).mp h)) (fun h => kf fun z => h ((q_le oy ox).mpr z))
theorem q_icmp_gt {x y : Int} {off : Int} {tgt : Nat} (hd : decode M.2.1 pc = .ok (.if_icmp .gt off, 3)) (ht : (pc : Int) + off = (tgt : Int)) (kt : y < x → q_Ev M R mc ms k n tgt L st S I P) (kf : ¬ y < x → q_Ev M R mc ms k n (pc + 3) L st S I P) : q_Ev M R mc ms k n pc L (.inl y :: .inl x :: st) S I P := by
  intro p l e s m args below meth c H locs D B ls C hS hH hL oL oS
  have oy : q_in y := (q_oks_cons.mp oS).1
  have o := q_oks_cons.mp (q_oks_cons.mp oS).2
  have ox : q_in x := o.1
  have kt := fun h => kt h p l e s m args below meth c H locs D B ls C hS hH hL oL o.2
  have kf := fun h => kf h p l e s m args below meth c H locs D B ls C hS hH hL oL o.2
  exact lv_icmp_gt C.1 C.2.1 hd ht (fun h => kt ((q_lt oy ox).mp h)) (fun h => kf fun z => h ((q_lt oy ox).mpr z))
theorem q_if_gt {x : Int} {off : Int} {tgt : Nat} (hd : decode M.2.1 pc = .ok (.ifCond .gt off, 3)) (ht : (pc : Int) + off = (tgt : Int)) (kt : 0 < x → q_Ev M R mc ms k n tgt L st S I P) (kf : ¬ 0 < x → q_Ev M R mc ms k n (pc + 3) L st S I P) : q_Ev M R mc ms k n pc L (.inl x :: st) S I P := by
  intro p l e s m args below meth c H locs D B ls C hS hH hL oL oS
  have oy : q_in 0 := q_in0
  have o := q_oks_cons.mp oS
  have ox : q_in x := o.1
  have kt := fun h => kt h p l e s m args below meth c H locs D B ls C hS hH hL oL o.2
  have kf := fun h => kf h p l e s m args below meth c H locs D B ls C hS hH hL oL o.2
  exact lv_if_gt C.1 C.2.1 hd ht (fun h => kt ((q_lt oy ox).mp h)) (fun h => kf fun z => h ((q_lt oy ox).mpr z))
theorem q_icmp_le {x y : Int} {off : Int} {tgt : Nat} (hd : decode M.2.1 pc = .ok (.if_icmp .le off, 3)) (ht : (pc : Int) + off = (tgt : Int)) (kt : x ≤ y → q_Ev M R mc ms k n tgt L st S I P) (kf : ¬ x ≤ y → q_Ev M R mc ms k n (pc + 3) L st S I P) : q_Ev M R mc ms k n pc L (.inl y :: .inl x :: st) S I P := by
  intro p l e s m args below meth c H locs D B ls C hS hH hL oL oS
  have oy : q_in y := (q_oks_cons.mp oS).1
  have o := q_oks_cons.mp (q_oks_cons.mp oS).2
  have ox : q_in x := o.1
  have kt := fun h => kt h p l e s m args below meth c H locs D B ls C hS hH hL oL o.2
  have kf := fun h => kf h p l e s m args below meth c H locs D B ls C hS hH hL oL o.2
  exact lv_icmp_le C.1 C.2.1 hd ht (fun h => kt ((q_le ox oy).mp h)) (fun h => kf fun z => h ((q_le ox oy).mpr z))
theorem q_if_le {x : Int} {off : Int} {tgt : Nat} (hd : decode M.2.1 pc = .ok (.ifCond .le off, 3)) (ht : (pc : Int) + off = (tgt : Int)) (kt : x ≤ 0 → q_Ev M R mc ms k n tgt L st S I P) (kf : ¬ x ≤ 0 → q_Ev M R mc ms k n (pc + 3) L st S I P) : q_Ev M R mc ms k n pc L (.inl x :: st) S I P := by
  intro p l e s m args below meth c H locs D B ls C hS hH hL oL oS
  have oy : q_in 0 := q_in0
  have o := q_oks_cons.mp oS
  have ox : q_in x := o.1
  have kt := fun h => kt h p l e s m args below meth c H locs D B ls C hS hH hL oL o.2
  have kf := fun h => kf h p l e s m args below meth c H locs D B ls C hS hH hL oL o.2
  exact lv_if_le C.1 C.2.1 hd ht (fun h => kt ((q_le ox oy).mp h)) (fun h => kf fun z => h ((q_le ox oy).mpr z))
theorem q_tableOut {dflt lo hi : Int} {offs : Array Int} {len : Nat} {x : Int} {tgt : Nat} (hd : decode M.2.1 pc = .ok (.tableswitch dflt lo hi offs, len)) (h : x < lo ∨ hi < x) (ht : (pc : Int) + dflt = (tgt : Int)) (K : q_Ev M R mc ms k n tgt L st S I P) : q_Ev M R mc ms k n pc L (.inl x :: st) S I P := by
  intro p l e s m args below meth c H locs D B ls C hS hH hL oL oS
  have o := q_oks_cons.mp oS
  have ox : q_in x := o.1
  exact lv_tableOut C.1 C.2.1 hd (by rw [q_toInt ox]; exact h) ht (K p l e s m args below meth c H locs D B ls C hS hH hL oL o.2)
theorem q_tableIn {dflt lo hi : Int} {offs : Array Int} {len : Nat} {x : Int} {off : Int} {tgt : Nat} (hd : decode M.2.1 pc = .ok (.tableswitch dflt lo hi offs, len)) (h1 : ¬ x < lo) (h2 : ¬ hi < x) (ho : offs[(x - lo).toNat]? = some off) (ht : (pc : Int) + off = (tgt : Int)) (K : q_Ev M R mc ms k n tgt L st S I P) : q_Ev M R mc ms k n pc L (.inl x :: st) S I P := by
  intro p l e s m args below meth c H locs D B ls C hS hH hL oL oS
  have o := q_oks_cons.mp oS
  have ox : q_in x := o.1
  exact lv_tableIn C.1 C.2.1 hd (by rw [q_toInt ox]; exact h1) (by rw [q_toInt ox]; exact h2) (by rw [q_toInt ox]; exact ho) ht (K p l e s m args below meth c H locs D B ls C hS hH hL oL o.2)
theorem q_lookup {dflt : Int} {ps : Array (Int × Int)} {len : Nat} {x : Int} {off : Int} {tgt : Nat} (hd : decode M.2.1 pc = .ok (.lookupswitch dflt ps, len)) (hp : (ps.toList.zip (ps.toList.drop 1)).all (fun (a, next) => a.1 < next.1) = true) (ho : Op.lookupswitch.offset ps.toList dflt x = off) (ht : (pc : Int) + off = (tgt : Int)) (K : q_Ev M R mc ms k n tgt L st S I P) : q_Ev M R mc ms k n pc L (.inl x :: st) S I P := by
  intro p l e s m args below meth c H locs D B ls C hS hH hL oL oS
  have o := q_oks_cons.mp oS
  have ox : q_in x := o.1
  exact lv_lookup C.1 C.2.1 hd hp (by rw [q_toInt ox]; exact ho) ht (K p l e s m args below meth c H locs D B ls C hS hH hL oL o.2)
/-- the ends -/
theorem q_iret {x : Int} (hr : M.2.2.2 = some .int) (hd : decode M.2.1 pc = .ok (.ireturn, 1)) (hP : P (some (.inl x)) S I) : q_Ev M R k n k n pc L [.inl x] S I P := by
  intro p l e s m args below meth c H locs D B ls C hS hH hL oL oS
  have o := q_oks_cons.mp oS
  exact W.iret C.1 C.2.1 (C.2.2.2.2.1.trans hr) (fun t ht hW => ⟨⟨some (.inl x), S, I, rfl, fun v hv => by cases hv; exact o.1, hP, by rw [ht]; exact hH.moved hW.alike⟩, hS.F ht⟩) hS.2.2 hd C.2.2.2.2.2.1
theorem q_zret {x : Int} (hr : M.2.2.2 = some .boolean) (hx : x = 0 ∨ x = 1) (hd : decode M.2.1 pc = .ok (.ireturn, 1)) (hP : P (some (.inl x)) S I) : q_Ev M R k n k n pc L [.inl x] S I P := by
  intro p l e s m args below meth c H locs D B ls C hS hH hL oL oS
  have o := q_oks_cons.mp oS
  have hn : narrow .boolean (.int (Int32.ofInt x)) = .int (Int32.ofInt x) := by rcases hx with rfl | rfl <;> decide
  exact W.zret C.1 C.2.1 (C.2.2.2.2.1.trans hr) hn (fun t ht hW => ⟨⟨some (.inl x), S, I, rfl, fun v hv => by cases hv; exact o.1, hP, by rw [ht]; exact hH.moved hW.alike⟩, hS.F ht⟩) hS.2.2 hd C.2.2.2.2.2.1
theorem q_vret (hr : M.2.2.2 = none) (hd : decode M.2.1 pc = .ok (.return_, 1)) (hP : P none S I) : q_Ev M R k n k n pc L [] S I P := by
  intro p l e s m args below meth c H locs D B ls C hS hH hL oL oS
  exact W.vret C.1 C.2.1 (C.2.2.2.2.1.trans hr) (fun t ht hW => ⟨⟨none, S, I, rfl, (fun v hv => nomatch hv), hP, by rw [ht]; exact hH.moved hW.alike⟩, hS.F ht⟩) hS.2.2 hd C.2.2.2.2.2.1
theorem q_widen {k' n' : Nat} (h1 : k ≤ k') (h2 : n ≤ n') (K : q_Ev M R mc ms k' n' pc L st S I P) : q_Ev M R mc ms k n pc L st S I P := by
  intro p l e s m args below meth c H locs D B ls C hS hH hL oL oS
  exact W.widen h1 h2 (K p l e s m args below meth c H locs D B ls C hS hH hL oL oS)
end QR
