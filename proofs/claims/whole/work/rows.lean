section
-- ===== PART A: goes FIRST, ahead of the names: the tables' words, and 'selects' of the private methods out of them =====
/-- a private method of a class that the tables say can be made, by its rows of tables_1 -/
def lw_okq (q : MethodName × Nat) : Prop := (q.1.cls ≠ "java/lang/invoke/MethodHandle" ∧ q.1.cls ≠ "java/lang/invoke/VarHandle") ∧ Cond.instantiable q.1.cls q.2 ∈ tables_1 ∧ Cond.privateMethod q.1 ∈ tables_1 ∧ Cond.instanceMethod q.1 ∈ tables_1
theorem lw_p0 : lw_okq (⟨"RedoQuorum", "refusalOfKeys", "(III)I"⟩, 7) := ⟨⟨by decide +kernel, by decide +kernel⟩, List.mem_of_getElem? (i := 10) (by decide +kernel), List.mem_of_getElem? (i := 169) (by decide +kernel), List.mem_of_getElem? (i := 170) (by decide +kernel)⟩
theorem lw_p1 : lw_okq (⟨"RedoQuorum", "refusalOfTransaction", "(I)I"⟩, 7) := ⟨⟨by decide +kernel, by decide +kernel⟩, List.mem_of_getElem? (i := 10) (by decide +kernel), List.mem_of_getElem? (i := 173) (by decide +kernel), List.mem_of_getElem? (i := 174) (by decide +kernel)⟩
theorem lw_p2 : lw_okq (⟨"RedoQuorum", "touch", "(II)I"⟩, 7) := ⟨⟨by decide +kernel, by decide +kernel⟩, List.mem_of_getElem? (i := 10) (by decide +kernel), List.mem_of_getElem? (i := 188) (by decide +kernel), List.mem_of_getElem? (i := 189) (by decide +kernel)⟩
theorem lw_p3 : lw_okq (⟨"RedoQuorum", "pageThatMayGo", "(I)I"⟩, 7) := ⟨⟨by decide +kernel, by decide +kernel⟩, List.mem_of_getElem? (i := 10) (by decide +kernel), List.mem_of_getElem? (i := 204) (by decide +kernel), List.mem_of_getElem? (i := 205) (by decide +kernel)⟩
theorem lw_p4 : lw_okq (⟨"RedoQuorum", "isAheadOfDurable", "(I)Z"⟩, 7) := ⟨⟨by decide +kernel, by decide +kernel⟩, List.mem_of_getElem? (i := 10) (by decide +kernel), List.mem_of_getElem? (i := 208) (by decide +kernel), List.mem_of_getElem? (i := 209) (by decide +kernel)⟩
theorem lw_p5 : lw_okq (⟨"RedoQuorum", "refusalOfChanges", "(III)I"⟩, 7) := ⟨⟨by decide +kernel, by decide +kernel⟩, List.mem_of_getElem? (i := 10) (by decide +kernel), List.mem_of_getElem? (i := 252) (by decide +kernel), List.mem_of_getElem? (i := 253) (by decide +kernel)⟩
theorem lw_p6 : lw_okq (⟨"RedoQuorum$Log", "add", "(IIIII)I"⟩, 7) := ⟨⟨by decide +kernel, by decide +kernel⟩, List.mem_of_getElem? (i := 18) (by decide +kernel), List.mem_of_getElem? (i := 261) (by decide +kernel), List.mem_of_getElem? (i := 262) (by decide +kernel)⟩
theorem lw_p7 : lw_okq (⟨"RedoQuorum$Log", "firstChange", "(II)I"⟩, 7) := ⟨⟨by decide +kernel, by decide +kernel⟩, List.mem_of_getElem? (i := 18) (by decide +kernel), List.mem_of_getElem? (i := 292) (by decide +kernel), List.mem_of_getElem? (i := 293) (by decide +kernel)⟩
theorem lw_p8 : lw_okq (⟨"RedoQuorum", "raiseDurable", "()V"⟩, 7) := ⟨⟨by decide +kernel, by decide +kernel⟩, List.mem_of_getElem? (i := 10) (by decide +kernel), List.mem_of_getElem? (i := 328) (by decide +kernel), List.mem_of_getElem? (i := 329) (by decide +kernel)⟩
theorem lw_p9 : lw_okq (⟨"RedoQuorum", "completePoint", "()I"⟩, 7) := ⟨⟨by decide +kernel, by decide +kernel⟩, List.mem_of_getElem? (i := 10) (by decide +kernel), List.mem_of_getElem? (i := 332) (by decide +kernel), List.mem_of_getElem? (i := 333) (by decide +kernel)⟩
theorem lw_p10 : lw_okq (⟨"RedoQuorum$Group", "copiesThatReported", "(I)I"⟩, 1) := ⟨⟨by decide +kernel, by decide +kernel⟩, List.mem_of_getElem? (i := 74) (by decide +kernel), List.mem_of_getElem? (i := 340) (by decide +kernel), List.mem_of_getElem? (i := 341) (by decide +kernel)⟩
theorem lw_p11 : lw_okq (⟨"RedoQuorum", "refusalOfCopy", "(II)I"⟩, 7) := ⟨⟨by decide +kernel, by decide +kernel⟩, List.mem_of_getElem? (i := 10) (by decide +kernel), List.mem_of_getElem? (i := 366) (by decide +kernel), List.mem_of_getElem? (i := 367) (by decide +kernel)⟩
theorem lw_p12 : lw_okq (⟨"RedoQuorum", "reachOfLiveCopies", "()I"⟩, 7) := ⟨⟨by decide +kernel, by decide +kernel⟩, List.mem_of_getElem? (i := 10) (by decide +kernel), List.mem_of_getElem? (i := 412) (by decide +kernel), List.mem_of_getElem? (i := 413) (by decide +kernel)⟩
theorem lw_p13 : lw_okq (⟨"RedoQuorum", "rollBackUnended", "()V"⟩, 7) := ⟨⟨by decide +kernel, by decide +kernel⟩, List.mem_of_getElem? (i := 10) (by decide +kernel), List.mem_of_getElem? (i := 442) (by decide +kernel), List.mem_of_getElem? (i := 443) (by decide +kernel)⟩
theorem lw_p14 : lw_okq (⟨"RedoQuorumModel", "placeOf", "(I)I"⟩, 18) := ⟨⟨by decide +kernel, by decide +kernel⟩, List.mem_of_getElem? (i := 500) (by decide +kernel), List.mem_of_getElem? (i := 565) (by decide +kernel), List.mem_of_getElem? (i := 566) (by decide +kernel)⟩
theorem lw_p15 : lw_okq (⟨"RedoQuorumModel", "isActive", "(I)Z"⟩, 18) := ⟨⟨by decide +kernel, by decide +kernel⟩, List.mem_of_getElem? (i := 500) (by decide +kernel), List.mem_of_getElem? (i := 580) (by decide +kernel), List.mem_of_getElem? (i := 581) (by decide +kernel)⟩
def lw_privs_1 : List (MethodName × Nat) := [(⟨"RedoQuorum", "refusalOfKeys", "(III)I"⟩, 7), (⟨"RedoQuorum", "refusalOfTransaction", "(I)I"⟩, 7), (⟨"RedoQuorum", "touch", "(II)I"⟩, 7), (⟨"RedoQuorum", "pageThatMayGo", "(I)I"⟩, 7), (⟨"RedoQuorum", "isAheadOfDurable", "(I)Z"⟩, 7), (⟨"RedoQuorum", "refusalOfChanges", "(III)I"⟩, 7), (⟨"RedoQuorum$Log", "add", "(IIIII)I"⟩, 7), (⟨"RedoQuorum$Log", "firstChange", "(II)I"⟩, 7), (⟨"RedoQuorum", "raiseDurable", "()V"⟩, 7), (⟨"RedoQuorum", "completePoint", "()I"⟩, 7), (⟨"RedoQuorum$Group", "copiesThatReported", "(I)I"⟩, 1), (⟨"RedoQuorum", "refusalOfCopy", "(II)I"⟩, 7), (⟨"RedoQuorum", "reachOfLiveCopies", "()I"⟩, 7), (⟨"RedoQuorum", "rollBackUnended", "()V"⟩, 7), (⟨"RedoQuorumModel", "placeOf", "(I)I"⟩, 18), (⟨"RedoQuorumModel", "isActive", "(I)Z"⟩, 18)]
theorem lw_r1 : ∀ q ∈ lw_privs_1, lw_okq q := List.forall_mem_cons.mpr ⟨lw_p0, List.forall_mem_cons.mpr ⟨lw_p1, List.forall_mem_cons.mpr ⟨lw_p2, List.forall_mem_cons.mpr ⟨lw_p3, List.forall_mem_cons.mpr ⟨lw_p4, List.forall_mem_cons.mpr ⟨lw_p5, List.forall_mem_cons.mpr ⟨lw_p6, List.forall_mem_cons.mpr ⟨lw_p7, List.forall_mem_cons.mpr ⟨lw_p8, List.forall_mem_cons.mpr ⟨lw_p9, List.forall_mem_cons.mpr ⟨lw_p10, List.forall_mem_cons.mpr ⟨lw_p11, List.forall_mem_cons.mpr ⟨lw_p12, List.forall_mem_cons.mpr ⟨lw_p13, List.forall_mem_cons.mpr ⟨lw_p14, List.forall_mem_cons.mpr ⟨lw_p15, fun _ h => absurd h List.not_mem_nil⟩⟩⟩⟩⟩⟩⟩⟩⟩⟩⟩⟩⟩⟩⟩⟩
theorem lw_p16 : lw_okq (⟨"RedoQuorumModel", "locked", "(II)Z"⟩, 18) := ⟨⟨by decide +kernel, by decide +kernel⟩, List.mem_of_getElem? (i := 500) (by decide +kernel), List.mem_of_getElem? (i := 584) (by decide +kernel), List.mem_of_getElem? (i := 585) (by decide +kernel)⟩
theorem lw_p17 : lw_okq (⟨"RedoQuorumModel", "touch", "(II)I"⟩, 18) := ⟨⟨by decide +kernel, by decide +kernel⟩, List.mem_of_getElem? (i := 500) (by decide +kernel), List.mem_of_getElem? (i := 588) (by decide +kernel), List.mem_of_getElem? (i := 589) (by decide +kernel)⟩
theorem lw_p18 : lw_okq (⟨"RedoQuorumModel", "goes", "(I)I"⟩, 18) := ⟨⟨by decide +kernel, by decide +kernel⟩, List.mem_of_getElem? (i := 500) (by decide +kernel), List.mem_of_getElem? (i := 592) (by decide +kernel), List.mem_of_getElem? (i := 593) (by decide +kernel)⟩
theorem lw_p19 : lw_okq (⟨"RedoQuorumModel", "latest", "(I)I"⟩, 18) := ⟨⟨by decide +kernel, by decide +kernel⟩, List.mem_of_getElem? (i := 500) (by decide +kernel), List.mem_of_getElem? (i := 596) (by decide +kernel), List.mem_of_getElem? (i := 597) (by decide +kernel)⟩
theorem lw_p20 : lw_okq (⟨"RedoQuorumModel", "changeUpTo", "(II)I"⟩, 18) := ⟨⟨by decide +kernel, by decide +kernel⟩, List.mem_of_getElem? (i := 500) (by decide +kernel), List.mem_of_getElem? (i := 600) (by decide +kernel), List.mem_of_getElem? (i := 601) (by decide +kernel)⟩
theorem lw_p21 : lw_okq (⟨"RedoQuorumModel", "served", "(II)Z"⟩, 18) := ⟨⟨by decide +kernel, by decide +kernel⟩, List.mem_of_getElem? (i := 500) (by decide +kernel), List.mem_of_getElem? (i := 604) (by decide +kernel), List.mem_of_getElem? (i := 605) (by decide +kernel)⟩
theorem lw_p22 : lw_okq (⟨"RedoQuorumModel", "groupOf", "(I)I"⟩, 18) := ⟨⟨by decide +kernel, by decide +kernel⟩, List.mem_of_getElem? (i := 500) (by decide +kernel), List.mem_of_getElem? (i := 608) (by decide +kernel), List.mem_of_getElem? (i := 609) (by decide +kernel)⟩
theorem lw_p23 : lw_okq (⟨"RedoQuorumModel", "drop", "(I)V"⟩, 18) := ⟨⟨by decide +kernel, by decide +kernel⟩, List.mem_of_getElem? (i := 500) (by decide +kernel), List.mem_of_getElem? (i := 612) (by decide +kernel), List.mem_of_getElem? (i := 613) (by decide +kernel)⟩
theorem lw_p24 : lw_okq (⟨"RedoQuorumModel", "valueUpTo", "(II)I"⟩, 18) := ⟨⟨by decide +kernel, by decide +kernel⟩, List.mem_of_getElem? (i := 500) (by decide +kernel), List.mem_of_getElem? (i := 616) (by decide +kernel), List.mem_of_getElem? (i := 617) (by decide +kernel)⟩
theorem lw_p25 : lw_okq (⟨"RedoQuorumModel", "add", "(IIIIZ)I"⟩, 18) := ⟨⟨by decide +kernel, by decide +kernel⟩, List.mem_of_getElem? (i := 500) (by decide +kernel), List.mem_of_getElem? (i := 624) (by decide +kernel), List.mem_of_getElem? (i := 625) (by decide +kernel)⟩
theorem lw_p26 : lw_okq (⟨"RedoQuorumModel", "finish", "(II)I"⟩, 18) := ⟨⟨by decide +kernel, by decide +kernel⟩, List.mem_of_getElem? (i := 500) (by decide +kernel), List.mem_of_getElem? (i := 636) (by decide +kernel), List.mem_of_getElem? (i := 637) (by decide +kernel)⟩
theorem lw_p27 : lw_okq (⟨"RedoQuorumModel", "rollBack", "(I)I"⟩, 18) := ⟨⟨by decide +kernel, by decide +kernel⟩, List.mem_of_getElem? (i := 500) (by decide +kernel), List.mem_of_getElem? (i := 644) (by decide +kernel), List.mem_of_getElem? (i := 645) (by decide +kernel)⟩
theorem lw_p28 : lw_okq (⟨"RedoQuorumModel", "firstChange", "(II)I"⟩, 18) := ⟨⟨by decide +kernel, by decide +kernel⟩, List.mem_of_getElem? (i := 500) (by decide +kernel), List.mem_of_getElem? (i := 648) (by decide +kernel), List.mem_of_getElem? (i := 649) (by decide +kernel)⟩
theorem lw_p29 : lw_okq (⟨"RedoQuorumModel", "endOf", "(II)I"⟩, 18) := ⟨⟨by decide +kernel, by decide +kernel⟩, List.mem_of_getElem? (i := 500) (by decide +kernel), List.mem_of_getElem? (i := 656) (by decide +kernel), List.mem_of_getElem? (i := 657) (by decide +kernel)⟩
theorem lw_p30 : lw_okq (⟨"RedoQuorumModel", "reportPoint", "(I)V"⟩, 18) := ⟨⟨by decide +kernel, by decide +kernel⟩, List.mem_of_getElem? (i := 500) (by decide +kernel), List.mem_of_getElem? (i := 664) (by decide +kernel), List.mem_of_getElem? (i := 665) (by decide +kernel)⟩
theorem lw_p31 : lw_okq (⟨"RedoQuorumModel", "pointOf", "(I)I"⟩, 18) := ⟨⟨by decide +kernel, by decide +kernel⟩, List.mem_of_getElem? (i := 500) (by decide +kernel), List.mem_of_getElem? (i := 668) (by decide +kernel), List.mem_of_getElem? (i := 669) (by decide +kernel)⟩
def lw_privs_2 : List (MethodName × Nat) := [(⟨"RedoQuorumModel", "locked", "(II)Z"⟩, 18), (⟨"RedoQuorumModel", "touch", "(II)I"⟩, 18), (⟨"RedoQuorumModel", "goes", "(I)I"⟩, 18), (⟨"RedoQuorumModel", "latest", "(I)I"⟩, 18), (⟨"RedoQuorumModel", "changeUpTo", "(II)I"⟩, 18), (⟨"RedoQuorumModel", "served", "(II)Z"⟩, 18), (⟨"RedoQuorumModel", "groupOf", "(I)I"⟩, 18), (⟨"RedoQuorumModel", "drop", "(I)V"⟩, 18), (⟨"RedoQuorumModel", "valueUpTo", "(II)I"⟩, 18), (⟨"RedoQuorumModel", "add", "(IIIIZ)I"⟩, 18), (⟨"RedoQuorumModel", "finish", "(II)I"⟩, 18), (⟨"RedoQuorumModel", "rollBack", "(I)I"⟩, 18), (⟨"RedoQuorumModel", "firstChange", "(II)I"⟩, 18), (⟨"RedoQuorumModel", "endOf", "(II)I"⟩, 18), (⟨"RedoQuorumModel", "reportPoint", "(I)V"⟩, 18), (⟨"RedoQuorumModel", "pointOf", "(I)I"⟩, 18)]
theorem lw_r2 : ∀ q ∈ lw_privs_2, lw_okq q := List.forall_mem_cons.mpr ⟨lw_p16, List.forall_mem_cons.mpr ⟨lw_p17, List.forall_mem_cons.mpr ⟨lw_p18, List.forall_mem_cons.mpr ⟨lw_p19, List.forall_mem_cons.mpr ⟨lw_p20, List.forall_mem_cons.mpr ⟨lw_p21, List.forall_mem_cons.mpr ⟨lw_p22, List.forall_mem_cons.mpr ⟨lw_p23, List.forall_mem_cons.mpr ⟨lw_p24, List.forall_mem_cons.mpr ⟨lw_p25, List.forall_mem_cons.mpr ⟨lw_p26, List.forall_mem_cons.mpr ⟨lw_p27, List.forall_mem_cons.mpr ⟨lw_p28, List.forall_mem_cons.mpr ⟨lw_p29, List.forall_mem_cons.mpr ⟨lw_p30, List.forall_mem_cons.mpr ⟨lw_p31, fun _ h => absurd h List.not_mem_nil⟩⟩⟩⟩⟩⟩⟩⟩⟩⟩⟩⟩⟩⟩⟩⟩
theorem lw_p32 : lw_okq (⟨"RedoQuorumModel", "advance", "()V"⟩, 18) := ⟨⟨by decide +kernel, by decide +kernel⟩, List.mem_of_getElem? (i := 500) (by decide +kernel), List.mem_of_getElem? (i := 672) (by decide +kernel), List.mem_of_getElem? (i := 673) (by decide +kernel)⟩
theorem lw_p33 : lw_okq (⟨"RedoQuorumModel", "complete", "()I"⟩, 18) := ⟨⟨by decide +kernel, by decide +kernel⟩, List.mem_of_getElem? (i := 500) (by decide +kernel), List.mem_of_getElem? (i := 676) (by decide +kernel), List.mem_of_getElem? (i := 677) (by decide +kernel)⟩
theorem lw_p34 : lw_okq (⟨"RedoQuorumModel", "groupPoint", "(I)I"⟩, 18) := ⟨⟨by decide +kernel, by decide +kernel⟩, List.mem_of_getElem? (i := 500) (by decide +kernel), List.mem_of_getElem? (i := 680) (by decide +kernel), List.mem_of_getElem? (i := 681) (by decide +kernel)⟩
theorem lw_p35 : lw_okq (⟨"RedoQuorumModel", "closeUpTo", "(I)I"⟩, 18) := ⟨⟨by decide +kernel, by decide +kernel⟩, List.mem_of_getElem? (i := 500) (by decide +kernel), List.mem_of_getElem? (i := 684) (by decide +kernel), List.mem_of_getElem? (i := 685) (by decide +kernel)⟩
theorem lw_p36 : lw_okq (⟨"RedoQuorumModel", "join", "(II)I"⟩, 18) := ⟨⟨by decide +kernel, by decide +kernel⟩, List.mem_of_getElem? (i := 500) (by decide +kernel), List.mem_of_getElem? (i := 695) (by decide +kernel), List.mem_of_getElem? (i := 696) (by decide +kernel)⟩
theorem lw_p37 : lw_okq (⟨"RedoQuorumModel", "live", "(I)I"⟩, 18) := ⟨⟨by decide +kernel, by decide +kernel⟩, List.mem_of_getElem? (i := 500) (by decide +kernel), List.mem_of_getElem? (i := 707) (by decide +kernel), List.mem_of_getElem? (i := 708) (by decide +kernel)⟩
theorem lw_p38 : lw_okq (⟨"RedoQuorumModel", "survives", "(I)Z"⟩, 18) := ⟨⟨by decide +kernel, by decide +kernel⟩, List.mem_of_getElem? (i := 500) (by decide +kernel), List.mem_of_getElem? (i := 719) (by decide +kernel), List.mem_of_getElem? (i := 720) (by decide +kernel)⟩
theorem lw_p39 : lw_okq (⟨"RedoQuorumModel", "low", "(I)I"⟩, 18) := ⟨⟨by decide +kernel, by decide +kernel⟩, List.mem_of_getElem? (i := 500) (by decide +kernel), List.mem_of_getElem? (i := 743) (by decide +kernel), List.mem_of_getElem? (i := 744) (by decide +kernel)⟩
def lw_privs_3 : List (MethodName × Nat) := [(⟨"RedoQuorumModel", "advance", "()V"⟩, 18), (⟨"RedoQuorumModel", "complete", "()I"⟩, 18), (⟨"RedoQuorumModel", "groupPoint", "(I)I"⟩, 18), (⟨"RedoQuorumModel", "closeUpTo", "(I)I"⟩, 18), (⟨"RedoQuorumModel", "join", "(II)I"⟩, 18), (⟨"RedoQuorumModel", "live", "(I)I"⟩, 18), (⟨"RedoQuorumModel", "survives", "(I)Z"⟩, 18), (⟨"RedoQuorumModel", "low", "(I)I"⟩, 18)]
theorem lw_r3 : ∀ q ∈ lw_privs_3, lw_okq q := List.forall_mem_cons.mpr ⟨lw_p32, List.forall_mem_cons.mpr ⟨lw_p33, List.forall_mem_cons.mpr ⟨lw_p34, List.forall_mem_cons.mpr ⟨lw_p35, List.forall_mem_cons.mpr ⟨lw_p36, List.forall_mem_cons.mpr ⟨lw_p37, List.forall_mem_cons.mpr ⟨lw_p38, List.forall_mem_cons.mpr ⟨lw_p39, fun _ h => absurd h List.not_mem_nil⟩⟩⟩⟩⟩⟩⟩⟩
def lw_privs : List (MethodName × Nat) := lw_privs_1 ++ (lw_privs_2 ++ (lw_privs_3))
def lw_tbl : List Cond := k2_sels lw_privs ++ tables_1
theorem lw_privs_ok : ∀ q ∈ lw_privs, lw_okq q := by
  show ∀ q ∈ lw_privs_1 ++ (lw_privs_2 ++ (lw_privs_3)), lw_okq q
  exact List.forall_mem_append.mpr ⟨lw_r1, List.forall_mem_append.mpr ⟨lw_r2, lw_r3⟩⟩
end
section
/-! Names: the fields of each kind of object, the methods, the words of the tables that are used (by program, wip/whole/gen.py). -/
def q_T0 : u_T := fun k => match k with
  | 0 => ("RedoQuorum", "log", "LRedoQuorum$Log;", true)
  | 1 => ("RedoQuorum", "transactions", "LRedoQuorum$Transactions;", true)
  | 2 => ("RedoQuorum", "groups", "[LRedoQuorum$Group;", true)
  | 3 => ("RedoQuorum", "cache", "LRedoQuorum$Cache;", true)
  | 4 => ("RedoQuorum", "views", "[I", true)
  | 5 => ("RedoQuorum", "up", "Z", false)
  | _ => ("RedoQuorum", "durable", "I", false)
def q_y0 : Nat → FieldType := fun k => match k with
  | 0 => .object "RedoQuorum$Log"
  | 1 => .object "RedoQuorum$Transactions"
  | 2 => .array (.object "RedoQuorum$Group")
  | 3 => .object "RedoQuorum$Cache"
  | 4 => .array .int
  | 5 => .boolean
  | _ => .int
def q_T1 : u_T := fun k => match k with
  | 0 => ("RedoQuorum$Log", "kind", "[I", true)
  | 1 => ("RedoQuorum$Log", "owner", "[I", true)
  | 2 => ("RedoQuorum$Log", "key", "[I", true)
  | 3 => ("RedoQuorum$Log", "value", "[I", true)
  | 4 => ("RedoQuorum$Log", "group", "[I", true)
  | 5 => ("RedoQuorum$Log", "end", "[I", true)
  | _ => ("RedoQuorum$Log", "size", "I", false)
def q_y1 : Nat → FieldType := fun k => match k with
  | 0 => .array .int
  | 1 => .array .int
  | 2 => .array .int
  | 3 => .array .int
  | 4 => .array .int
  | 5 => .array .int
  | _ => .int
def q_T2 : u_T := fun k => match k with
  | 0 => ("RedoQuorum$Transactions", "active", "[Z", true)
  | 1 => ("RedoQuorum$Transactions", "holder", "[I", true)
  | 2 => ("RedoQuorum$Transactions", "begun", "I", false)
  | _ => ("RedoQuorum$Transactions", "activeCount", "I", false)
def q_y2 : Nat → FieldType := fun k => match k with
  | 0 => .array .boolean
  | 1 => .array .int
  | 2 => .int
  | _ => .int
def q_T3 : u_T := fun k => match k with
  | _ => ("RedoQuorum$Group", "copies", "[LRedoQuorum$StorageCopy;", true)
def q_y3 : Nat → FieldType := fun k => match k with
  | _ => .array (.object "RedoQuorum$StorageCopy")
def q_T4 : u_T := fun k => match k with
  | 0 => ("RedoQuorum$StorageCopy", "group", "I", true)
  | 1 => ("RedoQuorum$StorageCopy", "held", "[Z", true)
  | 2 => ("RedoQuorum$StorageCopy", "state", "I", false)
  | 3 => ("RedoQuorum$StorageCopy", "fold", "I", false)
  | _ => ("RedoQuorum$StorageCopy", "reported", "I", false)
def q_y4 : Nat → FieldType := fun k => match k with
  | 0 => .int
  | 1 => .array .boolean
  | 2 => .int
  | 3 => .int
  | _ => .int
def q_T5 : u_T := fun k => match k with
  | 0 => ("RedoQuorum$Cache", "pages", "[I", true)
  | _ => ("RedoQuorum$Cache", "count", "I", false)
def q_y5 : Nat → FieldType := fun k => match k with
  | 0 => .array .int
  | _ => .int
def q_T6 : u_T := fun k => match k with
  | 0 => ("RedoQuorumModel", "n", "I", false)
  | 1 => ("RedoQuorumModel", "owner", "[I", false)
  | 2 => ("RedoQuorumModel", "keyOf", "[I", false)
  | 3 => ("RedoQuorumModel", "valueOf", "[I", false)
  | 4 => ("RedoQuorumModel", "ends", "[I", false)
  | 5 => ("RedoQuorumModel", "closes", "[Z", false)
  | 6 => ("RedoQuorumModel", "holds", "[Z", false)
  | 7 => ("RedoQuorumModel", "stateOf", "[I", false)
  | 8 => ("RedoQuorumModel", "fold", "[I", false)
  | 9 => ("RedoQuorumModel", "reported", "[I", false)
  | 10 => ("RedoQuorumModel", "down", "Z", false)
  | 11 => ("RedoQuorumModel", "durable", "I", false)
  | 12 => ("RedoQuorumModel", "begun", "I", false)
  | 13 => ("RedoQuorumModel", "active", "[Z", false)
  | 14 => ("RedoQuorumModel", "heldBy", "[I", false)
  | 15 => ("RedoQuorumModel", "cache", "[I", false)
  | 16 => ("RedoQuorumModel", "pages", "I", false)
  | _ => ("RedoQuorumModel", "views", "[I", false)
def q_y6 : Nat → FieldType := fun k => match k with
  | 0 => .int
  | 1 => .array .int
  | 2 => .array .int
  | 3 => .array .int
  | 4 => .array .int
  | 5 => .array .boolean
  | 6 => .array .boolean
  | 7 => .array .int
  | 8 => .array .int
  | 9 => .array .int
  | 10 => .boolean
  | 11 => .int
  | 12 => .int
  | 13 => .array .boolean
  | 14 => .array .int
  | 15 => .array .int
  | 16 => .int
  | _ => .array .int
def q_cl : List vw_C := [("RedoQuorum", q_T0, 7), ("RedoQuorum$Log", q_T1, 7), ("RedoQuorum$Transactions", q_T2, 4), ("RedoQuorum$Group", q_T3, 1), ("RedoQuorum$StorageCopy", q_T4, 5), ("RedoQuorum$Cache", q_T5, 2), ("RedoQuorumModel", q_T6, 18)]
def q_tys : List FieldType := [.int, .boolean, .object "RedoQuorum$Group", .object "RedoQuorum$StorageCopy"]
end
section
/-! The small machine: values are integers or numbers of cells; cell 0 is the script, the others are the cells that were made since the law's start, in the order of their making. -/
abbrev qV : Type := Int ⊕ Option Nat
abbrev qS : Type := List (Nat × Nat × List qV)
abbrev qI : Type := Nat → Nat → Int
abbrev qM : Type := MethodName × ByteArray × Nat × Option FieldType
/-- where the cell of a number lies -/
def q_g (B : Nat × Nat) (k : Nat) : Nat := if k = 0 then B.1 else B.2 + k
def q_v (B : Nat × Nat) (v : qV) : Value := match v with
  | .inl z => .int (Int32.ofInt z)
  | .inr (some k) => .ref (q_g B k)
  | .inr none => .null
abbrev q_in (z : Int) : Prop := -2147483648 ≤ z ∧ z < 2147483648
def q_ok (v : qV) : Prop := match v with
  | .inl z => q_in z
  | .inr _ => True
def q_oks (st : List qV) : Prop := ∀ v ∈ st, q_ok v
def q_okL (L : List (Option qV)) : Prop := ∀ v, some v ∈ L → q_ok v
/-- a slot: a reference where the shape says so, else a number -/
def q_sl (x : List qV) (f : Nat → Int) (j : Nat) : qV := match x[j]? with
  | some (.inr r) => .inr r
  | _ => .inl (f j)
def q_ty (t : Nat) : Option FieldType := q_tys[t - 100]?
def q_cell (D : va_G) (U : State) (B : Nat × Nat) (a : Nat) (q : Nat × Nat × List qV) (f : Nat → Int) (H : Heap) : Prop :=
  (q.1 < 100 → ∃ r : vw_C, q_cl[q.1]? = some r ∧ q.2.1 = r.2.2 ∧ t_OB a (D.1 q.1) r.2.2 (D.2 q.1) H (fun j => q_v B (q_sl q.2.2 f j))) ∧
  (100 ≤ q.1 → q.1 < 200 → ∃ (ty : FieldType) (cA : ClassId), q_ty q.1 = some ty ∧ ArrOfT U cA ty ∧ va_RA U cA ty ∧ H[a]? = some (arrV cA q.2.1 (fun j => q_v B (q_sl q.2.2 f j)))) ∧
  (200 ≤ q.1 → ∃ scr : Cell, H[a]? = some scr ∧ U.isArrayOf scr .int ∧ scr.vm ≠ .unknown ∧ scr.slots.size = q.2.1 ∧ ∀ j : Nat, j < q.2.1 → scr.slots[j]? = some (.int (Int32.ofInt (f j))))
def q_H (D : va_G) (U : State) (B : Nat × Nat) (S : qS) (I : qI) (H : Heap) : Prop :=
  H.size = B.2 + S.length ∧ B.1 ≤ B.2 ∧ (∀ q, S[0]? = some q → q.1 = 200) ∧ (∀ a j, q_in (I a j)) ∧ ∀ k q, S[k]? = some q → q_cell D U B (q_g B k) q (I k) H
def q_mv (w : Cond) : Bool := match w with
  | .fieldLinkNest .. => true
  | .methodLinkNest .. => true
  | .arrayOver (.object _) => true
  | w => goodWord w
def q_K (D : va_G) (U : State) : Prop := (∀ w ∈ lw_tbl, q_mv w = true → w.before #[] U = true) ∧ va_K D q_cl [] U
def q_fr (B : Nat × Nat) : Nat → Prop := fun q => B.2 < q
abbrev qP : Type := Option qV → qS → qI → Prop
def q_Qc (D : va_G) (B : Nat × Nat) (P : qP) : Array Value → State → Outcome → State → Prop := fun _ st oc t =>
  (∃ (r : Option qV) (S : qS) (I : qI), oc = .returned (r.map (q_v B)) ∧ (∀ v, r = some v → q_ok v) ∧ P r S I ∧ q_H D t B S I t.heap) ∧ va_F (q_fr B) st t
def q_ws (M : qM) : List Cond := [Cond.code M.1 M.2.1 M.2.2.1 M.2.2.2]
def q_Pc (D : va_G) (B : Nat × Nat) (as : List qV) (S : qS) (I : qI) : Array Value → State → Prop := fun a U => a = (as.map (q_v B)).toArray ∧ q_oks as ∧ q_K D U ∧ q_H D U B S I U.heap
def q_rm (d mc ms : Nat) : Room := { frames := d, cells := mc, slots := ms, locals := 40 * d }
/-- a method's contract -/
def q_Met (M : qM) (d mc ms : Nat) (as : List qV) (S : qS) (I : qI) (P : qP) : Prop :=
  ∀ (l : Launch) (D : va_G) (B : Nat × Nat), Met l M.1 (q_ws M) (q_rm d mc ms) (q_Pc D B as S I) (q_Qc D B P) mc ms (q_fr B)
def q_Cx (p : Program) (s : State) (m : MethodId) (meth : Method) (c : Code) (D : va_G) (M : qM) : Prop :=
  p.tables.exec = Jvm.exec ∧ c.code = M.2.1 ∧ c.maxLocals = M.2.2.1 ∧ s.vm.findClass M.1.cls = some m.cls ∧ meth.sig.returnType = M.2.2.2 ∧ meth.locks = false ∧ meth.name = M.1.name ∧ q_K D s
def q_has (B : Nat × Nat) (ls : Array Slot) (nL : Nat) (L : List (Option qV)) : Prop := ls.size = nL ∧ lv_wf ls ∧ ∀ (i : Nat) (v : qV), L[i]? = some (some v) → ls[i]? = some (.val (q_v B v))
/-- from here the method comes to its end, with P of its answer and of the cells -/
def q_Ev (M : qM) (R : Room) (mc ms k n pc : Nat) (L : List (Option qV)) (st : List qV) (S : qS) (I : qI) (P : qP) : Prop :=
  ∀ (p : Program) (l : Launch) (e : Env) (s : State) (m : MethodId) (args : Array Value) (below : List Frame) (meth : Method) (c : Code) (H : Heap) (locs : List Loc) (D : va_G) (B : Nat × Nat) (ls : Array Slot),
    q_Cx p s m meth c D M → va_S (q_fr B) s.heap H locs → q_H D s B S I H → q_has B ls M.2.2.1 L → q_okL L → q_oks st →
    W p l e R s m args below meth c H locs k n (MQ below (q_Qc D B P) args s mc ms (q_fr B)) (F0 m pc ls (st.map (q_v B)))
def q_up (I : qI) (a k : Nat) (x : Int) : qI := fun a' k' => if a' = a ∧ k' = k then x else I a' k'

theorem q_v_cat (B : Nat × Nat) (v : qV) : (q_v B v).category = 1 := by rcases v with z | (_ | k) <;> rfl
theorem q_cats (B : Nat × Nat) : ∀ st : List qV, ((st.map (q_v B)).map fun v => v.category).sum = st.length
  | [] => rfl
  | v :: st => by
    have := q_cats B st
    simp only [List.map_cons, List.sum_cons, List.length_cons, q_v_cat, this]
    omega
theorem q_oks_cons {v : qV} {st : List qV} : q_oks (v :: st) ↔ q_ok v ∧ q_oks st := by
  constructor
  · exact fun h => ⟨h v List.mem_cons_self, fun w hw => h w (List.mem_cons_of_mem _ hw)⟩
  · rintro ⟨h1, h2⟩ w hw
    rcases List.mem_cons.mp hw with rfl | hw
    · exact h1
    · exact h2 w hw
theorem q_oks_app {a b : List qV} : q_oks (a ++ b) ↔ q_oks a ∧ q_oks b := by
  constructor
  · exact fun h => ⟨fun w hw => h w (List.mem_append_left _ hw), fun w hw => h w (List.mem_append_right _ hw)⟩
  · rintro ⟨h1, h2⟩ w hw
    rcases List.mem_append.mp hw with hw | hw
    · exact h1 w hw
    · exact h2 w hw
theorem q_oks_rev {a : List qV} (h : q_oks a.reverse) : q_oks a := fun w hw => h w (List.mem_reverse.mpr hw)
theorem q_toInt {z : Int} (h : q_in z) : (Int32.ofInt z).toInt = z := Int32.toInt_ofInt_of_le (by have := h.1; omega) (by have := h.2; omega)
theorem q_clamp {n : Nat} (h : q_in (n : Int)) : (Int32.ofInt (n : Int)).toNatClampNeg = n := by
  show (Int32.ofInt (n : Int)).toInt.toNat = n
  rw [q_toInt h]
  omega
theorem q_lt {x y : Int} (hx : q_in x) (hy : q_in y) : Int32.ofInt x < Int32.ofInt y ↔ x < y := by rw [Int32.lt_iff_toInt_lt, q_toInt hx, q_toInt hy]
theorem q_le {x y : Int} (hx : q_in x) (hy : q_in y) : Int32.ofInt x ≤ Int32.ofInt y ↔ x ≤ y := by rw [Int32.le_iff_toInt_le, q_toInt hx, q_toInt hy]
theorem q_eq {x y : Int} (hx : q_in x) (hy : q_in y) : Int32.ofInt x = Int32.ofInt y ↔ x = y := by rw [← Int32.toInt_inj, q_toInt hx, q_toInt hy]
theorem q_in0 : q_in 0 := by unfold q_in; omega
theorem q_ofInt0 : (0 : Int32) = Int32.ofInt 0 := by decide
theorem q_vin {n N : Nat} (h : n < N) (hN : q_in (n : Int)) : ¬ (Int32.ofInt (n : Int) < 0 ∨ N ≤ (Int32.ofInt (n : Int)).toNatClampNeg) := by
  rw [q_clamp hN, q_ofInt0, q_lt hN q_in0]
  omega
theorem q_g_inj {B : Nat × Nat} (hB : B.1 ≤ B.2) {k j : Nat} (h : q_g B k = q_g B j) : k = j := by
  unfold q_g at h
  split at h <;> split at h <;> omega
theorem q_g_fr {B : Nat × Nat} {k : Nat} (h : k ≠ 0) : q_fr B (q_g B k) := by
  unfold q_fr q_g
  rw [if_neg h]
  omega
theorem q_mv_at {w : Cond} {s U : State} {args a' : Array Value} (h : q_mv w = true) (hW : s.WarmedH U.vm) (hb : w.before args s = true) : w.before a' U = true := by
  unfold q_mv at h
  split at h
  · exact va_Nw.use rfl (va_Nw.warmF hW (va_Nw.of rfl hb))
  · exact va_Nw.use rfl (va_Nw.warmM hW (va_Nw.of rfl hb))
  · exact va_AO.use (va_AO.moved hW.alike (va_AO.of hb))
  · exact word_at hW (good_of_word h) hb
theorem q_K.moved {D : va_G} {s U : State} (hW : s.WarmedH U.vm) (h : q_K D s) : q_K D U :=
  ⟨fun w hw hm => q_mv_at hm hW (h.1 w hw hm), va_K.moved hW.alike h.2⟩
theorem q_K.at {D : va_G} {s : State} {args : Array Value} (h : q_K D s) {w : Cond} (hw : w ∈ lw_tbl) (hm : q_mv w = true) : w.before args s = true :=
  q_mv_at hm (State.WarmedH.refl s) (h.1 w hw hm)
theorem q_cell.moved {D : va_G} {u U : State} {B : Nat × Nat} {a : Nat} {q : Nat × Nat × List qV} {f : Nat → Int} {H : Heap} (hvm : u.vm.Alike U.vm) (h : q_cell D u B a q f H) : q_cell D U B a q f H := by
  refine ⟨h.1, fun h1 h2 => ?_, fun h1 => ?_⟩
  · obtain ⟨ty, cA, e1, e2, e3, e4⟩ := h.2.1 h1 h2
    exact ⟨ty, cA, e1, arrOfT_moved hvm e2, e3.moved hvm, e4⟩
  · obtain ⟨scr, e1, e2, e3⟩ := h.2.2 h1
    exact ⟨scr, e1, State.isArrayOf_alike hvm e2, e3⟩
theorem q_cell.kept {D : va_G} {U : State} {B : Nat × Nat} {a : Nat} {q : Nat × Nat × List qV} {f : Nat → Int} {H H1 : Heap} (h : q_cell D U B a q f H) (hq : H1[a]? = H[a]?) : q_cell D U B a q f H1 := by
  refine ⟨fun h1 => ?_, fun h1 h2 => ?_, fun h1 => ?_⟩
  · obtain ⟨r, e1, e2, e3⟩ := h.1 h1
    exact ⟨r, e1, e2, e3.kept hq⟩
  · obtain ⟨ty, cA, e1, e2, e3, e4⟩ := h.2.1 h1 h2
    exact ⟨ty, cA, e1, e2, e3, hq.trans e4⟩
  · obtain ⟨scr, e1, e2⟩ := h.2.2 h1
    exact ⟨scr, hq.trans e1, e2⟩
theorem q_H.moved {D : va_G} {u U : State} {B : Nat × Nat} {S : qS} {I : qI} {H : Heap} (hvm : u.vm.Alike U.vm) (h : q_H D u B S I H) : q_H D U B S I H :=
  ⟨h.1, h.2.1, h.2.2.1, h.2.2.2.1, fun k q hk => (h.2.2.2.2 k q hk).moved hvm⟩
/-- one own cell is changed: the shape q' and the numbers I' there -/
theorem q_H.put {D : va_G} {U : State} {B : Nat × Nat} {S : qS} {I I' : qI} {H H1 : Heap} {a : Nat} {q q' : Nat × Nat × List qV} (h : q_H D U B S I H) (ha : S[a]? = some q) (ha0 : a ≠ 0) (hz : H1.size = H.size) (ho : ∀ x, x ≠ q_g B a → H1[x]? = H[x]?)
    (hI : ∀ k, k ≠ a → I' k = I k) (hr : ∀ j, q_in (I' a j)) (hc : q_cell D U B (q_g B a) q' (I' a) H1) : q_H D U B (S.set a q') I' H1 := by
  obtain ⟨h1, h2, h3, h4, h5⟩ := h
  refine ⟨by rw [hz, h1, List.length_set], h2, fun q0 hq0 => ?_, fun k j => ?_, fun k q0 hk => ?_⟩
  · rw [List.getElem?_set_ne ha0] at hq0
    exact h3 q0 hq0
  · by_cases hk : k = a
    · subst hk; exact hr j
    · rw [hI k hk]; exact h4 k j
  · by_cases hka : k = a
    · subst hka
      rw [List.getElem?_set_self (List.getElem?_eq_some_iff.mp ha).1] at hk
      cases hk
      exact hc
    · rw [List.getElem?_set_ne (Ne.symm hka)] at hk
      rw [hI k hka]
      exact (h5 k q0 hk).kept (ho _ (fun z => hka (q_g_inj h2 z)))
theorem q_H.put' {D : va_G} {U : State} {B : Nat × Nat} {S : qS} {I I' : qI} {H H1 : Heap} {a : Nat} {q : Nat × Nat × List qV} (h : q_H D U B S I H) (ha : S[a]? = some q) (ha0 : a ≠ 0) (hz : H1.size = H.size) (ho : ∀ x, x ≠ q_g B a → H1[x]? = H[x]?)
    (hI : ∀ k, k ≠ a → I' k = I k) (hr : ∀ j, q_in (I' a j)) (hc : q_cell D U B (q_g B a) q (I' a) H1) : q_H D U B S I' H1 := by
  have h9 := h.put ha ha0 hz ho hI hr hc
  have e : S.set a q = S := by
    apply List.ext_getElem?
    intro k
    by_cases hk : k = a
    · subst hk
      rw [List.getElem?_set_self (List.getElem?_eq_some_iff.mp ha).1, ha]
    · rw [List.getElem?_set_ne (Ne.symm hk)]
  rw [e] at h9
  exact h9
theorem q_H.ne0 {D : va_G} {U : State} {B : Nat × Nat} {S : qS} {I : qI} {H : Heap} {a : Nat} {q : Nat × Nat × List qV} (h : q_H D U B S I H) (ha : S[a]? = some q) (hq : q.1 < 200) : a ≠ 0 := by
  rintro rfl
  have := h.2.2.1 q ha
  omega
/-- one more cell -/
theorem q_H.push {D : va_G} {U : State} {B : Nat × Nat} {S : qS} {I : qI} {H H1 : Heap} {q : Nat × Nat × List qV} (h : q_H D U B S I H) (hS : S ≠ []) (hz : H1.size = H.size + 1) (ho : ∀ x, x < H.size → H1[x]? = H[x]?)
    (hc : q_cell D U B H.size q (I S.length) H1) : q_H D U B (S ++ [q]) I H1 := by
  obtain ⟨h1, h2, h3, h4, h5⟩ := h
  have hl : 0 < S.length := List.length_pos_iff.mpr hS
  refine ⟨by rw [hz, h1, List.length_append]; rfl, h2, fun q0 hq0 => ?_, h4, fun k q0 hk => ?_⟩
  · rw [List.getElem?_append_left hl] at hq0
    exact h3 q0 hq0
  · by_cases hkl : k < S.length
    · rw [List.getElem?_append_left hkl] at hk
      have h6 := h5 k q0 hk
      refine h6.kept (ho _ ?_)
      unfold q_g
      split <;> omega
    · have hk1 : k < (S ++ [q]).length := (List.getElem?_eq_some_iff.mp hk).1
      rw [List.length_append] at hk1
      have hk2 : k = S.length := by simp at hk1; omega
      subst hk2
      rw [List.getElem?_append_right (Nat.le_refl _), Nat.sub_self] at hk
      cases hk
      have e : q_g B S.length = H.size := by
        unfold q_g
        rw [if_neg (by omega), h1]
      rw [e]
      exact hc
theorem q_has.get {B : Nat × Nat} {ls : Array Slot} {nL : Nat} {L : List (Option qV)} (h : q_has B ls nL L) {i : Nat} {v : qV} (hi : L[i]? = some (some v)) : ls[i]? = some (.val (q_v B v)) := h.2.2 i v hi
def q_ps (B : Nat × Nat) (L : List (Option qV)) : List (Nat × Value) := (List.range L.length).filterMap fun i => (L[i]?.join).map fun v => (i, q_v B v)
theorem q_ps_mem {B : Nat × Nat} {L : List (Option qV)} {i : Nat} {v : qV} (h : L[i]? = some (some v)) : (i, q_v B v) ∈ q_ps B L := by
  refine List.mem_filterMap.mpr ⟨i, List.mem_range.mpr (List.getElem?_eq_some_iff.mp h).1, ?_⟩
  rw [h]; rfl
theorem q_has.lv {B : Nat × Nat} {ls : Array Slot} {nL : Nat} {L : List (Option qV)} (h : q_has B ls nL L) : lv_has ls nL (q_ps B L) := by
  refine ⟨h.1, h.2.1, fun q hq => ?_⟩
  obtain ⟨i, -, hi⟩ := List.mem_filterMap.mp hq
  cases hL : L[i]? with
  | none => rw [hL] at hi; cases hi
  | some o =>
    rw [hL] at hi
    cases o with
    | none => cases hi
    | some v =>
      cases hi
      exact h.2.2 i v hL
theorem q_has.set {B : Nat × Nat} {ls' : Array Slot} {nL : Nat} {L : List (Option qV)} {i : Nat} {v : qV} (h' : lv_has ls' nL ((i, q_v B v) :: (q_ps B L).filter (fun q => !(q.1 == i) && !(q.1 + 1 == i && q.2.category == 2)))) : q_has B ls' nL (L.set i (some v)) := by
  refine ⟨h'.1, h'.2.1, fun j w hj => ?_⟩
  by_cases hji : j = i
  · subst hji
    rw [List.getElem?_set_self (by have := (List.getElem?_eq_some_iff.mp hj).1; rwa [List.length_set] at this)] at hj
    cases hj
    exact h'.2.2 _ List.mem_cons_self
  · rw [List.getElem?_set_ne (Ne.symm hji)] at hj
    refine h'.2.2 (j, q_v B w) (List.mem_cons_of_mem _ (List.mem_filter.mpr ⟨q_ps_mem hj, ?_⟩))
    simp [hji, q_v_cat]
theorem q_okL.set {L : List (Option qV)} {i : Nat} {v : qV} (h : q_okL L) (hv : q_ok v) : q_okL (L.set i (some v)) := by
  intro w hw
  rcases List.mem_or_eq_of_mem_set hw with h1 | h1
  · exact h w h1
  · cases h1; exact hv
theorem q_okL.get {L : List (Option qV)} (h : q_okL L) {i : Nat} {v : qV} (hi : L[i]? = some (some v)) : q_ok v := h v (List.mem_of_getElem? hi)
theorem q_sl_set {x : List qV} {f : Nat → Int} {k : Nat} {r : Option Nat} (hk : k < x.length) (j : Nat) : q_sl (x.set k (.inr r)) f j = if j = k then .inr r else q_sl x f j := by
  unfold q_sl
  by_cases h : j = k
  · subst h
    rw [List.getElem?_set_self hk, if_pos rfl]
  · rw [List.getElem?_set_ne (Ne.symm h), if_neg h]
theorem q_sl_ok {D : va_G} {U : State} {B : Nat × Nat} {S : qS} {I : qI} {H : Heap} (h : q_H D U B S I H) (x : List qV) (a j : Nat) : q_ok (q_sl x (I a) j) := by
  unfold q_sl
  split
  · trivial
  · exact h.2.2.2.1 a j
theorem q_up_ok {I : qI} {a k : Nat} {x : Int} (h : ∀ j, q_in (I a j)) (hx : q_in x) : ∀ j, q_in (q_up I a k x a j) := by
  intro j
  unfold q_up
  split
  · exact hx
  · exact h j
theorem q_up_off {I : qI} {a k : Nat} {x : Int} : ∀ b, b ≠ a → q_up I a k x b = I b := fun b hb => funext fun j => if_neg fun h => hb h.1
theorem q_sl_up {x : List qV} {I : qI} {a k : Nat} {z : Int} (hk : ∀ r, x[k]? ≠ some (.inr r)) (j : Nat) : q_sl x (q_up I a k z a) j = if j = k then .inl z else q_sl x (I a) j := by
  unfold q_sl
  by_cases h : j = k
  · subst h
    rw [if_pos rfl]
    split
    · next r hr => exact absurd hr (hk r)
    · simp [q_up]
  · rw [if_neg h]
    split
    · rfl
    · simp [q_up, h]
end
section
/-! The machine's rows: an instruction, a row. -/
section QR
variable {M : qM} {R : Room} {mc ms k n pc : Nat} {L : List (Option qV)} {st : List qV} {S : qS} {I : qI} {P : qP}
theorem q_iconst {z : Int} (hd : decode M.2.1 pc = .ok (.iconst z, 1)) (hz : q_in z) (K : q_Ev M R mc ms k n (pc + 1) L (.inl z :: st) S I P) : q_Ev M R mc ms k n pc L st S I P := by
  intro p l e s m args below meth c H locs D B ls C hS hH hL oL oS
  exact lv_iconst C.1 C.2.1 hd rfl (K p l e s m args below meth c H locs D B ls C hS hH hL oL (q_oks_cons.mpr ⟨hz, oS⟩))
theorem q_bipush {z : Int} (hd : decode M.2.1 pc = .ok (.bipush z, 2)) (hz : q_in z) (hb : (Int8.ofInt z).toInt32 = Int32.ofInt z) (K : q_Ev M R mc ms k n (pc + 2) L (.inl z :: st) S I P) : q_Ev M R mc ms k n pc L st S I P := by
  intro p l e s m args below meth c H locs D B ls C hS hH hL oL oS
  exact lv_bipush C.1 C.2.1 hd hb (K p l e s m args below meth c H locs D B ls C hS hH hL oL (q_oks_cons.mpr ⟨hz, oS⟩))
theorem q_sipush {z : Int} (hd : decode M.2.1 pc = .ok (.sipush z, 3)) (hz : q_in z) (hb : (Int16.ofInt z).toInt32 = Int32.ofInt z) (K : q_Ev M R mc ms k n (pc + 3) L (.inl z :: st) S I P) : q_Ev M R mc ms k n pc L st S I P := by
  intro p l e s m args below meth c H locs D B ls C hS hH hL oL oS
  exact lv_sipush C.1 C.2.1 hd hb (K p l e s m args below meth c H locs D B ls C hS hH hL oL (q_oks_cons.mpr ⟨hz, oS⟩))
theorem q_iload_n {f : Fin 4} {x : Int} (hd : decode M.2.1 pc = .ok (.iload_n f, 1)) (hx : L[(f : Nat)]? = some (some (.inl x))) (K : q_Ev M R mc ms k n (pc + 1) L (.inl x :: st) S I P) : q_Ev M R mc ms k n pc L st S I P := by
  intro p l e s m args below meth c H locs D B ls C hS hH hL oL oS
  exact lv_iload_n C.1 C.2.1 hd rfl (hL.get hx) (K p l e s m args below meth c H locs D B ls C hS hH hL oL (q_oks_cons.mpr ⟨oL.get hx, oS⟩))
theorem q_iload {i : Nat} {x : Int} (hd : decode M.2.1 pc = .ok (.iload i, 2)) (hx : L[i]? = some (some (.inl x))) (K : q_Ev M R mc ms k n (pc + 2) L (.inl x :: st) S I P) : q_Ev M R mc ms k n pc L st S I P := by
  intro p l e s m args below meth c H locs D B ls C hS hH hL oL oS
  exact lv_iload C.1 C.2.1 hd (hL.get hx) (K p l e s m args below meth c H locs D B ls C hS hH hL oL (q_oks_cons.mpr ⟨oL.get hx, oS⟩))
theorem q_aload_n {f : Fin 4} {a : Nat} (hd : decode M.2.1 pc = .ok (.aload_n f, 1)) (hx : L[(f : Nat)]? = some (some (.inr (some a)))) (K : q_Ev M R mc ms k n (pc + 1) L (.inr (some a) :: st) S I P) : q_Ev M R mc ms k n pc L st S I P := by
  intro p l e s m args below meth c H locs D B ls C hS hH hL oL oS
  exact lv_aload_n C.1 C.2.1 hd rfl (hL.get hx) (K p l e s m args below meth c H locs D B ls C hS hH hL oL (q_oks_cons.mpr ⟨oL.get hx, oS⟩))
theorem q_aload {i : Nat} {a : Nat} (hd : decode M.2.1 pc = .ok (.aload i, 2)) (hx : L[i]? = some (some (.inr (some a)))) (K : q_Ev M R mc ms k n (pc + 2) L (.inr (some a) :: st) S I P) : q_Ev M R mc ms k n pc L st S I P := by
  intro p l e s m args below meth c H locs D B ls C hS hH hL oL oS
  exact lv_aload C.1 C.2.1 hd (hL.get hx) (K p l e s m args below meth c H locs D B ls C hS hH hL oL (q_oks_cons.mpr ⟨oL.get hx, oS⟩))
theorem q_istore_n {f : Fin 4} {x : Int} (hd : decode M.2.1 pc = .ok (.istore_n f, 1)) (hi : (f : Nat) < M.2.2.1) (K : q_Ev M R mc ms k n (pc + 1) (L.set (f : Nat) (some (.inl x))) st S I P) : q_Ev M R mc ms k n pc L (.inl x :: st) S I P := by
  intro p l e s m args below meth c H locs D B ls C hS hH hL oL oS
  have o := q_oks_cons.mp oS
  exact lv_istore_n C.1 C.2.1 hd rfl hL.lv hi rfl fun ls' h' => K p l e s m args below meth c H locs D B ls' C hS hH (q_has.set h') (oL.set o.1) o.2
theorem q_istore {i : Nat} {x : Int} (hd : decode M.2.1 pc = .ok (.istore i, 2)) (hi : i < M.2.2.1) (K : q_Ev M R mc ms k n (pc + 2) (L.set i (some (.inl x))) st S I P) : q_Ev M R mc ms k n pc L (.inl x :: st) S I P := by
  intro p l e s m args below meth c H locs D B ls C hS hH hL oL oS
  have o := q_oks_cons.mp oS
  exact lv_istore C.1 C.2.1 hd hL.lv hi rfl fun ls' h' => K p l e s m args below meth c H locs D B ls' C hS hH (q_has.set h') (oL.set o.1) o.2
theorem q_astore_n {f : Fin 4} {a : Nat} (hd : decode M.2.1 pc = .ok (.astore_n f, 1)) (hi : (f : Nat) < M.2.2.1) (K : q_Ev M R mc ms k n (pc + 1) (L.set (f : Nat) (some (.inr (some a)))) st S I P) : q_Ev M R mc ms k n pc L (.inr (some a) :: st) S I P := by
  intro p l e s m args below meth c H locs D B ls C hS hH hL oL oS
  have o := q_oks_cons.mp oS
  exact lv_astore_n C.1 C.2.1 hd rfl hL.lv hi rfl fun ls' h' => K p l e s m args below meth c H locs D B ls' C hS hH (q_has.set (v := .inr (some a)) h') (oL.set o.1) o.2
theorem q_astore {i : Nat} {a : Nat} (hd : decode M.2.1 pc = .ok (.astore i, 2)) (hi : i < M.2.2.1) (K : q_Ev M R mc ms k n (pc + 2) (L.set i (some (.inr (some a)))) st S I P) : q_Ev M R mc ms k n pc L (.inr (some a) :: st) S I P := by
  intro p l e s m args below meth c H locs D B ls C hS hH hL oL oS
  have o := q_oks_cons.mp oS
  exact lv_astore C.1 C.2.1 hd hL.lv hi rfl fun ls' h' => K p l e s m args below meth c H locs D B ls' C hS hH (q_has.set (v := .inr (some a)) h') (oL.set o.1) o.2
theorem q_iinc {i : Nat} {z x y : Int} (hd : decode M.2.1 pc = .ok (.iinc i z, 3)) (hx : L[i]? = some (some (.inl x))) (hi : i < M.2.2.1) (hy : x + z = y) (hr : q_in y) (K : q_Ev M R mc ms k n (pc + 3) (L.set i (some (.inl y))) st S I P) : q_Ev M R mc ms k n pc L st S I P := by
  intro p l e s m args below meth c H locs D B ls C hS hH hL oL oS
  subst hy
  obtain ⟨j, hj⟩ := List.getElem?_of_mem (q_ps_mem (B := B) hx)
  exact lv_iinc C.1 C.2.1 hd hL.lv hj (Int32.ofInt_add x z).symm hi rfl fun ls' h' => K p l e s m args below meth c H locs D B ls' C hS hH (q_has.set (v := .inl (x + z)) h') (oL.set hr) oS
theorem q_iadd {x y z : Int} (hd : decode M.2.1 pc = .ok (.iadd, 1)) (hz : x + y = z) (hr : q_in z) (K : q_Ev M R mc ms k n (pc + 1) L (.inl z :: st) S I P) : q_Ev M R mc ms k n pc L (.inl y :: .inl x :: st) S I P := by
  intro p l e s m args below meth c H locs D B ls C hS hH hL oL oS
  subst hz
  have o := q_oks_cons.mp (q_oks_cons.mp oS).2
  refine lv_iadd C.1 C.2.1 hd ?_
  rw [← Int32.ofInt_add]
  exact K p l e s m args below meth c H locs D B ls C hS hH hL oL (q_oks_cons.mpr ⟨hr, o.2⟩)
theorem q_isub {x y z : Int} (hd : decode M.2.1 pc = .ok (.isub, 1)) (hz : x - y = z) (hr : q_in z) (K : q_Ev M R mc ms k n (pc + 1) L (.inl z :: st) S I P) : q_Ev M R mc ms k n pc L (.inl y :: .inl x :: st) S I P := by
  intro p l e s m args below meth c H locs D B ls C hS hH hL oL oS
  subst hz
  have o := q_oks_cons.mp (q_oks_cons.mp oS).2
  refine lv_isub C.1 C.2.1 hd ?_
  rw [← Int32.ofInt_sub]
  exact K p l e s m args below meth c H locs D B ls C hS hH hL oL (q_oks_cons.mpr ⟨hr, o.2⟩)
theorem q_imul {x y z : Int} (hd : decode M.2.1 pc = .ok (.imul, 1)) (hz : x * y = z) (hr : q_in z) (K : q_Ev M R mc ms k n (pc + 1) L (.inl z :: st) S I P) : q_Ev M R mc ms k n pc L (.inl y :: .inl x :: st) S I P := by
  intro p l e s m args below meth c H locs D B ls C hS hH hL oL oS
  subst hz
  have o := q_oks_cons.mp (q_oks_cons.mp oS).2
  refine lv_imul C.1 C.2.1 hd ?_
  rw [← Int32.ofInt_mul]
  exact K p l e s m args below meth c H locs D B ls C hS hH hL oL (q_oks_cons.mpr ⟨hr, o.2⟩)
theorem q_tdiv_in {x y : Int} (hx : q_in x) (hy : 0 < y) : q_in (x.tdiv y) := by
  have h1 := Int.natAbs_tdiv x y
  have h2 : (x.tdiv y).natAbs ≤ x.natAbs := by rw [h1]; exact Nat.div_le_self _ _
  by_cases hx0 : 0 ≤ x
  · have h3 : 0 ≤ x.tdiv y := Int.tdiv_nonneg hx0 (by omega)
    exact ⟨by omega, by have := hx.2; omega⟩
  · have h3 : (-x).tdiv y = -(x.tdiv y) := Int.neg_tdiv ..
    have h4 : 0 ≤ (-x).tdiv y := Int.tdiv_nonneg (by omega) (by omega)
    exact ⟨by have := hx.1; omega, by omega⟩
theorem q_div32 {x y : Int} (ox : q_in x) (oy : q_in y) (hy : 0 < y) : Int32.ofInt x / Int32.ofInt y = Int32.ofInt (x.tdiv y) := by
  have hne : Int32.ofInt y ≠ -1 := by
    intro h
    have h2 := congrArg Int32.toInt h
    rw [q_toInt oy] at h2
    have h1 : (-1 : Int32).toInt = -1 := by decide
    rw [h1] at h2
    omega
  rw [← Int32.toInt_inj, Int32.toInt_div_of_ne_right _ _ hne, q_toInt ox, q_toInt oy, q_toInt (q_tdiv_in ox hy)]
theorem q_idiv {x y : Int} (hd : decode M.2.1 pc = .ok (.idiv, 1)) (hy : 0 < y) (K : q_Ev M R mc ms k n (pc + 1) L (.inl (x.tdiv y) :: st) S I P) : q_Ev M R mc ms k n pc L (.inl y :: .inl x :: st) S I P := by
  intro p l e s m args below meth c H locs D B ls C hS hH hL oL oS
  have oy : q_in y := (q_oks_cons.mp oS).1
  have o := q_oks_cons.mp (q_oks_cons.mp oS).2
  have ox : q_in x := o.1
  refine lv_idiv C.1 C.2.1 hd (fun h => ?_) ?_
  · rw [q_ofInt0, q_eq oy q_in0] at h; omega
  rw [q_div32 ox oy hy]
  exact K p l e s m args below meth c H locs D B ls C hS hH hL oL (q_oks_cons.mpr ⟨q_tdiv_in ox hy, o.2⟩)
theorem q_irem {x y : Int} (hd : decode M.2.1 pc = .ok (.irem, 1)) (hy : 0 < y) (K : q_Ev M R mc ms k n (pc + 1) L (.inl (x.tmod y) :: st) S I P) : q_Ev M R mc ms k n pc L (.inl y :: .inl x :: st) S I P := by
  intro p l e s m args below meth c H locs D B ls C hS hH hL oL oS
  have oy : q_in y := (q_oks_cons.mp oS).1
  have o := q_oks_cons.mp (q_oks_cons.mp oS).2
  have ox : q_in x := o.1
  have hb := tmod_bounds (a := x) hy
  have hr : q_in (x.tmod y) := by unfold q_in at *; omega
  have e1 : Int32.ofInt x - Int32.ofInt x / Int32.ofInt y * Int32.ofInt y = Int32.ofInt (x.tmod y) := by
    rw [← Int32.toInt_inj, rem_toInt, q_toInt ox, q_toInt oy, q_toInt hr]
  refine lv_irem C.1 C.2.1 hd (fun h => ?_) ?_
  · rw [q_ofInt0, q_eq oy q_in0] at h; omega
  rw [e1]
  exact K p l e s m args below meth c H locs D B ls C hS hH hL oL (q_oks_cons.mpr ⟨hr, o.2⟩)
theorem q_iand {x y : Int} (hd : decode M.2.1 pc = .ok (.iand, 1)) (K : ∀ z, q_in z → q_Ev M R mc ms k n (pc + 1) L (.inl z :: st) S I P) : q_Ev M R mc ms k n pc L (.inl y :: .inl x :: st) S I P := by
  intro p l e s m args below meth c H locs D B ls C hS hH hL oL oS
  have o := q_oks_cons.mp (q_oks_cons.mp oS).2
  refine lv_iand C.1 C.2.1 hd ?_
  have hz : q_in (Int32.ofInt x &&& Int32.ofInt y).toInt := ⟨by have := Int32.le_toInt (Int32.ofInt x &&& Int32.ofInt y); omega, by have := Int32.toInt_lt (Int32.ofInt x &&& Int32.ofInt y); omega⟩
  have K1 := K _ hz p l e s m args below meth c H locs D B ls C hS hH hL oL (q_oks_cons.mpr ⟨hz, o.2⟩)
  rw [show (Int32.ofInt x &&& Int32.ofInt y) = Int32.ofInt (Int32.ofInt x &&& Int32.ofInt y).toInt from (Int32.ofInt_toInt _).symm]
  exact K1
theorem q_dup {v : qV} (hd : decode M.2.1 pc = .ok (.dup, 1)) (K : q_Ev M R mc ms k n (pc + 1) L (v :: v :: st) S I P) : q_Ev M R mc ms k n pc L (v :: st) S I P := by
  intro p l e s m args below meth c H locs D B ls C hS hH hL oL oS
  have o := q_oks_cons.mp oS
  exact lv_dup C.1 C.2.1 hd (q_v_cat B v) (K p l e s m args below meth c H locs D B ls C hS hH hL oL (q_oks_cons.mpr ⟨o.1, oS⟩))
theorem q_pop {v : qV} (hd : decode M.2.1 pc = .ok (.pop, 1)) (K : q_Ev M R mc ms k n (pc + 1) L st S I P) : q_Ev M R mc ms k n pc L (v :: st) S I P := by
  intro p l e s m args below meth c H locs D B ls C hS hH hL oL oS
  have o := q_oks_cons.mp oS
  exact lv_pop C.1 C.2.1 hd (q_v_cat B v) (K p l e s m args below meth c H locs D B ls C hS hH hL oL o.2)
theorem q_goto {off : Int} {tgt : Nat} (hd : decode M.2.1 pc = .ok (.goto off, 3)) (ht : (pc : Int) + off = (tgt : Int)) (K : q_Ev M R mc ms k n tgt L st S I P) : q_Ev M R mc ms k n pc L st S I P := by
  intro p l e s m args below meth c H locs D B ls C hS hH hL oL oS
  exact lv_goto C.1 C.2.1 hd ht (K p l e s m args below meth c H locs D B ls C hS hH hL oL oS)
theorem q_icmp_eq {x y : Int} {off : Int} {tgt : Nat} (hd : decode M.2.1 pc = .ok (.if_icmp .eq off, 3)) (ht : (pc : Int) + off = (tgt : Int)) (kt : x = y → q_Ev M R mc ms k n tgt L st S I P) (kf : ¬ x = y → q_Ev M R mc ms k n (pc + 3) L st S I P) : q_Ev M R mc ms k n pc L (.inl y :: .inl x :: st) S I P := by
  intro p l e s m args below meth c H locs D B ls C hS hH hL oL oS
  have oy : q_in y := (q_oks_cons.mp oS).1
  have o := q_oks_cons.mp (q_oks_cons.mp oS).2
  have ox : q_in x := o.1
  have kt := fun h => kt h p l e s m args below meth c H locs D B ls C hS hH hL oL o.2
  have kf := fun h => kf h p l e s m args below meth c H locs D B ls C hS hH hL oL o.2
  exact lv_icmp_eq C.1 C.2.1 hd ht (fun h => kt ((q_eq ox oy).mp h)) (fun h => kf fun z => h ((q_eq ox oy).mpr z))
theorem q_if_eq {x : Int} {off : Int} {tgt : Nat} (hd : decode M.2.1 pc = .ok (.ifCond .eq off, 3)) (ht : (pc : Int) + off = (tgt : Int)) (kt : x = 0 → q_Ev M R mc ms k n tgt L st S I P) (kf : ¬ x = 0 → q_Ev M R mc ms k n (pc + 3) L st S I P) : q_Ev M R mc ms k n pc L (.inl x :: st) S I P := by
  intro p l e s m args below meth c H locs D B ls C hS hH hL oL oS
  have oy : q_in 0 := q_in0
  have o := q_oks_cons.mp oS
  have ox : q_in x := o.1
  have kt := fun h => kt h p l e s m args below meth c H locs D B ls C hS hH hL oL o.2
  have kf := fun h => kf h p l e s m args below meth c H locs D B ls C hS hH hL oL o.2
  exact lv_if_eq C.1 C.2.1 hd ht (fun h => kt ((q_eq ox oy).mp h)) (fun h => kf fun z => h ((q_eq ox oy).mpr z))
theorem q_icmp_ne {x y : Int} {off : Int} {tgt : Nat} (hd : decode M.2.1 pc = .ok (.if_icmp .ne off, 3)) (ht : (pc : Int) + off = (tgt : Int)) (kt : ¬ x = y → q_Ev M R mc ms k n tgt L st S I P) (kf : x = y → q_Ev M R mc ms k n (pc + 3) L st S I P) : q_Ev M R mc ms k n pc L (.inl y :: .inl x :: st) S I P := by
  intro p l e s m args below meth c H locs D B ls C hS hH hL oL oS
  have oy : q_in y := (q_oks_cons.mp oS).1
  have o := q_oks_cons.mp (q_oks_cons.mp oS).2
  have ox : q_in x := o.1
  have kt := fun h => kt h p l e s m args below meth c H locs D B ls C hS hH hL oL o.2
  have kf := fun h => kf h p l e s m args below meth c H locs D B ls C hS hH hL oL o.2
  exact lv_icmp_ne C.1 C.2.1 hd ht (fun h => kt fun z => h ((q_eq ox oy).mpr z)) (fun h => kf ((q_eq ox oy).mp h))
theorem q_if_ne {x : Int} {off : Int} {tgt : Nat} (hd : decode M.2.1 pc = .ok (.ifCond .ne off, 3)) (ht : (pc : Int) + off = (tgt : Int)) (kt : ¬ x = 0 → q_Ev M R mc ms k n tgt L st S I P) (kf : x = 0 → q_Ev M R mc ms k n (pc + 3) L st S I P) : q_Ev M R mc ms k n pc L (.inl x :: st) S I P := by
  intro p l e s m args below meth c H locs D B ls C hS hH hL oL oS
  have oy : q_in 0 := q_in0
  have o := q_oks_cons.mp oS
  have ox : q_in x := o.1
  have kt := fun h => kt h p l e s m args below meth c H locs D B ls C hS hH hL oL o.2
  have kf := fun h => kf h p l e s m args below meth c H locs D B ls C hS hH hL oL o.2
  exact lv_if_ne C.1 C.2.1 hd ht (fun h => kt fun z => h ((q_eq ox oy).mpr z)) (fun h => kf ((q_eq ox oy).mp h))
theorem q_icmp_lt {x y : Int} {off : Int} {tgt : Nat} (hd : decode M.2.1 pc = .ok (.if_icmp .lt off, 3)) (ht : (pc : Int) + off = (tgt : Int)) (kt : x < y → q_Ev M R mc ms k n tgt L st S I P) (kf : ¬ x < y → q_Ev M R mc ms k n (pc + 3) L st S I P) : q_Ev M R mc ms k n pc L (.inl y :: .inl x :: st) S I P := by
  intro p l e s m args below meth c H locs D B ls C hS hH hL oL oS
  have oy : q_in y := (q_oks_cons.mp oS).1
  have o := q_oks_cons.mp (q_oks_cons.mp oS).2
  have ox : q_in x := o.1
  have kt := fun h => kt h p l e s m args below meth c H locs D B ls C hS hH hL oL o.2
  have kf := fun h => kf h p l e s m args below meth c H locs D B ls C hS hH hL oL o.2
  exact lv_icmp_lt C.1 C.2.1 hd ht (fun h => kt ((q_lt ox oy).mp h)) (fun h => kf fun z => h ((q_lt ox oy).mpr z))
theorem q_if_lt {x : Int} {off : Int} {tgt : Nat} (hd : decode M.2.1 pc = .ok (.ifCond .lt off, 3)) (ht : (pc : Int) + off = (tgt : Int)) (kt : x < 0 → q_Ev M R mc ms k n tgt L st S I P) (kf : ¬ x < 0 → q_Ev M R mc ms k n (pc + 3) L st S I P) : q_Ev M R mc ms k n pc L (.inl x :: st) S I P := by
  intro p l e s m args below meth c H locs D B ls C hS hH hL oL oS
  have oy : q_in 0 := q_in0
  have o := q_oks_cons.mp oS
  have ox : q_in x := o.1
  have kt := fun h => kt h p l e s m args below meth c H locs D B ls C hS hH hL oL o.2
  have kf := fun h => kf h p l e s m args below meth c H locs D B ls C hS hH hL oL o.2
  exact lv_if_lt C.1 C.2.1 hd ht (fun h => kt ((q_lt ox oy).mp h)) (fun h => kf fun z => h ((q_lt ox oy).mpr z))
theorem q_icmp_ge {x y : Int} {off : Int} {tgt : Nat} (hd : decode M.2.1 pc = .ok (.if_icmp .ge off, 3)) (ht : (pc : Int) + off = (tgt : Int)) (kt : y ≤ x → q_Ev M R mc ms k n tgt L st S I P) (kf : ¬ y ≤ x → q_Ev M R mc ms k n (pc + 3) L st S I P) : q_Ev M R mc ms k n pc L (.inl y :: .inl x :: st) S I P := by
  intro p l e s m args below meth c H locs D B ls C hS hH hL oL oS
  have oy : q_in y := (q_oks_cons.mp oS).1
  have o := q_oks_cons.mp (q_oks_cons.mp oS).2
  have ox : q_in x := o.1
  have kt := fun h => kt h p l e s m args below meth c H locs D B ls C hS hH hL oL o.2
  have kf := fun h => kf h p l e s m args below meth c H locs D B ls C hS hH hL oL o.2
  exact lv_icmp_ge C.1 C.2.1 hd ht (fun h => kt ((q_le oy ox).mp h)) (fun h => kf fun z => h ((q_le oy ox).mpr z))
theorem q_if_ge {x : Int} {off : Int} {tgt : Nat} (hd : decode M.2.1 pc = .ok (.ifCond .ge off, 3)) (ht : (pc : Int) + off = (tgt : Int)) (kt : 0 ≤ x → q_Ev M R mc ms k n tgt L st S I P) (kf : ¬ 0 ≤ x → q_Ev M R mc ms k n (pc + 3) L st S I P) : q_Ev M R mc ms k n pc L (.inl x :: st) S I P := by
  intro p l e s m args below meth c H locs D B ls C hS hH hL oL oS
  have oy : q_in 0 := q_in0
  have o := q_oks_cons.mp oS
  have ox : q_in x := o.1
  have kt := fun h => kt h p l e s m args below meth c H locs D B ls C hS hH hL oL o.2
  have kf := fun h => kf h p l e s m args below meth c H locs D B ls C hS hH hL oL o.2
  exact lv_if_ge C.1 C.2.1 hd ht (fun h => kt ((q_le oy ox).mp h)) (fun h => kf fun z => h ((q_le oy ox).mpr z))
theorem q_icmp_gt {x y : Int} {off : Int} {tgt : Nat} (hd : decode M.2.1 pc = .ok (.if_icmp .gt off, 3)) (ht : (pc : Int) + off = (tgt : Int)) (kt : y < x → q_Ev M R mc ms k n tgt L st S I P) (kf : ¬ y < x → q_Ev M R mc ms k n (pc + 3) L st S I P) : q_Ev M R mc ms k n pc L (.inl y :: .inl x :: st) S I P := by
  intro p l e s m args below meth c H locs D B ls C hS hH hL oL oS
  have oy : q_in y := (q_oks_cons.mp oS).1
  have o := q_oks_cons.mp (q_oks_cons.mp oS).2
  have ox : q_in x := o.1
  have kt := fun h => kt h p l e s m args below meth c H locs D B ls C hS hH hL oL o.2
  have kf := fun h => kf h p l e s m args below meth c H locs D B ls C hS hH hL oL o.2
  exact lv_icmp_gt C.1 C.2.1 hd ht (fun h => kt ((q_lt oy ox).mp h)) (fun h => kf fun z => h ((q_lt oy ox).mpr z))
theorem q_if_gt {x : Int} {off : Int} {tgt : Nat} (hd : decode M.2.1 pc = .ok (.ifCond .gt off, 3)) (ht : (pc : Int) + off = (tgt : Int)) (kt : 0 < x → q_Ev M R mc ms k n tgt L st S I P) (kf : ¬ 0 < x → q_Ev M R mc ms k n (pc + 3) L st S I P) : q_Ev M R mc ms k n pc L (.inl x :: st) S I P := by
  intro p l e s m args below meth c H locs D B ls C hS hH hL oL oS
  have oy : q_in 0 := q_in0
  have o := q_oks_cons.mp oS
  have ox : q_in x := o.1
  have kt := fun h => kt h p l e s m args below meth c H locs D B ls C hS hH hL oL o.2
  have kf := fun h => kf h p l e s m args below meth c H locs D B ls C hS hH hL oL o.2
  exact lv_if_gt C.1 C.2.1 hd ht (fun h => kt ((q_lt oy ox).mp h)) (fun h => kf fun z => h ((q_lt oy ox).mpr z))
theorem q_icmp_le {x y : Int} {off : Int} {tgt : Nat} (hd : decode M.2.1 pc = .ok (.if_icmp .le off, 3)) (ht : (pc : Int) + off = (tgt : Int)) (kt : x ≤ y → q_Ev M R mc ms k n tgt L st S I P) (kf : ¬ x ≤ y → q_Ev M R mc ms k n (pc + 3) L st S I P) : q_Ev M R mc ms k n pc L (.inl y :: .inl x :: st) S I P := by
  intro p l e s m args below meth c H locs D B ls C hS hH hL oL oS
  have oy : q_in y := (q_oks_cons.mp oS).1
  have o := q_oks_cons.mp (q_oks_cons.mp oS).2
  have ox : q_in x := o.1
  have kt := fun h => kt h p l e s m args below meth c H locs D B ls C hS hH hL oL o.2
  have kf := fun h => kf h p l e s m args below meth c H locs D B ls C hS hH hL oL o.2
  exact lv_icmp_le C.1 C.2.1 hd ht (fun h => kt ((q_le ox oy).mp h)) (fun h => kf fun z => h ((q_le ox oy).mpr z))
theorem q_if_le {x : Int} {off : Int} {tgt : Nat} (hd : decode M.2.1 pc = .ok (.ifCond .le off, 3)) (ht : (pc : Int) + off = (tgt : Int)) (kt : x ≤ 0 → q_Ev M R mc ms k n tgt L st S I P) (kf : ¬ x ≤ 0 → q_Ev M R mc ms k n (pc + 3) L st S I P) : q_Ev M R mc ms k n pc L (.inl x :: st) S I P := by
  intro p l e s m args below meth c H locs D B ls C hS hH hL oL oS
  have oy : q_in 0 := q_in0
  have o := q_oks_cons.mp oS
  have ox : q_in x := o.1
  have kt := fun h => kt h p l e s m args below meth c H locs D B ls C hS hH hL oL o.2
  have kf := fun h => kf h p l e s m args below meth c H locs D B ls C hS hH hL oL o.2
  exact lv_if_le C.1 C.2.1 hd ht (fun h => kt ((q_le ox oy).mp h)) (fun h => kf fun z => h ((q_le ox oy).mpr z))
theorem q_tableOut {dflt lo hi : Int} {offs : Array Int} {len : Nat} {x : Int} {tgt : Nat} (hd : decode M.2.1 pc = .ok (.tableswitch dflt lo hi offs, len)) (h : x < lo ∨ hi < x) (ht : (pc : Int) + dflt = (tgt : Int)) (K : q_Ev M R mc ms k n tgt L st S I P) : q_Ev M R mc ms k n pc L (.inl x :: st) S I P := by
  intro p l e s m args below meth c H locs D B ls C hS hH hL oL oS
  have o := q_oks_cons.mp oS
  have ox : q_in x := o.1
  exact lv_tableOut C.1 C.2.1 hd (by rw [q_toInt ox]; exact h) ht (K p l e s m args below meth c H locs D B ls C hS hH hL oL o.2)
theorem q_tableIn {dflt lo hi : Int} {offs : Array Int} {len : Nat} {x : Int} {off : Int} {tgt : Nat} (hd : decode M.2.1 pc = .ok (.tableswitch dflt lo hi offs, len)) (h1 : ¬ x < lo) (h2 : ¬ hi < x) (ho : offs[(x - lo).toNat]? = some off) (ht : (pc : Int) + off = (tgt : Int)) (K : q_Ev M R mc ms k n tgt L st S I P) : q_Ev M R mc ms k n pc L (.inl x :: st) S I P := by
  intro p l e s m args below meth c H locs D B ls C hS hH hL oL oS
  have o := q_oks_cons.mp oS
  have ox : q_in x := o.1
  exact lv_tableIn C.1 C.2.1 hd (by rw [q_toInt ox]; exact h1) (by rw [q_toInt ox]; exact h2) (by rw [q_toInt ox]; exact ho) ht (K p l e s m args below meth c H locs D B ls C hS hH hL oL o.2)
theorem q_lookup {dflt : Int} {ps : Array (Int × Int)} {len : Nat} {x : Int} {off : Int} {tgt : Nat} (hd : decode M.2.1 pc = .ok (.lookupswitch dflt ps, len)) (hp : (ps.toList.zip (ps.toList.drop 1)).all (fun (a, next) => a.1 < next.1) = true) (ho : Op.lookupswitch.offset ps.toList dflt x = off) (ht : (pc : Int) + off = (tgt : Int)) (K : q_Ev M R mc ms k n tgt L st S I P) : q_Ev M R mc ms k n pc L (.inl x :: st) S I P := by
  intro p l e s m args below meth c H locs D B ls C hS hH hL oL oS
  have o := q_oks_cons.mp oS
  have ox : q_in x := o.1
  exact lv_lookup C.1 C.2.1 hd hp (by rw [q_toInt ox]; exact ho) ht (K p l e s m args below meth c H locs D B ls C hS hH hL oL o.2)
/-- the ends -/
theorem q_iret {x : Int} (hr : M.2.2.2 = some .int) (hd : decode M.2.1 pc = .ok (.ireturn, 1)) (hP : P (some (.inl x)) S I) : q_Ev M R k n k n pc L [.inl x] S I P := by
  intro p l e s m args below meth c H locs D B ls C hS hH hL oL oS
  have o := q_oks_cons.mp oS
  exact W.iret C.1 C.2.1 (C.2.2.2.2.1.trans hr) (fun t ht hW => ⟨⟨some (.inl x), S, I, rfl, fun v hv => by cases hv; exact o.1, hP, by rw [ht]; exact hH.moved hW.alike⟩, hS.F ht⟩) hS.2.2 hd C.2.2.2.2.2.1
theorem q_zret {x : Int} (hr : M.2.2.2 = some .boolean) (hx : x = 0 ∨ x = 1) (hd : decode M.2.1 pc = .ok (.ireturn, 1)) (hP : P (some (.inl x)) S I) : q_Ev M R k n k n pc L [.inl x] S I P := by
  intro p l e s m args below meth c H locs D B ls C hS hH hL oL oS
  have o := q_oks_cons.mp oS
  have hn : narrow .boolean (.int (Int32.ofInt x)) = .int (Int32.ofInt x) := by rcases hx with rfl | rfl <;> decide
  exact W.zret C.1 C.2.1 (C.2.2.2.2.1.trans hr) hn (fun t ht hW => ⟨⟨some (.inl x), S, I, rfl, fun v hv => by cases hv; exact o.1, hP, by rw [ht]; exact hH.moved hW.alike⟩, hS.F ht⟩) hS.2.2 hd C.2.2.2.2.2.1
theorem q_vret (hr : M.2.2.2 = none) (hd : decode M.2.1 pc = .ok (.return_, 1)) (hP : P none S I) : q_Ev M R k n k n pc L [] S I P := by
  intro p l e s m args below meth c H locs D B ls C hS hH hL oL oS
  exact W.vret C.1 C.2.1 (C.2.2.2.2.1.trans hr) (fun t ht hW => ⟨⟨none, S, I, rfl, (fun v hv => nomatch hv), hP, by rw [ht]; exact hH.moved hW.alike⟩, hS.F ht⟩) hS.2.2 hd C.2.2.2.2.2.1
theorem q_widen {k' n' : Nat} (h1 : k ≤ k') (h2 : n ≤ n') (K : q_Ev M R mc ms k' n' pc L st S I P) : q_Ev M R mc ms k n pc L st S I P := by
  intro p l e s m args below meth c H locs D B ls C hS hH hL oL oS
  exact W.widen h1 h2 (K p l e s m args below meth c H locs D B ls C hS hH hL oL oS)
end QR
end
section
/-! The machine's rows: fields, arrays, new cells. -/
/-- what the tables say of a class's fields -/
def q_lays (ci : Nat) (C : String) (T : u_T) (N : Nat) : Prop := q_cl[ci]? = some (C, T, N) ∧ ∀ w ∈ u_ws C T N, w ∈ lw_tbl ∧ q_mv w = true
/-- the types of its fields, and that their names differ -/
def q_typs (T : u_T) (N : Nat) (ty : Nat → FieldType) : Prop := (∀ k, k < N → parseFieldDescriptor (T k).2.2.1 = some (ty k)) ∧ ∀ a, a < N → ∀ b, b < N → a ≠ b → (T a).2.1 ≠ (T b).2.1
theorem q_lays.hts {ci : Nat} {C : String} {T : u_T} {N : Nat} (h : q_lays ci C T N) {D : va_G} {s : State} {args : Array Value} (hK : q_K D s) : ∀ w ∈ u_ws C T N, w.before args s = true :=
  fun w hw => hK.at (h.2 w hw).1 (h.2 w hw).2
/-- how the method may name the field: of its own class, or a nest mate's -/
def q_link (own : String) (index : Nat) (C name desc : String) : Prop := (Cond.fieldLink own index C name desc ∈ lw_tbl ∧ q_mv (Cond.fieldLink own index C name desc) = true) ∨ ∃ host, Cond.fieldLinkNest own index C name desc host ∈ lw_tbl
section QF
variable {M : qM} {R : Room} {mc ms k n pc : Nat} {L : List (Option qV)} {st : List qV} {S : qS} {I : qI} {P : qP}
theorem q_getf {a ci N index f : Nat} {vs : List qV} {C : String} {T : u_T} (hd : decode M.2.1 pc = .ok (.getfield index, 3)) (hc : q_lays ci C T N) (hci : ci < 100) (ha : S[a]? = some (ci, N, vs)) (hf : f < N) (hl : q_link M.1.cls index C (T f).2.1 (T f).2.2.1) (hown : (T f).1 = C)
    (K : q_Ev M R mc ms k n (pc + 3) L (q_sl vs (I a) f :: st) S I P) : q_Ev M R mc ms k n pc L (.inr (some a) :: st) S I P := by
  intro p l e s m args below meth c H locs D B ls C0 hS hH hL oL oS
  have o := q_oks_cons.mp oS
  have K1 := K p l e s m args below meth c H locs D B ls C0 hS hH hL oL (q_oks_cons.mpr ⟨q_sl_ok hH vs a f, o.2⟩)
  have hK : q_K D s := C0.2.2.2.2.2.2.2
  obtain ⟨r, h1, -, cell, g1, g2, g3, g4⟩ := (hH.2.2.2.2 a _ ha).1 hci
  have hr : r = (C, T, N) := Option.some.inj (h1.symm.trans hc.1)
  subst hr
  obtain ⟨hSl, hfc, kC, hkC, hkind⟩ := hK.2.1 ci _ hc.1
  obtain ⟨cf, kf, fi, fd, hi, hsl⟩ := hSl f hf
  have hst := (u_facts hfc hkC (u_lays (args := args) (hc.hts hK) (fun w h => h) hf) hi).1
  dsimp only at hi hSl hst
  rw [hown] at hi
  rcases hl with hl | ⟨host, hl⟩
  · exact W.getf C0.1 C0.2.1 C0.2.2.2.1 (hK.at hl.1 hl.2) hi hst g1 (by rw [g3]; exact fun h => by cases h) (by rw [hsl]; exact g4 f hf) rfl rfl hd K1
  · exact va_Wgetf C0.1 C0.2.1 C0.2.2.2.1 (hK.at hl rfl) hi hst g1 (by rw [g3]; exact fun h => by cases h) (by rw [hsl]; exact g4 f hf) rfl rfl hd K1
/-- a number's field is read -/
theorem q_getI {a ci N index f : Nat} {z : Int} {vs : List qV} {C : String} {T : u_T} (hd : decode M.2.1 pc = .ok (.getfield index, 3)) (hc : q_lays ci C T N) (hci : ci < 100) (ha : S[a]? = some (ci, N, vs)) (hf : f < N) (hl : q_link M.1.cls index C (T f).2.1 (T f).2.2.1) (hown : (T f).1 = C) (hv : vs[f]? = some (.inl z))
    (K : q_Ev M R mc ms k n (pc + 3) L (.inl (I a f) :: st) S I P) : q_Ev M R mc ms k n pc L (.inr (some a) :: st) S I P := by
  refine q_getf hd hc hci ha hf hl hown ?_
  have e : q_sl vs (I a) f = .inl (I a f) := by unfold q_sl; rw [hv]
  rw [e]
  exact K
theorem q_getR {a ci N index f : Nat} {r : Option Nat} {vs : List qV} {C : String} {T : u_T} (hd : decode M.2.1 pc = .ok (.getfield index, 3)) (hc : q_lays ci C T N) (hci : ci < 100) (ha : S[a]? = some (ci, N, vs)) (hf : f < N) (hl : q_link M.1.cls index C (T f).2.1 (T f).2.2.1) (hown : (T f).1 = C) (hv : vs[f]? = some (.inr r))
    (K : q_Ev M R mc ms k n (pc + 3) L (.inr r :: st) S I P) : q_Ev M R mc ms k n pc L (.inr (some a) :: st) S I P := by
  refine q_getf hd hc hci ha hf hl hown ?_
  have e : q_sl vs (I a) f = .inr r := by unfold q_sl; rw [hv]
  rw [e]
  exact K
/-- what a store of v into the field f does -/
theorem q_putA {a ci N index f : Nat} {v : qV} {vs vs' : List qV} {I' : qI} {C : String} {T : u_T} {ty : Nat → FieldType} (hd : decode M.2.1 pc = .ok (.putfield index, 3)) (hc : q_lays ci C T N) (hty : q_typs T N ty) (hci : ci < 100) (ha : S[a]? = some (ci, N, vs)) (hf : f < N) (hl : q_link M.1.cls index C (T f).2.1 (T f).2.2.1) (hown : (T f).1 = C)
    (hfin : (T f).2.2.2 = false ∨ ((T f).2.2.2 = true ∧ M.1.name = "<init>" ∧ C = M.1.cls ∧ Cond.fieldLink M.1.cls index C (T f).2.1 (T f).2.2.1 ∈ lw_tbl ∧ q_mv (Cond.fieldLink M.1.cls index C (T f).2.1 (T f).2.2.1) = true))
    (hn : ∀ B, narrow (ty f) (q_v B v) = q_v B v) (hfit : ∀ B, fits (ty f) (q_v B v) = true)
    (hI : ∀ b, b ≠ a → I' b = I b) (hr : q_ok v → (∀ j, q_in (I a j)) → ∀ j, q_in (I' a j)) (hV : ∀ j, j < N → q_sl vs' (I' a) j = if j = f then v else q_sl vs (I a) j)
    (K : q_Ev M R mc ms k n (pc + 3) L st (S.set a (ci, N, vs')) I' P) : q_Ev M R mc ms k n pc L (v :: .inr (some a) :: st) S I P := by
  intro p l e s m args below meth c H locs D B ls C0 hS hH hL oL oS
  have ov := (q_oks_cons.mp oS).1
  have o := q_oks_cons.mp (q_oks_cons.mp oS).2
  have hK : q_K D s := C0.2.2.2.2.2.2.2
  have ha0 : a ≠ 0 := hH.ne0 ha (by show ci < 200; omega)
  have hap := va_apart (own := M.1.cls) (args := args) (hc.hts hK) (fun w h => h) ty hty.1 hty.2 hK.2 hc.1
  obtain ⟨r, h1, -, cell, g1, g2, g3, g4⟩ := (hH.2.2.2.2 a _ ha).1 hci
  have hr0 : r = (C, T, N) := Option.some.inj (h1.symm.trans hc.1)
  subst hr0
  obtain ⟨hSl, hfc, kC, hkC, hkind⟩ := hK.2.1 ci _ hc.1
  obtain ⟨cf, kf, fi, fd, hi, hsl⟩ := hSl f hf
  have hst := (u_facts hfc hkC (u_lays (args := args) (hc.hts hK) (fun w h => h) hf) hi).1
  have hlay : (u_lay C T f).before args s = true := hc.hts hK _ (u_in_lay hf)
  dsimp only at hi hSl hst g4 hkC hfc hkind
  have fin : ∀ (H' : Heap), H'[q_g B a]? = some (cell.setSlot fd.slot (q_v B v)) → H'.size = H.size → (∀ q, q ≠ q_g B a → H'[q]? = H[q]?) → W p l e R s m args below meth c H' (locs ++ [⟨q_g B a, fd.slot⟩]) k n (MQ below (q_Qc D B P) args s mc ms (q_fr B)) (F0 m (pc + 3) ls (st.map (q_v B))) := by
    intro H' e1 e2 e3
    refine K p l e s m args below meth c H' _ D B ls C0 (hS.put e2 e3 (q_g_fr ha0)) (hH.put ha ha0 e2 e3 hI (hr ov (hH.2.2.2.1 a)) ⟨fun _ => ⟨_, hc.1, rfl, ?_⟩, fun h => by simp only at h; omega, fun h => by simp only at h; omega⟩) hL oL o.2
    refine t_OB.to (V := updV (fun j => q_v B (q_sl vs (I a) j)) f (q_v B v)) ⟨_, e1, g2, g3, ?_⟩ (fun j hj => ?_)
    · rw [hsl]
      exact t_set g4 hap hf _
    · show updV _ f _ j = q_v B (q_sl vs' (I' a) j)
      rw [hV j hj]
      unfold updV
      split <;> rfl
  have hsz : fd.slot < cell.slots.size := by rw [hsl]; exact k2_hasslot (g4 f hf)
  rcases hfin with hfin | ⟨hfin, hini, hC, hlk⟩
  · unfold u_lay at hlay
    rw [if_neg (by rw [hfin]; decide)] at hlay
    have h6 := u_store hfc hkC hkind hlay hi (hty.1 f hf) (hn B) (hfit B)
    rw [hown] at hi
    rcases hl with hl | ⟨host, hl⟩
    · exact W.putK C0.1 C0.2.1 (f := fd) ⟨C0.2.2.2.1, hK.at hl.1 hl.2, ⟨_, _, _, hi⟩, hst⟩ (by rw [g2]; exact h6) g1 g3 hsz rfl rfl hd fin
    · exact va_WputK C0.1 C0.2.1 (f := fd) C0.2.2.2.1 (hK.at hl rfl) hi hst (by rw [g2]; exact h6) g1 g3 hsz rfl rfl hd fin
  · unfold u_lay at hlay
    rw [if_pos hfin] at hlay
    have h6 := u_fits hfc hkC hkind (Or.inr hlay) hi (hty.1 f hf) (hn B) (hfit B)
    have hcf : m.cls = cf := by
      obtain ⟨_, _, c', _, _, _, -, -, hf', -, -, -, hown2, -⟩ := Cond.laysFinal_spec hlay
      have e1 : c' = cf := by have := hi.symm.trans hf'; simp at this; exact this.1.symm
      rw [hown, hC] at hown2
      rw [← e1]
      exact Option.some.inj (C0.2.2.2.1.symm.trans hown2)
    rw [hown] at hi
    exact W.putFinK C0.1 C0.2.1 C0.2.2.2.1 (hK.at hlk.1 hlk.2) hi hst hcf (by rw [C0.2.2.2.2.2.2.1]; exact hini) (by rw [g2]; exact h6) g1 g3 hsz rfl rfl hd fin
/-- a number into a field -/
theorem q_putI {a ci N index f : Nat} {x z : Int} {vs : List qV} {C : String} {T : u_T} {ty : Nat → FieldType} (hd : decode M.2.1 pc = .ok (.putfield index, 3)) (hc : q_lays ci C T N) (hty : q_typs T N ty) (hci : ci < 100) (ha : S[a]? = some (ci, N, vs)) (hf : f < N) (hl : q_link M.1.cls index C (T f).2.1 (T f).2.2.1) (hown : (T f).1 = C)
    (hfin : (T f).2.2.2 = false ∨ ((T f).2.2.2 = true ∧ M.1.name = "<init>" ∧ C = M.1.cls ∧ Cond.fieldLink M.1.cls index C (T f).2.1 (T f).2.2.1 ∈ lw_tbl ∧ q_mv (Cond.fieldLink M.1.cls index C (T f).2.1 (T f).2.2.1) = true))
    (ht : ty f = .int ∨ (ty f = .boolean ∧ (x = 0 ∨ x = 1))) (hv : vs[f]? = some (.inl z))
    (K : q_Ev M R mc ms k n (pc + 3) L st S (q_up I a f x) P) : q_Ev M R mc ms k n pc L (.inl x :: .inr (some a) :: st) S I P := by
  have e : S.set a (ci, N, vs) = S := by
    apply List.ext_getElem?
    intro j
    by_cases hj : j = a
    · subst hj
      rw [List.getElem?_set_self (List.getElem?_eq_some_iff.mp ha).1, ha]
    · rw [List.getElem?_set_ne (Ne.symm hj)]
  refine q_putA (v := .inl x) (vs' := vs) (I' := q_up I a f x) hd hc hty hci ha hf hl hown hfin (fun B => ?_) (fun B => ?_) q_up_off (fun ov h => q_up_ok h ov) (fun j _ => q_sl_up (fun r h => by rw [hv] at h; cases h) j) (by rw [e]; exact K)
  · rcases ht with ht | ⟨ht, hx⟩
    · rw [ht]; rfl
    · rw [ht]; rcases hx with rfl | rfl <;> rfl
  · rcases ht with ht | ⟨ht, hx⟩
    · rw [ht]; rfl
    · rw [ht]; rcases hx with rfl | rfl <;> rfl
/-- a cell into a field -/
theorem q_putR {a ci N index f : Nat} {r : Nat} {v0 : qV} {vs : List qV} {C : String} {T : u_T} {ty : Nat → FieldType} (hd : decode M.2.1 pc = .ok (.putfield index, 3)) (hc : q_lays ci C T N) (hty : q_typs T N ty) (hci : ci < 100) (ha : S[a]? = some (ci, N, vs)) (hf : f < N) (hl : q_link M.1.cls index C (T f).2.1 (T f).2.2.1) (hown : (T f).1 = C)
    (hfin : (T f).2.2.2 = false ∨ ((T f).2.2.2 = true ∧ M.1.name = "<init>" ∧ C = M.1.cls ∧ Cond.fieldLink M.1.cls index C (T f).2.1 (T f).2.2.1 ∈ lw_tbl ∧ q_mv (Cond.fieldLink M.1.cls index C (T f).2.1 (T f).2.2.1) = true))
    (ht : ∀ b, narrow (ty f) (.ref b) = .ref b ∧ fits (ty f) (.ref b) = true) (hv : vs[f]? = some v0)
    (K : q_Ev M R mc ms k n (pc + 3) L st (S.set a (ci, N, vs.set f (.inr (some r)))) I P) : q_Ev M R mc ms k n pc L (.inr (some r) :: .inr (some a) :: st) S I P := by
  exact q_putA (v := .inr (some r)) (vs' := vs.set f (.inr (some r))) (I' := I) hd hc hty hci ha hf hl hown hfin (fun B => (ht _).1) (fun B => (ht _).2) (fun _ _ => rfl) (fun _ h => h) (fun j _ => q_sl_set (List.getElem?_eq_some_iff.mp hv).1 j) K
/-- arrays -/
theorem q_iald {a N i : Nat} {x : Int} {vs : List qV} (hd : decode M.2.1 pc = .ok (.iaload, 1)) (ha : S[a]? = some (100, N, vs)) (hx : x = (i : Int)) (hi : i < N) (hv : vs[i]? = none)
    (K : q_Ev M R mc ms k n (pc + 1) L (.inl (I a i) :: st) S I P) : q_Ev M R mc ms k n pc L (.inl x :: .inr (some a) :: st) S I P := by
  intro p l e s m args below meth c H locs D B ls C0 hS hH hL oL oS
  subst hx
  have ox : q_in (i : Int) := (q_oks_cons.mp oS).1
  have o := q_oks_cons.mp (q_oks_cons.mp oS).2
  obtain ⟨ty, cA, e1, e2, e3, e4⟩ := (hH.2.2.2.2 a _ ha).2.1 (show 100 ≤ 100 by decide) (show 100 < 200 by decide)
  cases e1
  refine W.iald (v := q_v B (.inl (I a i))) C0.1 C0.2.1 e4 (e2 N _) (fun q => by cases q) (by rw [arrV_size]; exact q_vin hi ox) (by rw [q_clamp ox, arrV_read _ _ hi]; simp only [q_sl, hv]) rfl rfl hd ?_
  exact K p l e s m args below meth c H locs D B ls C0 hS hH hL oL (q_oks_cons.mpr ⟨hH.2.2.2.1 a i, o.2⟩)
theorem q_zald {a N i : Nat} {x : Int} {vs : List qV} (hd : decode M.2.1 pc = .ok (.baload, 1)) (ha : S[a]? = some (101, N, vs)) (hx : x = (i : Int)) (hi : i < N) (hv : vs[i]? = none)
    (K : q_Ev M R mc ms k n (pc + 1) L (.inl (I a i) :: st) S I P) : q_Ev M R mc ms k n pc L (.inl x :: .inr (some a) :: st) S I P := by
  intro p l e s m args below meth c H locs D B ls C0 hS hH hL oL oS
  subst hx
  have ox : q_in (i : Int) := (q_oks_cons.mp oS).1
  have o := q_oks_cons.mp (q_oks_cons.mp oS).2
  obtain ⟨ty, cA, e1, e2, e3, e4⟩ := (hH.2.2.2.2 a _ ha).2.1 (show 100 ≤ 101 by decide) (show 101 < 200 by decide)
  cases e1
  refine W.zald (v := q_v B (.inl (I a i))) C0.1 C0.2.1 e4 (e2 N _) (fun q => by cases q) (by rw [arrV_size]; exact q_vin hi ox) (by rw [q_clamp ox, arrV_read _ _ hi]; simp only [q_sl, hv]) rfl rfl hd ?_
  exact K p l e s m args below meth c H locs D B ls C0 hS hH hL oL (q_oks_cons.mpr ⟨hH.2.2.2.1 a i, o.2⟩)
theorem q_aald {t a N i : Nat} {x : Int} {r : Option Nat} {vs : List qV} {E : String} (hd : decode M.2.1 pc = .ok (.aaload, 1)) (ht : 100 ≤ t ∧ t < 200 ∧ q_ty t = some (.object E)) (ha : S[a]? = some (t, N, vs)) (hx : x = (i : Int)) (hi : i < N) (hv : vs[i]? = some (.inr r))
    (K : q_Ev M R mc ms k n (pc + 1) L (.inr r :: st) S I P) : q_Ev M R mc ms k n pc L (.inl x :: .inr (some a) :: st) S I P := by
  intro p l e s m args below meth c H locs D B ls C0 hS hH hL oL oS
  subst hx
  have ox : q_in (i : Int) := (q_oks_cons.mp oS).1
  have o := q_oks_cons.mp (q_oks_cons.mp oS).2
  obtain ⟨ty, cA, e1, e2, e3, e4⟩ := (hH.2.2.2.2 a _ ha).2.1 ht.1 ht.2.1
  cases ht.2.2.symm.trans e1
  refine W.aald (v := q_v B (.inr r)) (ty := .object E) C0.1 C0.2.1 e4 (e2 N _) rfl (fun q => by cases q) (by rw [arrV_size]; exact q_vin hi ox) (by rw [q_clamp ox, arrV_read _ _ hi]; simp only [q_sl, hv]) rfl rfl hd ?_
  exact K p l e s m args below meth c H locs D B ls C0 hS hH hL oL (q_oks_cons.mpr ⟨trivial, o.2⟩)
theorem q_arr {D : va_G} {U : State} {B : Nat × Nat} {S : qS} {I : qI} {H H1 : Heap} {t a N i : Nat} {x : Int} {vs : List qV} {ty : FieldType} {cA : ClassId} (hH : q_H D U B S I H) (ha : S[a]? = some (t, N, vs)) (ht : 100 ≤ t ∧ t < 200) (ha0 : a ≠ 0) (e1 : q_ty t = some ty) (e2 : ArrOfT U cA ty) (e3 : va_RA U cA ty) (hv : vs[i]? = none) (hx : q_in x)
    (g1 : H1[q_g B a]? = some ((arrV cA N (fun j => q_v B (q_sl vs (I a) j))).setSlot i (.int (Int32.ofInt x)))) (g2 : H1.size = H.size) (g3 : ∀ q, q ≠ q_g B a → H1[q]? = H[q]?) : q_H D U B S (q_up I a i x) H1 := by
  refine hH.put' ha ha0 g2 g3 q_up_off (q_up_ok (hH.2.2.2.1 a) hx) ⟨fun h => by have : t < 100 := h; omega, fun _ _ => ⟨ty, cA, e1, e2, e3, ?_⟩, fun h => by have : 200 ≤ t := h; omega⟩
  rw [g1, arrV_store]
  congr 2
  funext j
  show updV _ i _ j = q_v B (q_sl vs (q_up I a i x a) j)
  rw [q_sl_up (fun r h => by rw [hv] at h; cases h) j]
  unfold updV
  split <;> rfl
theorem q_iast {a N i : Nat} {x y : Int} {vs : List qV} (hd : decode M.2.1 pc = .ok (.iastore, 1)) (ha : S[a]? = some (100, N, vs)) (hy : y = (i : Int)) (hi : i < N) (hv : vs[i]? = none)
    (K : q_Ev M R mc ms k n (pc + 1) L st S (q_up I a i x) P) : q_Ev M R mc ms k n pc L (.inl x :: .inl y :: .inr (some a) :: st) S I P := by
  intro p l e s m args below meth c H locs D B ls C0 hS hH hL oL oS
  subst hy
  have ox : q_in x := (q_oks_cons.mp oS).1
  have oi : q_in (i : Int) := (q_oks_cons.mp (q_oks_cons.mp oS).2).1
  have o := q_oks_cons.mp (q_oks_cons.mp (q_oks_cons.mp oS).2).2
  have ha0 : a ≠ 0 := hH.ne0 ha (show 100 < 200 by decide)
  obtain ⟨ty, cA, e1, e2, e3, e4⟩ := (hH.2.2.2.2 a _ ha).2.1 (show 100 ≤ 100 by decide) (show 100 < 200 by decide)
  cases e1
  refine W.iast C0.1 C0.2.1 e4 (e2 N _) (fun q => by cases q) (by rw [arrV_size]; exact q_vin hi oi) rfl rfl hd fun H1 g1 g2 g3 => ?_
  rw [q_clamp oi] at g1 ⊢
  exact K p l e s m args below meth c H1 _ D B ls C0 (hS.put g2 g3 (q_g_fr ha0)) (q_arr hH ha (by decide) ha0 rfl e2 e3 hv ox g1 g2 g3) hL oL o.2
theorem q_zast {a N i : Nat} {x y : Int} {vs : List qV} (hd : decode M.2.1 pc = .ok (.bastore, 1)) (ha : S[a]? = some (101, N, vs)) (hy : y = (i : Int)) (hi : i < N) (hv : vs[i]? = none) (hz : x = 0 ∨ x = 1)
    (K : q_Ev M R mc ms k n (pc + 1) L st S (q_up I a i x) P) : q_Ev M R mc ms k n pc L (.inl x :: .inl y :: .inr (some a) :: st) S I P := by
  intro p l e s m args below meth c H locs D B ls C0 hS hH hL oL oS
  subst hy
  have ox : q_in x := (q_oks_cons.mp oS).1
  have oi : q_in (i : Int) := (q_oks_cons.mp (q_oks_cons.mp oS).2).1
  have o := q_oks_cons.mp (q_oks_cons.mp (q_oks_cons.mp oS).2).2
  have ha0 : a ≠ 0 := hH.ne0 ha (show 101 < 200 by decide)
  obtain ⟨ty, cA, e1, e2, e3, e4⟩ := (hH.2.2.2.2 a _ ha).2.1 (show 100 ≤ 101 by decide) (show 101 < 200 by decide)
  cases e1
  have hn : narrow .boolean (.int (Int32.ofInt x)) = .int (Int32.ofInt x) := by rcases hz with rfl | rfl <;> decide
  refine W.zast C0.1 C0.2.1 e4 (e2 N _) (fun q => by cases q) (by rw [arrV_size]; exact q_vin hi oi) rfl rfl hd fun H1 g1 g2 g3 => ?_
  rw [q_clamp oi] at g1 ⊢
  rw [hn] at g1
  exact K p l e s m args below meth c H1 _ D B ls C0 (hS.put g2 g3 (q_g_fr ha0)) (q_arr hH ha (by decide) ha0 rfl e2 e3 hv ox g1 g2 g3) hL oL o.2
/-- a made object into an array -/
theorem q_aast {t a N i r ci N' : Nat} {y : Int} {v0 : qV} {vs vs' : List qV} {E : String} {T : u_T} (hd : decode M.2.1 pc = .ok (.aastore, 1)) (ht : 100 ≤ t ∧ t < 200 ∧ q_ty t = some (.object E)) (ha : S[a]? = some (t, N, vs)) (hr : S[r]? = some (ci, N', vs')) (hci : ci < 100) (hcl : q_cl[ci]? = some (E, T, N')) (hy : y = (i : Int)) (hi : i < N) (hv : vs[i]? = some v0)
    (K : q_Ev M R mc ms k n (pc + 1) L st (S.set a (t, N, vs.set i (.inr (some r)))) I P) : q_Ev M R mc ms k n pc L (.inr (some r) :: .inl y :: .inr (some a) :: st) S I P := by
  intro p l e s m args below meth c H locs D B ls C0 hS hH hL oL oS
  subst hy
  have oi : q_in (i : Int) := (q_oks_cons.mp (q_oks_cons.mp oS).2).1
  have o := q_oks_cons.mp (q_oks_cons.mp (q_oks_cons.mp oS).2).2
  have hK : q_K D s := C0.2.2.2.2.2.2.2
  have ha0 : a ≠ 0 := hH.ne0 ha (by show t < 200; exact ht.2.1)
  obtain ⟨ty, cA, e1, e2, e3, e4⟩ := (hH.2.2.2.2 a _ ha).2.1 ht.1 ht.2.1
  cases ht.2.2.symm.trans e1
  obtain ⟨r', f1, -, cellV, f2, f3, f4, -⟩ := (hH.2.2.2.2 r _ hr).1 hci
  have hcls := (hK.2.1 ci _ hcl).2
  obtain ⟨kA, comp, k1, k2, k3, k4⟩ := e3
  have hcomp : comp = D.1 ci := Option.some.inj (k3.symm.trans hcls.1)
  subst hcomp
  have hcls' := hcls
  obtain ⟨kC, hkC, -⟩ := hcls.2
  refine W.aast C0.1 C0.2.1 e4 (fun q h => by cases h) (fun h => by cases h) k1 k2 rfl hkC ⟨fun h => q_vin hi oi (Or.inl h), by rw [arrV_size, q_clamp oi]; exact hi⟩ f2 (fun q h => by rw [f4] at h; cases h) (by rw [f3]; exact hkC) (by rw [f3]; exact va_assign hcls') rfl rfl hd fun H1 g1 g2 g3 => ?_
  rw [q_clamp oi] at g1 ⊢
  refine K p l e s m args below meth c H1 _ D B ls C0 (hS.put g2 g3 (q_g_fr ha0)) (hH.put ha ha0 g2 g3 (fun _ _ => rfl) (hH.2.2.2.1 a) ⟨fun h => by have : t < 100 := h; omega, fun _ _ => ⟨_, cA, e1, e2, ⟨kA, _, k1, k2, k3, k4⟩, ?_⟩, fun h => by have : 200 ≤ t := h; omega⟩) hL oL o.2
  rw [g1, arrV_store]
  congr 2
  funext j
  show updV _ i _ j = q_v B (q_sl (vs.set i (.inr (some r))) (I a) j)
  rw [q_sl_set (List.getElem?_eq_some_iff.mp hv).1]
  unfold updV
  split <;> rfl
/-- the script -/
theorem q_sld {a N i : Nat} {x : Int} {vs : List qV} (hd : decode M.2.1 pc = .ok (.iaload, 1)) (ha : S[a]? = some (200, N, vs)) (hx : x = (i : Int)) (hi : i < N)
    (K : q_Ev M R mc ms k n (pc + 1) L (.inl (I a i) :: st) S I P) : q_Ev M R mc ms k n pc L (.inl x :: .inr (some a) :: st) S I P := by
  intro p l e s m args below meth c H locs D B ls C0 hS hH hL oL oS
  subst hx
  have ox : q_in (i : Int) := (q_oks_cons.mp oS).1
  have o := q_oks_cons.mp (q_oks_cons.mp oS).2
  obtain ⟨scr, e1, e2, e3, e4, e5⟩ := (hH.2.2.2.2 a _ ha).2.2 (Nat.le_refl _)
  refine W.iald (v := q_v B (.inl (I a i))) C0.1 C0.2.1 e1 e2 e3 (by rw [e4]; exact q_vin hi ox) (by rw [q_clamp ox]; exact e5 i hi) rfl rfl hd ?_
  exact K p l e s m args below meth c H locs D B ls C0 hS hH hL oL (q_oks_cons.mpr ⟨hH.2.2.2.1 a i, o.2⟩)
theorem q_slen {a N : Nat} {vs : List qV} (hd : decode M.2.1 pc = .ok (.arraylength, 1)) (ha : S[a]? = some (200, N, vs)) (hN : q_in (N : Int))
    (K : q_Ev M R mc ms k n (pc + 1) L (.inl (N : Int) :: st) S I P) : q_Ev M R mc ms k n pc L (.inr (some a) :: st) S I P := by
  intro p l e s m args below meth c H locs D B ls C0 hS hH hL oL oS
  have o := q_oks_cons.mp oS
  obtain ⟨scr, e1, e2, e3, e4, e5⟩ := (hH.2.2.2.2 a _ ha).2.2 (Nat.le_refl _)
  refine W.alen (n := Int32.ofInt (N : Int)) C0.1 C0.2.1 e1 e2 (by rw [e4]; exact Int32.ofInt_eq_ofNat.symm) rfl rfl hd ?_
  exact K p l e s m args below meth c H locs D B ls C0 hS hH hL oL (q_oks_cons.mpr ⟨hN, o.2⟩)
/-- new arrays and objects -/
theorem q_newa {at_ : ArrayType} {t N : Nat} {x : Int} {ty : FieldType} (hd : decode M.2.1 pc = .ok (.newarray at_, 2)) (hty : newarray.typeOf at_ = ty) (ht : 100 ≤ t ∧ t < 200 ∧ q_ty t = some ty) (hdv : defaultValue ty = .int (Int32.ofInt 0)) (hra : ∀ (U : State) (cA : ClassId), U.vm.findClass ("[" ++ ty.toString) = some cA → va_RA U cA ty) (hw : Cond.arrayClass ty ∈ lw_tbl) (hx : x = (N : Int)) (hb : N * componentBytes ty ≤ 536870912) (hR : k + 1 ≤ R.cells ∧ n + N ≤ R.slots) (hS0 : S ≠ []) (hI : ∀ j, I S.length j = 0)
    (K : q_Ev M R mc ms (k + 1) (n + N) (pc + 2) L (.inr (some S.length) :: st) (S ++ [(t, N, [])]) I P) : q_Ev M R mc ms k n pc L (.inl x :: st) S I P := by
  intro p l e s m args below meth c H locs D B ls C0 hS hH hL oL oS
  subst hx; subst hty
  have ox : q_in (N : Int) := (q_oks_cons.mp oS).1
  have o := q_oks_cons.mp oS
  have hK : q_K D s := C0.2.2.2.2.2.2.2
  have hl : 0 < S.length := List.length_pos_iff.mpr hS0
  refine va_newaK C0.1 C0.2.1 (hK.at hw rfl) rfl hd rfl (fun h => q_vin (N := N + 1) (Nat.lt_succ_self N) ox (Or.inl h)) (q_clamp ox) hb hR.1 hR.2 rfl fun H1 cA e1 z1 o1 hAr hNm => ?_
  have e9 : (q_v B (.inr (some S.length)) : Value) = .ref H.size := by
    show Value.ref (q_g B S.length) = _
    unfold q_g
    rw [if_neg (by omega), hH.1]
  have K1 := K p l e s m args below meth c H1 locs D B ls C0 ⟨Nat.le_trans hS.1 (by omega), fun q h1 h2 => (o1 q (Nat.lt_of_lt_of_le h1 hS.1)).trans (hS.2.1 q h1 h2), hS.2.2⟩
    (hH.push hS0 z1 o1 ⟨fun h => by have : t < 100 := h; omega, fun _ _ => ⟨_, cA, ht.2.2, hAr, hra s cA hNm, ?_⟩, fun h => by have : 200 ≤ t := h; omega⟩) hL oL (q_oks_cons.mpr ⟨trivial, o.2⟩)
  · rw [List.map_cons, e9] at K1
    exact K1
  · rw [e1]
    congr 2
    funext j
    rw [hdv]
    show _ = q_v B (q_sl [] (I S.length) j)
    simp [q_sl, hI j, q_v]
theorem q_anew {index t N : Nat} {x : Int} {E : String} (hd : decode M.2.1 pc = .ok (.anewarray index, 3)) (ht : 100 ≤ t ∧ t < 200 ∧ q_ty t = some (.object E)) (hw1 : Cond.classLink M.1.cls index E ∈ lw_tbl) (hw3 : q_mv (Cond.classLink M.1.cls index E) = true) (hw2 : Cond.arrayOver (.object E) ∈ lw_tbl) (hx : x = (N : Int)) (hb : N * 4 ≤ 536870912) (hR : k + 1 ≤ R.cells ∧ n + N ≤ R.slots) (hS0 : S ≠ [])
    (K : q_Ev M R mc ms (k + 1) (n + N) (pc + 3) L (.inr (some S.length) :: st) (S ++ [(t, N, List.replicate N (.inr none))]) I P) : q_Ev M R mc ms k n pc L (.inl x :: st) S I P := by
  intro p l e s m args below meth c H locs D B ls C0 hS hH hL oL oS
  subst hx
  have ox : q_in (N : Int) := (q_oks_cons.mp oS).1
  have o := q_oks_cons.mp oS
  have hK : q_K D s := C0.2.2.2.2.2.2.2
  have hl : 0 < S.length := List.length_pos_iff.mpr hS0
  have hc := q_clamp ox
  refine W.anew C0.1 C0.2.1 C0.2.2.2.1 (hK.at hw1 hw3) (hK.at hw2 rfl) rfl hd rfl (fun h => q_vin (N := N + 1) (Nat.lt_succ_self N) ox (Or.inl h)) (by rw [hc]; exact hb) hR.1 (by rw [hc]; exact hR.2) fun cA kA comp f1 f2 f3 f4 => ?_
  rw [hc]
  generalize hH1 : H.push ({ cls := cA, slots := Array.replicate N .null, vm := .none } : Cell) = H1
  have z1 : H1.size = H.size + 1 := by rw [← hH1, Array.size_push]
  have e1 : H1[H.size]? = some (arrV cA N (fun _ => .null)) := by rw [← hH1, Array.getElem?_push_size, ← arrV_new]
  have o1 : ∀ q : Nat, q < H.size → H1[q]? = H[q]? := fun q hq => by rw [← hH1, Array.getElem?_push, if_neg (Nat.ne_of_lt hq)]
  have hAr : ArrOfT s cA (.object E) := fun N z => ⟨(fun k h => by cases h), kA, f2, comp, f3⟩
  have e9 : (q_v B (.inr (some S.length)) : Value) = .ref H.size := by
    show Value.ref (q_g B S.length) = _
    unfold q_g
    rw [if_neg (by omega), hH.1]
  have K1 := K p l e s m args below meth c H1 locs D B ls C0 ⟨Nat.le_trans hS.1 (by omega), fun q h1 h2 => (o1 q (Nat.lt_of_lt_of_le h1 hS.1)).trans (hS.2.1 q h1 h2), hS.2.2⟩
    (hH.push hS0 z1 o1 ⟨fun h => by have : t < 100 := h; omega, fun _ _ => ⟨_, cA, ht.2.2, hAr, ⟨kA, comp, f2, f3, f4, f1⟩, ?_⟩, fun h => by have : 200 ≤ t := h; omega⟩) hL oL (q_oks_cons.mpr ⟨trivial, o.2⟩)
  · rw [List.map_cons, e9] at K1
    exact K1
  · rw [e1]
    congr 1
    show arrV cA N _ = arrV cA N _
    unfold arrV
    congr 1
    apply Array.ext
    · simp
    · intro j h1 h2
      simp at h1
      simp [q_sl, h1, q_v]
theorem q_new {index ci N : Nat} {C : String} {T : u_T} {ty : Nat → FieldType} {vs : List qV} (hd : decode M.2.1 pc = .ok (.new index, 3)) (hc : q_lays ci C T N) (hci : ci < 100) (hty : q_typs T N ty) (hw1 : Cond.classLink M.1.cls index C ∈ lw_tbl ∧ q_mv (Cond.classLink M.1.cls index C) = true) (hw2 : Cond.instantiable C N ∈ lw_tbl ∧ q_mv (Cond.instantiable C N) = true) (hw3 : Cond.initialized C ∈ lw_tbl ∧ q_mv (Cond.initialized C) = true) (hR : k + 1 ≤ R.cells ∧ n + N ≤ R.slots) (hS0 : S ≠ [])
    (hI : ∀ j, I S.length j = 0) (hvs : ∀ B j, j < N → defaultValue (ty j) = q_v B (q_sl vs (fun _ => 0) j))
    (K : q_Ev M R mc ms (k + 1) (n + N) (pc + 3) L (.inr (some S.length) :: st) (S ++ [(ci, N, vs)]) I P) : q_Ev M R mc ms k n pc L st S I P := by
  intro p l e s m args below meth c H locs D B ls C0 hS hH hL oL oS
  have hK : q_K D s := C0.2.2.2.2.2.2.2
  have hl : 0 < S.length := List.length_pos_iff.mpr hS0
  have hKn := hK.2.1 ci _ hc.1
  have hI0 : I S.length = fun _ => 0 := funext hI
  refine W.newcK C0.1 C0.2.1 C0.2.2.2.1 (hK.at hw1.1 hw1.2) (hK.at hw2.1 hw2.2) (hK.at hw3.1 hw3.2) rfl hd hR.1 hR.2 hKn.2.1 rfl fun H1 kC hkC e1 z1 o1 => ?_
  have e9 : (q_v B (.inr (some S.length)) : Value) = .ref H.size := by
    show Value.ref (q_g B S.length) = _
    unfold q_g
    rw [if_neg (by omega), hH.1]
  have K1 := K p l e s m args below meth c H1 locs D B ls C0 ⟨Nat.le_trans hS.1 (by omega), fun q h1 h2 => (o1 q (Nat.lt_of_lt_of_le h1 hS.1)).trans (hS.2.1 q h1 h2), hS.2.2⟩
    (hH.push hS0 z1 o1 ⟨fun _ => ⟨_, hc.1, rfl, (u_born (args := args) ty (hc.hts hK) (fun w h => h) hKn hkC e1 hty.1).to (fun j hj => ?_)⟩, fun h => by have : 100 ≤ ci := h; omega, fun h => by have : 200 ≤ ci := h; omega⟩) hL oL (q_oks_cons.mpr ⟨trivial, oS⟩)
  · rw [List.map_cons, e9] at K1
    exact K1
  · rw [hI0]
    exact hvs B j hj
end QF
end
section
/-! The machine's rows: calls, and a method's entry. -/
theorem q_go {p : Program} {l : Launch} {e : Env} {R : Room} {s : State} {m : MethodId} {args : Array Value} {below : List Frame} {meth : Method} {c : Code} {H : Heap} {locs : List Loc} {k n mc' ms' pc : Nat} {ls : Array Slot} {st0 rest : List Value} {D : va_G} {B : Nat × Nat} {P' : qP} {a : Array Value} {Q : State → Prop}
    (hr : va_Run p l e R s m args below meth c H locs k n mc' ms' (F0 m pc ls st0) rest (q_Qc D B P' a) (q_fr B)) (hS : va_S (q_fr B) s.heap H locs)
    (kk : ∀ (r : Option qV) (S' : qS) (I' : qI) (H1 : Heap) (locs1 : List Loc), P' r S' I' → (∀ v, r = some v → q_ok v) → q_H D s B S' I' H1 → va_S (q_fr B) s.heap H1 locs1 → W p l e R s m args below meth c H1 locs1 (k + mc') (n + ms') Q (F0 m (pc + 3) ls ((r.map (q_v B)).toList ++ rest))) :
    W p l e R s m args below meth c H locs k n Q (F0 m pc ls st0) := by
  intro T hT X
  obtain ⟨v, st₀, t, T', Lx, h0, X', hLx, e1, e2, ⟨⟨r, S', I', hv, ho, hp, hq⟩, hz, hk⟩, stp⟩ := hr T hT X
  cases hv
  rw [h0] at hz hk
  have hal : s.vm.Alike t.vm := by rw [← e2]; exact X'.warmed.alike
  obtain ⟨t2, a1, b1⟩ := kk r S' I' T'.heap (locs ++ Lx) hp ho (by rw [e1]; exact hq.moved hal.symm)
    ⟨Nat.le_trans hS.1 (by rw [e1]; exact hz), fun q h1 h2 => by rw [e1, hk q (Nat.lt_of_lt_of_le h1 hS.1) h2]; exact hS.2.1 q h1 h2, fun q hq => by
      rcases List.mem_append.mp hq with h | h
      · exact hS.2.2 q h
      · exact hLx q h⟩ T' rfl X'
  exact ⟨t2, stp t2 a1, b1⟩
theorem q_blind {D : va_G} {B : Nat × Nat} {as : List qV} {S : qS} {I : qI} : FrameBlind (q_Pc D B as S I) := by
  intro a U g mk h
  obtain ⟨h1, h2, h3, h4⟩ := h
  exact ⟨h1, h2, h3.moved (State.WarmedH.refl U), h4.moved (Vm.Alike.refl U.vm)⟩
theorem q_pre {D : va_G} {B : Nat × Nat} {as : List qV} {S : qS} {I : qI} {s : State} {H : Heap} (ho : q_oks as) (hK : q_K D s) (hH : q_H D s B S I H) : ∀ U : State, U.heap = H → s.WarmedH U.vm → q_Pc D B as S I (as.map (q_v B)).toArray U :=
  fun U hU hW => ⟨rfl, ho, hK.moved hW, by rw [hU]; exact hH.moved hW.alike⟩
/-- what the tables say of a callee -/
def q_code (N : qM) (np : Nat) : Prop := (Cond.code N.1 N.2.1 N.2.2.1 N.2.2.2 ∈ lw_tbl ∧ q_mv (Cond.code N.1 N.2.1 N.2.2.1 N.2.2.2) = true) ∧ (Cond.initialized N.1.cls ∈ lw_tbl ∧ q_mv (Cond.initialized N.1.cls) = true) ∧ (N.1.cls ≠ "java/lang/invoke/MethodHandle" ∧ N.1.cls ≠ "java/lang/invoke/VarHandle") ∧ (parseMethodDescriptor N.1.desc).map (fun d => d.parameters.length) = some np
def q_inst (N : qM) : Prop := Cond.instanceMethod N.1 ∈ lw_tbl ∧ q_mv (Cond.instanceMethod N.1) = true
def q_sel (N : qM) : Prop := Cond.selects N.1.cls N.1 N.1 ∈ lw_tbl ∧ q_mv (Cond.selects N.1.cls N.1 N.1) = true
def q_stat (N : qM) : Prop := Cond.static N.1 ∈ lw_tbl ∧ q_mv (Cond.static N.1) = true
def q_mlink (own : String) (index : Nat) (N : qM) : Prop := (Cond.methodLink own index N.1 ∈ lw_tbl ∧ q_mv (Cond.methodLink own index N.1) = true) ∨ ∃ host, Cond.methodLinkNest own index N.1 host ∈ lw_tbl
theorem q_codeW {N : qM} {np : Nat} (h : q_code N np) {D : va_G} {s : State} (hK : q_K D s) : ∀ w ∈ q_ws N, ∀ (a' : Array Value) (U : State), s.WarmedH U.vm → w.before a' U = true := by
  intro w hw a' U hW
  rw [List.mem_singleton.mp hw]
  exact q_mv_at h.1.2 hW (hK.at (args := #[]) h.1.1 h.1.2)
theorem q_room {d mc ms maxL : Nat} {R : Room} (h : d + 1 ≤ R.frames ∧ 19 + maxL + 40 * d ≤ R.locals) : (q_rm d mc ms).frames + 1 ≤ R.frames ∧ 8 + (maxL + 11) + (q_rm d mc ms).locals ≤ R.locals := by
  unfold q_rm
  exact ⟨h.1, by have := h.2; show 8 + (maxL + 11) + 40 * d ≤ R.locals; omega⟩
theorem q_CB {N : qM} {np : Nat} (h : q_code N np) {D : va_G} {s : State} (hK : q_K D s) {R : Room} {args : Array Value} {own : String} {index d mc ms : Nat} (hl : Cond.methodLink own index N.1 ∈ lw_tbl ∧ q_mv (Cond.methodLink own index N.1) = true) (hR : d + 1 ≤ R.frames ∧ 19 + N.2.2.1 + 40 * d ≤ R.locals) :
    CallB R s args own index N.1 N.2.1 N.2.2.1 N.2.2.2 (q_ws N) (q_rm d mc ms) mc ms np :=
  ⟨rfl, rfl, (q_room (mc := mc) (ms := ms) hR).1, (q_room (mc := mc) (ms := ms) hR).2, q_codeW h hK, List.mem_singleton.mpr rfl, hK.at h.1.1 h.1.2, hK.at h.2.1.1 h.2.1.2, h.2.2.1, fun sig hs => by
    have h2 := h.2.2.2
    rw [hs] at h2
    exact (Option.some.inj h2).symm, hK.at hl.1 hl.2⟩
theorem q_CN {N : qM} {np : Nat} (h : q_code N np) {D : va_G} {s : State} (hK : q_K D s) {R : Room} {args : Array Value} {own host : String} {index d mc ms : Nat} (hl : Cond.methodLinkNest own index N.1 host ∈ lw_tbl) (hR : d + 1 ≤ R.frames ∧ 19 + N.2.2.1 + 40 * d ≤ R.locals) :
    va_CN R s args own index N.1 host N.2.1 N.2.2.1 N.2.2.2 (q_ws N) (q_rm d mc ms) mc ms np :=
  ⟨⟨rfl, rfl, (q_room (mc := mc) (ms := ms) hR).1, (q_room (mc := mc) (ms := ms) hR).2, q_codeW h hK, List.mem_singleton.mpr rfl⟩, hK.at h.1.1 h.1.2, hK.at h.2.1.1 h.2.1.2, h.2.2.1, fun sig hs => by
    have h2 := h.2.2.2
    rw [hs] at h2
    exact (Option.some.inj h2).symm, hK.at hl rfl⟩
section QC
variable {M : qM} {R : Room} {mc ms k n pc : Nat} {L : List (Option qV)} {st : List qV} {S : qS} {I : qI} {P : qP}
theorem q_rest {m : MethodId} {ls : Array Slot} {B : Nat × Nat} {st : List qV} {x : List Value} (h : st.length ≤ 8) : 2 * (F0 m pc ls x).monitorRoom + ((st.map (q_v B)).map fun v => v.category).sum ≤ 8 := by
  rw [q_cats]
  show 2 * 0 + st.length ≤ 8
  omega
/-- a call of an object's method -/
theorem q_callV {N : qM} {d mc' ms' index np a ci nf : Nat} {as : List qV} {vs : List qV} {P' : qP} {T : u_T} {Nf : Nat} (hd : decode M.2.1 pc = .ok (.invokevirtual index, 3)) (hM : q_Met N d mc' ms' (.inr (some a) :: as) S I P') (hc : q_code N np) (hi : q_inst N) (hs : q_sel N) (hl : q_mlink M.1.cls index N)
    (ha : S[a]? = some (ci, nf, vs)) (hci : ci < 100) (hcl : q_cl[ci]? = some (N.1.cls, T, Nf)) (hnp : as.length = np) (hst : st.length ≤ 8) (hR : d + 1 ≤ R.frames ∧ 19 + N.2.2.1 + 40 * d ≤ R.locals) (hf : k + mc' ≤ R.cells ∧ n + ms' ≤ R.slots) {stk : List qV} (hstk : stk = as.reverse ++ .inr (some a) :: st)
    (K : ∀ (r : Option qV) (S' : qS) (I' : qI), P' r S' I' → q_Ev M R mc ms (k + mc') (n + ms') (pc + 3) L (r.toList ++ st) S' I' P) : q_Ev M R mc ms k n pc L stk S I P := by
  intro p l e s m args below meth c H locs D B ls C0 hS hH hL oL oS
  subst hstk
  have hK : q_K D s := C0.2.2.2.2.2.2.2
  have o1 := q_oks_app.mp oS
  have oas : q_oks (.inr (some a) :: as) := q_oks_cons.mpr ⟨trivial, q_oks_rev o1.1⟩
  have ost := (q_oks_cons.mp o1.2).2
  obtain ⟨r0, f1, -, cellV, f2, f3, f4, -⟩ := (hH.2.2.2.2 a _ ha).1 hci
  have hrecv : ∃ cellB : Cell, H[q_g B a]? = some cellB ∧ cellB.vm.isStatics = false ∧ s.vm.findClass N.1.cls = some cellB.cls := ⟨cellV, f2, by rw [f4]; rfl, by rw [f3]; exact (hK.2.1 ci _ hcl).2.1⟩
  have hPV : PreV s H N.1.cls (q_g B a) (q_Pc D B (.inr (some a) :: as) S I) (as.map (q_v B)) := ⟨q_blind, hrecv, q_pre oas hK hH⟩
  have hstack : (F0 m pc ls ((as.reverse ++ .inr (some a) :: st).map (q_v B))).stack = (as.map (q_v B)).reverse ++ .ref (q_g B a) :: st.map (q_v B) := by
    show (as.reverse ++ .inr (some a) :: st).map (q_v B) = _
    rw [List.map_append, List.map_reverse]
    rfl
  have hS9 : CallFix p m c M.2.1 M.2.2.1 s args [] M.1.cls := ⟨C0.1, C0.2.1, C0.2.2.1, C0.2.2.2.1, fun w h => by cases h⟩
  have fin : ∀ (r : Option qV) (S' : qS) (I' : qI) (H1 : Heap) (locs1 : List Loc), P' r S' I' → (∀ v, r = some v → q_ok v) → q_H D s B S' I' H1 → va_S (q_fr B) s.heap H1 locs1 → W p l e R s m args below meth c H1 locs1 (k + mc') (n + ms') (MQ below (q_Qc D B P) args s mc ms (q_fr B)) (F0 m (pc + 3) ls ((r.map (q_v B)).toList ++ st.map (q_v B))) := by
    intro r S' I' H1 locs1 hp ho hq hS1
    have K1 := K r S' I' hp p l e s m args below meth c H1 locs1 D B ls C0 hS1 hq hL oL (q_oks_app.mpr ⟨fun v hv => ho v (Option.mem_toList.mp hv), ost⟩)
    cases r <;> exact K1
  rcases hl with hl | ⟨host, hl⟩
  · exact q_go (va_runV (b := q_g B a) (As := as.map (q_v B)) (rest := st.map (q_v B)) hS9 (hM l D B) ⟨q_CB hc hK hl hR, hK.at hi.1 hi.2, hK.at hs.1 hs.2⟩ hPV rfl (by rw [List.length_map]; exact hnp) hL.1 hstack (q_rest hst) hd hf) hS fin
  · exact q_go (va_runVN (b := q_g B a) (As := as.map (q_v B)) (rest := st.map (q_v B)) hS9 (hM l D B) ⟨q_CN hc hK hl hR, hK.at hi.1 hi.2, hK.at hs.1 hs.2⟩ hPV rfl (by rw [List.length_map]; exact hnp) hL.1 hstack (q_rest hst) hd hf) hS fin
/-- a call of a static method -/
theorem q_callS {N : qM} {d mc' ms' index np : Nat} {as : List qV} {P' : qP} (hd : decode M.2.1 pc = .ok (.invokestatic index, 3)) (hM : q_Met N d mc' ms' as S I P') (hc : q_code N np) (hi : q_stat N) (hl : q_mlink M.1.cls index N)
    (hnp : as.length = np) (hst : st.length ≤ 8) (hR : d + 1 ≤ R.frames ∧ 19 + N.2.2.1 + 40 * d ≤ R.locals) (hf : k + mc' ≤ R.cells ∧ n + ms' ≤ R.slots) {stk : List qV} (hstk : stk = as.reverse ++ st)
    (K : ∀ (r : Option qV) (S' : qS) (I' : qI), P' r S' I' → q_Ev M R mc ms (k + mc') (n + ms') (pc + 3) L (r.toList ++ st) S' I' P) : q_Ev M R mc ms k n pc L stk S I P := by
  intro p l e s m args below meth c H locs D B ls C0 hS hH hL oL oS
  subst hstk
  have hK : q_K D s := C0.2.2.2.2.2.2.2
  have o1 := q_oks_app.mp oS
  have oas : q_oks as := q_oks_rev o1.1
  have ost := o1.2
  have hPS : PreS s H (q_Pc D B as S I) (as.map (q_v B)) := ⟨q_blind, q_pre oas hK hH⟩
  have hstack : (F0 m pc ls ((as.reverse ++ st).map (q_v B))).stack = (as.map (q_v B)).reverse ++ st.map (q_v B) := by
    show (as.reverse ++ st).map (q_v B) = _
    rw [List.map_append, List.map_reverse]
  have hS9 : CallFix p m c M.2.1 M.2.2.1 s args [] M.1.cls := ⟨C0.1, C0.2.1, C0.2.2.1, C0.2.2.2.1, fun w h => by cases h⟩
  have fin : ∀ (r : Option qV) (S' : qS) (I' : qI) (H1 : Heap) (locs1 : List Loc), P' r S' I' → (∀ v, r = some v → q_ok v) → q_H D s B S' I' H1 → va_S (q_fr B) s.heap H1 locs1 → W p l e R s m args below meth c H1 locs1 (k + mc') (n + ms') (MQ below (q_Qc D B P) args s mc ms (q_fr B)) (F0 m (pc + 3) ls ((r.map (q_v B)).toList ++ st.map (q_v B))) := by
    intro r S' I' H1 locs1 hp ho hq hS1
    have K1 := K r S' I' hp p l e s m args below meth c H1 locs1 D B ls C0 hS1 hq hL oL (q_oks_app.mpr ⟨fun v hv => ho v (Option.mem_toList.mp hv), ost⟩)
    cases r <;> exact K1
  rcases hl with hl | ⟨host, hl⟩
  · exact q_go (va_runS (As := as.map (q_v B)) (rest := st.map (q_v B)) hS9 (hM l D B) ⟨q_CB hc hK hl hR, hK.at hi.1 hi.2⟩ hPS rfl (by rw [List.length_map]; exact hnp) hL.1 hstack (q_rest hst) hd hf) hS fin
  · exact q_go (va_runSN (As := as.map (q_v B)) (rest := st.map (q_v B)) hS9 (hM l D B) ⟨q_CN hc hK hl hR, hK.at hi.1 hi.2, trivial⟩ hPS rfl (by rw [List.length_map]; exact hnp) hL.1 hstack (q_rest hst) hd hf) hS fin
/-- a call of a constructor -/
theorem q_callI {N : qM} {d mc' ms' index np a : Nat} {as : List qV} {P' : qP} (hd : decode M.2.1 pc = .ok (.invokespecial index, 3)) (hM : q_Met N d mc' ms' (.inr (some a) :: as) S I P') (hc : q_code N np) (hret : N.2.2.2 = none) (hy : N.1.name = "<init>") (hi : q_inst N) (hl : q_mlink M.1.cls index N)
    (hnp : as.length = np) (hst : st.length ≤ 8) (hR : d + 1 ≤ R.frames ∧ 19 + N.2.2.1 + 40 * d ≤ R.locals) (hf : k + mc' ≤ R.cells ∧ n + ms' ≤ R.slots) {stk : List qV} (hstk : stk = as.reverse ++ .inr (some a) :: st)
    (K : ∀ (r : Option qV) (S' : qS) (I' : qI), P' r S' I' → q_Ev M R mc ms (k + mc') (n + ms') (pc + 3) L (r.toList ++ st) S' I' P) : q_Ev M R mc ms k n pc L stk S I P := by
  intro p l e s m args below meth c H locs D B ls C0 hS hH hL oL oS
  subst hstk
  have hK : q_K D s := C0.2.2.2.2.2.2.2
  have o1 := q_oks_app.mp oS
  have oas : q_oks (.inr (some a) :: as) := q_oks_cons.mpr ⟨trivial, q_oks_rev o1.1⟩
  have ost := (q_oks_cons.mp o1.2).2
  have hPS : PreS s H (q_Pc D B (.inr (some a) :: as) S I) (.ref (q_g B a) :: as.map (q_v B)) := ⟨q_blind, q_pre oas hK hH⟩
  have hstack : (F0 m pc ls ((as.reverse ++ .inr (some a) :: st).map (q_v B))).stack = (as.map (q_v B)).reverse ++ .ref (q_g B a) :: st.map (q_v B) := by
    show (as.reverse ++ .inr (some a) :: st).map (q_v B) = _
    rw [List.map_append, List.map_reverse]
    rfl
  have hS9 : CallFix p m c M.2.1 M.2.2.1 s args [] M.1.cls := ⟨C0.1, C0.2.1, C0.2.2.1, C0.2.2.2.1, fun w h => by cases h⟩
  have fin : ∀ (r : Option qV) (S' : qS) (I' : qI) (H1 : Heap) (locs1 : List Loc), P' r S' I' → (∀ v, r = some v → q_ok v) → q_H D s B S' I' H1 → va_S (q_fr B) s.heap H1 locs1 → W p l e R s m args below meth c H1 locs1 (k + mc') (n + ms') (MQ below (q_Qc D B P) args s mc ms (q_fr B)) (F0 m (pc + 3) ls ((r.map (q_v B)).toList ++ st.map (q_v B))) := by
    intro r S' I' H1 locs1 hp ho hq hS1
    have K1 := K r S' I' hp p l e s m args below meth c H1 locs1 D B ls C0 hS1 hq hL oL (q_oks_app.mpr ⟨fun v hv => ho v (Option.mem_toList.mp hv), ost⟩)
    cases r <;> exact K1
  obtain ⟨y, bytes, maxL, ret⟩ := N
  dsimp only at hret
  subst hret
  rcases hl with hl | ⟨host, hl⟩
  · exact q_go (va_runI (b := q_g B a) (As := as.map (q_v B)) (rest := st.map (q_v B)) hS9 (hM l D B) ⟨q_CB hc hK hl hR, hy, hK.at hi.1 hi.2⟩ hPS rfl (by rw [List.length_map]; exact hnp) hL.1 hstack (q_rest hst) hd hf) hS fin
  · exact q_go (va_runIN (b := q_g B a) (As := as.map (q_v B)) (rest := st.map (q_v B)) hS9 (hM l D B) ⟨q_CN hc hK hl hR, hy, hK.at hi.1 hi.2⟩ hPS rfl (by rw [List.length_map]; exact hnp) hL.1 hstack (q_rest hst) hd hf) hS fin
/-- Object's own constructor -/
theorem q_obj {index a : Nat} (hd : decode M.2.1 pc = .ok (.invokespecial index, 3)) (hw1 : Cond.methodLink M.1.cls index Lib.objectInit ∈ lw_tbl ∧ q_mv (Cond.methodLink M.1.cls index Lib.objectInit) = true) (hw2 : Cond.instanceMethod Lib.objectInit ∈ lw_tbl ∧ q_mv (Cond.instanceMethod Lib.objectInit) = true) (hw3 : Cond.code Lib.objectInit ⟨#[0xb1]⟩ 1 none ∈ lw_tbl ∧ q_mv (Cond.code Lib.objectInit ⟨#[0xb1]⟩ 1 none) = true) (hR : 1 ≤ R.frames ∧ 20 ≤ R.locals) (hst : st.length ≤ 8)
    (K : q_Ev M R mc ms k n (pc + 3) L st S I P) : q_Ev M R mc ms k n pc L (.inr (some a) :: st) S I P := by
  intro p l e s m args below meth c H locs D B ls C0 hS hH hL oL oS
  have hK : q_K D s := C0.2.2.2.2.2.2.2
  have o := q_oks_cons.mp oS
  refine W.objInit C0.1 C0.2.1 C0.2.2.2.1 (hK.at hw1.1 hw1.2) (hK.at hw2.1 hw2.2) (hK.at hw3.1 hw3.2) rfl (by rw [C0.2.2.1]; exact hL.1) rfl hd hR.1 ?_ (K p l e s m args below meth c H locs D B ls C0 hS hH hL oL o.2)
  rw [q_cats]
  show 2 * 0 + st.length + 12 ≤ R.locals
  omega
theorem q_max {index : Nat} {x y : Int} (hd : decode M.2.1 pc = .ok (.invokestatic index, 3)) (hw1 : Cond.methodLink M.1.cls index Lib.Math.max.name ∈ lw_tbl ∧ q_mv (Cond.methodLink M.1.cls index Lib.Math.max.name) = true) (hw2 : Cond.static Lib.Math.max.name ∈ lw_tbl ∧ q_mv (Cond.static Lib.Math.max.name) = true) (hw3 : Cond.initialized "java/lang/Math" ∈ lw_tbl ∧ q_mv (Cond.initialized "java/lang/Math") = true) (hw4 : Cond.code Lib.Math.max.name Lib.Math.max.code 2 (some .int) ∈ lw_tbl ∧ q_mv (Cond.code Lib.Math.max.name Lib.Math.max.code 2 (some .int)) = true) (hR : 1 ≤ R.frames ∧ 21 ≤ R.locals) (hf : k ≤ R.cells ∧ n ≤ R.slots) (hst : st.length ≤ 8)
    (K : q_Ev M R mc ms k n (pc + 3) L (.inl (if x < y then y else x) :: st) S I P) : q_Ev M R mc ms k n pc L (.inl y :: .inl x :: st) S I P := by
  intro p l e s m args below meth c H locs D B ls C0 hS hH hL oL oS
  have hK : q_K D s := C0.2.2.2.2.2.2.2
  have oy : q_in y := (q_oks_cons.mp oS).1
  have o := q_oks_cons.mp (q_oks_cons.mp oS).2
  have ox : q_in x := o.1
  refine va_mmax C0.1 C0.2.1 (by rw [C0.2.2.1, hL.1]) C0.2.2.2.1 (hK.at hw1.1 hw1.2) (hK.at hw2.1 hw2.2) (hK.at hw3.1 hw3.2) (hK.at hw4.1 hw4.2) hR.1 (by rw [q_cats]; omega) hf.1 hf.2 hd ?_
  have K1 := K p l e s m args below meth c H locs D B ls C0 hS hH hL oL (q_oks_cons.mpr ⟨by split; exact oy; exact ox, o.2⟩)
  by_cases h : x < y
  · rw [if_pos ((q_lt ox oy).mpr h)]
    rw [if_pos h] at K1
    exact K1
  · rw [if_neg (fun z => h ((q_lt ox oy).mp z))]
    rw [if_neg h] at K1
    exact K1
theorem q_min {index : Nat} {x y : Int} (hd : decode M.2.1 pc = .ok (.invokestatic index, 3)) (hw1 : Cond.methodLink M.1.cls index Lib.Math.min.name ∈ lw_tbl ∧ q_mv (Cond.methodLink M.1.cls index Lib.Math.min.name) = true) (hw2 : Cond.static Lib.Math.min.name ∈ lw_tbl ∧ q_mv (Cond.static Lib.Math.min.name) = true) (hw3 : Cond.initialized "java/lang/Math" ∈ lw_tbl ∧ q_mv (Cond.initialized "java/lang/Math") = true) (hw4 : Cond.code Lib.Math.min.name Lib.Math.min.code 2 (some .int) ∈ lw_tbl ∧ q_mv (Cond.code Lib.Math.min.name Lib.Math.min.code 2 (some .int)) = true) (hR : 1 ≤ R.frames ∧ 21 ≤ R.locals) (hf : k ≤ R.cells ∧ n ≤ R.slots) (hst : st.length ≤ 8)
    (K : q_Ev M R mc ms k n (pc + 3) L (.inl (if y < x then y else x) :: st) S I P) : q_Ev M R mc ms k n pc L (.inl y :: .inl x :: st) S I P := by
  intro p l e s m args below meth c H locs D B ls C0 hS hH hL oL oS
  have hK : q_K D s := C0.2.2.2.2.2.2.2
  have oy : q_in y := (q_oks_cons.mp oS).1
  have o := q_oks_cons.mp (q_oks_cons.mp oS).2
  have ox : q_in x := o.1
  refine va_mmin C0.1 C0.2.1 (by rw [C0.2.2.1, hL.1]) C0.2.2.2.1 (hK.at hw1.1 hw1.2) (hK.at hw2.1 hw2.2) (hK.at hw3.1 hw3.2) (hK.at hw4.1 hw4.2) hR.1 (by rw [q_cats]; omega) hf.1 hf.2 hd ?_
  have K1 := K p l e s m args below meth c H locs D B ls C0 hS hH hL oL (q_oks_cons.mpr ⟨by split; exact oy; exact ox, o.2⟩)
  by_cases h : y < x
  · rw [if_pos ((q_lt oy ox).mpr h)]
    rw [if_pos h] at K1
    exact K1
  · rw [if_neg (fun z => h ((q_lt oy ox).mp z))]
    rw [if_neg h] at K1
    exact K1
end QC
theorem q_args (B : Nat × Nat) : ∀ (as : List qV) (i j : Nat) (v : qV), as[j]? = some v → (i + j, q_v B v) ∈ lv_args i (as.map (q_v B))
  | [], i, j, v, h => by simp at h
  | w :: as, i, 0, v, h => by
    cases h
    exact List.mem_cons_self
  | w :: as, i, j + 1, v, h => by
    have h1 := q_args B as (i + 1) j v h
    show (i + (j + 1), q_v B v) ∈ (i, q_v B w) :: lv_args (if (q_v B w).category = 2 then i + 2 else i + 1) (as.map (q_v B))
    rw [q_v_cat, if_neg (by decide), show i + (j + 1) = i + 1 + j by omega]
    exact List.mem_cons_of_mem _ h1
theorem q_sll (B : Nat × Nat) : ∀ as : List qV, (lg_sl (as.map (q_v B))).length = as.length
  | [] => rfl
  | v :: as => by
    have := q_sll B as
    show (lg_sl (q_v B v :: as.map (q_v B))).length = _
    unfold lg_sl at *
    rw [List.flatMap_cons, q_v_cat, if_neg (by decide), List.length_append, this]
    show 1 + as.length = as.length + 1
    omega
theorem q_has_entry {B : Nat × Nat} {as : List qV} {n : Nat} (h : as.length ≤ n) : q_has B ((lg_sl (as.map (q_v B)) ++ List.replicate (n - (lg_sl (as.map (q_v B))).length) Slot.unset).toArray) n (as.map some ++ List.replicate (n - as.length) none) := by
  have h1 := lv_entry (as.map (q_v B)) (n := n) (by rw [q_sll]; exact h)
  refine ⟨h1.1, h1.2.1, fun i v hi => ?_⟩
  have hi' : as[i]? = some v := by
    by_cases hl : i < as.length
    · rw [List.getElem?_append_left (by rw [List.length_map]; exact hl), List.getElem?_map] at hi
      cases ha : as[i]? with
      | none => rw [ha] at hi; cases hi
      | some w => rw [ha] at hi; cases hi; rfl
    · rw [List.getElem?_append_right (by rw [List.length_map]; omega), List.getElem?_replicate] at hi
      split at hi <;> cases hi
  have h2 := h1.2.2 _ (q_args B as 0 i v hi')
  rw [Nat.zero_add] at h2
  exact h2
/-- a method's contract out of its walk -/
theorem q_enter {M : qM} {d mc ms : Nat} {as : List qV} {S : qS} {I : qI} {P : qP} (hy : plainName M.1.cls = true) (ha : as.length ≤ M.2.2.1) (K : q_Ev M (q_rm d mc ms) mc ms 0 0 0 (as.map some ++ List.replicate (M.2.2.1 - as.length) none) [] S I P) : q_Met M d mc ms as S I P := by
  intro l D B
  refine Met.ofW (cc := M.2.1) (maxL := M.2.2.1) (ret := M.2.2.2) hy rfl ?_
  intro p e s m args below meth c s₁ Bd hml hv
  obtain ⟨rfl, ho, hK, hH⟩ := hv
  have hown : s.vm.findClass M.1.cls = some m.cls := findClass_of_methodNamed Bd.named
  have hnm : meth.name = M.1.name := (name_of_methodNamed Bd.named Bd.method).1
  rw [lg_entry_eq]
  refine K p l e s m _ below meth c s.heap [] D B _ ⟨Bd.exec, Bd.bytes, hml, hown, Bd.returns, Bd.notSynchronized, hnm, hK⟩ va_S.rf hH (q_has_entry ha) (fun v hv => ?_) (fun v hv => by cases hv)
  rcases List.mem_append.mp hv with h | h
  · obtain ⟨w, hw, e9⟩ := List.mem_map.mp h
    cases e9
    exact ho v hw
  · have := List.eq_of_mem_replicate h
    cases this
/-- the answer and the cells are these -/
def q_is (r : Option qV) (S : qS) (I : qI) : qP := fun r' S' I' => r' = r ∧ S' = S ∧ I' = I
theorem q_isrfl {r : Option qV} {S : qS} {I : qI} : q_is r S I r S I := ⟨rfl, rfl, rfl⟩
theorem q_Met.mono {M : qM} {d mc ms : Nat} {as : List qV} {S : qS} {I : qI} {P P' : qP} (h : q_Met M d mc ms as S I P) (hP : ∀ r S I, P r S I → P' r S I) : q_Met M d mc ms as S I P' := by
  intro l D B
  have h1 := h l D B
  intro p e ha hc hk s m args below hf hfit hpre htr
  obtain ⟨k, o, h1, h2, h3, ⟨⟨⟨r, S', I', e1, e2, e3, e4⟩, e5⟩, e6⟩⟩ := h1 p e ha hc hk s m args below hf hfit hpre htr
  exact ⟨k, o, h1, h2, h3, ⟨⟨⟨r, S', I', e1, e2, hP _ _ _ e3, e4⟩, e5⟩, e6⟩⟩
section QD
variable {M : qM} {R : Room} {mc ms k n pc : Nat} {L : List (Option qV)} {st : List qV} {S : qS} {I : qI} {P : qP}
/-- calls whose answer is known -/
theorem q_callV1 {N : qM} {d mc' ms' index np a ci nf : Nat} {as : List qV} {vs : List qV} {v : qV} {S' : qS} {I' : qI} {T : u_T} {Nf : Nat} (hd : decode M.2.1 pc = .ok (.invokevirtual index, 3)) (hM : q_Met N d mc' ms' (.inr (some a) :: as) S I (q_is (some v) S' I')) (hc : q_code N np) (hi : q_inst N) (hs : q_sel N) (hl : q_mlink M.1.cls index N)
    (ha : S[a]? = some (ci, nf, vs)) (hci : ci < 100) (hcl : q_cl[ci]? = some (N.1.cls, T, Nf)) (hnp : as.length = np) (hst : st.length ≤ 8) (hR : d + 1 ≤ R.frames ∧ 19 + N.2.2.1 + 40 * d ≤ R.locals) (hf : k + mc' ≤ R.cells ∧ n + ms' ≤ R.slots) {stk : List qV} (hstk : stk = as.reverse ++ .inr (some a) :: st)
    (K : q_Ev M R mc ms (k + mc') (n + ms') (pc + 3) L (v :: st) S' I' P) : q_Ev M R mc ms k n pc L stk S I P :=
  q_callV hd hM hc hi hs hl ha hci hcl hnp hst hR hf hstk (by rintro _ _ _ ⟨rfl, rfl, rfl⟩; exact K)
theorem q_callV0 {N : qM} {d mc' ms' index np a ci nf : Nat} {as : List qV} {vs : List qV} {S' : qS} {I' : qI} {T : u_T} {Nf : Nat} (hd : decode M.2.1 pc = .ok (.invokevirtual index, 3)) (hM : q_Met N d mc' ms' (.inr (some a) :: as) S I (q_is none S' I')) (hc : q_code N np) (hi : q_inst N) (hs : q_sel N) (hl : q_mlink M.1.cls index N)
    (ha : S[a]? = some (ci, nf, vs)) (hci : ci < 100) (hcl : q_cl[ci]? = some (N.1.cls, T, Nf)) (hnp : as.length = np) (hst : st.length ≤ 8) (hR : d + 1 ≤ R.frames ∧ 19 + N.2.2.1 + 40 * d ≤ R.locals) (hf : k + mc' ≤ R.cells ∧ n + ms' ≤ R.slots) {stk : List qV} (hstk : stk = as.reverse ++ .inr (some a) :: st)
    (K : q_Ev M R mc ms (k + mc') (n + ms') (pc + 3) L st S' I' P) : q_Ev M R mc ms k n pc L stk S I P :=
  q_callV hd hM hc hi hs hl ha hci hcl hnp hst hR hf hstk (by rintro _ _ _ ⟨rfl, rfl, rfl⟩; exact K)
theorem q_callS1 {N : qM} {d mc' ms' index np : Nat} {as : List qV} {v : qV} {S' : qS} {I' : qI} (hd : decode M.2.1 pc = .ok (.invokestatic index, 3)) (hM : q_Met N d mc' ms' as S I (q_is (some v) S' I')) (hc : q_code N np) (hi : q_stat N) (hl : q_mlink M.1.cls index N)
    (hnp : as.length = np) (hst : st.length ≤ 8) (hR : d + 1 ≤ R.frames ∧ 19 + N.2.2.1 + 40 * d ≤ R.locals) (hf : k + mc' ≤ R.cells ∧ n + ms' ≤ R.slots) {stk : List qV} (hstk : stk = as.reverse ++ st)
    (K : q_Ev M R mc ms (k + mc') (n + ms') (pc + 3) L (v :: st) S' I' P) : q_Ev M R mc ms k n pc L stk S I P :=
  q_callS hd hM hc hi hl hnp hst hR hf hstk (by rintro _ _ _ ⟨rfl, rfl, rfl⟩; exact K)
theorem q_callI0 {N : qM} {d mc' ms' index np a : Nat} {as : List qV} {S' : qS} {I' : qI} (hd : decode M.2.1 pc = .ok (.invokespecial index, 3)) (hM : q_Met N d mc' ms' (.inr (some a) :: as) S I (q_is none S' I')) (hc : q_code N np) (hret : N.2.2.2 = none) (hy : N.1.name = "<init>") (hi : q_inst N) (hl : q_mlink M.1.cls index N)
    (hnp : as.length = np) (hst : st.length ≤ 8) (hR : d + 1 ≤ R.frames ∧ 19 + N.2.2.1 + 40 * d ≤ R.locals) (hf : k + mc' ≤ R.cells ∧ n + ms' ≤ R.slots) {stk : List qV} (hstk : stk = as.reverse ++ .inr (some a) :: st)
    (K : q_Ev M R mc ms (k + mc') (n + ms') (pc + 3) L st S' I' P) : q_Ev M R mc ms k n pc L stk S I P :=
  q_callI hd hM hc hret hy hi hl hnp hst hR hf hstk (by rintro _ _ _ ⟨rfl, rfl, rfl⟩; exact K)
end QD
end
section
/-! Names: the methods and what the tables say of them (by program, wip/whole/gen.py). -/
theorem tk_1 : ∀ w ∈ tables_1_1, w ∈ lw_tbl := fun w h => List.mem_append_right _ (show w ∈ tables_1 from List.mem_append_left _ h)
theorem tk_2 : ∀ w ∈ tables_1_2, w ∈ lw_tbl := fun w h => List.mem_append_right _ (show w ∈ tables_1 from List.mem_append_right _ (List.mem_append_left _ h))
theorem tk_3 : ∀ w ∈ tables_1_3, w ∈ lw_tbl := fun w h => List.mem_append_right _ (show w ∈ tables_1 from List.mem_append_right _ (List.mem_append_right _ (List.mem_append_left _ h)))
theorem tk_4 : ∀ w ∈ tables_1_4, w ∈ lw_tbl := fun w h => List.mem_append_right _ (show w ∈ tables_1 from List.mem_append_right _ (List.mem_append_right _ (List.mem_append_right _ (h))))
theorem wd_0 : Cond.initialized "RedoQuorumLaw" ∈ lw_tbl := tk_1 _ (List.mem_of_getElem? (i := 0) rfl)
theorem wd_1 : Cond.initialized "RedoQuorum" ∈ lw_tbl := tk_1 _ (List.mem_of_getElem? (i := 1) rfl)
theorem wd_2 : Cond.initialized "RedoQuorum$Log" ∈ lw_tbl := tk_1 _ (List.mem_of_getElem? (i := 2) rfl)
theorem wd_3 : Cond.initialized "RedoQuorum$Transactions" ∈ lw_tbl := tk_1 _ (List.mem_of_getElem? (i := 3) rfl)
theorem wd_4 : Cond.initialized "RedoQuorum$Group" ∈ lw_tbl := tk_1 _ (List.mem_of_getElem? (i := 4) rfl)
theorem wd_5 : Cond.initialized "RedoQuorum$StorageCopy" ∈ lw_tbl := tk_1 _ (List.mem_of_getElem? (i := 5) rfl)
theorem wd_6 : Cond.initialized "RedoQuorum$Cache" ∈ lw_tbl := tk_1 _ (List.mem_of_getElem? (i := 6) rfl)
theorem wd_7 : Cond.initialized "RedoQuorumModel" ∈ lw_tbl := tk_1 _ (List.mem_of_getElem? (i := 7) rfl)
theorem wd_8 : Cond.initialized "java/lang/Math" ∈ lw_tbl := tk_1 _ (List.mem_of_getElem? (i := 8) rfl)
theorem wd_9 : Cond.classLink "RedoQuorumLaw" 7 "RedoQuorum" ∈ lw_tbl := tk_1 _ (List.mem_of_getElem? (i := 9) rfl)
theorem wd_10 : Cond.instantiable "RedoQuorum" 7 ∈ lw_tbl := tk_1 _ (List.mem_of_getElem? (i := 10) rfl)
theorem wd_11 : Cond.methodLink "RedoQuorumLaw" 9 ⟨"RedoQuorum", "<init>", "()V"⟩ ∈ lw_tbl := tk_1 _ (List.mem_of_getElem? (i := 11) rfl)
theorem wd_12 : Cond.instanceMethod ⟨"RedoQuorum", "<init>", "()V"⟩ ∈ lw_tbl := tk_1 _ (List.mem_of_getElem? (i := 12) rfl)
theorem wd_13 : Cond.code ⟨"RedoQuorum", "<init>", "()V"⟩ prog_1_method_1_code 2 (none : Option Jvm.ClassFile.FieldType) ∈ lw_tbl := tk_1 _ (List.mem_of_getElem? (i := 13) rfl)
theorem wd_14 : Cond.methodLink "RedoQuorum" 1 ⟨"java/lang/Object", "<init>", "()V"⟩ ∈ lw_tbl := tk_1 _ (List.mem_of_getElem? (i := 14) rfl)
theorem wd_15 : Cond.instanceMethod ⟨"java/lang/Object", "<init>", "()V"⟩ ∈ lw_tbl := tk_1 _ (List.mem_of_getElem? (i := 15) rfl)
theorem wd_16 : Cond.code ⟨"java/lang/Object", "<init>", "()V"⟩ object_method_1_code 1 (none : Option Jvm.ClassFile.FieldType) ∈ lw_tbl := tk_1 _ (List.mem_of_getElem? (i := 16) rfl)
theorem wd_17 : Cond.classLink "RedoQuorum" 7 "RedoQuorum$Log" ∈ lw_tbl := tk_1 _ (List.mem_of_getElem? (i := 17) rfl)
theorem wd_18 : Cond.instantiable "RedoQuorum$Log" 7 ∈ lw_tbl := tk_1 _ (List.mem_of_getElem? (i := 18) rfl)
theorem wd_19 : Cond.methodLinkNest "RedoQuorum" 9 ⟨"RedoQuorum$Log", "<init>", "()V"⟩ "RedoQuorum" ∈ lw_tbl := tk_1 _ (List.mem_of_getElem? (i := 19) rfl)
theorem wd_20 : Cond.instanceMethod ⟨"RedoQuorum$Log", "<init>", "()V"⟩ ∈ lw_tbl := tk_1 _ (List.mem_of_getElem? (i := 20) rfl)
theorem wd_21 : Cond.code ⟨"RedoQuorum$Log", "<init>", "()V"⟩ prog_4_method_1_code 1 (none : Option Jvm.ClassFile.FieldType) ∈ lw_tbl := tk_1 _ (List.mem_of_getElem? (i := 21) rfl)
theorem wd_22 : Cond.methodLink "RedoQuorum$Log" 3 ⟨"java/lang/Object", "<init>", "()V"⟩ ∈ lw_tbl := tk_1 _ (List.mem_of_getElem? (i := 22) rfl)
theorem wd_23 : Cond.fieldLink "RedoQuorum$Log" 11 "RedoQuorum$Log" "kind" "[I" ∈ lw_tbl := tk_1 _ (List.mem_of_getElem? (i := 23) rfl)
theorem wd_24 : Cond.fieldLink "RedoQuorum$Log" 15 "RedoQuorum$Log" "owner" "[I" ∈ lw_tbl := tk_1 _ (List.mem_of_getElem? (i := 24) rfl)
theorem wd_25 : Cond.fieldLink "RedoQuorum$Log" 18 "RedoQuorum$Log" "key" "[I" ∈ lw_tbl := tk_1 _ (List.mem_of_getElem? (i := 25) rfl)
theorem wd_26 : Cond.fieldLink "RedoQuorum$Log" 21 "RedoQuorum$Log" "value" "[I" ∈ lw_tbl := tk_1 _ (List.mem_of_getElem? (i := 26) rfl)
theorem wd_27 : Cond.fieldLink "RedoQuorum$Log" 24 "RedoQuorum$Log" "group" "[I" ∈ lw_tbl := tk_1 _ (List.mem_of_getElem? (i := 27) rfl)
theorem wd_28 : Cond.fieldLinkNest "RedoQuorum$StorageCopy" 45 "RedoQuorum$Log" "group" "[I" "RedoQuorum" ∈ lw_tbl := tk_1 _ (List.mem_of_getElem? (i := 28) rfl)
theorem wd_29 : Cond.fieldLinkNest "RedoQuorum" 120 "RedoQuorum$Log" "group" "[I" "RedoQuorum" ∈ lw_tbl := tk_1 _ (List.mem_of_getElem? (i := 29) rfl)
theorem wd_30 : Cond.fieldLink "RedoQuorum$Log" 27 "RedoQuorum$Log" "end" "[I" ∈ lw_tbl := tk_1 _ (List.mem_of_getElem? (i := 30) rfl)
theorem wd_31 : Cond.fieldLinkNest "RedoQuorum" 111 "RedoQuorum$Log" "end" "[I" "RedoQuorum" ∈ lw_tbl := tk_1 _ (List.mem_of_getElem? (i := 31) rfl)
theorem wd_32 : Cond.fieldLink "RedoQuorum$Log" 30 "RedoQuorum$Log" "size" "I" ∈ lw_tbl := tk_1 _ (List.mem_of_getElem? (i := 32) rfl)
theorem wd_33 : Cond.fieldLinkNest "RedoQuorum" 55 "RedoQuorum$Log" "size" "I" "RedoQuorum" ∈ lw_tbl := tk_1 _ (List.mem_of_getElem? (i := 33) rfl)
theorem wd_34 : Cond.fieldLinkNest "RedoQuorum$StorageCopy" 42 "RedoQuorum$Log" "size" "I" "RedoQuorum" ∈ lw_tbl := tk_1 _ (List.mem_of_getElem? (i := 34) rfl)
theorem wd_35 : Cond.laysFinal "RedoQuorum$Log" "RedoQuorum$Log" "kind" "[I" ∈ lw_tbl := tk_1 _ (List.mem_of_getElem? (i := 35) rfl)
theorem wd_37 : Cond.laysFinal "RedoQuorum$Log" "RedoQuorum$Log" "owner" "[I" ∈ lw_tbl := tk_1 _ (List.mem_of_getElem? (i := 37) rfl)
theorem wd_39 : Cond.laysFinal "RedoQuorum$Log" "RedoQuorum$Log" "key" "[I" ∈ lw_tbl := tk_1 _ (List.mem_of_getElem? (i := 39) rfl)
theorem wd_41 : Cond.laysFinal "RedoQuorum$Log" "RedoQuorum$Log" "value" "[I" ∈ lw_tbl := tk_1 _ (List.mem_of_getElem? (i := 41) rfl)
theorem wd_43 : Cond.laysFinal "RedoQuorum$Log" "RedoQuorum$Log" "group" "[I" ∈ lw_tbl := tk_1 _ (List.mem_of_getElem? (i := 43) rfl)
theorem wd_45 : Cond.laysFinal "RedoQuorum$Log" "RedoQuorum$Log" "end" "[I" ∈ lw_tbl := tk_1 _ (List.mem_of_getElem? (i := 45) rfl)
theorem wd_47 : Cond.lays "RedoQuorum$Log" "RedoQuorum$Log" "size" "I" ∈ lw_tbl := tk_1 _ (List.mem_of_getElem? (i := 47) rfl)
theorem wd_50 : Cond.arrayClass .int ∈ lw_tbl := tk_1 _ (List.mem_of_getElem? (i := 50) rfl)
theorem wd_51 : Cond.classLink "RedoQuorum" 16 "RedoQuorum$Transactions" ∈ lw_tbl := tk_1 _ (List.mem_of_getElem? (i := 51) rfl)
theorem wd_52 : Cond.instantiable "RedoQuorum$Transactions" 4 ∈ lw_tbl := tk_1 _ (List.mem_of_getElem? (i := 52) rfl)
theorem wd_53 : Cond.methodLinkNest "RedoQuorum" 18 ⟨"RedoQuorum$Transactions", "<init>", "()V"⟩ "RedoQuorum" ∈ lw_tbl := tk_1 _ (List.mem_of_getElem? (i := 53) rfl)
theorem wd_54 : Cond.instanceMethod ⟨"RedoQuorum$Transactions", "<init>", "()V"⟩ ∈ lw_tbl := tk_1 _ (List.mem_of_getElem? (i := 54) rfl)
theorem wd_55 : Cond.code ⟨"RedoQuorum$Transactions", "<init>", "()V"⟩ prog_6_method_1_code 1 (none : Option Jvm.ClassFile.FieldType) ∈ lw_tbl := tk_1 _ (List.mem_of_getElem? (i := 55) rfl)
theorem wd_56 : Cond.methodLink "RedoQuorum$Transactions" 3 ⟨"java/lang/Object", "<init>", "()V"⟩ ∈ lw_tbl := tk_1 _ (List.mem_of_getElem? (i := 56) rfl)
theorem wd_57 : Cond.fieldLink "RedoQuorum$Transactions" 9 "RedoQuorum$Transactions" "active" "[Z" ∈ lw_tbl := tk_1 _ (List.mem_of_getElem? (i := 57) rfl)
theorem wd_58 : Cond.fieldLink "RedoQuorum$Transactions" 15 "RedoQuorum$Transactions" "holder" "[I" ∈ lw_tbl := tk_1 _ (List.mem_of_getElem? (i := 58) rfl)
theorem wd_59 : Cond.fieldLink "RedoQuorum$Transactions" 19 "RedoQuorum$Transactions" "begun" "I" ∈ lw_tbl := tk_1 _ (List.mem_of_getElem? (i := 59) rfl)
theorem wd_60 : Cond.fieldLinkNest "RedoQuorum" 105 "RedoQuorum$Transactions" "begun" "I" "RedoQuorum" ∈ lw_tbl := tk_1 _ (List.mem_of_getElem? (i := 60) rfl)
theorem wd_61 : Cond.fieldLink "RedoQuorum$Transactions" 23 "RedoQuorum$Transactions" "activeCount" "I" ∈ lw_tbl := tk_1 _ (List.mem_of_getElem? (i := 61) rfl)
theorem wd_62 : Cond.laysFinal "RedoQuorum$Transactions" "RedoQuorum$Transactions" "active" "[Z" ∈ lw_tbl := tk_1 _ (List.mem_of_getElem? (i := 62) rfl)
theorem wd_64 : Cond.laysFinal "RedoQuorum$Transactions" "RedoQuorum$Transactions" "holder" "[I" ∈ lw_tbl := tk_1 _ (List.mem_of_getElem? (i := 64) rfl)
theorem wd_66 : Cond.lays "RedoQuorum$Transactions" "RedoQuorum$Transactions" "begun" "I" ∈ lw_tbl := tk_1 _ (List.mem_of_getElem? (i := 66) rfl)
theorem wd_68 : Cond.lays "RedoQuorum$Transactions" "RedoQuorum$Transactions" "activeCount" "I" ∈ lw_tbl := tk_1 _ (List.mem_of_getElem? (i := 68) rfl)
theorem wd_71 : Cond.arrayClass .boolean ∈ lw_tbl := tk_1 _ (List.mem_of_getElem? (i := 71) rfl)
theorem wd_72 : Cond.classLink "RedoQuorum" 23 "RedoQuorum$Group" ∈ lw_tbl := tk_1 _ (List.mem_of_getElem? (i := 72) rfl)
theorem wd_73 : Cond.arrayOver (.object "RedoQuorum$Group") ∈ lw_tbl := tk_1 _ (List.mem_of_getElem? (i := 73) rfl)
theorem wd_74 : Cond.instantiable "RedoQuorum$Group" 1 ∈ lw_tbl := tk_1 _ (List.mem_of_getElem? (i := 74) rfl)
theorem wd_75 : Cond.methodLink "RedoQuorum" 29 ⟨"RedoQuorum$Group", "<init>", "(I)V"⟩ ∈ lw_tbl := tk_1 _ (List.mem_of_getElem? (i := 75) rfl)
theorem wd_76 : Cond.instanceMethod ⟨"RedoQuorum$Group", "<init>", "(I)V"⟩ ∈ lw_tbl := tk_1 _ (List.mem_of_getElem? (i := 76) rfl)
theorem wd_77 : Cond.code ⟨"RedoQuorum$Group", "<init>", "(I)V"⟩ prog_3_method_1_code 3 (none : Option Jvm.ClassFile.FieldType) ∈ lw_tbl := tk_1 _ (List.mem_of_getElem? (i := 77) rfl)
theorem wd_78 : Cond.methodLink "RedoQuorum$Group" 3 ⟨"java/lang/Object", "<init>", "()V"⟩ ∈ lw_tbl := tk_1 _ (List.mem_of_getElem? (i := 78) rfl)
theorem wd_79 : Cond.classLink "RedoQuorum$Group" 9 "RedoQuorum$StorageCopy" ∈ lw_tbl := tk_1 _ (List.mem_of_getElem? (i := 79) rfl)
theorem wd_80 : Cond.arrayOver (.object "RedoQuorum$StorageCopy") ∈ lw_tbl := tk_1 _ (List.mem_of_getElem? (i := 80) rfl)
theorem wd_81 : Cond.instantiable "RedoQuorum$StorageCopy" 5 ∈ lw_tbl := tk_1 _ (List.mem_of_getElem? (i := 81) rfl)
theorem wd_82 : Cond.methodLink "RedoQuorum$Group" 17 ⟨"RedoQuorum$StorageCopy", "<init>", "(I)V"⟩ ∈ lw_tbl := tk_1 _ (List.mem_of_getElem? (i := 82) rfl)
theorem wd_83 : Cond.instanceMethod ⟨"RedoQuorum$StorageCopy", "<init>", "(I)V"⟩ ∈ lw_tbl := tk_1 _ (List.mem_of_getElem? (i := 83) rfl)
theorem wd_84 : Cond.code ⟨"RedoQuorum$StorageCopy", "<init>", "(I)V"⟩ prog_5_method_1_code 2 (none : Option Jvm.ClassFile.FieldType) ∈ lw_tbl := tk_1 _ (List.mem_of_getElem? (i := 84) rfl)
theorem wd_85 : Cond.methodLink "RedoQuorum$StorageCopy" 1 ⟨"java/lang/Object", "<init>", "()V"⟩ ∈ lw_tbl := tk_1 _ (List.mem_of_getElem? (i := 85) rfl)
theorem wd_86 : Cond.fieldLink "RedoQuorum$StorageCopy" 25 "RedoQuorum$StorageCopy" "group" "I" ∈ lw_tbl := tk_1 _ (List.mem_of_getElem? (i := 86) rfl)
theorem wd_87 : Cond.fieldLink "RedoQuorum$StorageCopy" 9 "RedoQuorum$StorageCopy" "held" "[Z" ∈ lw_tbl := tk_1 _ (List.mem_of_getElem? (i := 87) rfl)
theorem wd_88 : Cond.fieldLinkNest "RedoQuorum$Group" 24 "RedoQuorum$StorageCopy" "held" "[Z" "RedoQuorum" ∈ lw_tbl := tk_1 _ (List.mem_of_getElem? (i := 88) rfl)
theorem wd_89 : Cond.fieldLink "RedoQuorum$StorageCopy" 15 "RedoQuorum$StorageCopy" "state" "I" ∈ lw_tbl := tk_1 _ (List.mem_of_getElem? (i := 89) rfl)
theorem wd_90 : Cond.fieldLinkNest "RedoQuorum$Group" 40 "RedoQuorum$StorageCopy" "state" "I" "RedoQuorum" ∈ lw_tbl := tk_1 _ (List.mem_of_getElem? (i := 90) rfl)
theorem wd_91 : Cond.fieldLinkNest "RedoQuorum" 199 "RedoQuorum$StorageCopy" "state" "I" "RedoQuorum" ∈ lw_tbl := tk_1 _ (List.mem_of_getElem? (i := 91) rfl)
theorem wd_92 : Cond.fieldLink "RedoQuorum$StorageCopy" 19 "RedoQuorum$StorageCopy" "fold" "I" ∈ lw_tbl := tk_1 _ (List.mem_of_getElem? (i := 92) rfl)
theorem wd_93 : Cond.fieldLink "RedoQuorum$StorageCopy" 22 "RedoQuorum$StorageCopy" "reported" "I" ∈ lw_tbl := tk_1 _ (List.mem_of_getElem? (i := 93) rfl)
theorem wd_94 : Cond.fieldLinkNest "RedoQuorum$Group" 32 "RedoQuorum$StorageCopy" "reported" "I" "RedoQuorum" ∈ lw_tbl := tk_1 _ (List.mem_of_getElem? (i := 94) rfl)
theorem wd_95 : Cond.fieldLinkNest "RedoQuorum" 153 "RedoQuorum$StorageCopy" "reported" "I" "RedoQuorum" ∈ lw_tbl := tk_1 _ (List.mem_of_getElem? (i := 95) rfl)
theorem wd_96 : Cond.laysFinal "RedoQuorum$StorageCopy" "RedoQuorum$StorageCopy" "group" "I" ∈ lw_tbl := tk_1 _ (List.mem_of_getElem? (i := 96) rfl)
theorem wd_98 : Cond.laysFinal "RedoQuorum$StorageCopy" "RedoQuorum$StorageCopy" "held" "[Z" ∈ lw_tbl := tk_1 _ (List.mem_of_getElem? (i := 98) rfl)
theorem wd_100 : Cond.lays "RedoQuorum$StorageCopy" "RedoQuorum$StorageCopy" "state" "I" ∈ lw_tbl := tk_1 _ (List.mem_of_getElem? (i := 100) rfl)
theorem wd_102 : Cond.lays "RedoQuorum$StorageCopy" "RedoQuorum$StorageCopy" "fold" "I" ∈ lw_tbl := tk_1 _ (List.mem_of_getElem? (i := 102) rfl)
theorem wd_104 : Cond.lays "RedoQuorum$StorageCopy" "RedoQuorum$StorageCopy" "reported" "I" ∈ lw_tbl := tk_1 _ (List.mem_of_getElem? (i := 104) rfl)
theorem wd_107 : Cond.fieldLink "RedoQuorum$Group" 11 "RedoQuorum$Group" "copies" "[LRedoQuorum$StorageCopy;" ∈ lw_tbl := tk_1 _ (List.mem_of_getElem? (i := 107) rfl)
theorem wd_108 : Cond.fieldLinkNest "RedoQuorum" 123 "RedoQuorum$Group" "copies" "[LRedoQuorum$StorageCopy;" "RedoQuorum" ∈ lw_tbl := tk_1 _ (List.mem_of_getElem? (i := 108) rfl)
theorem wd_109 : Cond.laysFinal "RedoQuorum$Group" "RedoQuorum$Group" "copies" "[LRedoQuorum$StorageCopy;" ∈ lw_tbl := tk_1 _ (List.mem_of_getElem? (i := 109) rfl)
theorem wd_112 : Cond.classLink "RedoQuorum" 32 "RedoQuorum$Cache" ∈ lw_tbl := tk_1 _ (List.mem_of_getElem? (i := 112) rfl)
theorem wd_113 : Cond.instantiable "RedoQuorum$Cache" 2 ∈ lw_tbl := tk_1 _ (List.mem_of_getElem? (i := 113) rfl)
theorem wd_114 : Cond.methodLinkNest "RedoQuorum" 34 ⟨"RedoQuorum$Cache", "<init>", "()V"⟩ "RedoQuorum" ∈ lw_tbl := tk_1 _ (List.mem_of_getElem? (i := 114) rfl)
theorem wd_115 : Cond.instanceMethod ⟨"RedoQuorum$Cache", "<init>", "()V"⟩ ∈ lw_tbl := tk_1 _ (List.mem_of_getElem? (i := 115) rfl)
theorem wd_116 : Cond.code ⟨"RedoQuorum$Cache", "<init>", "()V"⟩ prog_2_method_1_code 1 (none : Option Jvm.ClassFile.FieldType) ∈ lw_tbl := tk_1 _ (List.mem_of_getElem? (i := 116) rfl)
theorem wd_117 : Cond.methodLink "RedoQuorum$Cache" 1 ⟨"java/lang/Object", "<init>", "()V"⟩ ∈ lw_tbl := tk_1 _ (List.mem_of_getElem? (i := 117) rfl)
theorem wd_118 : Cond.fieldLink "RedoQuorum$Cache" 9 "RedoQuorum$Cache" "pages" "[I" ∈ lw_tbl := tk_1 _ (List.mem_of_getElem? (i := 118) rfl)
theorem wd_119 : Cond.fieldLinkNest "RedoQuorum" 255 "RedoQuorum$Cache" "pages" "[I" "RedoQuorum" ∈ lw_tbl := tk_1 _ (List.mem_of_getElem? (i := 119) rfl)
theorem wd_120 : Cond.fieldLink "RedoQuorum$Cache" 13 "RedoQuorum$Cache" "count" "I" ∈ lw_tbl := tk_1 _ (List.mem_of_getElem? (i := 120) rfl)
theorem wd_121 : Cond.fieldLinkNest "RedoQuorum" 252 "RedoQuorum$Cache" "count" "I" "RedoQuorum" ∈ lw_tbl := tk_1 _ (List.mem_of_getElem? (i := 121) rfl)
theorem wd_122 : Cond.laysFinal "RedoQuorum$Cache" "RedoQuorum$Cache" "pages" "[I" ∈ lw_tbl := tk_1 _ (List.mem_of_getElem? (i := 122) rfl)
theorem wd_124 : Cond.lays "RedoQuorum$Cache" "RedoQuorum$Cache" "count" "I" ∈ lw_tbl := tk_1 _ (List.mem_of_getElem? (i := 124) rfl)
theorem wd_127 : Cond.fieldLink "RedoQuorum" 10 "RedoQuorum" "log" "LRedoQuorum$Log;" ∈ lw_tbl := tk_1 _ (List.mem_of_getElem? (i := 127) rfl)
theorem wd_128 : Cond.fieldLink "RedoQuorum" 19 "RedoQuorum" "transactions" "LRedoQuorum$Transactions;" ∈ lw_tbl := tk_1 _ (List.mem_of_getElem? (i := 128) rfl)
theorem wd_129 : Cond.fieldLink "RedoQuorum" 25 "RedoQuorum" "groups" "[LRedoQuorum$Group;" ∈ lw_tbl := tk_1 _ (List.mem_of_getElem? (i := 129) rfl)
theorem wd_130 : Cond.fieldLink "RedoQuorum" 35 "RedoQuorum" "cache" "LRedoQuorum$Cache;" ∈ lw_tbl := tk_1 _ (List.mem_of_getElem? (i := 130) rfl)
theorem wd_131 : Cond.fieldLink "RedoQuorum" 39 "RedoQuorum" "views" "[I" ∈ lw_tbl := tk_1 _ (List.mem_of_getElem? (i := 131) rfl)
theorem wd_132 : Cond.fieldLink "RedoQuorum" 43 "RedoQuorum" "up" "Z" ∈ lw_tbl := tk_1 _ (List.mem_of_getElem? (i := 132) rfl)
theorem wd_133 : Cond.fieldLink "RedoQuorum" 47 "RedoQuorum" "durable" "I" ∈ lw_tbl := tk_1 _ (List.mem_of_getElem? (i := 133) rfl)
theorem wd_134 : Cond.laysFinal "RedoQuorum" "RedoQuorum" "log" "LRedoQuorum$Log;" ∈ lw_tbl := tk_1 _ (List.mem_of_getElem? (i := 134) rfl)
theorem wd_136 : Cond.laysFinal "RedoQuorum" "RedoQuorum" "transactions" "LRedoQuorum$Transactions;" ∈ lw_tbl := tk_1 _ (List.mem_of_getElem? (i := 136) rfl)
theorem wd_138 : Cond.laysFinal "RedoQuorum" "RedoQuorum" "groups" "[LRedoQuorum$Group;" ∈ lw_tbl := tk_1 _ (List.mem_of_getElem? (i := 138) rfl)
theorem wd_140 : Cond.laysFinal "RedoQuorum" "RedoQuorum" "cache" "LRedoQuorum$Cache;" ∈ lw_tbl := tk_1 _ (List.mem_of_getElem? (i := 140) rfl)
theorem wd_142 : Cond.laysFinal "RedoQuorum" "RedoQuorum" "views" "[I" ∈ lw_tbl := tk_1 _ (List.mem_of_getElem? (i := 142) rfl)
theorem wd_144 : Cond.lays "RedoQuorum" "RedoQuorum" "up" "Z" ∈ lw_tbl := tk_1 _ (List.mem_of_getElem? (i := 144) rfl)
theorem wd_146 : Cond.lays "RedoQuorum" "RedoQuorum" "durable" "I" ∈ lw_tbl := tk_1 _ (List.mem_of_getElem? (i := 146) rfl)
theorem wd_149 : Cond.methodLink "RedoQuorumLaw" 13 ⟨"RedoQuorum", "begin", "()I"⟩ ∈ lw_tbl := tk_1 _ (List.mem_of_getElem? (i := 149) rfl)
theorem wd_150 : Cond.instanceMethod ⟨"RedoQuorum", "begin", "()I"⟩ ∈ lw_tbl := tk_1 _ (List.mem_of_getElem? (i := 150) rfl)
theorem wd_151 : Cond.selects "RedoQuorum" ⟨"RedoQuorum", "begin", "()I"⟩ ⟨"RedoQuorum", "begin", "()I"⟩ ∈ lw_tbl := tk_1 _ (List.mem_of_getElem? (i := 151) rfl)
theorem wd_152 : Cond.code ⟨"RedoQuorum", "begin", "()I"⟩ prog_1_method_2_code 1 (some .int) ∈ lw_tbl := tk_1 _ (List.mem_of_getElem? (i := 152) rfl)
theorem wd_153 : Cond.methodLink "RedoQuorum" 51 ⟨"RedoQuorum$Transactions", "isFull", "()Z"⟩ ∈ lw_tbl := tk_1 _ (List.mem_of_getElem? (i := 153) rfl)
theorem wd_154 : Cond.instanceMethod ⟨"RedoQuorum$Transactions", "isFull", "()Z"⟩ ∈ lw_tbl := tk_1 _ (List.mem_of_getElem? (i := 154) rfl)
theorem wd_155 : Cond.selects "RedoQuorum$Transactions" ⟨"RedoQuorum$Transactions", "isFull", "()Z"⟩ ⟨"RedoQuorum$Transactions", "isFull", "()Z"⟩ ∈ lw_tbl := tk_1 _ (List.mem_of_getElem? (i := 155) rfl)
theorem wd_156 : Cond.code ⟨"RedoQuorum$Transactions", "isFull", "()Z"⟩ prog_6_method_2_code 1 (some .boolean) ∈ lw_tbl := tk_1 _ (List.mem_of_getElem? (i := 156) rfl)
theorem wd_157 : Cond.methodLink "RedoQuorum" 58 ⟨"RedoQuorum$Transactions", "start", "()I"⟩ ∈ lw_tbl := tk_1 _ (List.mem_of_getElem? (i := 157) rfl)
theorem wd_158 : Cond.instanceMethod ⟨"RedoQuorum$Transactions", "start", "()I"⟩ ∈ lw_tbl := tk_1 _ (List.mem_of_getElem? (i := 158) rfl)
theorem wd_159 : Cond.selects "RedoQuorum$Transactions" ⟨"RedoQuorum$Transactions", "start", "()I"⟩ ⟨"RedoQuorum$Transactions", "start", "()I"⟩ ∈ lw_tbl := tk_1 _ (List.mem_of_getElem? (i := 159) rfl)
theorem wd_160 : Cond.code ⟨"RedoQuorum$Transactions", "start", "()I"⟩ prog_6_method_3_code 1 (some .int) ∈ lw_tbl := tk_1 _ (List.mem_of_getElem? (i := 160) rfl)
theorem wd_161 : Cond.methodLink "RedoQuorumLaw" 18 ⟨"RedoQuorum", "read", "(II)I"⟩ ∈ lw_tbl := tk_1 _ (List.mem_of_getElem? (i := 161) rfl)
theorem wd_162 : Cond.instanceMethod ⟨"RedoQuorum", "read", "(II)I"⟩ ∈ lw_tbl := tk_1 _ (List.mem_of_getElem? (i := 162) rfl)
theorem wd_163 : Cond.selects "RedoQuorum" ⟨"RedoQuorum", "read", "(II)I"⟩ ⟨"RedoQuorum", "read", "(II)I"⟩ ∈ lw_tbl := tk_1 _ (List.mem_of_getElem? (i := 163) rfl)
theorem wd_164 : Cond.code ⟨"RedoQuorum", "read", "(II)I"⟩ prog_1_method_3_code 4 (some .int) ∈ lw_tbl := tk_1 _ (List.mem_of_getElem? (i := 164) rfl)
theorem wd_165 : Cond.methodLink "RedoQuorum" 62 ⟨"RedoQuorum", "isKey", "(I)Z"⟩ ∈ lw_tbl := tk_1 _ (List.mem_of_getElem? (i := 165) rfl)
theorem wd_166 : Cond.static ⟨"RedoQuorum", "isKey", "(I)Z"⟩ ∈ lw_tbl := tk_1 _ (List.mem_of_getElem? (i := 166) rfl)
theorem wd_167 : Cond.code ⟨"RedoQuorum", "isKey", "(I)Z"⟩ prog_1_method_21_code 1 (some .boolean) ∈ lw_tbl := tk_1 _ (List.mem_of_getElem? (i := 167) rfl)
theorem wd_168 : Cond.methodLink "RedoQuorum" 66 ⟨"RedoQuorum", "refusalOfKeys", "(III)I"⟩ ∈ lw_tbl := tk_1 _ (List.mem_of_getElem? (i := 168) rfl)
theorem wd_170 : Cond.instanceMethod ⟨"RedoQuorum", "refusalOfKeys", "(III)I"⟩ ∈ lw_tbl := tk_1 _ (List.mem_of_getElem? (i := 170) rfl)
theorem wd_171 : Cond.code ⟨"RedoQuorum", "refusalOfKeys", "(III)I"⟩ prog_1_method_27_code 5 (some .int) ∈ lw_tbl := tk_1 _ (List.mem_of_getElem? (i := 171) rfl)
theorem wd_172 : Cond.methodLink "RedoQuorum" 92 ⟨"RedoQuorum", "refusalOfTransaction", "(I)I"⟩ ∈ lw_tbl := tk_1 _ (List.mem_of_getElem? (i := 172) rfl)
theorem wd_174 : Cond.instanceMethod ⟨"RedoQuorum", "refusalOfTransaction", "(I)I"⟩ ∈ lw_tbl := tk_1 _ (List.mem_of_getElem? (i := 174) rfl)
theorem wd_175 : Cond.code ⟨"RedoQuorum", "refusalOfTransaction", "(I)I"⟩ prog_1_method_26_code 2 (some .int) ∈ lw_tbl := tk_1 _ (List.mem_of_getElem? (i := 175) rfl)
theorem wd_176 : Cond.methodLink "RedoQuorum" 108 ⟨"RedoQuorum$Transactions", "isActive", "(I)Z"⟩ ∈ lw_tbl := tk_1 _ (List.mem_of_getElem? (i := 176) rfl)
theorem wd_177 : Cond.instanceMethod ⟨"RedoQuorum$Transactions", "isActive", "(I)Z"⟩ ∈ lw_tbl := tk_1 _ (List.mem_of_getElem? (i := 177) rfl)
theorem wd_178 : Cond.selects "RedoQuorum$Transactions" ⟨"RedoQuorum$Transactions", "isActive", "(I)Z"⟩ ⟨"RedoQuorum$Transactions", "isActive", "(I)Z"⟩ ∈ lw_tbl := tk_1 _ (List.mem_of_getElem? (i := 178) rfl)
theorem wd_179 : Cond.code ⟨"RedoQuorum$Transactions", "isActive", "(I)Z"⟩ prog_6_method_4_code 2 (some .boolean) ∈ lw_tbl := tk_1 _ (List.mem_of_getElem? (i := 179) rfl)
theorem wd_180 : Cond.methodLink "RedoQuorum" 236 ⟨"RedoQuorum$Transactions", "mayHold", "(II)Z"⟩ ∈ lw_tbl := tk_1 _ (List.mem_of_getElem? (i := 180) rfl)
theorem wd_181 : Cond.instanceMethod ⟨"RedoQuorum$Transactions", "mayHold", "(II)Z"⟩ ∈ lw_tbl := tk_1 _ (List.mem_of_getElem? (i := 181) rfl)
theorem wd_182 : Cond.selects "RedoQuorum$Transactions" ⟨"RedoQuorum$Transactions", "mayHold", "(II)Z"⟩ ⟨"RedoQuorum$Transactions", "mayHold", "(II)Z"⟩ ∈ lw_tbl := tk_1 _ (List.mem_of_getElem? (i := 182) rfl)
theorem wd_183 : Cond.code ⟨"RedoQuorum$Transactions", "mayHold", "(II)Z"⟩ prog_6_method_5_code 3 (some .boolean) ∈ lw_tbl := tk_1 _ (List.mem_of_getElem? (i := 183) rfl)
theorem wd_184 : Cond.methodLink "RedoQuorum" 70 ⟨"RedoQuorum", "pageOf", "(I)I"⟩ ∈ lw_tbl := tk_1 _ (List.mem_of_getElem? (i := 184) rfl)
theorem wd_185 : Cond.static ⟨"RedoQuorum", "pageOf", "(I)I"⟩ ∈ lw_tbl := tk_1 _ (List.mem_of_getElem? (i := 185) rfl)
theorem wd_186 : Cond.code ⟨"RedoQuorum", "pageOf", "(I)I"⟩ prog_1_method_24_code 1 (some .int) ∈ lw_tbl := tk_1 _ (List.mem_of_getElem? (i := 186) rfl)
theorem wd_187 : Cond.methodLink "RedoQuorum" 74 ⟨"RedoQuorum", "touch", "(II)I"⟩ ∈ lw_tbl := tk_1 _ (List.mem_of_getElem? (i := 187) rfl)
theorem wd_189 : Cond.instanceMethod ⟨"RedoQuorum", "touch", "(II)I"⟩ ∈ lw_tbl := tk_1 _ (List.mem_of_getElem? (i := 189) rfl)
theorem wd_190 : Cond.code ⟨"RedoQuorum", "touch", "(II)I"⟩ prog_1_method_30_code 4 (some .int) ∈ lw_tbl := tk_1 _ (List.mem_of_getElem? (i := 190) rfl)
theorem wd_191 : Cond.methodLink "RedoQuorum" 233 ⟨"RedoQuorum$Cache", "rankOf", "(I)I"⟩ ∈ lw_tbl := tk_1 _ (List.mem_of_getElem? (i := 191) rfl)
theorem wd_192 : Cond.instanceMethod ⟨"RedoQuorum$Cache", "rankOf", "(I)I"⟩ ∈ lw_tbl := tk_1 _ (List.mem_of_getElem? (i := 192) rfl)
theorem wd_193 : Cond.selects "RedoQuorum$Cache" ⟨"RedoQuorum$Cache", "rankOf", "(I)I"⟩ ⟨"RedoQuorum$Cache", "rankOf", "(I)I"⟩ ∈ lw_tbl := tk_1 _ (List.mem_of_getElem? (i := 193) rfl)
theorem wd_194 : Cond.code ⟨"RedoQuorum$Cache", "rankOf", "(I)I"⟩ prog_2_method_3_code 3 (some .int) ∈ lw_tbl := tk_1 _ (List.mem_of_getElem? (i := 194) rfl)
theorem wd_195 : Cond.methodLink "RedoQuorum" 239 ⟨"RedoQuorum$Cache", "remove", "(I)V"⟩ ∈ lw_tbl := tk_1 _ (List.mem_of_getElem? (i := 195) rfl)
theorem wd_196 : Cond.instanceMethod ⟨"RedoQuorum$Cache", "remove", "(I)V"⟩ ∈ lw_tbl := tk_1 _ (List.mem_of_getElem? (i := 196) rfl)
theorem wd_197 : Cond.selects "RedoQuorum$Cache" ⟨"RedoQuorum$Cache", "remove", "(I)V"⟩ ⟨"RedoQuorum$Cache", "remove", "(I)V"⟩ ∈ lw_tbl := tk_1 _ (List.mem_of_getElem? (i := 197) rfl)
theorem wd_198 : Cond.code ⟨"RedoQuorum$Cache", "remove", "(I)V"⟩ prog_2_method_5_code 4 (none : Option Jvm.ClassFile.FieldType) ∈ lw_tbl := tk_1 _ (List.mem_of_getElem? (i := 198) rfl)
theorem wd_199 : Cond.methodLink "RedoQuorum" 242 ⟨"RedoQuorum$Cache", "append", "(I)V"⟩ ∈ lw_tbl := tk_1 _ (List.mem_of_getElem? (i := 199) rfl)
theorem wd_200 : Cond.instanceMethod ⟨"RedoQuorum$Cache", "append", "(I)V"⟩ ∈ lw_tbl := tk_1 _ (List.mem_of_getElem? (i := 200) rfl)
theorem wd_201 : Cond.selects "RedoQuorum$Cache" ⟨"RedoQuorum$Cache", "append", "(I)V"⟩ ⟨"RedoQuorum$Cache", "append", "(I)V"⟩ ∈ lw_tbl := tk_1 _ (List.mem_of_getElem? (i := 201) rfl)
theorem wd_202 : Cond.code ⟨"RedoQuorum$Cache", "append", "(I)V"⟩ prog_2_method_4_code 2 (none : Option Jvm.ClassFile.FieldType) ∈ lw_tbl := tk_1 _ (List.mem_of_getElem? (i := 202) rfl)
theorem wd_203 : Cond.methodLink "RedoQuorum" 245 ⟨"RedoQuorum", "pageThatMayGo", "(I)I"⟩ ∈ lw_tbl := tk_1 _ (List.mem_of_getElem? (i := 203) rfl)
theorem wd_205 : Cond.instanceMethod ⟨"RedoQuorum", "pageThatMayGo", "(I)I"⟩ ∈ lw_tbl := tk_1 _ (List.mem_of_getElem? (i := 205) rfl)
theorem wd_206 : Cond.code ⟨"RedoQuorum", "pageThatMayGo", "(I)I"⟩ prog_1_method_31_code 4 (some .int) ∈ lw_tbl := tk_1 _ (List.mem_of_getElem? (i := 206) rfl)
theorem wd_207 : Cond.methodLink "RedoQuorum" 248 ⟨"RedoQuorum", "isAheadOfDurable", "(I)Z"⟩ ∈ lw_tbl := tk_1 _ (List.mem_of_getElem? (i := 207) rfl)
theorem wd_209 : Cond.instanceMethod ⟨"RedoQuorum", "isAheadOfDurable", "(I)Z"⟩ ∈ lw_tbl := tk_1 _ (List.mem_of_getElem? (i := 209) rfl)
theorem wd_210 : Cond.code ⟨"RedoQuorum", "isAheadOfDurable", "(I)Z"⟩ prog_1_method_32_code 2 (some .boolean) ∈ lw_tbl := tk_1 _ (List.mem_of_getElem? (i := 210) rfl)
theorem wd_211 : Cond.methodLink "RedoQuorum" 258 ⟨"RedoQuorum$Log", "latestOf", "(I)I"⟩ ∈ lw_tbl := tk_1 _ (List.mem_of_getElem? (i := 211) rfl)
theorem wd_212 : Cond.instanceMethod ⟨"RedoQuorum$Log", "latestOf", "(I)I"⟩ ∈ lw_tbl := tk_1 _ (List.mem_of_getElem? (i := 212) rfl)
theorem wd_213 : Cond.selects "RedoQuorum$Log" ⟨"RedoQuorum$Log", "latestOf", "(I)I"⟩ ⟨"RedoQuorum$Log", "latestOf", "(I)I"⟩ ∈ lw_tbl := tk_1 _ (List.mem_of_getElem? (i := 213) rfl)
theorem wd_214 : Cond.code ⟨"RedoQuorum$Log", "latestOf", "(I)I"⟩ prog_4_method_13_code 3 (some .int) ∈ lw_tbl := tk_1 _ (List.mem_of_getElem? (i := 214) rfl)
theorem wd_215 : Cond.methodLink "RedoQuorum$Log" 72 ⟨"RedoQuorum$Log", "isEnd", "(I)Z"⟩ ∈ lw_tbl := tk_1 _ (List.mem_of_getElem? (i := 215) rfl)
theorem wd_216 : Cond.instanceMethod ⟨"RedoQuorum$Log", "isEnd", "(I)Z"⟩ ∈ lw_tbl := tk_1 _ (List.mem_of_getElem? (i := 216) rfl)
theorem wd_217 : Cond.selects "RedoQuorum$Log" ⟨"RedoQuorum$Log", "isEnd", "(I)Z"⟩ ⟨"RedoQuorum$Log", "isEnd", "(I)Z"⟩ ∈ lw_tbl := tk_1 _ (List.mem_of_getElem? (i := 217) rfl)
theorem wd_218 : Cond.code ⟨"RedoQuorum$Log", "isEnd", "(I)Z"⟩ prog_4_method_8_code 2 (some .boolean) ∈ lw_tbl := tk_1 _ (List.mem_of_getElem? (i := 218) rfl)
theorem wd_219 : Cond.methodLinkNest "RedoQuorum$Log" 34 ⟨"RedoQuorum", "pageOf", "(I)I"⟩ "RedoQuorum" ∈ lw_tbl := tk_1 _ (List.mem_of_getElem? (i := 219) rfl)
theorem wd_220 : Cond.methodLink "RedoQuorum" 251 ⟨"RedoQuorum$Cache", "isFull", "()Z"⟩ ∈ lw_tbl := tk_1 _ (List.mem_of_getElem? (i := 220) rfl)
theorem wd_221 : Cond.instanceMethod ⟨"RedoQuorum$Cache", "isFull", "()Z"⟩ ∈ lw_tbl := tk_1 _ (List.mem_of_getElem? (i := 221) rfl)
theorem wd_222 : Cond.selects "RedoQuorum$Cache" ⟨"RedoQuorum$Cache", "isFull", "()Z"⟩ ⟨"RedoQuorum$Cache", "isFull", "()Z"⟩ ∈ lw_tbl := tk_1 _ (List.mem_of_getElem? (i := 222) rfl)
theorem wd_223 : Cond.code ⟨"RedoQuorum$Cache", "isFull", "()Z"⟩ prog_2_method_2_code 1 (some .boolean) ∈ lw_tbl := tk_1 _ (List.mem_of_getElem? (i := 223) rfl)
theorem wd_224 : Cond.methodLink "RedoQuorum" 212 ⟨"RedoQuorum", "groupOfPage", "(I)I"⟩ ∈ lw_tbl := tk_1 _ (List.mem_of_getElem? (i := 224) rfl)
theorem wd_225 : Cond.static ⟨"RedoQuorum", "groupOfPage", "(I)I"⟩ ∈ lw_tbl := tk_1 _ (List.mem_of_getElem? (i := 225) rfl)
theorem wd_226 : Cond.code ⟨"RedoQuorum", "groupOfPage", "(I)I"⟩ prog_1_method_25_code 1 (some .int) ∈ lw_tbl := tk_1 _ (List.mem_of_getElem? (i := 226) rfl)
theorem wd_227 : Cond.methodLink "RedoQuorum" 215 ⟨"RedoQuorum$Group", "serves", "(ILRedoQuorum$Log;)Z"⟩ ∈ lw_tbl := tk_1 _ (List.mem_of_getElem? (i := 227) rfl)
theorem wd_228 : Cond.instanceMethod ⟨"RedoQuorum$Group", "serves", "(ILRedoQuorum$Log;)Z"⟩ ∈ lw_tbl := tk_1 _ (List.mem_of_getElem? (i := 228) rfl)
theorem wd_229 : Cond.selects "RedoQuorum$Group" ⟨"RedoQuorum$Group", "serves", "(ILRedoQuorum$Log;)Z"⟩ ⟨"RedoQuorum$Group", "serves", "(ILRedoQuorum$Log;)Z"⟩ ∈ lw_tbl := tk_1 _ (List.mem_of_getElem? (i := 229) rfl)
theorem wd_230 : Cond.code ⟨"RedoQuorum$Group", "serves", "(ILRedoQuorum$Log;)Z"⟩ prog_3_method_4_code 4 (some .boolean) ∈ lw_tbl := tk_1 _ (List.mem_of_getElem? (i := 230) rfl)
theorem wd_231 : Cond.methodLink "RedoQuorum$Group" 20 ⟨"RedoQuorum$StorageCopy", "isLive", "()Z"⟩ ∈ lw_tbl := tk_1 _ (List.mem_of_getElem? (i := 231) rfl)
theorem wd_232 : Cond.instanceMethod ⟨"RedoQuorum$StorageCopy", "isLive", "()Z"⟩ ∈ lw_tbl := tk_1 _ (List.mem_of_getElem? (i := 232) rfl)
theorem wd_233 : Cond.selects "RedoQuorum$StorageCopy" ⟨"RedoQuorum$StorageCopy", "isLive", "()Z"⟩ ⟨"RedoQuorum$StorageCopy", "isLive", "()Z"⟩ ∈ lw_tbl := tk_1 _ (List.mem_of_getElem? (i := 233) rfl)
theorem wd_234 : Cond.code ⟨"RedoQuorum$StorageCopy", "isLive", "()Z"⟩ prog_5_method_2_code 1 (some .boolean) ∈ lw_tbl := tk_1 _ (List.mem_of_getElem? (i := 234) rfl)
theorem wd_235 : Cond.methodLink "RedoQuorum$Group" 28 ⟨"RedoQuorum$StorageCopy", "holdsAllUpTo", "(ILRedoQuorum$Log;)Z"⟩ ∈ lw_tbl := tk_1 _ (List.mem_of_getElem? (i := 235) rfl)
theorem wd_236 : Cond.instanceMethod ⟨"RedoQuorum$StorageCopy", "holdsAllUpTo", "(ILRedoQuorum$Log;)Z"⟩ ∈ lw_tbl := tk_1 _ (List.mem_of_getElem? (i := 236) rfl)
theorem wd_237 : Cond.selects "RedoQuorum$StorageCopy" ⟨"RedoQuorum$StorageCopy", "holdsAllUpTo", "(ILRedoQuorum$Log;)Z"⟩ ⟨"RedoQuorum$StorageCopy", "holdsAllUpTo", "(ILRedoQuorum$Log;)Z"⟩ ∈ lw_tbl := tk_1 _ (List.mem_of_getElem? (i := 237) rfl)
theorem wd_238 : Cond.code ⟨"RedoQuorum$StorageCopy", "holdsAllUpTo", "(ILRedoQuorum$Log;)Z"⟩ prog_5_method_10_code 4 (some .boolean) ∈ lw_tbl := tk_1 _ (List.mem_of_getElem? (i := 238) rfl)
theorem wd_239 : Cond.methodLink "RedoQuorum" 78 ⟨"RedoQuorum$Transactions", "hold", "(II)V"⟩ ∈ lw_tbl := tk_1 _ (List.mem_of_getElem? (i := 239) rfl)
theorem wd_240 : Cond.instanceMethod ⟨"RedoQuorum$Transactions", "hold", "(II)V"⟩ ∈ lw_tbl := tk_2 _ (List.mem_of_getElem? (i := 0) rfl)
theorem wd_241 : Cond.selects "RedoQuorum$Transactions" ⟨"RedoQuorum$Transactions", "hold", "(II)V"⟩ ⟨"RedoQuorum$Transactions", "hold", "(II)V"⟩ ∈ lw_tbl := tk_2 _ (List.mem_of_getElem? (i := 1) rfl)
theorem wd_242 : Cond.code ⟨"RedoQuorum$Transactions", "hold", "(II)V"⟩ prog_6_method_6_code 3 (none : Option Jvm.ClassFile.FieldType) ∈ lw_tbl := tk_2 _ (List.mem_of_getElem? (i := 2) rfl)
theorem wd_243 : Cond.methodLink "RedoQuorum" 82 ⟨"RedoQuorum$Log", "valueUpTo", "(II)I"⟩ ∈ lw_tbl := tk_2 _ (List.mem_of_getElem? (i := 3) rfl)
theorem wd_244 : Cond.instanceMethod ⟨"RedoQuorum$Log", "valueUpTo", "(II)I"⟩ ∈ lw_tbl := tk_2 _ (List.mem_of_getElem? (i := 4) rfl)
theorem wd_245 : Cond.selects "RedoQuorum$Log" ⟨"RedoQuorum$Log", "valueUpTo", "(II)I"⟩ ⟨"RedoQuorum$Log", "valueUpTo", "(II)I"⟩ ∈ lw_tbl := tk_2 _ (List.mem_of_getElem? (i := 5) rfl)
theorem wd_246 : Cond.code ⟨"RedoQuorum$Log", "valueUpTo", "(II)I"⟩ prog_4_method_11_code 4 (some .int) ∈ lw_tbl := tk_2 _ (List.mem_of_getElem? (i := 6) rfl)
theorem wd_247 : Cond.methodLink "RedoQuorumLaw" 23 ⟨"RedoQuorum", "write", "(III)I"⟩ ∈ lw_tbl := tk_2 _ (List.mem_of_getElem? (i := 7) rfl)
theorem wd_248 : Cond.instanceMethod ⟨"RedoQuorum", "write", "(III)I"⟩ ∈ lw_tbl := tk_2 _ (List.mem_of_getElem? (i := 8) rfl)
theorem wd_249 : Cond.selects "RedoQuorum" ⟨"RedoQuorum", "write", "(III)I"⟩ ⟨"RedoQuorum", "write", "(III)I"⟩ ∈ lw_tbl := tk_2 _ (List.mem_of_getElem? (i := 9) rfl)
theorem wd_250 : Cond.code ⟨"RedoQuorum", "write", "(III)I"⟩ prog_1_method_4_code 5 (some .int) ∈ lw_tbl := tk_2 _ (List.mem_of_getElem? (i := 10) rfl)
theorem wd_251 : Cond.methodLink "RedoQuorum" 85 ⟨"RedoQuorum", "refusalOfChanges", "(III)I"⟩ ∈ lw_tbl := tk_2 _ (List.mem_of_getElem? (i := 11) rfl)
theorem wd_253 : Cond.instanceMethod ⟨"RedoQuorum", "refusalOfChanges", "(III)I"⟩ ∈ lw_tbl := tk_2 _ (List.mem_of_getElem? (i := 13) rfl)
theorem wd_254 : Cond.code ⟨"RedoQuorum", "refusalOfChanges", "(III)I"⟩ prog_1_method_28_code 5 (some .int) ∈ lw_tbl := tk_2 _ (List.mem_of_getElem? (i := 14) rfl)
theorem wd_255 : Cond.methodLink "RedoQuorum" 88 ⟨"RedoQuorum$Log", "addChange", "(IIIZ)I"⟩ ∈ lw_tbl := tk_2 _ (List.mem_of_getElem? (i := 15) rfl)
theorem wd_256 : Cond.instanceMethod ⟨"RedoQuorum$Log", "addChange", "(IIIZ)I"⟩ ∈ lw_tbl := tk_2 _ (List.mem_of_getElem? (i := 16) rfl)
theorem wd_257 : Cond.selects "RedoQuorum$Log" ⟨"RedoQuorum$Log", "addChange", "(IIIZ)I"⟩ ⟨"RedoQuorum$Log", "addChange", "(IIIZ)I"⟩ ∈ lw_tbl := tk_2 _ (List.mem_of_getElem? (i := 17) rfl)
theorem wd_258 : Cond.code ⟨"RedoQuorum$Log", "addChange", "(IIIZ)I"⟩ prog_4_method_3_code 5 (some .int) ∈ lw_tbl := tk_2 _ (List.mem_of_getElem? (i := 18) rfl)
theorem wd_259 : Cond.methodLinkNest "RedoQuorum$Log" 38 ⟨"RedoQuorum", "groupOfPage", "(I)I"⟩ "RedoQuorum" ∈ lw_tbl := tk_2 _ (List.mem_of_getElem? (i := 19) rfl)
theorem wd_260 : Cond.methodLink "RedoQuorum$Log" 41 ⟨"RedoQuorum$Log", "add", "(IIIII)I"⟩ ∈ lw_tbl := tk_2 _ (List.mem_of_getElem? (i := 20) rfl)
theorem wd_262 : Cond.instanceMethod ⟨"RedoQuorum$Log", "add", "(IIIII)I"⟩ ∈ lw_tbl := tk_2 _ (List.mem_of_getElem? (i := 22) rfl)
theorem wd_263 : Cond.code ⟨"RedoQuorum$Log", "add", "(IIIII)I"⟩ prog_4_method_5_code 6 (some .int) ∈ lw_tbl := tk_2 _ (List.mem_of_getElem? (i := 23) rfl)
theorem wd_264 : Cond.methodLink "RedoQuorumLaw" 28 ⟨"RedoQuorum", "shift", "(IIII)I"⟩ ∈ lw_tbl := tk_2 _ (List.mem_of_getElem? (i := 24) rfl)
theorem wd_265 : Cond.instanceMethod ⟨"RedoQuorum", "shift", "(IIII)I"⟩ ∈ lw_tbl := tk_2 _ (List.mem_of_getElem? (i := 25) rfl)
theorem wd_266 : Cond.selects "RedoQuorum" ⟨"RedoQuorum", "shift", "(IIII)I"⟩ ⟨"RedoQuorum", "shift", "(IIII)I"⟩ ∈ lw_tbl := tk_2 _ (List.mem_of_getElem? (i := 26) rfl)
theorem wd_267 : Cond.code ⟨"RedoQuorum", "shift", "(IIII)I"⟩ prog_1_method_5_code 8 (some .int) ∈ lw_tbl := tk_2 _ (List.mem_of_getElem? (i := 27) rfl)
theorem wd_268 : Cond.methodLink "RedoQuorumLaw" 33 ⟨"RedoQuorum", "commit", "(I)I"⟩ ∈ lw_tbl := tk_2 _ (List.mem_of_getElem? (i := 28) rfl)
theorem wd_269 : Cond.instanceMethod ⟨"RedoQuorum", "commit", "(I)I"⟩ ∈ lw_tbl := tk_2 _ (List.mem_of_getElem? (i := 29) rfl)
theorem wd_270 : Cond.selects "RedoQuorum" ⟨"RedoQuorum", "commit", "(I)I"⟩ ⟨"RedoQuorum", "commit", "(I)I"⟩ ∈ lw_tbl := tk_2 _ (List.mem_of_getElem? (i := 30) rfl)
theorem wd_271 : Cond.code ⟨"RedoQuorum", "commit", "(I)I"⟩ prog_1_method_6_code 3 (some .int) ∈ lw_tbl := tk_2 _ (List.mem_of_getElem? (i := 31) rfl)
theorem wd_272 : Cond.methodLink "RedoQuorum" 95 ⟨"RedoQuorum$Transactions", "finish", "(I)V"⟩ ∈ lw_tbl := tk_2 _ (List.mem_of_getElem? (i := 32) rfl)
theorem wd_273 : Cond.instanceMethod ⟨"RedoQuorum$Transactions", "finish", "(I)V"⟩ ∈ lw_tbl := tk_2 _ (List.mem_of_getElem? (i := 33) rfl)
theorem wd_274 : Cond.selects "RedoQuorum$Transactions" ⟨"RedoQuorum$Transactions", "finish", "(I)V"⟩ ⟨"RedoQuorum$Transactions", "finish", "(I)V"⟩ ∈ lw_tbl := tk_2 _ (List.mem_of_getElem? (i := 34) rfl)
theorem wd_275 : Cond.code ⟨"RedoQuorum$Transactions", "finish", "(I)V"⟩ prog_6_method_7_code 3 (none : Option Jvm.ClassFile.FieldType) ∈ lw_tbl := tk_2 _ (List.mem_of_getElem? (i := 35) rfl)
theorem wd_276 : Cond.methodLink "RedoQuorum" 98 ⟨"RedoQuorum$Log", "addEnd", "(IZ)I"⟩ ∈ lw_tbl := tk_2 _ (List.mem_of_getElem? (i := 36) rfl)
theorem wd_277 : Cond.instanceMethod ⟨"RedoQuorum$Log", "addEnd", "(IZ)I"⟩ ∈ lw_tbl := tk_2 _ (List.mem_of_getElem? (i := 37) rfl)
theorem wd_278 : Cond.selects "RedoQuorum$Log" ⟨"RedoQuorum$Log", "addEnd", "(IZ)I"⟩ ⟨"RedoQuorum$Log", "addEnd", "(IZ)I"⟩ ∈ lw_tbl := tk_2 _ (List.mem_of_getElem? (i := 38) rfl)
theorem wd_279 : Cond.code ⟨"RedoQuorum$Log", "addEnd", "(IZ)I"⟩ prog_4_method_4_code 4 (some .int) ∈ lw_tbl := tk_2 _ (List.mem_of_getElem? (i := 39) rfl)
theorem wd_280 : Cond.methodLink "RedoQuorum$Log" 45 ⟨"java/lang/Math", "max", "(II)I"⟩ ∈ lw_tbl := tk_2 _ (List.mem_of_getElem? (i := 40) rfl)
theorem wd_281 : Cond.static ⟨"java/lang/Math", "max", "(II)I"⟩ ∈ lw_tbl := tk_2 _ (List.mem_of_getElem? (i := 41) rfl)
theorem wd_282 : Cond.code ⟨"java/lang/Math", "max", "(II)I"⟩ prog_9_method_65_code 2 (some .int) ∈ lw_tbl := tk_2 _ (List.mem_of_getElem? (i := 42) rfl)
theorem wd_283 : Cond.methodLink "RedoQuorumLaw" 38 ⟨"RedoQuorum", "abort", "(I)I"⟩ ∈ lw_tbl := tk_2 _ (List.mem_of_getElem? (i := 43) rfl)
theorem wd_284 : Cond.instanceMethod ⟨"RedoQuorum", "abort", "(I)I"⟩ ∈ lw_tbl := tk_2 _ (List.mem_of_getElem? (i := 44) rfl)
theorem wd_285 : Cond.selects "RedoQuorum" ⟨"RedoQuorum", "abort", "(I)I"⟩ ⟨"RedoQuorum", "abort", "(I)I"⟩ ∈ lw_tbl := tk_2 _ (List.mem_of_getElem? (i := 45) rfl)
theorem wd_286 : Cond.code ⟨"RedoQuorum", "abort", "(I)I"⟩ prog_1_method_7_code 3 (some .int) ∈ lw_tbl := tk_2 _ (List.mem_of_getElem? (i := 46) rfl)
theorem wd_287 : Cond.methodLink "RedoQuorum" 102 ⟨"RedoQuorum$Log", "rollBack", "(I)I"⟩ ∈ lw_tbl := tk_2 _ (List.mem_of_getElem? (i := 47) rfl)
theorem wd_288 : Cond.instanceMethod ⟨"RedoQuorum$Log", "rollBack", "(I)I"⟩ ∈ lw_tbl := tk_2 _ (List.mem_of_getElem? (i := 48) rfl)
theorem wd_289 : Cond.selects "RedoQuorum$Log" ⟨"RedoQuorum$Log", "rollBack", "(I)I"⟩ ⟨"RedoQuorum$Log", "rollBack", "(I)I"⟩ ∈ lw_tbl := tk_2 _ (List.mem_of_getElem? (i := 49) rfl)
theorem wd_290 : Cond.code ⟨"RedoQuorum$Log", "rollBack", "(I)I"⟩ prog_4_method_6_code 4 (some .int) ∈ lw_tbl := tk_2 _ (List.mem_of_getElem? (i := 50) rfl)
theorem wd_291 : Cond.methodLink "RedoQuorum$Log" 51 ⟨"RedoQuorum$Log", "firstChange", "(II)I"⟩ ∈ lw_tbl := tk_2 _ (List.mem_of_getElem? (i := 51) rfl)
theorem wd_293 : Cond.instanceMethod ⟨"RedoQuorum$Log", "firstChange", "(II)I"⟩ ∈ lw_tbl := tk_2 _ (List.mem_of_getElem? (i := 53) rfl)
theorem wd_294 : Cond.code ⟨"RedoQuorum$Log", "firstChange", "(II)I"⟩ prog_4_method_16_code 4 (some .int) ∈ lw_tbl := tk_2 _ (List.mem_of_getElem? (i := 54) rfl)
theorem wd_295 : Cond.methodLink "RedoQuorum$Log" 54 ⟨"RedoQuorum$Log", "valueUpTo", "(II)I"⟩ ∈ lw_tbl := tk_2 _ (List.mem_of_getElem? (i := 55) rfl)
theorem wd_296 : Cond.methodLink "RedoQuorum$Log" 57 ⟨"RedoQuorum$Log", "addChange", "(IIIZ)I"⟩ ∈ lw_tbl := tk_2 _ (List.mem_of_getElem? (i := 56) rfl)
theorem wd_297 : Cond.methodLink "RedoQuorum$Log" 61 ⟨"RedoQuorum$Log", "addEnd", "(IZ)I"⟩ ∈ lw_tbl := tk_2 _ (List.mem_of_getElem? (i := 57) rfl)
theorem wd_298 : Cond.methodLink "RedoQuorumLaw" 42 ⟨"RedoQuorum", "status", "(I)I"⟩ ∈ lw_tbl := tk_2 _ (List.mem_of_getElem? (i := 58) rfl)
theorem wd_299 : Cond.instanceMethod ⟨"RedoQuorum", "status", "(I)I"⟩ ∈ lw_tbl := tk_2 _ (List.mem_of_getElem? (i := 59) rfl)
theorem wd_300 : Cond.selects "RedoQuorum" ⟨"RedoQuorum", "status", "(I)I"⟩ ⟨"RedoQuorum", "status", "(I)I"⟩ ∈ lw_tbl := tk_2 _ (List.mem_of_getElem? (i := 60) rfl)
theorem wd_301 : Cond.code ⟨"RedoQuorum", "status", "(I)I"⟩ prog_1_method_8_code 3 (some .int) ∈ lw_tbl := tk_2 _ (List.mem_of_getElem? (i := 61) rfl)
theorem wd_302 : Cond.methodLink "RedoQuorum" 114 ⟨"RedoQuorum$Log", "commits", "(I)Z"⟩ ∈ lw_tbl := tk_2 _ (List.mem_of_getElem? (i := 62) rfl)
theorem wd_303 : Cond.instanceMethod ⟨"RedoQuorum$Log", "commits", "(I)Z"⟩ ∈ lw_tbl := tk_2 _ (List.mem_of_getElem? (i := 63) rfl)
theorem wd_304 : Cond.selects "RedoQuorum$Log" ⟨"RedoQuorum$Log", "commits", "(I)Z"⟩ ⟨"RedoQuorum$Log", "commits", "(I)Z"⟩ ∈ lw_tbl := tk_2 _ (List.mem_of_getElem? (i := 64) rfl)
theorem wd_305 : Cond.code ⟨"RedoQuorum$Log", "commits", "(I)Z"⟩ prog_4_method_9_code 2 (some .boolean) ∈ lw_tbl := tk_2 _ (List.mem_of_getElem? (i := 65) rfl)
theorem wd_306 : Cond.methodLink "RedoQuorumLaw" 46 ⟨"RedoQuorum", "deliver", "(II)I"⟩ ∈ lw_tbl := tk_2 _ (List.mem_of_getElem? (i := 66) rfl)
theorem wd_307 : Cond.instanceMethod ⟨"RedoQuorum", "deliver", "(II)I"⟩ ∈ lw_tbl := tk_2 _ (List.mem_of_getElem? (i := 67) rfl)
theorem wd_308 : Cond.selects "RedoQuorum" ⟨"RedoQuorum", "deliver", "(II)I"⟩ ⟨"RedoQuorum", "deliver", "(II)I"⟩ ∈ lw_tbl := tk_2 _ (List.mem_of_getElem? (i := 68) rfl)
theorem wd_309 : Cond.code ⟨"RedoQuorum", "deliver", "(II)I"⟩ prog_1_method_9_code 5 (some .int) ∈ lw_tbl := tk_2 _ (List.mem_of_getElem? (i := 69) rfl)
theorem wd_310 : Cond.methodLink "RedoQuorum" 117 ⟨"RedoQuorum$Log", "has", "(I)Z"⟩ ∈ lw_tbl := tk_2 _ (List.mem_of_getElem? (i := 70) rfl)
theorem wd_311 : Cond.instanceMethod ⟨"RedoQuorum$Log", "has", "(I)Z"⟩ ∈ lw_tbl := tk_2 _ (List.mem_of_getElem? (i := 71) rfl)
theorem wd_312 : Cond.selects "RedoQuorum$Log" ⟨"RedoQuorum$Log", "has", "(I)Z"⟩ ⟨"RedoQuorum$Log", "has", "(I)Z"⟩ ∈ lw_tbl := tk_2 _ (List.mem_of_getElem? (i := 72) rfl)
theorem wd_313 : Cond.code ⟨"RedoQuorum$Log", "has", "(I)Z"⟩ prog_4_method_2_code 2 (some .boolean) ∈ lw_tbl := tk_2 _ (List.mem_of_getElem? (i := 73) rfl)
theorem wd_314 : Cond.methodLink "RedoQuorum" 127 ⟨"RedoQuorum$StorageCopy", "isLive", "()Z"⟩ ∈ lw_tbl := tk_2 _ (List.mem_of_getElem? (i := 74) rfl)
theorem wd_315 : Cond.methodLink "RedoQuorum" 132 ⟨"RedoQuorum$StorageCopy", "take", "(I)Z"⟩ ∈ lw_tbl := tk_2 _ (List.mem_of_getElem? (i := 75) rfl)
theorem wd_316 : Cond.instanceMethod ⟨"RedoQuorum$StorageCopy", "take", "(I)Z"⟩ ∈ lw_tbl := tk_2 _ (List.mem_of_getElem? (i := 76) rfl)
theorem wd_317 : Cond.selects "RedoQuorum$StorageCopy" ⟨"RedoQuorum$StorageCopy", "take", "(I)Z"⟩ ⟨"RedoQuorum$StorageCopy", "take", "(I)Z"⟩ ∈ lw_tbl := tk_2 _ (List.mem_of_getElem? (i := 77) rfl)
theorem wd_318 : Cond.code ⟨"RedoQuorum$StorageCopy", "take", "(I)Z"⟩ prog_5_method_5_code 3 (some .boolean) ∈ lw_tbl := tk_2 _ (List.mem_of_getElem? (i := 78) rfl)
theorem wd_319 : Cond.methodLink "RedoQuorum" 135 ⟨"RedoQuorum$StorageCopy", "tellReach", "(LRedoQuorum$Log;)V"⟩ ∈ lw_tbl := tk_2 _ (List.mem_of_getElem? (i := 79) rfl)
theorem wd_320 : Cond.instanceMethod ⟨"RedoQuorum$StorageCopy", "tellReach", "(LRedoQuorum$Log;)V"⟩ ∈ lw_tbl := tk_2 _ (List.mem_of_getElem? (i := 80) rfl)
theorem wd_321 : Cond.selects "RedoQuorum$StorageCopy" ⟨"RedoQuorum$StorageCopy", "tellReach", "(LRedoQuorum$Log;)V"⟩ ⟨"RedoQuorum$StorageCopy", "tellReach", "(LRedoQuorum$Log;)V"⟩ ∈ lw_tbl := tk_2 _ (List.mem_of_getElem? (i := 81) rfl)
theorem wd_322 : Cond.code ⟨"RedoQuorum$StorageCopy", "tellReach", "(LRedoQuorum$Log;)V"⟩ prog_5_method_9_code 2 (none : Option Jvm.ClassFile.FieldType) ∈ lw_tbl := tk_2 _ (List.mem_of_getElem? (i := 82) rfl)
theorem wd_323 : Cond.methodLink "RedoQuorum$StorageCopy" 48 ⟨"RedoQuorum$StorageCopy", "reach", "(LRedoQuorum$Log;)I"⟩ ∈ lw_tbl := tk_2 _ (List.mem_of_getElem? (i := 83) rfl)
theorem wd_324 : Cond.instanceMethod ⟨"RedoQuorum$StorageCopy", "reach", "(LRedoQuorum$Log;)I"⟩ ∈ lw_tbl := tk_2 _ (List.mem_of_getElem? (i := 84) rfl)
theorem wd_325 : Cond.selects "RedoQuorum$StorageCopy" ⟨"RedoQuorum$StorageCopy", "reach", "(LRedoQuorum$Log;)I"⟩ ⟨"RedoQuorum$StorageCopy", "reach", "(LRedoQuorum$Log;)I"⟩ ∈ lw_tbl := tk_2 _ (List.mem_of_getElem? (i := 85) rfl)
theorem wd_326 : Cond.code ⟨"RedoQuorum$StorageCopy", "reach", "(LRedoQuorum$Log;)I"⟩ prog_5_method_8_code 4 (some .int) ∈ lw_tbl := tk_2 _ (List.mem_of_getElem? (i := 86) rfl)
theorem wd_327 : Cond.methodLink "RedoQuorum" 139 ⟨"RedoQuorum", "raiseDurable", "()V"⟩ ∈ lw_tbl := tk_2 _ (List.mem_of_getElem? (i := 87) rfl)
theorem wd_329 : Cond.instanceMethod ⟨"RedoQuorum", "raiseDurable", "()V"⟩ ∈ lw_tbl := tk_2 _ (List.mem_of_getElem? (i := 89) rfl)
theorem wd_330 : Cond.code ⟨"RedoQuorum", "raiseDurable", "()V"⟩ prog_1_method_34_code 1 (none : Option Jvm.ClassFile.FieldType) ∈ lw_tbl := tk_2 _ (List.mem_of_getElem? (i := 90) rfl)
theorem wd_331 : Cond.methodLink "RedoQuorum" 196 ⟨"RedoQuorum", "completePoint", "()I"⟩ ∈ lw_tbl := tk_2 _ (List.mem_of_getElem? (i := 91) rfl)
theorem wd_333 : Cond.instanceMethod ⟨"RedoQuorum", "completePoint", "()I"⟩ ∈ lw_tbl := tk_2 _ (List.mem_of_getElem? (i := 93) rfl)
theorem wd_334 : Cond.code ⟨"RedoQuorum", "completePoint", "()I"⟩ prog_1_method_33_code 5 (some .int) ∈ lw_tbl := tk_2 _ (List.mem_of_getElem? (i := 94) rfl)
theorem wd_335 : Cond.methodLink "RedoQuorum" 261 ⟨"RedoQuorum$Group", "quorumPoint", "()I"⟩ ∈ lw_tbl := tk_2 _ (List.mem_of_getElem? (i := 95) rfl)
theorem wd_336 : Cond.instanceMethod ⟨"RedoQuorum$Group", "quorumPoint", "()I"⟩ ∈ lw_tbl := tk_2 _ (List.mem_of_getElem? (i := 96) rfl)
theorem wd_337 : Cond.selects "RedoQuorum$Group" ⟨"RedoQuorum$Group", "quorumPoint", "()I"⟩ ⟨"RedoQuorum$Group", "quorumPoint", "()I"⟩ ∈ lw_tbl := tk_2 _ (List.mem_of_getElem? (i := 97) rfl)
theorem wd_338 : Cond.code ⟨"RedoQuorum$Group", "quorumPoint", "()I"⟩ prog_3_method_5_code 4 (some .int) ∈ lw_tbl := tk_2 _ (List.mem_of_getElem? (i := 98) rfl)
theorem wd_339 : Cond.methodLink "RedoQuorum$Group" 36 ⟨"RedoQuorum$Group", "copiesThatReported", "(I)I"⟩ ∈ lw_tbl := tk_2 _ (List.mem_of_getElem? (i := 99) rfl)
theorem wd_341 : Cond.instanceMethod ⟨"RedoQuorum$Group", "copiesThatReported", "(I)I"⟩ ∈ lw_tbl := tk_2 _ (List.mem_of_getElem? (i := 101) rfl)
theorem wd_342 : Cond.code ⟨"RedoQuorum$Group", "copiesThatReported", "(I)I"⟩ prog_3_method_6_code 4 (some .int) ∈ lw_tbl := tk_2 _ (List.mem_of_getElem? (i := 102) rfl)
theorem wd_343 : Cond.methodLink "RedoQuorum" 178 ⟨"RedoQuorum$Log", "lastCloseUpTo", "(I)I"⟩ ∈ lw_tbl := tk_2 _ (List.mem_of_getElem? (i := 103) rfl)
theorem wd_344 : Cond.instanceMethod ⟨"RedoQuorum$Log", "lastCloseUpTo", "(I)I"⟩ ∈ lw_tbl := tk_2 _ (List.mem_of_getElem? (i := 104) rfl)
theorem wd_345 : Cond.selects "RedoQuorum$Log" ⟨"RedoQuorum$Log", "lastCloseUpTo", "(I)I"⟩ ⟨"RedoQuorum$Log", "lastCloseUpTo", "(I)I"⟩ ∈ lw_tbl := tk_2 _ (List.mem_of_getElem? (i := 105) rfl)
theorem wd_346 : Cond.code ⟨"RedoQuorum$Log", "lastCloseUpTo", "(I)I"⟩ prog_4_method_10_code 3 (some .int) ∈ lw_tbl := tk_2 _ (List.mem_of_getElem? (i := 106) rfl)
theorem wd_347 : Cond.methodLink "RedoQuorum" 264 ⟨"java/lang/Math", "max", "(II)I"⟩ ∈ lw_tbl := tk_2 _ (List.mem_of_getElem? (i := 107) rfl)
theorem wd_348 : Cond.methodLink "RedoQuorumLaw" 50 ⟨"RedoQuorum", "gossip", "(III)I"⟩ ∈ lw_tbl := tk_2 _ (List.mem_of_getElem? (i := 108) rfl)
theorem wd_349 : Cond.instanceMethod ⟨"RedoQuorum", "gossip", "(III)I"⟩ ∈ lw_tbl := tk_2 _ (List.mem_of_getElem? (i := 109) rfl)
theorem wd_350 : Cond.selects "RedoQuorum" ⟨"RedoQuorum", "gossip", "(III)I"⟩ ⟨"RedoQuorum", "gossip", "(III)I"⟩ ∈ lw_tbl := tk_2 _ (List.mem_of_getElem? (i := 110) rfl)
theorem wd_351 : Cond.code ⟨"RedoQuorum", "gossip", "(III)I"⟩ prog_1_method_10_code 6 (some .int) ∈ lw_tbl := tk_2 _ (List.mem_of_getElem? (i := 111) rfl)
theorem wd_352 : Cond.methodLink "RedoQuorum" 142 ⟨"RedoQuorum", "isCopy", "(II)Z"⟩ ∈ lw_tbl := tk_2 _ (List.mem_of_getElem? (i := 112) rfl)
theorem wd_353 : Cond.static ⟨"RedoQuorum", "isCopy", "(II)Z"⟩ ∈ lw_tbl := tk_2 _ (List.mem_of_getElem? (i := 113) rfl)
theorem wd_354 : Cond.code ⟨"RedoQuorum", "isCopy", "(II)Z"⟩ prog_1_method_22_code 2 (some .boolean) ∈ lw_tbl := tk_2 _ (List.mem_of_getElem? (i := 114) rfl)
theorem wd_355 : Cond.methodLink "RedoQuorum" 146 ⟨"RedoQuorum$StorageCopy", "takeAllOf", "(LRedoQuorum$StorageCopy;)I"⟩ ∈ lw_tbl := tk_2 _ (List.mem_of_getElem? (i := 115) rfl)
theorem wd_356 : Cond.instanceMethod ⟨"RedoQuorum$StorageCopy", "takeAllOf", "(LRedoQuorum$StorageCopy;)I"⟩ ∈ lw_tbl := tk_2 _ (List.mem_of_getElem? (i := 116) rfl)
theorem wd_357 : Cond.selects "RedoQuorum$StorageCopy" ⟨"RedoQuorum$StorageCopy", "takeAllOf", "(LRedoQuorum$StorageCopy;)I"⟩ ⟨"RedoQuorum$StorageCopy", "takeAllOf", "(LRedoQuorum$StorageCopy;)I"⟩ ∈ lw_tbl := tk_2 _ (List.mem_of_getElem? (i := 117) rfl)
theorem wd_358 : Cond.code ⟨"RedoQuorum$StorageCopy", "takeAllOf", "(LRedoQuorum$StorageCopy;)I"⟩ prog_5_method_6_code 4 (some .int) ∈ lw_tbl := tk_2 _ (List.mem_of_getElem? (i := 118) rfl)
theorem wd_359 : Cond.methodLink "RedoQuorum$StorageCopy" 32 ⟨"RedoQuorum$StorageCopy", "take", "(I)Z"⟩ ∈ lw_tbl := tk_2 _ (List.mem_of_getElem? (i := 119) rfl)
theorem wd_360 : Cond.methodLink "RedoQuorum$StorageCopy" 36 ⟨"java/lang/Math", "max", "(II)I"⟩ ∈ lw_tbl := tk_2 _ (List.mem_of_getElem? (i := 120) rfl)
theorem wd_361 : Cond.methodLink "RedoQuorumLaw" 54 ⟨"RedoQuorum", "report", "(II)I"⟩ ∈ lw_tbl := tk_2 _ (List.mem_of_getElem? (i := 121) rfl)
theorem wd_362 : Cond.instanceMethod ⟨"RedoQuorum", "report", "(II)I"⟩ ∈ lw_tbl := tk_2 _ (List.mem_of_getElem? (i := 122) rfl)
theorem wd_363 : Cond.selects "RedoQuorum" ⟨"RedoQuorum", "report", "(II)I"⟩ ⟨"RedoQuorum", "report", "(II)I"⟩ ∈ lw_tbl := tk_2 _ (List.mem_of_getElem? (i := 123) rfl)
theorem wd_364 : Cond.code ⟨"RedoQuorum", "report", "(II)I"⟩ prog_1_method_11_code 5 (some .int) ∈ lw_tbl := tk_2 _ (List.mem_of_getElem? (i := 124) rfl)
theorem wd_365 : Cond.methodLink "RedoQuorum" 150 ⟨"RedoQuorum", "refusalOfCopy", "(II)I"⟩ ∈ lw_tbl := tk_2 _ (List.mem_of_getElem? (i := 125) rfl)
theorem wd_367 : Cond.instanceMethod ⟨"RedoQuorum", "refusalOfCopy", "(II)I"⟩ ∈ lw_tbl := tk_2 _ (List.mem_of_getElem? (i := 127) rfl)
theorem wd_368 : Cond.code ⟨"RedoQuorum", "refusalOfCopy", "(II)I"⟩ prog_1_method_29_code 3 (some .int) ∈ lw_tbl := tk_2 _ (List.mem_of_getElem? (i := 128) rfl)
theorem wd_369 : Cond.methodLink "RedoQuorumLaw" 58 ⟨"RedoQuorum", "fault", "(III)Z"⟩ ∈ lw_tbl := tk_2 _ (List.mem_of_getElem? (i := 129) rfl)
theorem wd_370 : Cond.instanceMethod ⟨"RedoQuorum", "fault", "(III)Z"⟩ ∈ lw_tbl := tk_2 _ (List.mem_of_getElem? (i := 130) rfl)
theorem wd_371 : Cond.selects "RedoQuorum" ⟨"RedoQuorum", "fault", "(III)Z"⟩ ⟨"RedoQuorum", "fault", "(III)Z"⟩ ∈ lw_tbl := tk_2 _ (List.mem_of_getElem? (i := 131) rfl)
theorem wd_372 : Cond.code ⟨"RedoQuorum", "fault", "(III)Z"⟩ prog_1_method_12_code 5 (some .boolean) ∈ lw_tbl := tk_2 _ (List.mem_of_getElem? (i := 132) rfl)
theorem wd_373 : Cond.methodLink "RedoQuorum" 156 ⟨"RedoQuorum$StorageCopy", "change", "(II)Z"⟩ ∈ lw_tbl := tk_2 _ (List.mem_of_getElem? (i := 133) rfl)
theorem wd_374 : Cond.instanceMethod ⟨"RedoQuorum$StorageCopy", "change", "(II)Z"⟩ ∈ lw_tbl := tk_2 _ (List.mem_of_getElem? (i := 134) rfl)
theorem wd_375 : Cond.selects "RedoQuorum$StorageCopy" ⟨"RedoQuorum$StorageCopy", "change", "(II)Z"⟩ ⟨"RedoQuorum$StorageCopy", "change", "(II)Z"⟩ ∈ lw_tbl := tk_2 _ (List.mem_of_getElem? (i := 135) rfl)
theorem wd_376 : Cond.code ⟨"RedoQuorum$StorageCopy", "change", "(II)Z"⟩ prog_5_method_3_code 3 (some .boolean) ∈ lw_tbl := tk_2 _ (List.mem_of_getElem? (i := 136) rfl)
theorem wd_377 : Cond.methodLink "RedoQuorum" 159 ⟨"RedoQuorum$StorageCopy", "lose", "()Z"⟩ ∈ lw_tbl := tk_2 _ (List.mem_of_getElem? (i := 137) rfl)
theorem wd_378 : Cond.instanceMethod ⟨"RedoQuorum$StorageCopy", "lose", "()Z"⟩ ∈ lw_tbl := tk_2 _ (List.mem_of_getElem? (i := 138) rfl)
theorem wd_379 : Cond.selects "RedoQuorum$StorageCopy" ⟨"RedoQuorum$StorageCopy", "lose", "()Z"⟩ ⟨"RedoQuorum$StorageCopy", "lose", "()Z"⟩ ∈ lw_tbl := tk_2 _ (List.mem_of_getElem? (i := 139) rfl)
theorem wd_380 : Cond.code ⟨"RedoQuorum$StorageCopy", "lose", "()Z"⟩ prog_5_method_4_code 1 (some .boolean) ∈ lw_tbl := tk_2 _ (List.mem_of_getElem? (i := 140) rfl)
theorem wd_381 : Cond.methodLink "RedoQuorum$StorageCopy" 28 ⟨"RedoQuorum$StorageCopy", "dropAfter", "(I)V"⟩ ∈ lw_tbl := tk_2 _ (List.mem_of_getElem? (i := 141) rfl)
theorem wd_382 : Cond.instanceMethod ⟨"RedoQuorum$StorageCopy", "dropAfter", "(I)V"⟩ ∈ lw_tbl := tk_2 _ (List.mem_of_getElem? (i := 142) rfl)
theorem wd_383 : Cond.selects "RedoQuorum$StorageCopy" ⟨"RedoQuorum$StorageCopy", "dropAfter", "(I)V"⟩ ⟨"RedoQuorum$StorageCopy", "dropAfter", "(I)V"⟩ ∈ lw_tbl := tk_2 _ (List.mem_of_getElem? (i := 143) rfl)
theorem wd_384 : Cond.code ⟨"RedoQuorum$StorageCopy", "dropAfter", "(I)V"⟩ prog_5_method_7_code 3 (none : Option Jvm.ClassFile.FieldType) ∈ lw_tbl := tk_2 _ (List.mem_of_getElem? (i := 144) rfl)
theorem wd_385 : Cond.methodLink "RedoQuorum" 162 ⟨"RedoQuorum$Group", "repair", "(LRedoQuorum$StorageCopy;)Z"⟩ ∈ lw_tbl := tk_2 _ (List.mem_of_getElem? (i := 145) rfl)
theorem wd_386 : Cond.instanceMethod ⟨"RedoQuorum$Group", "repair", "(LRedoQuorum$StorageCopy;)Z"⟩ ∈ lw_tbl := tk_2 _ (List.mem_of_getElem? (i := 146) rfl)
theorem wd_387 : Cond.selects "RedoQuorum$Group" ⟨"RedoQuorum$Group", "repair", "(LRedoQuorum$StorageCopy;)Z"⟩ ⟨"RedoQuorum$Group", "repair", "(LRedoQuorum$StorageCopy;)Z"⟩ ∈ lw_tbl := tk_2 _ (List.mem_of_getElem? (i := 147) rfl)
theorem wd_388 : Cond.code ⟨"RedoQuorum$Group", "repair", "(LRedoQuorum$StorageCopy;)Z"⟩ prog_3_method_7_code 3 (some .boolean) ∈ lw_tbl := tk_2 _ (List.mem_of_getElem? (i := 148) rfl)
theorem wd_389 : Cond.methodLink "RedoQuorum$Group" 43 ⟨"RedoQuorum$Group", "liveCopies", "()I"⟩ ∈ lw_tbl := tk_2 _ (List.mem_of_getElem? (i := 149) rfl)
theorem wd_390 : Cond.instanceMethod ⟨"RedoQuorum$Group", "liveCopies", "()I"⟩ ∈ lw_tbl := tk_2 _ (List.mem_of_getElem? (i := 150) rfl)
theorem wd_391 : Cond.selects "RedoQuorum$Group" ⟨"RedoQuorum$Group", "liveCopies", "()I"⟩ ⟨"RedoQuorum$Group", "liveCopies", "()I"⟩ ∈ lw_tbl := tk_2 _ (List.mem_of_getElem? (i := 151) rfl)
theorem wd_392 : Cond.code ⟨"RedoQuorum$Group", "liveCopies", "()I"⟩ prog_3_method_2_code 3 (some .int) ∈ lw_tbl := tk_2 _ (List.mem_of_getElem? (i := 152) rfl)
theorem wd_393 : Cond.methodLink "RedoQuorum$Group" 47 ⟨"RedoQuorum$StorageCopy", "takeAllOf", "(LRedoQuorum$StorageCopy;)I"⟩ ∈ lw_tbl := tk_2 _ (List.mem_of_getElem? (i := 153) rfl)
theorem wd_394 : Cond.methodLink "RedoQuorumLaw" 63 ⟨"RedoQuorum", "crash", "()Z"⟩ ∈ lw_tbl := tk_2 _ (List.mem_of_getElem? (i := 154) rfl)
theorem wd_395 : Cond.instanceMethod ⟨"RedoQuorum", "crash", "()Z"⟩ ∈ lw_tbl := tk_2 _ (List.mem_of_getElem? (i := 155) rfl)
theorem wd_396 : Cond.selects "RedoQuorum" ⟨"RedoQuorum", "crash", "()Z"⟩ ⟨"RedoQuorum", "crash", "()Z"⟩ ∈ lw_tbl := tk_2 _ (List.mem_of_getElem? (i := 156) rfl)
theorem wd_397 : Cond.code ⟨"RedoQuorum", "crash", "()Z"⟩ prog_1_method_13_code 2 (some .boolean) ∈ lw_tbl := tk_2 _ (List.mem_of_getElem? (i := 157) rfl)
theorem wd_398 : Cond.methodLink "RedoQuorum" 166 ⟨"RedoQuorum$Cache", "clear", "()V"⟩ ∈ lw_tbl := tk_2 _ (List.mem_of_getElem? (i := 158) rfl)
theorem wd_399 : Cond.instanceMethod ⟨"RedoQuorum$Cache", "clear", "()V"⟩ ∈ lw_tbl := tk_2 _ (List.mem_of_getElem? (i := 159) rfl)
theorem wd_400 : Cond.selects "RedoQuorum$Cache" ⟨"RedoQuorum$Cache", "clear", "()V"⟩ ⟨"RedoQuorum$Cache", "clear", "()V"⟩ ∈ lw_tbl := tk_2 _ (List.mem_of_getElem? (i := 160) rfl)
theorem wd_401 : Cond.code ⟨"RedoQuorum$Cache", "clear", "()V"⟩ prog_2_method_6_code 1 (none : Option Jvm.ClassFile.FieldType) ∈ lw_tbl := tk_2 _ (List.mem_of_getElem? (i := 161) rfl)
theorem wd_402 : Cond.methodLink "RedoQuorum" 169 ⟨"RedoQuorum$Group", "forgetReports", "()V"⟩ ∈ lw_tbl := tk_2 _ (List.mem_of_getElem? (i := 162) rfl)
theorem wd_403 : Cond.instanceMethod ⟨"RedoQuorum$Group", "forgetReports", "()V"⟩ ∈ lw_tbl := tk_2 _ (List.mem_of_getElem? (i := 163) rfl)
theorem wd_404 : Cond.selects "RedoQuorum$Group" ⟨"RedoQuorum$Group", "forgetReports", "()V"⟩ ⟨"RedoQuorum$Group", "forgetReports", "()V"⟩ ∈ lw_tbl := tk_2 _ (List.mem_of_getElem? (i := 164) rfl)
theorem wd_405 : Cond.code ⟨"RedoQuorum$Group", "forgetReports", "()V"⟩ prog_3_method_9_code 2 (none : Option Jvm.ClassFile.FieldType) ∈ lw_tbl := tk_2 _ (List.mem_of_getElem? (i := 165) rfl)
theorem wd_406 : Cond.methodLink "RedoQuorumLaw" 68 ⟨"RedoQuorum", "recover", "()I"⟩ ∈ lw_tbl := tk_2 _ (List.mem_of_getElem? (i := 166) rfl)
theorem wd_407 : Cond.instanceMethod ⟨"RedoQuorum", "recover", "()I"⟩ ∈ lw_tbl := tk_2 _ (List.mem_of_getElem? (i := 167) rfl)
theorem wd_408 : Cond.selects "RedoQuorum" ⟨"RedoQuorum", "recover", "()I"⟩ ⟨"RedoQuorum", "recover", "()I"⟩ ∈ lw_tbl := tk_2 _ (List.mem_of_getElem? (i := 168) rfl)
theorem wd_409 : Cond.code ⟨"RedoQuorum", "recover", "()I"⟩ prog_1_method_14_code 3 (some .int) ∈ lw_tbl := tk_2 _ (List.mem_of_getElem? (i := 169) rfl)
theorem wd_410 : Cond.methodLink "RedoQuorum" 172 ⟨"RedoQuorum$Group", "liveCopies", "()I"⟩ ∈ lw_tbl := tk_2 _ (List.mem_of_getElem? (i := 170) rfl)
theorem wd_411 : Cond.methodLink "RedoQuorum" 175 ⟨"RedoQuorum", "reachOfLiveCopies", "()I"⟩ ∈ lw_tbl := tk_2 _ (List.mem_of_getElem? (i := 171) rfl)
theorem wd_413 : Cond.instanceMethod ⟨"RedoQuorum", "reachOfLiveCopies", "()I"⟩ ∈ lw_tbl := tk_2 _ (List.mem_of_getElem? (i := 173) rfl)
theorem wd_414 : Cond.code ⟨"RedoQuorum", "reachOfLiveCopies", "()I"⟩ prog_1_method_35_code 3 (some .int) ∈ lw_tbl := tk_2 _ (List.mem_of_getElem? (i := 174) rfl)
theorem wd_415 : Cond.methodLink "RedoQuorum" 267 ⟨"RedoQuorum$Group", "liveCopyHolds", "(I)Z"⟩ ∈ lw_tbl := tk_2 _ (List.mem_of_getElem? (i := 175) rfl)
theorem wd_416 : Cond.instanceMethod ⟨"RedoQuorum$Group", "liveCopyHolds", "(I)Z"⟩ ∈ lw_tbl := tk_2 _ (List.mem_of_getElem? (i := 176) rfl)
theorem wd_417 : Cond.selects "RedoQuorum$Group" ⟨"RedoQuorum$Group", "liveCopyHolds", "(I)Z"⟩ ⟨"RedoQuorum$Group", "liveCopyHolds", "(I)Z"⟩ ∈ lw_tbl := tk_2 _ (List.mem_of_getElem? (i := 177) rfl)
theorem wd_418 : Cond.code ⟨"RedoQuorum$Group", "liveCopyHolds", "(I)Z"⟩ prog_3_method_3_code 3 (some .boolean) ∈ lw_tbl := tk_2 _ (List.mem_of_getElem? (i := 178) rfl)
theorem wd_419 : Cond.methodLink "RedoQuorum" 181 ⟨"RedoQuorum$Group", "dropAfter", "(I)V"⟩ ∈ lw_tbl := tk_2 _ (List.mem_of_getElem? (i := 179) rfl)
theorem wd_420 : Cond.instanceMethod ⟨"RedoQuorum$Group", "dropAfter", "(I)V"⟩ ∈ lw_tbl := tk_2 _ (List.mem_of_getElem? (i := 180) rfl)
theorem wd_421 : Cond.selects "RedoQuorum$Group" ⟨"RedoQuorum$Group", "dropAfter", "(I)V"⟩ ⟨"RedoQuorum$Group", "dropAfter", "(I)V"⟩ ∈ lw_tbl := tk_2 _ (List.mem_of_getElem? (i := 181) rfl)
theorem wd_422 : Cond.code ⟨"RedoQuorum$Group", "dropAfter", "(I)V"⟩ prog_3_method_8_code 3 (none : Option Jvm.ClassFile.FieldType) ∈ lw_tbl := tk_2 _ (List.mem_of_getElem? (i := 182) rfl)
theorem wd_423 : Cond.methodLink "RedoQuorum$Group" 51 ⟨"RedoQuorum$StorageCopy", "dropAfter", "(I)V"⟩ ∈ lw_tbl := tk_2 _ (List.mem_of_getElem? (i := 183) rfl)
theorem wd_424 : Cond.methodLink "RedoQuorum" 184 ⟨"RedoQuorum$Log", "cutAfter", "(I)V"⟩ ∈ lw_tbl := tk_2 _ (List.mem_of_getElem? (i := 184) rfl)
theorem wd_425 : Cond.instanceMethod ⟨"RedoQuorum$Log", "cutAfter", "(I)V"⟩ ∈ lw_tbl := tk_2 _ (List.mem_of_getElem? (i := 185) rfl)
theorem wd_426 : Cond.selects "RedoQuorum$Log" ⟨"RedoQuorum$Log", "cutAfter", "(I)V"⟩ ⟨"RedoQuorum$Log", "cutAfter", "(I)V"⟩ ∈ lw_tbl := tk_2 _ (List.mem_of_getElem? (i := 186) rfl)
theorem wd_427 : Cond.code ⟨"RedoQuorum$Log", "cutAfter", "(I)V"⟩ prog_4_method_7_code 3 (none : Option Jvm.ClassFile.FieldType) ∈ lw_tbl := tk_2 _ (List.mem_of_getElem? (i := 187) rfl)
theorem wd_428 : Cond.methodLink "RedoQuorum$Log" 65 ⟨"java/lang/Math", "min", "(II)I"⟩ ∈ lw_tbl := tk_2 _ (List.mem_of_getElem? (i := 188) rfl)
theorem wd_429 : Cond.static ⟨"java/lang/Math", "min", "(II)I"⟩ ∈ lw_tbl := tk_2 _ (List.mem_of_getElem? (i := 189) rfl)
theorem wd_430 : Cond.code ⟨"java/lang/Math", "min", "(II)I"⟩ prog_9_method_69_code 2 (some .int) ∈ lw_tbl := tk_2 _ (List.mem_of_getElem? (i := 190) rfl)
theorem wd_431 : Cond.methodLink "RedoQuorum" 187 ⟨"RedoQuorum$Group", "tellReaches", "(LRedoQuorum$Log;)V"⟩ ∈ lw_tbl := tk_2 _ (List.mem_of_getElem? (i := 191) rfl)
theorem wd_432 : Cond.instanceMethod ⟨"RedoQuorum$Group", "tellReaches", "(LRedoQuorum$Log;)V"⟩ ∈ lw_tbl := tk_2 _ (List.mem_of_getElem? (i := 192) rfl)
theorem wd_433 : Cond.selects "RedoQuorum$Group" ⟨"RedoQuorum$Group", "tellReaches", "(LRedoQuorum$Log;)V"⟩ ⟨"RedoQuorum$Group", "tellReaches", "(LRedoQuorum$Log;)V"⟩ ∈ lw_tbl := tk_2 _ (List.mem_of_getElem? (i := 193) rfl)
theorem wd_434 : Cond.code ⟨"RedoQuorum$Group", "tellReaches", "(LRedoQuorum$Log;)V"⟩ prog_3_method_10_code 3 (none : Option Jvm.ClassFile.FieldType) ∈ lw_tbl := tk_2 _ (List.mem_of_getElem? (i := 194) rfl)
theorem wd_435 : Cond.methodLink "RedoQuorum$Group" 54 ⟨"RedoQuorum$StorageCopy", "tellReach", "(LRedoQuorum$Log;)V"⟩ ∈ lw_tbl := tk_2 _ (List.mem_of_getElem? (i := 195) rfl)
theorem wd_436 : Cond.methodLink "RedoQuorum" 190 ⟨"RedoQuorum$Transactions", "finishAll", "()V"⟩ ∈ lw_tbl := tk_2 _ (List.mem_of_getElem? (i := 196) rfl)
theorem wd_437 : Cond.instanceMethod ⟨"RedoQuorum$Transactions", "finishAll", "()V"⟩ ∈ lw_tbl := tk_2 _ (List.mem_of_getElem? (i := 197) rfl)
theorem wd_438 : Cond.selects "RedoQuorum$Transactions" ⟨"RedoQuorum$Transactions", "finishAll", "()V"⟩ ⟨"RedoQuorum$Transactions", "finishAll", "()V"⟩ ∈ lw_tbl := tk_2 _ (List.mem_of_getElem? (i := 198) rfl)
theorem wd_439 : Cond.code ⟨"RedoQuorum$Transactions", "finishAll", "()V"⟩ prog_6_method_8_code 2 (none : Option Jvm.ClassFile.FieldType) ∈ lw_tbl := tk_2 _ (List.mem_of_getElem? (i := 199) rfl)
theorem wd_440 : Cond.methodLink "RedoQuorum$Transactions" 26 ⟨"RedoQuorum$Transactions", "finish", "(I)V"⟩ ∈ lw_tbl := tk_2 _ (List.mem_of_getElem? (i := 200) rfl)
theorem wd_441 : Cond.methodLink "RedoQuorum" 193 ⟨"RedoQuorum", "rollBackUnended", "()V"⟩ ∈ lw_tbl := tk_2 _ (List.mem_of_getElem? (i := 201) rfl)
theorem wd_443 : Cond.instanceMethod ⟨"RedoQuorum", "rollBackUnended", "()V"⟩ ∈ lw_tbl := tk_2 _ (List.mem_of_getElem? (i := 203) rfl)
theorem wd_444 : Cond.code ⟨"RedoQuorum", "rollBackUnended", "()V"⟩ prog_1_method_36_code 2 (none : Option Jvm.ClassFile.FieldType) ∈ lw_tbl := tk_2 _ (List.mem_of_getElem? (i := 204) rfl)
theorem wd_445 : Cond.methodLink "RedoQuorum" 270 ⟨"RedoQuorum$Log", "hasChangeOf", "(I)Z"⟩ ∈ lw_tbl := tk_2 _ (List.mem_of_getElem? (i := 205) rfl)
theorem wd_446 : Cond.instanceMethod ⟨"RedoQuorum$Log", "hasChangeOf", "(I)Z"⟩ ∈ lw_tbl := tk_2 _ (List.mem_of_getElem? (i := 206) rfl)
theorem wd_447 : Cond.selects "RedoQuorum$Log" ⟨"RedoQuorum$Log", "hasChangeOf", "(I)Z"⟩ ⟨"RedoQuorum$Log", "hasChangeOf", "(I)Z"⟩ ∈ lw_tbl := tk_2 _ (List.mem_of_getElem? (i := 207) rfl)
theorem wd_448 : Cond.code ⟨"RedoQuorum$Log", "hasChangeOf", "(I)Z"⟩ prog_4_method_15_code 3 (some .boolean) ∈ lw_tbl := tk_2 _ (List.mem_of_getElem? (i := 208) rfl)
theorem wd_449 : Cond.methodLink "RedoQuorumLaw" 72 ⟨"RedoQuorum", "point", "(I)I"⟩ ∈ lw_tbl := tk_2 _ (List.mem_of_getElem? (i := 209) rfl)
theorem wd_450 : Cond.instanceMethod ⟨"RedoQuorum", "point", "(I)I"⟩ ∈ lw_tbl := tk_2 _ (List.mem_of_getElem? (i := 210) rfl)
theorem wd_451 : Cond.selects "RedoQuorum" ⟨"RedoQuorum", "point", "(I)I"⟩ ⟨"RedoQuorum", "point", "(I)I"⟩ ∈ lw_tbl := tk_2 _ (List.mem_of_getElem? (i := 211) rfl)
theorem wd_452 : Cond.code ⟨"RedoQuorum", "point", "(I)I"⟩ prog_1_method_15_code 2 (some .int) ∈ lw_tbl := tk_2 _ (List.mem_of_getElem? (i := 212) rfl)
theorem wd_453 : Cond.methodLink "RedoQuorumLaw" 76 ⟨"RedoQuorum", "copy", "(III)I"⟩ ∈ lw_tbl := tk_2 _ (List.mem_of_getElem? (i := 213) rfl)
theorem wd_454 : Cond.instanceMethod ⟨"RedoQuorum", "copy", "(III)I"⟩ ∈ lw_tbl := tk_2 _ (List.mem_of_getElem? (i := 214) rfl)
theorem wd_455 : Cond.selects "RedoQuorum" ⟨"RedoQuorum", "copy", "(III)I"⟩ ⟨"RedoQuorum", "copy", "(III)I"⟩ ∈ lw_tbl := tk_2 _ (List.mem_of_getElem? (i := 215) rfl)
theorem wd_456 : Cond.code ⟨"RedoQuorum", "copy", "(III)I"⟩ prog_1_method_16_code 5 (some .int) ∈ lw_tbl := tk_2 _ (List.mem_of_getElem? (i := 216) rfl)
theorem wd_457 : Cond.methodLink "RedoQuorum" 202 ⟨"RedoQuorum$StorageCopy", "reach", "(LRedoQuorum$Log;)I"⟩ ∈ lw_tbl := tk_2 _ (List.mem_of_getElem? (i := 217) rfl)
theorem wd_458 : Cond.methodLink "RedoQuorum" 206 ⟨"RedoQuorum$StorageCopy", "keptUpTo", "(I)I"⟩ ∈ lw_tbl := tk_2 _ (List.mem_of_getElem? (i := 218) rfl)
theorem wd_459 : Cond.instanceMethod ⟨"RedoQuorum$StorageCopy", "keptUpTo", "(I)I"⟩ ∈ lw_tbl := tk_2 _ (List.mem_of_getElem? (i := 219) rfl)
theorem wd_460 : Cond.selects "RedoQuorum$StorageCopy" ⟨"RedoQuorum$StorageCopy", "keptUpTo", "(I)I"⟩ ⟨"RedoQuorum$StorageCopy", "keptUpTo", "(I)I"⟩ ∈ lw_tbl := tk_2 _ (List.mem_of_getElem? (i := 220) rfl)
theorem wd_461 : Cond.code ⟨"RedoQuorum$StorageCopy", "keptUpTo", "(I)I"⟩ prog_5_method_11_code 4 (some .int) ∈ lw_tbl := tk_2 _ (List.mem_of_getElem? (i := 221) rfl)
theorem wd_462 : Cond.methodLink "RedoQuorumLaw" 80 ⟨"RedoQuorum", "follow", "(I)I"⟩ ∈ lw_tbl := tk_2 _ (List.mem_of_getElem? (i := 222) rfl)
theorem wd_463 : Cond.instanceMethod ⟨"RedoQuorum", "follow", "(I)I"⟩ ∈ lw_tbl := tk_2 _ (List.mem_of_getElem? (i := 223) rfl)
theorem wd_464 : Cond.selects "RedoQuorum" ⟨"RedoQuorum", "follow", "(I)I"⟩ ⟨"RedoQuorum", "follow", "(I)I"⟩ ∈ lw_tbl := tk_2 _ (List.mem_of_getElem? (i := 224) rfl)
theorem wd_465 : Cond.code ⟨"RedoQuorum", "follow", "(I)I"⟩ prog_1_method_17_code 2 (some .int) ∈ lw_tbl := tk_2 _ (List.mem_of_getElem? (i := 225) rfl)
theorem wd_466 : Cond.methodLink "RedoQuorum" 209 ⟨"RedoQuorum", "isReplica", "(I)Z"⟩ ∈ lw_tbl := tk_2 _ (List.mem_of_getElem? (i := 226) rfl)
theorem wd_467 : Cond.static ⟨"RedoQuorum", "isReplica", "(I)Z"⟩ ∈ lw_tbl := tk_2 _ (List.mem_of_getElem? (i := 227) rfl)
theorem wd_468 : Cond.code ⟨"RedoQuorum", "isReplica", "(I)Z"⟩ prog_1_method_23_code 1 (some .boolean) ∈ lw_tbl := tk_2 _ (List.mem_of_getElem? (i := 228) rfl)
theorem wd_469 : Cond.methodLink "RedoQuorumLaw" 84 ⟨"RedoQuorum", "view", "(II)I"⟩ ∈ lw_tbl := tk_2 _ (List.mem_of_getElem? (i := 229) rfl)
theorem wd_470 : Cond.instanceMethod ⟨"RedoQuorum", "view", "(II)I"⟩ ∈ lw_tbl := tk_2 _ (List.mem_of_getElem? (i := 230) rfl)
theorem wd_471 : Cond.selects "RedoQuorum" ⟨"RedoQuorum", "view", "(II)I"⟩ ⟨"RedoQuorum", "view", "(II)I"⟩ ∈ lw_tbl := tk_2 _ (List.mem_of_getElem? (i := 231) rfl)
theorem wd_472 : Cond.code ⟨"RedoQuorum", "view", "(II)I"⟩ prog_1_method_18_code 3 (some .int) ∈ lw_tbl := tk_2 _ (List.mem_of_getElem? (i := 232) rfl)
theorem wd_473 : Cond.methodLink "RedoQuorum" 219 ⟨"RedoQuorum$Log", "endedValueUpTo", "(II)I"⟩ ∈ lw_tbl := tk_2 _ (List.mem_of_getElem? (i := 233) rfl)
theorem wd_474 : Cond.instanceMethod ⟨"RedoQuorum$Log", "endedValueUpTo", "(II)I"⟩ ∈ lw_tbl := tk_2 _ (List.mem_of_getElem? (i := 234) rfl)
theorem wd_475 : Cond.selects "RedoQuorum$Log" ⟨"RedoQuorum$Log", "endedValueUpTo", "(II)I"⟩ ⟨"RedoQuorum$Log", "endedValueUpTo", "(II)I"⟩ ∈ lw_tbl := tk_2 _ (List.mem_of_getElem? (i := 235) rfl)
theorem wd_476 : Cond.code ⟨"RedoQuorum$Log", "endedValueUpTo", "(II)I"⟩ prog_4_method_12_code 4 (some .int) ∈ lw_tbl := tk_2 _ (List.mem_of_getElem? (i := 236) rfl)
theorem wd_477 : Cond.methodLink "RedoQuorum$Log" 68 ⟨"RedoQuorum$Log", "isEndedBy", "(II)Z"⟩ ∈ lw_tbl := tk_2 _ (List.mem_of_getElem? (i := 237) rfl)
theorem wd_478 : Cond.instanceMethod ⟨"RedoQuorum$Log", "isEndedBy", "(II)Z"⟩ ∈ lw_tbl := tk_2 _ (List.mem_of_getElem? (i := 238) rfl)
theorem wd_479 : Cond.selects "RedoQuorum$Log" ⟨"RedoQuorum$Log", "isEndedBy", "(II)Z"⟩ ⟨"RedoQuorum$Log", "isEndedBy", "(II)Z"⟩ ∈ lw_tbl := tk_2 _ (List.mem_of_getElem? (i := 239) rfl)
theorem wd_480 : Cond.code ⟨"RedoQuorum$Log", "isEndedBy", "(II)Z"⟩ prog_4_method_14_code 3 (some .boolean) ∈ lw_tbl := tk_3 _ (List.mem_of_getElem? (i := 0) rfl)
theorem wd_481 : Cond.methodLink "RedoQuorumLaw" 88 ⟨"RedoQuorum", "collect", "(II)I"⟩ ∈ lw_tbl := tk_3 _ (List.mem_of_getElem? (i := 1) rfl)
theorem wd_482 : Cond.instanceMethod ⟨"RedoQuorum", "collect", "(II)I"⟩ ∈ lw_tbl := tk_3 _ (List.mem_of_getElem? (i := 2) rfl)
theorem wd_483 : Cond.selects "RedoQuorum" ⟨"RedoQuorum", "collect", "(II)I"⟩ ⟨"RedoQuorum", "collect", "(II)I"⟩ ∈ lw_tbl := tk_3 _ (List.mem_of_getElem? (i := 3) rfl)
theorem wd_484 : Cond.code ⟨"RedoQuorum", "collect", "(II)I"⟩ prog_1_method_19_code 7 (some .int) ∈ lw_tbl := tk_3 _ (List.mem_of_getElem? (i := 4) rfl)
theorem wd_485 : Cond.methodLink "RedoQuorum" 222 ⟨"RedoQuorum$Log", "lowOf", "(I)I"⟩ ∈ lw_tbl := tk_3 _ (List.mem_of_getElem? (i := 5) rfl)
theorem wd_486 : Cond.instanceMethod ⟨"RedoQuorum$Log", "lowOf", "(I)I"⟩ ∈ lw_tbl := tk_3 _ (List.mem_of_getElem? (i := 6) rfl)
theorem wd_487 : Cond.selects "RedoQuorum$Log" ⟨"RedoQuorum$Log", "lowOf", "(I)I"⟩ ⟨"RedoQuorum$Log", "lowOf", "(I)I"⟩ ∈ lw_tbl := tk_3 _ (List.mem_of_getElem? (i := 7) rfl)
theorem wd_488 : Cond.code ⟨"RedoQuorum$Log", "lowOf", "(I)I"⟩ prog_4_method_17_code 3 (some .int) ∈ lw_tbl := tk_3 _ (List.mem_of_getElem? (i := 8) rfl)
theorem wd_489 : Cond.methodLink "RedoQuorum" 225 ⟨"java/lang/Math", "min", "(II)I"⟩ ∈ lw_tbl := tk_3 _ (List.mem_of_getElem? (i := 9) rfl)
theorem wd_490 : Cond.methodLink "RedoQuorum" 230 ⟨"RedoQuorum$StorageCopy", "foldUpTo", "(I)I"⟩ ∈ lw_tbl := tk_3 _ (List.mem_of_getElem? (i := 10) rfl)
theorem wd_491 : Cond.instanceMethod ⟨"RedoQuorum$StorageCopy", "foldUpTo", "(I)I"⟩ ∈ lw_tbl := tk_3 _ (List.mem_of_getElem? (i := 11) rfl)
theorem wd_492 : Cond.selects "RedoQuorum$StorageCopy" ⟨"RedoQuorum$StorageCopy", "foldUpTo", "(I)I"⟩ ⟨"RedoQuorum$StorageCopy", "foldUpTo", "(I)I"⟩ ∈ lw_tbl := tk_3 _ (List.mem_of_getElem? (i := 12) rfl)
theorem wd_493 : Cond.code ⟨"RedoQuorum$StorageCopy", "foldUpTo", "(I)I"⟩ prog_5_method_12_code 3 (some .int) ∈ lw_tbl := tk_3 _ (List.mem_of_getElem? (i := 13) rfl)
theorem wd_494 : Cond.methodLink "RedoQuorum$StorageCopy" 52 ⟨"RedoQuorum$StorageCopy", "keptUpTo", "(I)I"⟩ ∈ lw_tbl := tk_3 _ (List.mem_of_getElem? (i := 14) rfl)
theorem wd_495 : Cond.methodLink "RedoQuorumLaw" 92 ⟨"RedoQuorum", "cached", "(I)I"⟩ ∈ lw_tbl := tk_3 _ (List.mem_of_getElem? (i := 15) rfl)
theorem wd_496 : Cond.instanceMethod ⟨"RedoQuorum", "cached", "(I)I"⟩ ∈ lw_tbl := tk_3 _ (List.mem_of_getElem? (i := 16) rfl)
theorem wd_497 : Cond.selects "RedoQuorum" ⟨"RedoQuorum", "cached", "(I)I"⟩ ⟨"RedoQuorum", "cached", "(I)I"⟩ ∈ lw_tbl := tk_3 _ (List.mem_of_getElem? (i := 17) rfl)
theorem wd_498 : Cond.code ⟨"RedoQuorum", "cached", "(I)I"⟩ prog_1_method_20_code 2 (some .int) ∈ lw_tbl := tk_3 _ (List.mem_of_getElem? (i := 18) rfl)
theorem wd_499 : Cond.classLink "RedoQuorumLaw" 10 "RedoQuorumModel" ∈ lw_tbl := tk_3 _ (List.mem_of_getElem? (i := 19) rfl)
theorem wd_500 : Cond.instantiable "RedoQuorumModel" 18 ∈ lw_tbl := tk_3 _ (List.mem_of_getElem? (i := 20) rfl)
theorem wd_501 : Cond.methodLink "RedoQuorumLaw" 12 ⟨"RedoQuorumModel", "<init>", "()V"⟩ ∈ lw_tbl := tk_3 _ (List.mem_of_getElem? (i := 21) rfl)
theorem wd_502 : Cond.instanceMethod ⟨"RedoQuorumModel", "<init>", "()V"⟩ ∈ lw_tbl := tk_3 _ (List.mem_of_getElem? (i := 22) rfl)
theorem wd_503 : Cond.code ⟨"RedoQuorumModel", "<init>", "()V"⟩ prog_8_method_1_code 1 (none : Option Jvm.ClassFile.FieldType) ∈ lw_tbl := tk_3 _ (List.mem_of_getElem? (i := 23) rfl)
theorem wd_504 : Cond.methodLink "RedoQuorumModel" 1 ⟨"java/lang/Object", "<init>", "()V"⟩ ∈ lw_tbl := tk_3 _ (List.mem_of_getElem? (i := 24) rfl)
theorem wd_505 : Cond.fieldLink "RedoQuorumModel" 54 "RedoQuorumModel" "n" "I" ∈ lw_tbl := tk_3 _ (List.mem_of_getElem? (i := 25) rfl)
theorem wd_506 : Cond.fieldLink "RedoQuorumModel" 7 "RedoQuorumModel" "owner" "[I" ∈ lw_tbl := tk_3 _ (List.mem_of_getElem? (i := 26) rfl)
theorem wd_507 : Cond.fieldLink "RedoQuorumModel" 13 "RedoQuorumModel" "keyOf" "[I" ∈ lw_tbl := tk_3 _ (List.mem_of_getElem? (i := 27) rfl)
theorem wd_508 : Cond.fieldLink "RedoQuorumModel" 16 "RedoQuorumModel" "valueOf" "[I" ∈ lw_tbl := tk_3 _ (List.mem_of_getElem? (i := 28) rfl)
theorem wd_509 : Cond.fieldLink "RedoQuorumModel" 19 "RedoQuorumModel" "ends" "[I" ∈ lw_tbl := tk_3 _ (List.mem_of_getElem? (i := 29) rfl)
theorem wd_510 : Cond.fieldLink "RedoQuorumModel" 22 "RedoQuorumModel" "closes" "[Z" ∈ lw_tbl := tk_3 _ (List.mem_of_getElem? (i := 30) rfl)
theorem wd_511 : Cond.fieldLink "RedoQuorumModel" 26 "RedoQuorumModel" "holds" "[Z" ∈ lw_tbl := tk_3 _ (List.mem_of_getElem? (i := 31) rfl)
theorem wd_512 : Cond.fieldLink "RedoQuorumModel" 29 "RedoQuorumModel" "stateOf" "[I" ∈ lw_tbl := tk_3 _ (List.mem_of_getElem? (i := 32) rfl)
theorem wd_513 : Cond.fieldLink "RedoQuorumModel" 32 "RedoQuorumModel" "fold" "[I" ∈ lw_tbl := tk_3 _ (List.mem_of_getElem? (i := 33) rfl)
theorem wd_514 : Cond.fieldLink "RedoQuorumModel" 35 "RedoQuorumModel" "reported" "[I" ∈ lw_tbl := tk_3 _ (List.mem_of_getElem? (i := 34) rfl)
theorem wd_515 : Cond.fieldLink "RedoQuorumModel" 117 "RedoQuorumModel" "down" "Z" ∈ lw_tbl := tk_3 _ (List.mem_of_getElem? (i := 35) rfl)
theorem wd_516 : Cond.fieldLink "RedoQuorumModel" 94 "RedoQuorumModel" "durable" "I" ∈ lw_tbl := tk_3 _ (List.mem_of_getElem? (i := 36) rfl)
theorem wd_517 : Cond.fieldLink "RedoQuorumModel" 50 "RedoQuorumModel" "begun" "I" ∈ lw_tbl := tk_3 _ (List.mem_of_getElem? (i := 37) rfl)
theorem wd_518 : Cond.fieldLink "RedoQuorumModel" 38 "RedoQuorumModel" "active" "[Z" ∈ lw_tbl := tk_3 _ (List.mem_of_getElem? (i := 38) rfl)
theorem wd_519 : Cond.fieldLink "RedoQuorumModel" 41 "RedoQuorumModel" "heldBy" "[I" ∈ lw_tbl := tk_3 _ (List.mem_of_getElem? (i := 39) rfl)
theorem wd_520 : Cond.fieldLink "RedoQuorumModel" 44 "RedoQuorumModel" "cache" "[I" ∈ lw_tbl := tk_3 _ (List.mem_of_getElem? (i := 40) rfl)
theorem wd_521 : Cond.fieldLink "RedoQuorumModel" 97 "RedoQuorumModel" "pages" "I" ∈ lw_tbl := tk_3 _ (List.mem_of_getElem? (i := 41) rfl)
theorem wd_522 : Cond.fieldLink "RedoQuorumModel" 47 "RedoQuorumModel" "views" "[I" ∈ lw_tbl := tk_3 _ (List.mem_of_getElem? (i := 42) rfl)
theorem wd_523 : Cond.lays "RedoQuorumModel" "RedoQuorumModel" "n" "I" ∈ lw_tbl := tk_3 _ (List.mem_of_getElem? (i := 43) rfl)
theorem wd_525 : Cond.lays "RedoQuorumModel" "RedoQuorumModel" "owner" "[I" ∈ lw_tbl := tk_3 _ (List.mem_of_getElem? (i := 45) rfl)
theorem wd_527 : Cond.lays "RedoQuorumModel" "RedoQuorumModel" "keyOf" "[I" ∈ lw_tbl := tk_3 _ (List.mem_of_getElem? (i := 47) rfl)
theorem wd_529 : Cond.lays "RedoQuorumModel" "RedoQuorumModel" "valueOf" "[I" ∈ lw_tbl := tk_3 _ (List.mem_of_getElem? (i := 49) rfl)
theorem wd_531 : Cond.lays "RedoQuorumModel" "RedoQuorumModel" "ends" "[I" ∈ lw_tbl := tk_3 _ (List.mem_of_getElem? (i := 51) rfl)
theorem wd_533 : Cond.lays "RedoQuorumModel" "RedoQuorumModel" "closes" "[Z" ∈ lw_tbl := tk_3 _ (List.mem_of_getElem? (i := 53) rfl)
theorem wd_535 : Cond.lays "RedoQuorumModel" "RedoQuorumModel" "holds" "[Z" ∈ lw_tbl := tk_3 _ (List.mem_of_getElem? (i := 55) rfl)
theorem wd_537 : Cond.lays "RedoQuorumModel" "RedoQuorumModel" "stateOf" "[I" ∈ lw_tbl := tk_3 _ (List.mem_of_getElem? (i := 57) rfl)
theorem wd_539 : Cond.lays "RedoQuorumModel" "RedoQuorumModel" "fold" "[I" ∈ lw_tbl := tk_3 _ (List.mem_of_getElem? (i := 59) rfl)
theorem wd_541 : Cond.lays "RedoQuorumModel" "RedoQuorumModel" "reported" "[I" ∈ lw_tbl := tk_3 _ (List.mem_of_getElem? (i := 61) rfl)
theorem wd_543 : Cond.lays "RedoQuorumModel" "RedoQuorumModel" "down" "Z" ∈ lw_tbl := tk_3 _ (List.mem_of_getElem? (i := 63) rfl)
theorem wd_545 : Cond.lays "RedoQuorumModel" "RedoQuorumModel" "durable" "I" ∈ lw_tbl := tk_3 _ (List.mem_of_getElem? (i := 65) rfl)
theorem wd_547 : Cond.lays "RedoQuorumModel" "RedoQuorumModel" "begun" "I" ∈ lw_tbl := tk_3 _ (List.mem_of_getElem? (i := 67) rfl)
theorem wd_549 : Cond.lays "RedoQuorumModel" "RedoQuorumModel" "active" "[Z" ∈ lw_tbl := tk_3 _ (List.mem_of_getElem? (i := 69) rfl)
theorem wd_551 : Cond.lays "RedoQuorumModel" "RedoQuorumModel" "heldBy" "[I" ∈ lw_tbl := tk_3 _ (List.mem_of_getElem? (i := 71) rfl)
theorem wd_553 : Cond.lays "RedoQuorumModel" "RedoQuorumModel" "cache" "[I" ∈ lw_tbl := tk_3 _ (List.mem_of_getElem? (i := 73) rfl)
theorem wd_555 : Cond.lays "RedoQuorumModel" "RedoQuorumModel" "pages" "I" ∈ lw_tbl := tk_3 _ (List.mem_of_getElem? (i := 75) rfl)
theorem wd_557 : Cond.lays "RedoQuorumModel" "RedoQuorumModel" "views" "[I" ∈ lw_tbl := tk_3 _ (List.mem_of_getElem? (i := 77) rfl)
theorem wd_560 : Cond.methodLink "RedoQuorumLaw" 95 ⟨"RedoQuorumModel", "cached", "(I)I"⟩ ∈ lw_tbl := tk_3 _ (List.mem_of_getElem? (i := 80) rfl)
theorem wd_561 : Cond.instanceMethod ⟨"RedoQuorumModel", "cached", "(I)I"⟩ ∈ lw_tbl := tk_3 _ (List.mem_of_getElem? (i := 81) rfl)
theorem wd_562 : Cond.selects "RedoQuorumModel" ⟨"RedoQuorumModel", "cached", "(I)I"⟩ ⟨"RedoQuorumModel", "cached", "(I)I"⟩ ∈ lw_tbl := tk_3 _ (List.mem_of_getElem? (i := 82) rfl)
theorem wd_563 : Cond.code ⟨"RedoQuorumModel", "cached", "(I)I"⟩ prog_8_method_25_code 3 (some .int) ∈ lw_tbl := tk_3 _ (List.mem_of_getElem? (i := 83) rfl)
theorem wd_564 : Cond.methodLink "RedoQuorumModel" 103 ⟨"RedoQuorumModel", "placeOf", "(I)I"⟩ ∈ lw_tbl := tk_3 _ (List.mem_of_getElem? (i := 84) rfl)
theorem wd_566 : Cond.instanceMethod ⟨"RedoQuorumModel", "placeOf", "(I)I"⟩ ∈ lw_tbl := tk_3 _ (List.mem_of_getElem? (i := 86) rfl)
theorem wd_567 : Cond.code ⟨"RedoQuorumModel", "placeOf", "(I)I"⟩ prog_8_method_21_code 3 (some .int) ∈ lw_tbl := tk_3 _ (List.mem_of_getElem? (i := 87) rfl)
theorem wd_568 : Cond.methodLink "RedoQuorumLaw" 17 ⟨"RedoQuorumModel", "begin", "()I"⟩ ∈ lw_tbl := tk_3 _ (List.mem_of_getElem? (i := 88) rfl)
theorem wd_569 : Cond.instanceMethod ⟨"RedoQuorumModel", "begin", "()I"⟩ ∈ lw_tbl := tk_3 _ (List.mem_of_getElem? (i := 89) rfl)
theorem wd_570 : Cond.selects "RedoQuorumModel" ⟨"RedoQuorumModel", "begin", "()I"⟩ ⟨"RedoQuorumModel", "begin", "()I"⟩ ∈ lw_tbl := tk_3 _ (List.mem_of_getElem? (i := 90) rfl)
theorem wd_571 : Cond.code ⟨"RedoQuorumModel", "begin", "()I"⟩ prog_8_method_26_code 3 (some .int) ∈ lw_tbl := tk_3 _ (List.mem_of_getElem? (i := 91) rfl)
theorem wd_572 : Cond.methodLink "RedoQuorumLaw" 22 ⟨"RedoQuorumModel", "read", "(II)I"⟩ ∈ lw_tbl := tk_3 _ (List.mem_of_getElem? (i := 92) rfl)
theorem wd_573 : Cond.instanceMethod ⟨"RedoQuorumModel", "read", "(II)I"⟩ ∈ lw_tbl := tk_3 _ (List.mem_of_getElem? (i := 93) rfl)
theorem wd_574 : Cond.selects "RedoQuorumModel" ⟨"RedoQuorumModel", "read", "(II)I"⟩ ⟨"RedoQuorumModel", "read", "(II)I"⟩ ∈ lw_tbl := tk_3 _ (List.mem_of_getElem? (i := 94) rfl)
theorem wd_575 : Cond.code ⟨"RedoQuorumModel", "read", "(II)I"⟩ prog_8_method_28_code 4 (some .int) ∈ lw_tbl := tk_3 _ (List.mem_of_getElem? (i := 95) rfl)
theorem wd_576 : Cond.methodLink "RedoQuorumModel" 121 ⟨"RedoQuorumModel", "isKey", "(I)Z"⟩ ∈ lw_tbl := tk_3 _ (List.mem_of_getElem? (i := 96) rfl)
theorem wd_577 : Cond.static ⟨"RedoQuorumModel", "isKey", "(I)Z"⟩ ∈ lw_tbl := tk_3 _ (List.mem_of_getElem? (i := 97) rfl)
theorem wd_578 : Cond.code ⟨"RedoQuorumModel", "isKey", "(I)Z"⟩ prog_8_method_2_code 1 (some .boolean) ∈ lw_tbl := tk_3 _ (List.mem_of_getElem? (i := 98) rfl)
theorem wd_579 : Cond.methodLink "RedoQuorumModel" 125 ⟨"RedoQuorumModel", "isActive", "(I)Z"⟩ ∈ lw_tbl := tk_3 _ (List.mem_of_getElem? (i := 99) rfl)
theorem wd_581 : Cond.instanceMethod ⟨"RedoQuorumModel", "isActive", "(I)Z"⟩ ∈ lw_tbl := tk_3 _ (List.mem_of_getElem? (i := 101) rfl)
theorem wd_582 : Cond.code ⟨"RedoQuorumModel", "isActive", "(I)Z"⟩ prog_8_method_5_code 2 (some .boolean) ∈ lw_tbl := tk_3 _ (List.mem_of_getElem? (i := 102) rfl)
theorem wd_583 : Cond.methodLink "RedoQuorumModel" 128 ⟨"RedoQuorumModel", "locked", "(II)Z"⟩ ∈ lw_tbl := tk_3 _ (List.mem_of_getElem? (i := 103) rfl)
theorem wd_585 : Cond.instanceMethod ⟨"RedoQuorumModel", "locked", "(II)Z"⟩ ∈ lw_tbl := tk_3 _ (List.mem_of_getElem? (i := 105) rfl)
theorem wd_586 : Cond.code ⟨"RedoQuorumModel", "locked", "(II)Z"⟩ prog_8_method_27_code 3 (some .boolean) ∈ lw_tbl := tk_3 _ (List.mem_of_getElem? (i := 106) rfl)
theorem wd_587 : Cond.methodLink "RedoQuorumModel" 131 ⟨"RedoQuorumModel", "touch", "(II)I"⟩ ∈ lw_tbl := tk_3 _ (List.mem_of_getElem? (i := 107) rfl)
theorem wd_589 : Cond.instanceMethod ⟨"RedoQuorumModel", "touch", "(II)I"⟩ ∈ lw_tbl := tk_3 _ (List.mem_of_getElem? (i := 109) rfl)
theorem wd_590 : Cond.code ⟨"RedoQuorumModel", "touch", "(II)I"⟩ prog_8_method_24_code 5 (some .int) ∈ lw_tbl := tk_3 _ (List.mem_of_getElem? (i := 110) rfl)
theorem wd_591 : Cond.methodLink "RedoQuorumModel" 106 ⟨"RedoQuorumModel", "goes", "(I)I"⟩ ∈ lw_tbl := tk_3 _ (List.mem_of_getElem? (i := 111) rfl)
theorem wd_593 : Cond.instanceMethod ⟨"RedoQuorumModel", "goes", "(I)I"⟩ ∈ lw_tbl := tk_3 _ (List.mem_of_getElem? (i := 113) rfl)
theorem wd_594 : Cond.code ⟨"RedoQuorumModel", "goes", "(I)I"⟩ prog_8_method_23_code 3 (some .int) ∈ lw_tbl := tk_3 _ (List.mem_of_getElem? (i := 114) rfl)
theorem wd_595 : Cond.methodLink "RedoQuorumModel" 100 ⟨"RedoQuorumModel", "latest", "(I)I"⟩ ∈ lw_tbl := tk_3 _ (List.mem_of_getElem? (i := 115) rfl)
theorem wd_597 : Cond.instanceMethod ⟨"RedoQuorumModel", "latest", "(I)I"⟩ ∈ lw_tbl := tk_3 _ (List.mem_of_getElem? (i := 117) rfl)
theorem wd_598 : Cond.code ⟨"RedoQuorumModel", "latest", "(I)I"⟩ prog_8_method_8_code 5 (some .int) ∈ lw_tbl := tk_3 _ (List.mem_of_getElem? (i := 118) rfl)
theorem wd_599 : Cond.methodLink "RedoQuorumModel" 57 ⟨"RedoQuorumModel", "changeUpTo", "(II)I"⟩ ∈ lw_tbl := tk_3 _ (List.mem_of_getElem? (i := 119) rfl)
theorem wd_601 : Cond.instanceMethod ⟨"RedoQuorumModel", "changeUpTo", "(II)I"⟩ ∈ lw_tbl := tk_3 _ (List.mem_of_getElem? (i := 121) rfl)
theorem wd_602 : Cond.code ⟨"RedoQuorumModel", "changeUpTo", "(II)I"⟩ prog_8_method_6_code 5 (some .int) ∈ lw_tbl := tk_3 _ (List.mem_of_getElem? (i := 122) rfl)
theorem wd_603 : Cond.methodLink "RedoQuorumModel" 109 ⟨"RedoQuorumModel", "served", "(II)Z"⟩ ∈ lw_tbl := tk_3 _ (List.mem_of_getElem? (i := 123) rfl)
theorem wd_605 : Cond.instanceMethod ⟨"RedoQuorumModel", "served", "(II)Z"⟩ ∈ lw_tbl := tk_3 _ (List.mem_of_getElem? (i := 125) rfl)
theorem wd_606 : Cond.code ⟨"RedoQuorumModel", "served", "(II)Z"⟩ prog_8_method_20_code 6 (some .boolean) ∈ lw_tbl := tk_3 _ (List.mem_of_getElem? (i := 126) rfl)
theorem wd_607 : Cond.methodLink "RedoQuorumModel" 74 ⟨"RedoQuorumModel", "groupOf", "(I)I"⟩ ∈ lw_tbl := tk_3 _ (List.mem_of_getElem? (i := 127) rfl)
theorem wd_609 : Cond.instanceMethod ⟨"RedoQuorumModel", "groupOf", "(I)I"⟩ ∈ lw_tbl := tk_3 _ (List.mem_of_getElem? (i := 129) rfl)
theorem wd_610 : Cond.code ⟨"RedoQuorumModel", "groupOf", "(I)I"⟩ prog_8_method_4_code 2 (some .int) ∈ lw_tbl := tk_3 _ (List.mem_of_getElem? (i := 130) rfl)
theorem wd_611 : Cond.methodLink "RedoQuorumModel" 113 ⟨"RedoQuorumModel", "drop", "(I)V"⟩ ∈ lw_tbl := tk_3 _ (List.mem_of_getElem? (i := 131) rfl)
theorem wd_613 : Cond.instanceMethod ⟨"RedoQuorumModel", "drop", "(I)V"⟩ ∈ lw_tbl := tk_3 _ (List.mem_of_getElem? (i := 133) rfl)
theorem wd_614 : Cond.code ⟨"RedoQuorumModel", "drop", "(I)V"⟩ prog_8_method_22_code 3 (none : Option Jvm.ClassFile.FieldType) ∈ lw_tbl := tk_3 _ (List.mem_of_getElem? (i := 134) rfl)
theorem wd_615 : Cond.methodLink "RedoQuorumModel" 68 ⟨"RedoQuorumModel", "valueUpTo", "(II)I"⟩ ∈ lw_tbl := tk_3 _ (List.mem_of_getElem? (i := 135) rfl)
theorem wd_617 : Cond.instanceMethod ⟨"RedoQuorumModel", "valueUpTo", "(II)I"⟩ ∈ lw_tbl := tk_3 _ (List.mem_of_getElem? (i := 137) rfl)
theorem wd_618 : Cond.code ⟨"RedoQuorumModel", "valueUpTo", "(II)I"⟩ prog_8_method_7_code 4 (some .int) ∈ lw_tbl := tk_3 _ (List.mem_of_getElem? (i := 138) rfl)
theorem wd_619 : Cond.methodLink "RedoQuorumLaw" 27 ⟨"RedoQuorumModel", "write", "(III)I"⟩ ∈ lw_tbl := tk_3 _ (List.mem_of_getElem? (i := 139) rfl)
theorem wd_620 : Cond.instanceMethod ⟨"RedoQuorumModel", "write", "(III)I"⟩ ∈ lw_tbl := tk_3 _ (List.mem_of_getElem? (i := 140) rfl)
theorem wd_621 : Cond.selects "RedoQuorumModel" ⟨"RedoQuorumModel", "write", "(III)I"⟩ ⟨"RedoQuorumModel", "write", "(III)I"⟩ ∈ lw_tbl := tk_3 _ (List.mem_of_getElem? (i := 141) rfl)
theorem wd_622 : Cond.code ⟨"RedoQuorumModel", "write", "(III)I"⟩ prog_8_method_29_code 5 (some .int) ∈ lw_tbl := tk_3 _ (List.mem_of_getElem? (i := 142) rfl)
theorem wd_623 : Cond.methodLink "RedoQuorumModel" 61 ⟨"RedoQuorumModel", "add", "(IIIIZ)I"⟩ ∈ lw_tbl := tk_3 _ (List.mem_of_getElem? (i := 143) rfl)
theorem wd_625 : Cond.instanceMethod ⟨"RedoQuorumModel", "add", "(IIIIZ)I"⟩ ∈ lw_tbl := tk_3 _ (List.mem_of_getElem? (i := 145) rfl)
theorem wd_626 : Cond.code ⟨"RedoQuorumModel", "add", "(IIIIZ)I"⟩ prog_8_method_9_code 7 (some .int) ∈ lw_tbl := tk_3 _ (List.mem_of_getElem? (i := 146) rfl)
theorem wd_627 : Cond.methodLink "RedoQuorumLaw" 32 ⟨"RedoQuorumModel", "shift", "(IIII)I"⟩ ∈ lw_tbl := tk_3 _ (List.mem_of_getElem? (i := 147) rfl)
theorem wd_628 : Cond.instanceMethod ⟨"RedoQuorumModel", "shift", "(IIII)I"⟩ ∈ lw_tbl := tk_3 _ (List.mem_of_getElem? (i := 148) rfl)
theorem wd_629 : Cond.selects "RedoQuorumModel" ⟨"RedoQuorumModel", "shift", "(IIII)I"⟩ ⟨"RedoQuorumModel", "shift", "(IIII)I"⟩ ∈ lw_tbl := tk_3 _ (List.mem_of_getElem? (i := 149) rfl)
theorem wd_630 : Cond.code ⟨"RedoQuorumModel", "shift", "(IIII)I"⟩ prog_8_method_30_code 8 (some .int) ∈ lw_tbl := tk_3 _ (List.mem_of_getElem? (i := 150) rfl)
theorem wd_631 : Cond.methodLink "RedoQuorumLaw" 37 ⟨"RedoQuorumModel", "commit", "(I)I"⟩ ∈ lw_tbl := tk_3 _ (List.mem_of_getElem? (i := 151) rfl)
theorem wd_632 : Cond.instanceMethod ⟨"RedoQuorumModel", "commit", "(I)I"⟩ ∈ lw_tbl := tk_3 _ (List.mem_of_getElem? (i := 152) rfl)
theorem wd_633 : Cond.selects "RedoQuorumModel" ⟨"RedoQuorumModel", "commit", "(I)I"⟩ ⟨"RedoQuorumModel", "commit", "(I)I"⟩ ∈ lw_tbl := tk_3 _ (List.mem_of_getElem? (i := 153) rfl)
theorem wd_634 : Cond.code ⟨"RedoQuorumModel", "commit", "(I)I"⟩ prog_8_method_31_code 2 (some .int) ∈ lw_tbl := tk_3 _ (List.mem_of_getElem? (i := 154) rfl)
theorem wd_635 : Cond.methodLink "RedoQuorumModel" 71 ⟨"RedoQuorumModel", "finish", "(II)I"⟩ ∈ lw_tbl := tk_3 _ (List.mem_of_getElem? (i := 155) rfl)
theorem wd_637 : Cond.instanceMethod ⟨"RedoQuorumModel", "finish", "(II)I"⟩ ∈ lw_tbl := tk_3 _ (List.mem_of_getElem? (i := 157) rfl)
theorem wd_638 : Cond.code ⟨"RedoQuorumModel", "finish", "(II)I"⟩ prog_8_method_10_code 4 (some .int) ∈ lw_tbl := tk_3 _ (List.mem_of_getElem? (i := 158) rfl)
theorem wd_639 : Cond.methodLink "RedoQuorumLaw" 41 ⟨"RedoQuorumModel", "abort", "(I)I"⟩ ∈ lw_tbl := tk_3 _ (List.mem_of_getElem? (i := 159) rfl)
theorem wd_640 : Cond.instanceMethod ⟨"RedoQuorumModel", "abort", "(I)I"⟩ ∈ lw_tbl := tk_3 _ (List.mem_of_getElem? (i := 160) rfl)
theorem wd_641 : Cond.selects "RedoQuorumModel" ⟨"RedoQuorumModel", "abort", "(I)I"⟩ ⟨"RedoQuorumModel", "abort", "(I)I"⟩ ∈ lw_tbl := tk_3 _ (List.mem_of_getElem? (i := 161) rfl)
theorem wd_642 : Cond.code ⟨"RedoQuorumModel", "abort", "(I)I"⟩ prog_8_method_32_code 2 (some .int) ∈ lw_tbl := tk_3 _ (List.mem_of_getElem? (i := 162) rfl)
theorem wd_643 : Cond.methodLink "RedoQuorumModel" 134 ⟨"RedoQuorumModel", "rollBack", "(I)I"⟩ ∈ lw_tbl := tk_3 _ (List.mem_of_getElem? (i := 163) rfl)
theorem wd_645 : Cond.instanceMethod ⟨"RedoQuorumModel", "rollBack", "(I)I"⟩ ∈ lw_tbl := tk_3 _ (List.mem_of_getElem? (i := 165) rfl)
theorem wd_646 : Cond.code ⟨"RedoQuorumModel", "rollBack", "(I)I"⟩ prog_8_method_12_code 6 (some .int) ∈ lw_tbl := tk_3 _ (List.mem_of_getElem? (i := 166) rfl)
theorem wd_647 : Cond.methodLink "RedoQuorumModel" 65 ⟨"RedoQuorumModel", "firstChange", "(II)I"⟩ ∈ lw_tbl := tk_3 _ (List.mem_of_getElem? (i := 167) rfl)
theorem wd_649 : Cond.instanceMethod ⟨"RedoQuorumModel", "firstChange", "(II)I"⟩ ∈ lw_tbl := tk_3 _ (List.mem_of_getElem? (i := 169) rfl)
theorem wd_650 : Cond.code ⟨"RedoQuorumModel", "firstChange", "(II)I"⟩ prog_8_method_11_code 4 (some .int) ∈ lw_tbl := tk_3 _ (List.mem_of_getElem? (i := 170) rfl)
theorem wd_651 : Cond.methodLink "RedoQuorumLaw" 45 ⟨"RedoQuorumModel", "status", "(I)I"⟩ ∈ lw_tbl := tk_3 _ (List.mem_of_getElem? (i := 171) rfl)
theorem wd_652 : Cond.instanceMethod ⟨"RedoQuorumModel", "status", "(I)I"⟩ ∈ lw_tbl := tk_3 _ (List.mem_of_getElem? (i := 172) rfl)
theorem wd_653 : Cond.selects "RedoQuorumModel" ⟨"RedoQuorumModel", "status", "(I)I"⟩ ⟨"RedoQuorumModel", "status", "(I)I"⟩ ∈ lw_tbl := tk_3 _ (List.mem_of_getElem? (i := 173) rfl)
theorem wd_654 : Cond.code ⟨"RedoQuorumModel", "status", "(I)I"⟩ prog_8_method_33_code 3 (some .int) ∈ lw_tbl := tk_3 _ (List.mem_of_getElem? (i := 174) rfl)
theorem wd_655 : Cond.methodLink "RedoQuorumModel" 137 ⟨"RedoQuorumModel", "endOf", "(II)I"⟩ ∈ lw_tbl := tk_3 _ (List.mem_of_getElem? (i := 175) rfl)
theorem wd_657 : Cond.instanceMethod ⟨"RedoQuorumModel", "endOf", "(II)I"⟩ ∈ lw_tbl := tk_3 _ (List.mem_of_getElem? (i := 177) rfl)
theorem wd_658 : Cond.code ⟨"RedoQuorumModel", "endOf", "(II)I"⟩ prog_8_method_13_code 4 (some .int) ∈ lw_tbl := tk_3 _ (List.mem_of_getElem? (i := 178) rfl)
theorem wd_659 : Cond.methodLink "RedoQuorumLaw" 49 ⟨"RedoQuorumModel", "deliver", "(II)I"⟩ ∈ lw_tbl := tk_3 _ (List.mem_of_getElem? (i := 179) rfl)
theorem wd_660 : Cond.instanceMethod ⟨"RedoQuorumModel", "deliver", "(II)I"⟩ ∈ lw_tbl := tk_3 _ (List.mem_of_getElem? (i := 180) rfl)
theorem wd_661 : Cond.selects "RedoQuorumModel" ⟨"RedoQuorumModel", "deliver", "(II)I"⟩ ⟨"RedoQuorumModel", "deliver", "(II)I"⟩ ∈ lw_tbl := tk_3 _ (List.mem_of_getElem? (i := 181) rfl)
theorem wd_662 : Cond.code ⟨"RedoQuorumModel", "deliver", "(II)I"⟩ prog_8_method_34_code 5 (some .int) ∈ lw_tbl := tk_3 _ (List.mem_of_getElem? (i := 182) rfl)
theorem wd_663 : Cond.methodLink "RedoQuorumModel" 140 ⟨"RedoQuorumModel", "reportPoint", "(I)V"⟩ ∈ lw_tbl := tk_3 _ (List.mem_of_getElem? (i := 183) rfl)
theorem wd_665 : Cond.instanceMethod ⟨"RedoQuorumModel", "reportPoint", "(I)V"⟩ ∈ lw_tbl := tk_3 _ (List.mem_of_getElem? (i := 185) rfl)
theorem wd_666 : Cond.code ⟨"RedoQuorumModel", "reportPoint", "(I)V"⟩ prog_8_method_18_code 2 (none : Option Jvm.ClassFile.FieldType) ∈ lw_tbl := tk_3 _ (List.mem_of_getElem? (i := 186) rfl)
theorem wd_667 : Cond.methodLink "RedoQuorumModel" 81 ⟨"RedoQuorumModel", "pointOf", "(I)I"⟩ ∈ lw_tbl := tk_3 _ (List.mem_of_getElem? (i := 187) rfl)
theorem wd_669 : Cond.instanceMethod ⟨"RedoQuorumModel", "pointOf", "(I)I"⟩ ∈ lw_tbl := tk_3 _ (List.mem_of_getElem? (i := 189) rfl)
theorem wd_670 : Cond.code ⟨"RedoQuorumModel", "pointOf", "(I)I"⟩ prog_8_method_14_code 5 (some .int) ∈ lw_tbl := tk_3 _ (List.mem_of_getElem? (i := 190) rfl)
theorem wd_671 : Cond.methodLink "RedoQuorumModel" 84 ⟨"RedoQuorumModel", "advance", "()V"⟩ ∈ lw_tbl := tk_3 _ (List.mem_of_getElem? (i := 191) rfl)
theorem wd_673 : Cond.instanceMethod ⟨"RedoQuorumModel", "advance", "()V"⟩ ∈ lw_tbl := tk_3 _ (List.mem_of_getElem? (i := 193) rfl)
theorem wd_674 : Cond.code ⟨"RedoQuorumModel", "advance", "()V"⟩ prog_8_method_19_code 2 (none : Option Jvm.ClassFile.FieldType) ∈ lw_tbl := tk_3 _ (List.mem_of_getElem? (i := 194) rfl)
theorem wd_675 : Cond.methodLink "RedoQuorumModel" 87 ⟨"RedoQuorumModel", "complete", "()I"⟩ ∈ lw_tbl := tk_3 _ (List.mem_of_getElem? (i := 195) rfl)
theorem wd_677 : Cond.instanceMethod ⟨"RedoQuorumModel", "complete", "()I"⟩ ∈ lw_tbl := tk_3 _ (List.mem_of_getElem? (i := 197) rfl)
theorem wd_678 : Cond.code ⟨"RedoQuorumModel", "complete", "()I"⟩ prog_8_method_16_code 4 (some .int) ∈ lw_tbl := tk_3 _ (List.mem_of_getElem? (i := 198) rfl)
theorem wd_679 : Cond.methodLink "RedoQuorumModel" 78 ⟨"RedoQuorumModel", "groupPoint", "(I)I"⟩ ∈ lw_tbl := tk_3 _ (List.mem_of_getElem? (i := 199) rfl)
theorem wd_681 : Cond.instanceMethod ⟨"RedoQuorumModel", "groupPoint", "(I)I"⟩ ∈ lw_tbl := tk_3 _ (List.mem_of_getElem? (i := 201) rfl)
theorem wd_682 : Cond.code ⟨"RedoQuorumModel", "groupPoint", "(I)I"⟩ prog_8_method_15_code 6 (some .int) ∈ lw_tbl := tk_3 _ (List.mem_of_getElem? (i := 202) rfl)
theorem wd_683 : Cond.methodLink "RedoQuorumModel" 91 ⟨"RedoQuorumModel", "closeUpTo", "(I)I"⟩ ∈ lw_tbl := tk_3 _ (List.mem_of_getElem? (i := 203) rfl)
theorem wd_685 : Cond.instanceMethod ⟨"RedoQuorumModel", "closeUpTo", "(I)I"⟩ ∈ lw_tbl := tk_3 _ (List.mem_of_getElem? (i := 205) rfl)
theorem wd_686 : Cond.code ⟨"RedoQuorumModel", "closeUpTo", "(I)I"⟩ prog_8_method_17_code 4 (some .int) ∈ lw_tbl := tk_3 _ (List.mem_of_getElem? (i := 206) rfl)
theorem wd_687 : Cond.methodLink "RedoQuorumLaw" 53 ⟨"RedoQuorumModel", "gossip", "(III)I"⟩ ∈ lw_tbl := tk_3 _ (List.mem_of_getElem? (i := 207) rfl)
theorem wd_688 : Cond.instanceMethod ⟨"RedoQuorumModel", "gossip", "(III)I"⟩ ∈ lw_tbl := tk_3 _ (List.mem_of_getElem? (i := 208) rfl)
theorem wd_689 : Cond.selects "RedoQuorumModel" ⟨"RedoQuorumModel", "gossip", "(III)I"⟩ ⟨"RedoQuorumModel", "gossip", "(III)I"⟩ ∈ lw_tbl := tk_3 _ (List.mem_of_getElem? (i := 209) rfl)
theorem wd_690 : Cond.code ⟨"RedoQuorumModel", "gossip", "(III)I"⟩ prog_8_method_36_code 4 (some .int) ∈ lw_tbl := tk_3 _ (List.mem_of_getElem? (i := 210) rfl)
theorem wd_691 : Cond.methodLink "RedoQuorumModel" 143 ⟨"RedoQuorumModel", "isCopy", "(II)Z"⟩ ∈ lw_tbl := tk_3 _ (List.mem_of_getElem? (i := 211) rfl)
theorem wd_692 : Cond.static ⟨"RedoQuorumModel", "isCopy", "(II)Z"⟩ ∈ lw_tbl := tk_3 _ (List.mem_of_getElem? (i := 212) rfl)
theorem wd_693 : Cond.code ⟨"RedoQuorumModel", "isCopy", "(II)Z"⟩ prog_8_method_3_code 2 (some .boolean) ∈ lw_tbl := tk_3 _ (List.mem_of_getElem? (i := 213) rfl)
theorem wd_694 : Cond.methodLink "RedoQuorumModel" 146 ⟨"RedoQuorumModel", "join", "(II)I"⟩ ∈ lw_tbl := tk_3 _ (List.mem_of_getElem? (i := 214) rfl)
theorem wd_696 : Cond.instanceMethod ⟨"RedoQuorumModel", "join", "(II)I"⟩ ∈ lw_tbl := tk_3 _ (List.mem_of_getElem? (i := 216) rfl)
theorem wd_697 : Cond.code ⟨"RedoQuorumModel", "join", "(II)I"⟩ prog_8_method_35_code 5 (some .int) ∈ lw_tbl := tk_3 _ (List.mem_of_getElem? (i := 217) rfl)
theorem wd_698 : Cond.methodLink "RedoQuorumLaw" 57 ⟨"RedoQuorumModel", "report", "(II)I"⟩ ∈ lw_tbl := tk_3 _ (List.mem_of_getElem? (i := 218) rfl)
theorem wd_699 : Cond.instanceMethod ⟨"RedoQuorumModel", "report", "(II)I"⟩ ∈ lw_tbl := tk_3 _ (List.mem_of_getElem? (i := 219) rfl)
theorem wd_700 : Cond.selects "RedoQuorumModel" ⟨"RedoQuorumModel", "report", "(II)I"⟩ ⟨"RedoQuorumModel", "report", "(II)I"⟩ ∈ lw_tbl := tk_3 _ (List.mem_of_getElem? (i := 220) rfl)
theorem wd_701 : Cond.code ⟨"RedoQuorumModel", "report", "(II)I"⟩ prog_8_method_37_code 3 (some .int) ∈ lw_tbl := tk_3 _ (List.mem_of_getElem? (i := 221) rfl)
theorem wd_702 : Cond.methodLink "RedoQuorumLaw" 62 ⟨"RedoQuorumModel", "fault", "(III)Z"⟩ ∈ lw_tbl := tk_3 _ (List.mem_of_getElem? (i := 222) rfl)
theorem wd_703 : Cond.instanceMethod ⟨"RedoQuorumModel", "fault", "(III)Z"⟩ ∈ lw_tbl := tk_3 _ (List.mem_of_getElem? (i := 223) rfl)
theorem wd_704 : Cond.selects "RedoQuorumModel" ⟨"RedoQuorumModel", "fault", "(III)Z"⟩ ⟨"RedoQuorumModel", "fault", "(III)Z"⟩ ∈ lw_tbl := tk_3 _ (List.mem_of_getElem? (i := 224) rfl)
theorem wd_705 : Cond.code ⟨"RedoQuorumModel", "fault", "(III)Z"⟩ prog_8_method_39_code 8 (some .boolean) ∈ lw_tbl := tk_3 _ (List.mem_of_getElem? (i := 225) rfl)
theorem wd_706 : Cond.methodLink "RedoQuorumModel" 149 ⟨"RedoQuorumModel", "live", "(I)I"⟩ ∈ lw_tbl := tk_3 _ (List.mem_of_getElem? (i := 226) rfl)
theorem wd_708 : Cond.instanceMethod ⟨"RedoQuorumModel", "live", "(I)I"⟩ ∈ lw_tbl := tk_3 _ (List.mem_of_getElem? (i := 228) rfl)
theorem wd_709 : Cond.code ⟨"RedoQuorumModel", "live", "(I)I"⟩ prog_8_method_38_code 4 (some .int) ∈ lw_tbl := tk_3 _ (List.mem_of_getElem? (i := 229) rfl)
theorem wd_710 : Cond.methodLink "RedoQuorumLaw" 67 ⟨"RedoQuorumModel", "crash", "()Z"⟩ ∈ lw_tbl := tk_3 _ (List.mem_of_getElem? (i := 230) rfl)
theorem wd_711 : Cond.instanceMethod ⟨"RedoQuorumModel", "crash", "()Z"⟩ ∈ lw_tbl := tk_3 _ (List.mem_of_getElem? (i := 231) rfl)
theorem wd_712 : Cond.selects "RedoQuorumModel" ⟨"RedoQuorumModel", "crash", "()Z"⟩ ⟨"RedoQuorumModel", "crash", "()Z"⟩ ∈ lw_tbl := tk_3 _ (List.mem_of_getElem? (i := 232) rfl)
theorem wd_713 : Cond.code ⟨"RedoQuorumModel", "crash", "()Z"⟩ prog_8_method_40_code 2 (some .boolean) ∈ lw_tbl := tk_3 _ (List.mem_of_getElem? (i := 233) rfl)
theorem wd_714 : Cond.methodLink "RedoQuorumLaw" 71 ⟨"RedoQuorumModel", "recover", "()I"⟩ ∈ lw_tbl := tk_3 _ (List.mem_of_getElem? (i := 234) rfl)
theorem wd_715 : Cond.instanceMethod ⟨"RedoQuorumModel", "recover", "()I"⟩ ∈ lw_tbl := tk_3 _ (List.mem_of_getElem? (i := 235) rfl)
theorem wd_716 : Cond.selects "RedoQuorumModel" ⟨"RedoQuorumModel", "recover", "()I"⟩ ⟨"RedoQuorumModel", "recover", "()I"⟩ ∈ lw_tbl := tk_3 _ (List.mem_of_getElem? (i := 236) rfl)
theorem wd_717 : Cond.code ⟨"RedoQuorumModel", "recover", "()I"⟩ prog_8_method_42_code 6 (some .int) ∈ lw_tbl := tk_3 _ (List.mem_of_getElem? (i := 237) rfl)
theorem wd_718 : Cond.methodLink "RedoQuorumModel" 152 ⟨"RedoQuorumModel", "survives", "(I)Z"⟩ ∈ lw_tbl := tk_3 _ (List.mem_of_getElem? (i := 238) rfl)
theorem wd_720 : Cond.instanceMethod ⟨"RedoQuorumModel", "survives", "(I)Z"⟩ ∈ lw_tbl := tk_4 _ (List.mem_of_getElem? (i := 0) rfl)
theorem wd_721 : Cond.code ⟨"RedoQuorumModel", "survives", "(I)Z"⟩ prog_8_method_41_code 5 (some .boolean) ∈ lw_tbl := tk_4 _ (List.mem_of_getElem? (i := 1) rfl)
theorem wd_722 : Cond.methodLink "RedoQuorumLaw" 75 ⟨"RedoQuorumModel", "point", "(I)I"⟩ ∈ lw_tbl := tk_4 _ (List.mem_of_getElem? (i := 2) rfl)
theorem wd_723 : Cond.instanceMethod ⟨"RedoQuorumModel", "point", "(I)I"⟩ ∈ lw_tbl := tk_4 _ (List.mem_of_getElem? (i := 3) rfl)
theorem wd_724 : Cond.selects "RedoQuorumModel" ⟨"RedoQuorumModel", "point", "(I)I"⟩ ⟨"RedoQuorumModel", "point", "(I)I"⟩ ∈ lw_tbl := tk_4 _ (List.mem_of_getElem? (i := 4) rfl)
theorem wd_725 : Cond.code ⟨"RedoQuorumModel", "point", "(I)I"⟩ prog_8_method_43_code 2 (some .int) ∈ lw_tbl := tk_4 _ (List.mem_of_getElem? (i := 5) rfl)
theorem wd_726 : Cond.methodLink "RedoQuorumLaw" 79 ⟨"RedoQuorumModel", "copy", "(III)I"⟩ ∈ lw_tbl := tk_4 _ (List.mem_of_getElem? (i := 6) rfl)
theorem wd_727 : Cond.instanceMethod ⟨"RedoQuorumModel", "copy", "(III)I"⟩ ∈ lw_tbl := tk_4 _ (List.mem_of_getElem? (i := 7) rfl)
theorem wd_728 : Cond.selects "RedoQuorumModel" ⟨"RedoQuorumModel", "copy", "(III)I"⟩ ⟨"RedoQuorumModel", "copy", "(III)I"⟩ ∈ lw_tbl := tk_4 _ (List.mem_of_getElem? (i := 8) rfl)
theorem wd_729 : Cond.code ⟨"RedoQuorumModel", "copy", "(III)I"⟩ prog_8_method_44_code 7 (some .int) ∈ lw_tbl := tk_4 _ (List.mem_of_getElem? (i := 9) rfl)
theorem wd_730 : Cond.methodLink "RedoQuorumLaw" 83 ⟨"RedoQuorumModel", "follow", "(I)I"⟩ ∈ lw_tbl := tk_4 _ (List.mem_of_getElem? (i := 10) rfl)
theorem wd_731 : Cond.instanceMethod ⟨"RedoQuorumModel", "follow", "(I)I"⟩ ∈ lw_tbl := tk_4 _ (List.mem_of_getElem? (i := 11) rfl)
theorem wd_732 : Cond.selects "RedoQuorumModel" ⟨"RedoQuorumModel", "follow", "(I)I"⟩ ⟨"RedoQuorumModel", "follow", "(I)I"⟩ ∈ lw_tbl := tk_4 _ (List.mem_of_getElem? (i := 12) rfl)
theorem wd_733 : Cond.code ⟨"RedoQuorumModel", "follow", "(I)I"⟩ prog_8_method_45_code 2 (some .int) ∈ lw_tbl := tk_4 _ (List.mem_of_getElem? (i := 13) rfl)
theorem wd_734 : Cond.methodLink "RedoQuorumLaw" 87 ⟨"RedoQuorumModel", "view", "(II)I"⟩ ∈ lw_tbl := tk_4 _ (List.mem_of_getElem? (i := 14) rfl)
theorem wd_735 : Cond.instanceMethod ⟨"RedoQuorumModel", "view", "(II)I"⟩ ∈ lw_tbl := tk_4 _ (List.mem_of_getElem? (i := 15) rfl)
theorem wd_736 : Cond.selects "RedoQuorumModel" ⟨"RedoQuorumModel", "view", "(II)I"⟩ ⟨"RedoQuorumModel", "view", "(II)I"⟩ ∈ lw_tbl := tk_4 _ (List.mem_of_getElem? (i := 16) rfl)
theorem wd_737 : Cond.code ⟨"RedoQuorumModel", "view", "(II)I"⟩ prog_8_method_46_code 6 (some .int) ∈ lw_tbl := tk_4 _ (List.mem_of_getElem? (i := 17) rfl)
theorem wd_738 : Cond.methodLink "RedoQuorumLaw" 91 ⟨"RedoQuorumModel", "collect", "(II)I"⟩ ∈ lw_tbl := tk_4 _ (List.mem_of_getElem? (i := 18) rfl)
theorem wd_739 : Cond.instanceMethod ⟨"RedoQuorumModel", "collect", "(II)I"⟩ ∈ lw_tbl := tk_4 _ (List.mem_of_getElem? (i := 19) rfl)
theorem wd_740 : Cond.selects "RedoQuorumModel" ⟨"RedoQuorumModel", "collect", "(II)I"⟩ ⟨"RedoQuorumModel", "collect", "(II)I"⟩ ∈ lw_tbl := tk_4 _ (List.mem_of_getElem? (i := 20) rfl)
theorem wd_741 : Cond.code ⟨"RedoQuorumModel", "collect", "(II)I"⟩ prog_8_method_48_code 10 (some .int) ∈ lw_tbl := tk_4 _ (List.mem_of_getElem? (i := 21) rfl)
theorem wd_742 : Cond.methodLink "RedoQuorumModel" 155 ⟨"RedoQuorumModel", "low", "(I)I"⟩ ∈ lw_tbl := tk_4 _ (List.mem_of_getElem? (i := 22) rfl)
theorem wd_744 : Cond.instanceMethod ⟨"RedoQuorumModel", "low", "(I)I"⟩ ∈ lw_tbl := tk_4 _ (List.mem_of_getElem? (i := 24) rfl)
theorem wd_745 : Cond.code ⟨"RedoQuorumModel", "low", "(I)I"⟩ prog_8_method_47_code 4 (some .int) ∈ lw_tbl := tk_4 _ (List.mem_of_getElem? (i := 25) rfl)
theorem lay_0 : q_lays 0 "RedoQuorum" q_T0 7 := ⟨rfl, fun w h => by
  have h : w ∈ ([.laysFinal "RedoQuorum" "RedoQuorum" "log" "LRedoQuorum$Log;", .laysFinal "RedoQuorum" "RedoQuorum" "transactions" "LRedoQuorum$Transactions;", .laysFinal "RedoQuorum" "RedoQuorum" "groups" "[LRedoQuorum$Group;", .laysFinal "RedoQuorum" "RedoQuorum" "cache" "LRedoQuorum$Cache;", .laysFinal "RedoQuorum" "RedoQuorum" "views" "[I", .lays "RedoQuorum" "RedoQuorum" "up" "Z", .lays "RedoQuorum" "RedoQuorum" "durable" "I"] : List Cond) := h
  simp only [List.mem_cons, List.not_mem_nil, or_false] at h
  rcases h with rfl | rfl | rfl | rfl | rfl | rfl | rfl
  · exact ⟨wd_134, by decide +kernel⟩
  · exact ⟨wd_136, by decide +kernel⟩
  · exact ⟨wd_138, by decide +kernel⟩
  · exact ⟨wd_140, by decide +kernel⟩
  · exact ⟨wd_142, by decide +kernel⟩
  · exact ⟨wd_144, by decide +kernel⟩
  · exact ⟨wd_146, by decide +kernel⟩⟩
theorem typ_0 : q_typs q_T0 7 q_y0 := ⟨by decide +kernel, by decide +kernel⟩
theorem lay_1 : q_lays 1 "RedoQuorum$Log" q_T1 7 := ⟨rfl, fun w h => by
  have h : w ∈ ([.laysFinal "RedoQuorum$Log" "RedoQuorum$Log" "kind" "[I", .laysFinal "RedoQuorum$Log" "RedoQuorum$Log" "owner" "[I", .laysFinal "RedoQuorum$Log" "RedoQuorum$Log" "key" "[I", .laysFinal "RedoQuorum$Log" "RedoQuorum$Log" "value" "[I", .laysFinal "RedoQuorum$Log" "RedoQuorum$Log" "group" "[I", .laysFinal "RedoQuorum$Log" "RedoQuorum$Log" "end" "[I", .lays "RedoQuorum$Log" "RedoQuorum$Log" "size" "I"] : List Cond) := h
  simp only [List.mem_cons, List.not_mem_nil, or_false] at h
  rcases h with rfl | rfl | rfl | rfl | rfl | rfl | rfl
  · exact ⟨wd_35, by decide +kernel⟩
  · exact ⟨wd_37, by decide +kernel⟩
  · exact ⟨wd_39, by decide +kernel⟩
  · exact ⟨wd_41, by decide +kernel⟩
  · exact ⟨wd_43, by decide +kernel⟩
  · exact ⟨wd_45, by decide +kernel⟩
  · exact ⟨wd_47, by decide +kernel⟩⟩
theorem typ_1 : q_typs q_T1 7 q_y1 := ⟨by decide +kernel, by decide +kernel⟩
theorem lay_2 : q_lays 2 "RedoQuorum$Transactions" q_T2 4 := ⟨rfl, fun w h => by
  have h : w ∈ ([.laysFinal "RedoQuorum$Transactions" "RedoQuorum$Transactions" "active" "[Z", .laysFinal "RedoQuorum$Transactions" "RedoQuorum$Transactions" "holder" "[I", .lays "RedoQuorum$Transactions" "RedoQuorum$Transactions" "begun" "I", .lays "RedoQuorum$Transactions" "RedoQuorum$Transactions" "activeCount" "I"] : List Cond) := h
  simp only [List.mem_cons, List.not_mem_nil, or_false] at h
  rcases h with rfl | rfl | rfl | rfl
  · exact ⟨wd_62, by decide +kernel⟩
  · exact ⟨wd_64, by decide +kernel⟩
  · exact ⟨wd_66, by decide +kernel⟩
  · exact ⟨wd_68, by decide +kernel⟩⟩
theorem typ_2 : q_typs q_T2 4 q_y2 := ⟨by decide +kernel, by decide +kernel⟩
theorem lay_3 : q_lays 3 "RedoQuorum$Group" q_T3 1 := ⟨rfl, fun w h => by
  have h : w ∈ ([.laysFinal "RedoQuorum$Group" "RedoQuorum$Group" "copies" "[LRedoQuorum$StorageCopy;"] : List Cond) := h
  simp only [List.mem_cons, List.not_mem_nil, or_false] at h
  rcases h with rfl
  · exact ⟨wd_109, by decide +kernel⟩⟩
theorem typ_3 : q_typs q_T3 1 q_y3 := ⟨by decide +kernel, by decide +kernel⟩
theorem lay_4 : q_lays 4 "RedoQuorum$StorageCopy" q_T4 5 := ⟨rfl, fun w h => by
  have h : w ∈ ([.laysFinal "RedoQuorum$StorageCopy" "RedoQuorum$StorageCopy" "group" "I", .laysFinal "RedoQuorum$StorageCopy" "RedoQuorum$StorageCopy" "held" "[Z", .lays "RedoQuorum$StorageCopy" "RedoQuorum$StorageCopy" "state" "I", .lays "RedoQuorum$StorageCopy" "RedoQuorum$StorageCopy" "fold" "I", .lays "RedoQuorum$StorageCopy" "RedoQuorum$StorageCopy" "reported" "I"] : List Cond) := h
  simp only [List.mem_cons, List.not_mem_nil, or_false] at h
  rcases h with rfl | rfl | rfl | rfl | rfl
  · exact ⟨wd_96, by decide +kernel⟩
  · exact ⟨wd_98, by decide +kernel⟩
  · exact ⟨wd_100, by decide +kernel⟩
  · exact ⟨wd_102, by decide +kernel⟩
  · exact ⟨wd_104, by decide +kernel⟩⟩
theorem typ_4 : q_typs q_T4 5 q_y4 := ⟨by decide +kernel, by decide +kernel⟩
theorem lay_5 : q_lays 5 "RedoQuorum$Cache" q_T5 2 := ⟨rfl, fun w h => by
  have h : w ∈ ([.laysFinal "RedoQuorum$Cache" "RedoQuorum$Cache" "pages" "[I", .lays "RedoQuorum$Cache" "RedoQuorum$Cache" "count" "I"] : List Cond) := h
  simp only [List.mem_cons, List.not_mem_nil, or_false] at h
  rcases h with rfl | rfl
  · exact ⟨wd_122, by decide +kernel⟩
  · exact ⟨wd_124, by decide +kernel⟩⟩
theorem typ_5 : q_typs q_T5 2 q_y5 := ⟨by decide +kernel, by decide +kernel⟩
theorem lay_6 : q_lays 6 "RedoQuorumModel" q_T6 18 := ⟨rfl, fun w h => by
  have h : w ∈ ([.lays "RedoQuorumModel" "RedoQuorumModel" "n" "I", .lays "RedoQuorumModel" "RedoQuorumModel" "owner" "[I", .lays "RedoQuorumModel" "RedoQuorumModel" "keyOf" "[I", .lays "RedoQuorumModel" "RedoQuorumModel" "valueOf" "[I", .lays "RedoQuorumModel" "RedoQuorumModel" "ends" "[I", .lays "RedoQuorumModel" "RedoQuorumModel" "closes" "[Z", .lays "RedoQuorumModel" "RedoQuorumModel" "holds" "[Z", .lays "RedoQuorumModel" "RedoQuorumModel" "stateOf" "[I", .lays "RedoQuorumModel" "RedoQuorumModel" "fold" "[I", .lays "RedoQuorumModel" "RedoQuorumModel" "reported" "[I", .lays "RedoQuorumModel" "RedoQuorumModel" "down" "Z", .lays "RedoQuorumModel" "RedoQuorumModel" "durable" "I", .lays "RedoQuorumModel" "RedoQuorumModel" "begun" "I", .lays "RedoQuorumModel" "RedoQuorumModel" "active" "[Z", .lays "RedoQuorumModel" "RedoQuorumModel" "heldBy" "[I", .lays "RedoQuorumModel" "RedoQuorumModel" "cache" "[I", .lays "RedoQuorumModel" "RedoQuorumModel" "pages" "I", .lays "RedoQuorumModel" "RedoQuorumModel" "views" "[I"] : List Cond) := h
  simp only [List.mem_cons, List.not_mem_nil, or_false] at h
  rcases h with rfl | rfl | rfl | rfl | rfl | rfl | rfl | rfl | rfl | rfl | rfl | rfl | rfl | rfl | rfl | rfl | rfl | rfl
  · exact ⟨wd_523, by decide +kernel⟩
  · exact ⟨wd_525, by decide +kernel⟩
  · exact ⟨wd_527, by decide +kernel⟩
  · exact ⟨wd_529, by decide +kernel⟩
  · exact ⟨wd_531, by decide +kernel⟩
  · exact ⟨wd_533, by decide +kernel⟩
  · exact ⟨wd_535, by decide +kernel⟩
  · exact ⟨wd_537, by decide +kernel⟩
  · exact ⟨wd_539, by decide +kernel⟩
  · exact ⟨wd_541, by decide +kernel⟩
  · exact ⟨wd_543, by decide +kernel⟩
  · exact ⟨wd_545, by decide +kernel⟩
  · exact ⟨wd_547, by decide +kernel⟩
  · exact ⟨wd_549, by decide +kernel⟩
  · exact ⟨wd_551, by decide +kernel⟩
  · exact ⟨wd_553, by decide +kernel⟩
  · exact ⟨wd_555, by decide +kernel⟩
  · exact ⟨wd_557, by decide +kernel⟩⟩
theorem typ_6 : q_typs q_T6 18 q_y6 := ⟨by decide +kernel, by decide +kernel⟩
def M_Q_init : qM := (⟨"RedoQuorum", "<init>", "()V"⟩, prog_1_method_1_code, 2, none)
theorem cd_Q_init : q_code M_Q_init 0 := ⟨⟨wd_13, by decide +kernel⟩, ⟨wd_1, by decide +kernel⟩, ⟨by decide +kernel, by decide +kernel⟩, by decide +kernel⟩
theorem in_Q_init : q_inst M_Q_init := ⟨wd_12, by decide +kernel⟩
def M_L_init : qM := (⟨"RedoQuorum$Log", "<init>", "()V"⟩, prog_4_method_1_code, 1, none)
theorem cd_L_init : q_code M_L_init 0 := ⟨⟨wd_21, by decide +kernel⟩, ⟨wd_2, by decide +kernel⟩, ⟨by decide +kernel, by decide +kernel⟩, by decide +kernel⟩
theorem in_L_init : q_inst M_L_init := ⟨wd_20, by decide +kernel⟩
def M_T_init : qM := (⟨"RedoQuorum$Transactions", "<init>", "()V"⟩, prog_6_method_1_code, 1, none)
theorem cd_T_init : q_code M_T_init 0 := ⟨⟨wd_55, by decide +kernel⟩, ⟨wd_3, by decide +kernel⟩, ⟨by decide +kernel, by decide +kernel⟩, by decide +kernel⟩
theorem in_T_init : q_inst M_T_init := ⟨wd_54, by decide +kernel⟩
def M_G_init : qM := (⟨"RedoQuorum$Group", "<init>", "(I)V"⟩, prog_3_method_1_code, 3, none)
theorem cd_G_init : q_code M_G_init 1 := ⟨⟨wd_77, by decide +kernel⟩, ⟨wd_4, by decide +kernel⟩, ⟨by decide +kernel, by decide +kernel⟩, by decide +kernel⟩
theorem in_G_init : q_inst M_G_init := ⟨wd_76, by decide +kernel⟩
def M_C_init : qM := (⟨"RedoQuorum$StorageCopy", "<init>", "(I)V"⟩, prog_5_method_1_code, 2, none)
theorem cd_C_init : q_code M_C_init 1 := ⟨⟨wd_84, by decide +kernel⟩, ⟨wd_5, by decide +kernel⟩, ⟨by decide +kernel, by decide +kernel⟩, by decide +kernel⟩
theorem in_C_init : q_inst M_C_init := ⟨wd_83, by decide +kernel⟩
def M_H_init : qM := (⟨"RedoQuorum$Cache", "<init>", "()V"⟩, prog_2_method_1_code, 1, none)
theorem cd_H_init : q_code M_H_init 0 := ⟨⟨wd_116, by decide +kernel⟩, ⟨wd_6, by decide +kernel⟩, ⟨by decide +kernel, by decide +kernel⟩, by decide +kernel⟩
theorem in_H_init : q_inst M_H_init := ⟨wd_115, by decide +kernel⟩
def M_Q_begin : qM := (⟨"RedoQuorum", "begin", "()I"⟩, prog_1_method_2_code, 1, some .int)
theorem cd_Q_begin : q_code M_Q_begin 0 := ⟨⟨wd_152, by decide +kernel⟩, ⟨wd_1, by decide +kernel⟩, ⟨by decide +kernel, by decide +kernel⟩, by decide +kernel⟩
theorem in_Q_begin : q_inst M_Q_begin := ⟨wd_150, by decide +kernel⟩
theorem se_Q_begin : q_sel M_Q_begin := ⟨wd_151, by decide +kernel⟩
def M_T_isFull : qM := (⟨"RedoQuorum$Transactions", "isFull", "()Z"⟩, prog_6_method_2_code, 1, some .boolean)
theorem cd_T_isFull : q_code M_T_isFull 0 := ⟨⟨wd_156, by decide +kernel⟩, ⟨wd_3, by decide +kernel⟩, ⟨by decide +kernel, by decide +kernel⟩, by decide +kernel⟩
theorem in_T_isFull : q_inst M_T_isFull := ⟨wd_154, by decide +kernel⟩
theorem se_T_isFull : q_sel M_T_isFull := ⟨wd_155, by decide +kernel⟩
def M_T_start : qM := (⟨"RedoQuorum$Transactions", "start", "()I"⟩, prog_6_method_3_code, 1, some .int)
theorem cd_T_start : q_code M_T_start 0 := ⟨⟨wd_160, by decide +kernel⟩, ⟨wd_3, by decide +kernel⟩, ⟨by decide +kernel, by decide +kernel⟩, by decide +kernel⟩
theorem in_T_start : q_inst M_T_start := ⟨wd_158, by decide +kernel⟩
theorem se_T_start : q_sel M_T_start := ⟨wd_159, by decide +kernel⟩
def M_Q_read : qM := (⟨"RedoQuorum", "read", "(II)I"⟩, prog_1_method_3_code, 4, some .int)
theorem cd_Q_read : q_code M_Q_read 2 := ⟨⟨wd_164, by decide +kernel⟩, ⟨wd_1, by decide +kernel⟩, ⟨by decide +kernel, by decide +kernel⟩, by decide +kernel⟩
theorem in_Q_read : q_inst M_Q_read := ⟨wd_162, by decide +kernel⟩
theorem se_Q_read : q_sel M_Q_read := ⟨wd_163, by decide +kernel⟩
def M_Q_isKey : qM := (⟨"RedoQuorum", "isKey", "(I)Z"⟩, prog_1_method_21_code, 1, some .boolean)
theorem cd_Q_isKey : q_code M_Q_isKey 1 := ⟨⟨wd_167, by decide +kernel⟩, ⟨wd_1, by decide +kernel⟩, ⟨by decide +kernel, by decide +kernel⟩, by decide +kernel⟩
theorem st_Q_isKey : q_stat M_Q_isKey := ⟨wd_166, by decide +kernel⟩
def M_Q_refusalOfKeys : qM := (⟨"RedoQuorum", "refusalOfKeys", "(III)I"⟩, prog_1_method_27_code, 5, some .int)
theorem cd_Q_refusalOfKeys : q_code M_Q_refusalOfKeys 3 := ⟨⟨wd_171, by decide +kernel⟩, ⟨wd_1, by decide +kernel⟩, ⟨by decide +kernel, by decide +kernel⟩, by decide +kernel⟩
theorem in_Q_refusalOfKeys : q_inst M_Q_refusalOfKeys := ⟨wd_170, by decide +kernel⟩
theorem se_Q_refusalOfKeys : q_sel M_Q_refusalOfKeys := ⟨List.mem_of_getElem? (i := 0) rfl, by decide +kernel⟩
def M_Q_refusalOfTransaction : qM := (⟨"RedoQuorum", "refusalOfTransaction", "(I)I"⟩, prog_1_method_26_code, 2, some .int)
theorem cd_Q_refusalOfTransaction : q_code M_Q_refusalOfTransaction 1 := ⟨⟨wd_175, by decide +kernel⟩, ⟨wd_1, by decide +kernel⟩, ⟨by decide +kernel, by decide +kernel⟩, by decide +kernel⟩
theorem in_Q_refusalOfTransaction : q_inst M_Q_refusalOfTransaction := ⟨wd_174, by decide +kernel⟩
theorem se_Q_refusalOfTransaction : q_sel M_Q_refusalOfTransaction := ⟨List.mem_of_getElem? (i := 1) rfl, by decide +kernel⟩
def M_T_isActive : qM := (⟨"RedoQuorum$Transactions", "isActive", "(I)Z"⟩, prog_6_method_4_code, 2, some .boolean)
theorem cd_T_isActive : q_code M_T_isActive 1 := ⟨⟨wd_179, by decide +kernel⟩, ⟨wd_3, by decide +kernel⟩, ⟨by decide +kernel, by decide +kernel⟩, by decide +kernel⟩
theorem in_T_isActive : q_inst M_T_isActive := ⟨wd_177, by decide +kernel⟩
theorem se_T_isActive : q_sel M_T_isActive := ⟨wd_178, by decide +kernel⟩
def M_T_mayHold : qM := (⟨"RedoQuorum$Transactions", "mayHold", "(II)Z"⟩, prog_6_method_5_code, 3, some .boolean)
theorem cd_T_mayHold : q_code M_T_mayHold 2 := ⟨⟨wd_183, by decide +kernel⟩, ⟨wd_3, by decide +kernel⟩, ⟨by decide +kernel, by decide +kernel⟩, by decide +kernel⟩
theorem in_T_mayHold : q_inst M_T_mayHold := ⟨wd_181, by decide +kernel⟩
theorem se_T_mayHold : q_sel M_T_mayHold := ⟨wd_182, by decide +kernel⟩
def M_Q_pageOf : qM := (⟨"RedoQuorum", "pageOf", "(I)I"⟩, prog_1_method_24_code, 1, some .int)
theorem cd_Q_pageOf : q_code M_Q_pageOf 1 := ⟨⟨wd_186, by decide +kernel⟩, ⟨wd_1, by decide +kernel⟩, ⟨by decide +kernel, by decide +kernel⟩, by decide +kernel⟩
theorem st_Q_pageOf : q_stat M_Q_pageOf := ⟨wd_185, by decide +kernel⟩
def M_Q_touch : qM := (⟨"RedoQuorum", "touch", "(II)I"⟩, prog_1_method_30_code, 4, some .int)
theorem cd_Q_touch : q_code M_Q_touch 2 := ⟨⟨wd_190, by decide +kernel⟩, ⟨wd_1, by decide +kernel⟩, ⟨by decide +kernel, by decide +kernel⟩, by decide +kernel⟩
theorem in_Q_touch : q_inst M_Q_touch := ⟨wd_189, by decide +kernel⟩
theorem se_Q_touch : q_sel M_Q_touch := ⟨List.mem_of_getElem? (i := 2) rfl, by decide +kernel⟩
def M_H_rankOf : qM := (⟨"RedoQuorum$Cache", "rankOf", "(I)I"⟩, prog_2_method_3_code, 3, some .int)
theorem cd_H_rankOf : q_code M_H_rankOf 1 := ⟨⟨wd_194, by decide +kernel⟩, ⟨wd_6, by decide +kernel⟩, ⟨by decide +kernel, by decide +kernel⟩, by decide +kernel⟩
theorem in_H_rankOf : q_inst M_H_rankOf := ⟨wd_192, by decide +kernel⟩
theorem se_H_rankOf : q_sel M_H_rankOf := ⟨wd_193, by decide +kernel⟩
def M_H_remove : qM := (⟨"RedoQuorum$Cache", "remove", "(I)V"⟩, prog_2_method_5_code, 4, none)
theorem cd_H_remove : q_code M_H_remove 1 := ⟨⟨wd_198, by decide +kernel⟩, ⟨wd_6, by decide +kernel⟩, ⟨by decide +kernel, by decide +kernel⟩, by decide +kernel⟩
theorem in_H_remove : q_inst M_H_remove := ⟨wd_196, by decide +kernel⟩
theorem se_H_remove : q_sel M_H_remove := ⟨wd_197, by decide +kernel⟩
def M_H_append : qM := (⟨"RedoQuorum$Cache", "append", "(I)V"⟩, prog_2_method_4_code, 2, none)
theorem cd_H_append : q_code M_H_append 1 := ⟨⟨wd_202, by decide +kernel⟩, ⟨wd_6, by decide +kernel⟩, ⟨by decide +kernel, by decide +kernel⟩, by decide +kernel⟩
theorem in_H_append : q_inst M_H_append := ⟨wd_200, by decide +kernel⟩
theorem se_H_append : q_sel M_H_append := ⟨wd_201, by decide +kernel⟩
def M_Q_pageThatMayGo : qM := (⟨"RedoQuorum", "pageThatMayGo", "(I)I"⟩, prog_1_method_31_code, 4, some .int)
theorem cd_Q_pageThatMayGo : q_code M_Q_pageThatMayGo 1 := ⟨⟨wd_206, by decide +kernel⟩, ⟨wd_1, by decide +kernel⟩, ⟨by decide +kernel, by decide +kernel⟩, by decide +kernel⟩
theorem in_Q_pageThatMayGo : q_inst M_Q_pageThatMayGo := ⟨wd_205, by decide +kernel⟩
theorem se_Q_pageThatMayGo : q_sel M_Q_pageThatMayGo := ⟨List.mem_of_getElem? (i := 3) rfl, by decide +kernel⟩
def M_Q_isAheadOfDurable : qM := (⟨"RedoQuorum", "isAheadOfDurable", "(I)Z"⟩, prog_1_method_32_code, 2, some .boolean)
theorem cd_Q_isAheadOfDurable : q_code M_Q_isAheadOfDurable 1 := ⟨⟨wd_210, by decide +kernel⟩, ⟨wd_1, by decide +kernel⟩, ⟨by decide +kernel, by decide +kernel⟩, by decide +kernel⟩
theorem in_Q_isAheadOfDurable : q_inst M_Q_isAheadOfDurable := ⟨wd_209, by decide +kernel⟩
theorem se_Q_isAheadOfDurable : q_sel M_Q_isAheadOfDurable := ⟨List.mem_of_getElem? (i := 4) rfl, by decide +kernel⟩
def M_L_latestOf : qM := (⟨"RedoQuorum$Log", "latestOf", "(I)I"⟩, prog_4_method_13_code, 3, some .int)
theorem cd_L_latestOf : q_code M_L_latestOf 1 := ⟨⟨wd_214, by decide +kernel⟩, ⟨wd_2, by decide +kernel⟩, ⟨by decide +kernel, by decide +kernel⟩, by decide +kernel⟩
theorem in_L_latestOf : q_inst M_L_latestOf := ⟨wd_212, by decide +kernel⟩
theorem se_L_latestOf : q_sel M_L_latestOf := ⟨wd_213, by decide +kernel⟩
def M_L_isEnd : qM := (⟨"RedoQuorum$Log", "isEnd", "(I)Z"⟩, prog_4_method_8_code, 2, some .boolean)
theorem cd_L_isEnd : q_code M_L_isEnd 1 := ⟨⟨wd_218, by decide +kernel⟩, ⟨wd_2, by decide +kernel⟩, ⟨by decide +kernel, by decide +kernel⟩, by decide +kernel⟩
theorem in_L_isEnd : q_inst M_L_isEnd := ⟨wd_216, by decide +kernel⟩
theorem se_L_isEnd : q_sel M_L_isEnd := ⟨wd_217, by decide +kernel⟩
def M_H_isFull : qM := (⟨"RedoQuorum$Cache", "isFull", "()Z"⟩, prog_2_method_2_code, 1, some .boolean)
theorem cd_H_isFull : q_code M_H_isFull 0 := ⟨⟨wd_223, by decide +kernel⟩, ⟨wd_6, by decide +kernel⟩, ⟨by decide +kernel, by decide +kernel⟩, by decide +kernel⟩
theorem in_H_isFull : q_inst M_H_isFull := ⟨wd_221, by decide +kernel⟩
theorem se_H_isFull : q_sel M_H_isFull := ⟨wd_222, by decide +kernel⟩
def M_Q_groupOfPage : qM := (⟨"RedoQuorum", "groupOfPage", "(I)I"⟩, prog_1_method_25_code, 1, some .int)
theorem cd_Q_groupOfPage : q_code M_Q_groupOfPage 1 := ⟨⟨wd_226, by decide +kernel⟩, ⟨wd_1, by decide +kernel⟩, ⟨by decide +kernel, by decide +kernel⟩, by decide +kernel⟩
theorem st_Q_groupOfPage : q_stat M_Q_groupOfPage := ⟨wd_225, by decide +kernel⟩
def M_G_serves : qM := (⟨"RedoQuorum$Group", "serves", "(ILRedoQuorum$Log;)Z"⟩, prog_3_method_4_code, 4, some .boolean)
theorem cd_G_serves : q_code M_G_serves 2 := ⟨⟨wd_230, by decide +kernel⟩, ⟨wd_4, by decide +kernel⟩, ⟨by decide +kernel, by decide +kernel⟩, by decide +kernel⟩
theorem in_G_serves : q_inst M_G_serves := ⟨wd_228, by decide +kernel⟩
theorem se_G_serves : q_sel M_G_serves := ⟨wd_229, by decide +kernel⟩
def M_C_isLive : qM := (⟨"RedoQuorum$StorageCopy", "isLive", "()Z"⟩, prog_5_method_2_code, 1, some .boolean)
theorem cd_C_isLive : q_code M_C_isLive 0 := ⟨⟨wd_234, by decide +kernel⟩, ⟨wd_5, by decide +kernel⟩, ⟨by decide +kernel, by decide +kernel⟩, by decide +kernel⟩
theorem in_C_isLive : q_inst M_C_isLive := ⟨wd_232, by decide +kernel⟩
theorem se_C_isLive : q_sel M_C_isLive := ⟨wd_233, by decide +kernel⟩
def M_C_holdsAllUpTo : qM := (⟨"RedoQuorum$StorageCopy", "holdsAllUpTo", "(ILRedoQuorum$Log;)Z"⟩, prog_5_method_10_code, 4, some .boolean)
theorem cd_C_holdsAllUpTo : q_code M_C_holdsAllUpTo 2 := ⟨⟨wd_238, by decide +kernel⟩, ⟨wd_5, by decide +kernel⟩, ⟨by decide +kernel, by decide +kernel⟩, by decide +kernel⟩
theorem in_C_holdsAllUpTo : q_inst M_C_holdsAllUpTo := ⟨wd_236, by decide +kernel⟩
theorem se_C_holdsAllUpTo : q_sel M_C_holdsAllUpTo := ⟨wd_237, by decide +kernel⟩
def M_T_hold : qM := (⟨"RedoQuorum$Transactions", "hold", "(II)V"⟩, prog_6_method_6_code, 3, none)
theorem cd_T_hold : q_code M_T_hold 2 := ⟨⟨wd_242, by decide +kernel⟩, ⟨wd_3, by decide +kernel⟩, ⟨by decide +kernel, by decide +kernel⟩, by decide +kernel⟩
theorem in_T_hold : q_inst M_T_hold := ⟨wd_240, by decide +kernel⟩
theorem se_T_hold : q_sel M_T_hold := ⟨wd_241, by decide +kernel⟩
def M_L_valueUpTo : qM := (⟨"RedoQuorum$Log", "valueUpTo", "(II)I"⟩, prog_4_method_11_code, 4, some .int)
theorem cd_L_valueUpTo : q_code M_L_valueUpTo 2 := ⟨⟨wd_246, by decide +kernel⟩, ⟨wd_2, by decide +kernel⟩, ⟨by decide +kernel, by decide +kernel⟩, by decide +kernel⟩
theorem in_L_valueUpTo : q_inst M_L_valueUpTo := ⟨wd_244, by decide +kernel⟩
theorem se_L_valueUpTo : q_sel M_L_valueUpTo := ⟨wd_245, by decide +kernel⟩
def M_Q_write : qM := (⟨"RedoQuorum", "write", "(III)I"⟩, prog_1_method_4_code, 5, some .int)
theorem cd_Q_write : q_code M_Q_write 3 := ⟨⟨wd_250, by decide +kernel⟩, ⟨wd_1, by decide +kernel⟩, ⟨by decide +kernel, by decide +kernel⟩, by decide +kernel⟩
theorem in_Q_write : q_inst M_Q_write := ⟨wd_248, by decide +kernel⟩
theorem se_Q_write : q_sel M_Q_write := ⟨wd_249, by decide +kernel⟩
def M_Q_refusalOfChanges : qM := (⟨"RedoQuorum", "refusalOfChanges", "(III)I"⟩, prog_1_method_28_code, 5, some .int)
theorem cd_Q_refusalOfChanges : q_code M_Q_refusalOfChanges 3 := ⟨⟨wd_254, by decide +kernel⟩, ⟨wd_1, by decide +kernel⟩, ⟨by decide +kernel, by decide +kernel⟩, by decide +kernel⟩
theorem in_Q_refusalOfChanges : q_inst M_Q_refusalOfChanges := ⟨wd_253, by decide +kernel⟩
theorem se_Q_refusalOfChanges : q_sel M_Q_refusalOfChanges := ⟨List.mem_of_getElem? (i := 5) rfl, by decide +kernel⟩
def M_L_addChange : qM := (⟨"RedoQuorum$Log", "addChange", "(IIIZ)I"⟩, prog_4_method_3_code, 5, some .int)
theorem cd_L_addChange : q_code M_L_addChange 4 := ⟨⟨wd_258, by decide +kernel⟩, ⟨wd_2, by decide +kernel⟩, ⟨by decide +kernel, by decide +kernel⟩, by decide +kernel⟩
theorem in_L_addChange : q_inst M_L_addChange := ⟨wd_256, by decide +kernel⟩
theorem se_L_addChange : q_sel M_L_addChange := ⟨wd_257, by decide +kernel⟩
def M_L_add : qM := (⟨"RedoQuorum$Log", "add", "(IIIII)I"⟩, prog_4_method_5_code, 6, some .int)
theorem cd_L_add : q_code M_L_add 5 := ⟨⟨wd_263, by decide +kernel⟩, ⟨wd_2, by decide +kernel⟩, ⟨by decide +kernel, by decide +kernel⟩, by decide +kernel⟩
theorem in_L_add : q_inst M_L_add := ⟨wd_262, by decide +kernel⟩
theorem se_L_add : q_sel M_L_add := ⟨List.mem_of_getElem? (i := 6) rfl, by decide +kernel⟩
def M_Q_shift : qM := (⟨"RedoQuorum", "shift", "(IIII)I"⟩, prog_1_method_5_code, 8, some .int)
theorem cd_Q_shift : q_code M_Q_shift 4 := ⟨⟨wd_267, by decide +kernel⟩, ⟨wd_1, by decide +kernel⟩, ⟨by decide +kernel, by decide +kernel⟩, by decide +kernel⟩
theorem in_Q_shift : q_inst M_Q_shift := ⟨wd_265, by decide +kernel⟩
theorem se_Q_shift : q_sel M_Q_shift := ⟨wd_266, by decide +kernel⟩
def M_Q_commit : qM := (⟨"RedoQuorum", "commit", "(I)I"⟩, prog_1_method_6_code, 3, some .int)
theorem cd_Q_commit : q_code M_Q_commit 1 := ⟨⟨wd_271, by decide +kernel⟩, ⟨wd_1, by decide +kernel⟩, ⟨by decide +kernel, by decide +kernel⟩, by decide +kernel⟩
theorem in_Q_commit : q_inst M_Q_commit := ⟨wd_269, by decide +kernel⟩
theorem se_Q_commit : q_sel M_Q_commit := ⟨wd_270, by decide +kernel⟩
def M_T_finish : qM := (⟨"RedoQuorum$Transactions", "finish", "(I)V"⟩, prog_6_method_7_code, 3, none)
theorem cd_T_finish : q_code M_T_finish 1 := ⟨⟨wd_275, by decide +kernel⟩, ⟨wd_3, by decide +kernel⟩, ⟨by decide +kernel, by decide +kernel⟩, by decide +kernel⟩
theorem in_T_finish : q_inst M_T_finish := ⟨wd_273, by decide +kernel⟩
theorem se_T_finish : q_sel M_T_finish := ⟨wd_274, by decide +kernel⟩
def M_L_addEnd : qM := (⟨"RedoQuorum$Log", "addEnd", "(IZ)I"⟩, prog_4_method_4_code, 4, some .int)
theorem cd_L_addEnd : q_code M_L_addEnd 2 := ⟨⟨wd_279, by decide +kernel⟩, ⟨wd_2, by decide +kernel⟩, ⟨by decide +kernel, by decide +kernel⟩, by decide +kernel⟩
theorem in_L_addEnd : q_inst M_L_addEnd := ⟨wd_277, by decide +kernel⟩
theorem se_L_addEnd : q_sel M_L_addEnd := ⟨wd_278, by decide +kernel⟩
def M_Q_abort : qM := (⟨"RedoQuorum", "abort", "(I)I"⟩, prog_1_method_7_code, 3, some .int)
theorem cd_Q_abort : q_code M_Q_abort 1 := ⟨⟨wd_286, by decide +kernel⟩, ⟨wd_1, by decide +kernel⟩, ⟨by decide +kernel, by decide +kernel⟩, by decide +kernel⟩
theorem in_Q_abort : q_inst M_Q_abort := ⟨wd_284, by decide +kernel⟩
theorem se_Q_abort : q_sel M_Q_abort := ⟨wd_285, by decide +kernel⟩
def M_L_rollBack : qM := (⟨"RedoQuorum$Log", "rollBack", "(I)I"⟩, prog_4_method_6_code, 4, some .int)
theorem cd_L_rollBack : q_code M_L_rollBack 1 := ⟨⟨wd_290, by decide +kernel⟩, ⟨wd_2, by decide +kernel⟩, ⟨by decide +kernel, by decide +kernel⟩, by decide +kernel⟩
theorem in_L_rollBack : q_inst M_L_rollBack := ⟨wd_288, by decide +kernel⟩
theorem se_L_rollBack : q_sel M_L_rollBack := ⟨wd_289, by decide +kernel⟩
def M_L_firstChange : qM := (⟨"RedoQuorum$Log", "firstChange", "(II)I"⟩, prog_4_method_16_code, 4, some .int)
theorem cd_L_firstChange : q_code M_L_firstChange 2 := ⟨⟨wd_294, by decide +kernel⟩, ⟨wd_2, by decide +kernel⟩, ⟨by decide +kernel, by decide +kernel⟩, by decide +kernel⟩
theorem in_L_firstChange : q_inst M_L_firstChange := ⟨wd_293, by decide +kernel⟩
theorem se_L_firstChange : q_sel M_L_firstChange := ⟨List.mem_of_getElem? (i := 7) rfl, by decide +kernel⟩
def M_Q_status : qM := (⟨"RedoQuorum", "status", "(I)I"⟩, prog_1_method_8_code, 3, some .int)
theorem cd_Q_status : q_code M_Q_status 1 := ⟨⟨wd_301, by decide +kernel⟩, ⟨wd_1, by decide +kernel⟩, ⟨by decide +kernel, by decide +kernel⟩, by decide +kernel⟩
theorem in_Q_status : q_inst M_Q_status := ⟨wd_299, by decide +kernel⟩
theorem se_Q_status : q_sel M_Q_status := ⟨wd_300, by decide +kernel⟩
def M_L_commits : qM := (⟨"RedoQuorum$Log", "commits", "(I)Z"⟩, prog_4_method_9_code, 2, some .boolean)
theorem cd_L_commits : q_code M_L_commits 1 := ⟨⟨wd_305, by decide +kernel⟩, ⟨wd_2, by decide +kernel⟩, ⟨by decide +kernel, by decide +kernel⟩, by decide +kernel⟩
theorem in_L_commits : q_inst M_L_commits := ⟨wd_303, by decide +kernel⟩
theorem se_L_commits : q_sel M_L_commits := ⟨wd_304, by decide +kernel⟩
def M_Q_deliver : qM := (⟨"RedoQuorum", "deliver", "(II)I"⟩, prog_1_method_9_code, 5, some .int)
theorem cd_Q_deliver : q_code M_Q_deliver 2 := ⟨⟨wd_309, by decide +kernel⟩, ⟨wd_1, by decide +kernel⟩, ⟨by decide +kernel, by decide +kernel⟩, by decide +kernel⟩
theorem in_Q_deliver : q_inst M_Q_deliver := ⟨wd_307, by decide +kernel⟩
theorem se_Q_deliver : q_sel M_Q_deliver := ⟨wd_308, by decide +kernel⟩
def M_L_has : qM := (⟨"RedoQuorum$Log", "has", "(I)Z"⟩, prog_4_method_2_code, 2, some .boolean)
theorem cd_L_has : q_code M_L_has 1 := ⟨⟨wd_313, by decide +kernel⟩, ⟨wd_2, by decide +kernel⟩, ⟨by decide +kernel, by decide +kernel⟩, by decide +kernel⟩
theorem in_L_has : q_inst M_L_has := ⟨wd_311, by decide +kernel⟩
theorem se_L_has : q_sel M_L_has := ⟨wd_312, by decide +kernel⟩
def M_C_take : qM := (⟨"RedoQuorum$StorageCopy", "take", "(I)Z"⟩, prog_5_method_5_code, 3, some .boolean)
theorem cd_C_take : q_code M_C_take 1 := ⟨⟨wd_318, by decide +kernel⟩, ⟨wd_5, by decide +kernel⟩, ⟨by decide +kernel, by decide +kernel⟩, by decide +kernel⟩
theorem in_C_take : q_inst M_C_take := ⟨wd_316, by decide +kernel⟩
theorem se_C_take : q_sel M_C_take := ⟨wd_317, by decide +kernel⟩
def M_C_tellReach : qM := (⟨"RedoQuorum$StorageCopy", "tellReach", "(LRedoQuorum$Log;)V"⟩, prog_5_method_9_code, 2, none)
theorem cd_C_tellReach : q_code M_C_tellReach 1 := ⟨⟨wd_322, by decide +kernel⟩, ⟨wd_5, by decide +kernel⟩, ⟨by decide +kernel, by decide +kernel⟩, by decide +kernel⟩
theorem in_C_tellReach : q_inst M_C_tellReach := ⟨wd_320, by decide +kernel⟩
theorem se_C_tellReach : q_sel M_C_tellReach := ⟨wd_321, by decide +kernel⟩
def M_C_reach : qM := (⟨"RedoQuorum$StorageCopy", "reach", "(LRedoQuorum$Log;)I"⟩, prog_5_method_8_code, 4, some .int)
theorem cd_C_reach : q_code M_C_reach 1 := ⟨⟨wd_326, by decide +kernel⟩, ⟨wd_5, by decide +kernel⟩, ⟨by decide +kernel, by decide +kernel⟩, by decide +kernel⟩
theorem in_C_reach : q_inst M_C_reach := ⟨wd_324, by decide +kernel⟩
theorem se_C_reach : q_sel M_C_reach := ⟨wd_325, by decide +kernel⟩
def M_Q_raiseDurable : qM := (⟨"RedoQuorum", "raiseDurable", "()V"⟩, prog_1_method_34_code, 1, none)
theorem cd_Q_raiseDurable : q_code M_Q_raiseDurable 0 := ⟨⟨wd_330, by decide +kernel⟩, ⟨wd_1, by decide +kernel⟩, ⟨by decide +kernel, by decide +kernel⟩, by decide +kernel⟩
theorem in_Q_raiseDurable : q_inst M_Q_raiseDurable := ⟨wd_329, by decide +kernel⟩
theorem se_Q_raiseDurable : q_sel M_Q_raiseDurable := ⟨List.mem_of_getElem? (i := 8) rfl, by decide +kernel⟩
def M_Q_completePoint : qM := (⟨"RedoQuorum", "completePoint", "()I"⟩, prog_1_method_33_code, 5, some .int)
theorem cd_Q_completePoint : q_code M_Q_completePoint 0 := ⟨⟨wd_334, by decide +kernel⟩, ⟨wd_1, by decide +kernel⟩, ⟨by decide +kernel, by decide +kernel⟩, by decide +kernel⟩
theorem in_Q_completePoint : q_inst M_Q_completePoint := ⟨wd_333, by decide +kernel⟩
theorem se_Q_completePoint : q_sel M_Q_completePoint := ⟨List.mem_of_getElem? (i := 9) rfl, by decide +kernel⟩
def M_G_quorumPoint : qM := (⟨"RedoQuorum$Group", "quorumPoint", "()I"⟩, prog_3_method_5_code, 4, some .int)
theorem cd_G_quorumPoint : q_code M_G_quorumPoint 0 := ⟨⟨wd_338, by decide +kernel⟩, ⟨wd_4, by decide +kernel⟩, ⟨by decide +kernel, by decide +kernel⟩, by decide +kernel⟩
theorem in_G_quorumPoint : q_inst M_G_quorumPoint := ⟨wd_336, by decide +kernel⟩
theorem se_G_quorumPoint : q_sel M_G_quorumPoint := ⟨wd_337, by decide +kernel⟩
def M_G_copiesThatReported : qM := (⟨"RedoQuorum$Group", "copiesThatReported", "(I)I"⟩, prog_3_method_6_code, 4, some .int)
theorem cd_G_copiesThatReported : q_code M_G_copiesThatReported 1 := ⟨⟨wd_342, by decide +kernel⟩, ⟨wd_4, by decide +kernel⟩, ⟨by decide +kernel, by decide +kernel⟩, by decide +kernel⟩
theorem in_G_copiesThatReported : q_inst M_G_copiesThatReported := ⟨wd_341, by decide +kernel⟩
theorem se_G_copiesThatReported : q_sel M_G_copiesThatReported := ⟨List.mem_of_getElem? (i := 10) rfl, by decide +kernel⟩
def M_L_lastCloseUpTo : qM := (⟨"RedoQuorum$Log", "lastCloseUpTo", "(I)I"⟩, prog_4_method_10_code, 3, some .int)
theorem cd_L_lastCloseUpTo : q_code M_L_lastCloseUpTo 1 := ⟨⟨wd_346, by decide +kernel⟩, ⟨wd_2, by decide +kernel⟩, ⟨by decide +kernel, by decide +kernel⟩, by decide +kernel⟩
theorem in_L_lastCloseUpTo : q_inst M_L_lastCloseUpTo := ⟨wd_344, by decide +kernel⟩
theorem se_L_lastCloseUpTo : q_sel M_L_lastCloseUpTo := ⟨wd_345, by decide +kernel⟩
def M_Q_gossip : qM := (⟨"RedoQuorum", "gossip", "(III)I"⟩, prog_1_method_10_code, 6, some .int)
theorem cd_Q_gossip : q_code M_Q_gossip 3 := ⟨⟨wd_351, by decide +kernel⟩, ⟨wd_1, by decide +kernel⟩, ⟨by decide +kernel, by decide +kernel⟩, by decide +kernel⟩
theorem in_Q_gossip : q_inst M_Q_gossip := ⟨wd_349, by decide +kernel⟩
theorem se_Q_gossip : q_sel M_Q_gossip := ⟨wd_350, by decide +kernel⟩
def M_Q_isCopy : qM := (⟨"RedoQuorum", "isCopy", "(II)Z"⟩, prog_1_method_22_code, 2, some .boolean)
theorem cd_Q_isCopy : q_code M_Q_isCopy 2 := ⟨⟨wd_354, by decide +kernel⟩, ⟨wd_1, by decide +kernel⟩, ⟨by decide +kernel, by decide +kernel⟩, by decide +kernel⟩
theorem st_Q_isCopy : q_stat M_Q_isCopy := ⟨wd_353, by decide +kernel⟩
def M_C_takeAllOf : qM := (⟨"RedoQuorum$StorageCopy", "takeAllOf", "(LRedoQuorum$StorageCopy;)I"⟩, prog_5_method_6_code, 4, some .int)
theorem cd_C_takeAllOf : q_code M_C_takeAllOf 1 := ⟨⟨wd_358, by decide +kernel⟩, ⟨wd_5, by decide +kernel⟩, ⟨by decide +kernel, by decide +kernel⟩, by decide +kernel⟩
theorem in_C_takeAllOf : q_inst M_C_takeAllOf := ⟨wd_356, by decide +kernel⟩
theorem se_C_takeAllOf : q_sel M_C_takeAllOf := ⟨wd_357, by decide +kernel⟩
def M_Q_report : qM := (⟨"RedoQuorum", "report", "(II)I"⟩, prog_1_method_11_code, 5, some .int)
theorem cd_Q_report : q_code M_Q_report 2 := ⟨⟨wd_364, by decide +kernel⟩, ⟨wd_1, by decide +kernel⟩, ⟨by decide +kernel, by decide +kernel⟩, by decide +kernel⟩
theorem in_Q_report : q_inst M_Q_report := ⟨wd_362, by decide +kernel⟩
theorem se_Q_report : q_sel M_Q_report := ⟨wd_363, by decide +kernel⟩
def M_Q_refusalOfCopy : qM := (⟨"RedoQuorum", "refusalOfCopy", "(II)I"⟩, prog_1_method_29_code, 3, some .int)
theorem cd_Q_refusalOfCopy : q_code M_Q_refusalOfCopy 2 := ⟨⟨wd_368, by decide +kernel⟩, ⟨wd_1, by decide +kernel⟩, ⟨by decide +kernel, by decide +kernel⟩, by decide +kernel⟩
theorem in_Q_refusalOfCopy : q_inst M_Q_refusalOfCopy := ⟨wd_367, by decide +kernel⟩
theorem se_Q_refusalOfCopy : q_sel M_Q_refusalOfCopy := ⟨List.mem_of_getElem? (i := 11) rfl, by decide +kernel⟩
def M_Q_fault : qM := (⟨"RedoQuorum", "fault", "(III)Z"⟩, prog_1_method_12_code, 5, some .boolean)
theorem cd_Q_fault : q_code M_Q_fault 3 := ⟨⟨wd_372, by decide +kernel⟩, ⟨wd_1, by decide +kernel⟩, ⟨by decide +kernel, by decide +kernel⟩, by decide +kernel⟩
theorem in_Q_fault : q_inst M_Q_fault := ⟨wd_370, by decide +kernel⟩
theorem se_Q_fault : q_sel M_Q_fault := ⟨wd_371, by decide +kernel⟩
def M_C_change : qM := (⟨"RedoQuorum$StorageCopy", "change", "(II)Z"⟩, prog_5_method_3_code, 3, some .boolean)
theorem cd_C_change : q_code M_C_change 2 := ⟨⟨wd_376, by decide +kernel⟩, ⟨wd_5, by decide +kernel⟩, ⟨by decide +kernel, by decide +kernel⟩, by decide +kernel⟩
theorem in_C_change : q_inst M_C_change := ⟨wd_374, by decide +kernel⟩
theorem se_C_change : q_sel M_C_change := ⟨wd_375, by decide +kernel⟩
def M_C_lose : qM := (⟨"RedoQuorum$StorageCopy", "lose", "()Z"⟩, prog_5_method_4_code, 1, some .boolean)
theorem cd_C_lose : q_code M_C_lose 0 := ⟨⟨wd_380, by decide +kernel⟩, ⟨wd_5, by decide +kernel⟩, ⟨by decide +kernel, by decide +kernel⟩, by decide +kernel⟩
theorem in_C_lose : q_inst M_C_lose := ⟨wd_378, by decide +kernel⟩
theorem se_C_lose : q_sel M_C_lose := ⟨wd_379, by decide +kernel⟩
def M_C_dropAfter : qM := (⟨"RedoQuorum$StorageCopy", "dropAfter", "(I)V"⟩, prog_5_method_7_code, 3, none)
theorem cd_C_dropAfter : q_code M_C_dropAfter 1 := ⟨⟨wd_384, by decide +kernel⟩, ⟨wd_5, by decide +kernel⟩, ⟨by decide +kernel, by decide +kernel⟩, by decide +kernel⟩
theorem in_C_dropAfter : q_inst M_C_dropAfter := ⟨wd_382, by decide +kernel⟩
theorem se_C_dropAfter : q_sel M_C_dropAfter := ⟨wd_383, by decide +kernel⟩
def M_G_repair : qM := (⟨"RedoQuorum$Group", "repair", "(LRedoQuorum$StorageCopy;)Z"⟩, prog_3_method_7_code, 3, some .boolean)
theorem cd_G_repair : q_code M_G_repair 1 := ⟨⟨wd_388, by decide +kernel⟩, ⟨wd_4, by decide +kernel⟩, ⟨by decide +kernel, by decide +kernel⟩, by decide +kernel⟩
theorem in_G_repair : q_inst M_G_repair := ⟨wd_386, by decide +kernel⟩
theorem se_G_repair : q_sel M_G_repair := ⟨wd_387, by decide +kernel⟩
def M_G_liveCopies : qM := (⟨"RedoQuorum$Group", "liveCopies", "()I"⟩, prog_3_method_2_code, 3, some .int)
theorem cd_G_liveCopies : q_code M_G_liveCopies 0 := ⟨⟨wd_392, by decide +kernel⟩, ⟨wd_4, by decide +kernel⟩, ⟨by decide +kernel, by decide +kernel⟩, by decide +kernel⟩
theorem in_G_liveCopies : q_inst M_G_liveCopies := ⟨wd_390, by decide +kernel⟩
theorem se_G_liveCopies : q_sel M_G_liveCopies := ⟨wd_391, by decide +kernel⟩
def M_Q_crash : qM := (⟨"RedoQuorum", "crash", "()Z"⟩, prog_1_method_13_code, 2, some .boolean)
theorem cd_Q_crash : q_code M_Q_crash 0 := ⟨⟨wd_397, by decide +kernel⟩, ⟨wd_1, by decide +kernel⟩, ⟨by decide +kernel, by decide +kernel⟩, by decide +kernel⟩
theorem in_Q_crash : q_inst M_Q_crash := ⟨wd_395, by decide +kernel⟩
theorem se_Q_crash : q_sel M_Q_crash := ⟨wd_396, by decide +kernel⟩
def M_H_clear : qM := (⟨"RedoQuorum$Cache", "clear", "()V"⟩, prog_2_method_6_code, 1, none)
theorem cd_H_clear : q_code M_H_clear 0 := ⟨⟨wd_401, by decide +kernel⟩, ⟨wd_6, by decide +kernel⟩, ⟨by decide +kernel, by decide +kernel⟩, by decide +kernel⟩
theorem in_H_clear : q_inst M_H_clear := ⟨wd_399, by decide +kernel⟩
theorem se_H_clear : q_sel M_H_clear := ⟨wd_400, by decide +kernel⟩
def M_G_forgetReports : qM := (⟨"RedoQuorum$Group", "forgetReports", "()V"⟩, prog_3_method_9_code, 2, none)
theorem cd_G_forgetReports : q_code M_G_forgetReports 0 := ⟨⟨wd_405, by decide +kernel⟩, ⟨wd_4, by decide +kernel⟩, ⟨by decide +kernel, by decide +kernel⟩, by decide +kernel⟩
theorem in_G_forgetReports : q_inst M_G_forgetReports := ⟨wd_403, by decide +kernel⟩
theorem se_G_forgetReports : q_sel M_G_forgetReports := ⟨wd_404, by decide +kernel⟩
def M_Q_recover : qM := (⟨"RedoQuorum", "recover", "()I"⟩, prog_1_method_14_code, 3, some .int)
theorem cd_Q_recover : q_code M_Q_recover 0 := ⟨⟨wd_409, by decide +kernel⟩, ⟨wd_1, by decide +kernel⟩, ⟨by decide +kernel, by decide +kernel⟩, by decide +kernel⟩
theorem in_Q_recover : q_inst M_Q_recover := ⟨wd_407, by decide +kernel⟩
theorem se_Q_recover : q_sel M_Q_recover := ⟨wd_408, by decide +kernel⟩
def M_Q_reachOfLiveCopies : qM := (⟨"RedoQuorum", "reachOfLiveCopies", "()I"⟩, prog_1_method_35_code, 3, some .int)
theorem cd_Q_reachOfLiveCopies : q_code M_Q_reachOfLiveCopies 0 := ⟨⟨wd_414, by decide +kernel⟩, ⟨wd_1, by decide +kernel⟩, ⟨by decide +kernel, by decide +kernel⟩, by decide +kernel⟩
theorem in_Q_reachOfLiveCopies : q_inst M_Q_reachOfLiveCopies := ⟨wd_413, by decide +kernel⟩
theorem se_Q_reachOfLiveCopies : q_sel M_Q_reachOfLiveCopies := ⟨List.mem_of_getElem? (i := 12) rfl, by decide +kernel⟩
def M_G_liveCopyHolds : qM := (⟨"RedoQuorum$Group", "liveCopyHolds", "(I)Z"⟩, prog_3_method_3_code, 3, some .boolean)
theorem cd_G_liveCopyHolds : q_code M_G_liveCopyHolds 1 := ⟨⟨wd_418, by decide +kernel⟩, ⟨wd_4, by decide +kernel⟩, ⟨by decide +kernel, by decide +kernel⟩, by decide +kernel⟩
theorem in_G_liveCopyHolds : q_inst M_G_liveCopyHolds := ⟨wd_416, by decide +kernel⟩
theorem se_G_liveCopyHolds : q_sel M_G_liveCopyHolds := ⟨wd_417, by decide +kernel⟩
def M_G_dropAfter : qM := (⟨"RedoQuorum$Group", "dropAfter", "(I)V"⟩, prog_3_method_8_code, 3, none)
theorem cd_G_dropAfter : q_code M_G_dropAfter 1 := ⟨⟨wd_422, by decide +kernel⟩, ⟨wd_4, by decide +kernel⟩, ⟨by decide +kernel, by decide +kernel⟩, by decide +kernel⟩
theorem in_G_dropAfter : q_inst M_G_dropAfter := ⟨wd_420, by decide +kernel⟩
theorem se_G_dropAfter : q_sel M_G_dropAfter := ⟨wd_421, by decide +kernel⟩
def M_L_cutAfter : qM := (⟨"RedoQuorum$Log", "cutAfter", "(I)V"⟩, prog_4_method_7_code, 3, none)
theorem cd_L_cutAfter : q_code M_L_cutAfter 1 := ⟨⟨wd_427, by decide +kernel⟩, ⟨wd_2, by decide +kernel⟩, ⟨by decide +kernel, by decide +kernel⟩, by decide +kernel⟩
theorem in_L_cutAfter : q_inst M_L_cutAfter := ⟨wd_425, by decide +kernel⟩
theorem se_L_cutAfter : q_sel M_L_cutAfter := ⟨wd_426, by decide +kernel⟩
def M_G_tellReaches : qM := (⟨"RedoQuorum$Group", "tellReaches", "(LRedoQuorum$Log;)V"⟩, prog_3_method_10_code, 3, none)
theorem cd_G_tellReaches : q_code M_G_tellReaches 1 := ⟨⟨wd_434, by decide +kernel⟩, ⟨wd_4, by decide +kernel⟩, ⟨by decide +kernel, by decide +kernel⟩, by decide +kernel⟩
theorem in_G_tellReaches : q_inst M_G_tellReaches := ⟨wd_432, by decide +kernel⟩
theorem se_G_tellReaches : q_sel M_G_tellReaches := ⟨wd_433, by decide +kernel⟩
def M_T_finishAll : qM := (⟨"RedoQuorum$Transactions", "finishAll", "()V"⟩, prog_6_method_8_code, 2, none)
theorem cd_T_finishAll : q_code M_T_finishAll 0 := ⟨⟨wd_439, by decide +kernel⟩, ⟨wd_3, by decide +kernel⟩, ⟨by decide +kernel, by decide +kernel⟩, by decide +kernel⟩
theorem in_T_finishAll : q_inst M_T_finishAll := ⟨wd_437, by decide +kernel⟩
theorem se_T_finishAll : q_sel M_T_finishAll := ⟨wd_438, by decide +kernel⟩
def M_Q_rollBackUnended : qM := (⟨"RedoQuorum", "rollBackUnended", "()V"⟩, prog_1_method_36_code, 2, none)
theorem cd_Q_rollBackUnended : q_code M_Q_rollBackUnended 0 := ⟨⟨wd_444, by decide +kernel⟩, ⟨wd_1, by decide +kernel⟩, ⟨by decide +kernel, by decide +kernel⟩, by decide +kernel⟩
theorem in_Q_rollBackUnended : q_inst M_Q_rollBackUnended := ⟨wd_443, by decide +kernel⟩
theorem se_Q_rollBackUnended : q_sel M_Q_rollBackUnended := ⟨List.mem_of_getElem? (i := 13) rfl, by decide +kernel⟩
def M_L_hasChangeOf : qM := (⟨"RedoQuorum$Log", "hasChangeOf", "(I)Z"⟩, prog_4_method_15_code, 3, some .boolean)
theorem cd_L_hasChangeOf : q_code M_L_hasChangeOf 1 := ⟨⟨wd_448, by decide +kernel⟩, ⟨wd_2, by decide +kernel⟩, ⟨by decide +kernel, by decide +kernel⟩, by decide +kernel⟩
theorem in_L_hasChangeOf : q_inst M_L_hasChangeOf := ⟨wd_446, by decide +kernel⟩
theorem se_L_hasChangeOf : q_sel M_L_hasChangeOf := ⟨wd_447, by decide +kernel⟩
def M_Q_point : qM := (⟨"RedoQuorum", "point", "(I)I"⟩, prog_1_method_15_code, 2, some .int)
theorem cd_Q_point : q_code M_Q_point 1 := ⟨⟨wd_452, by decide +kernel⟩, ⟨wd_1, by decide +kernel⟩, ⟨by decide +kernel, by decide +kernel⟩, by decide +kernel⟩
theorem in_Q_point : q_inst M_Q_point := ⟨wd_450, by decide +kernel⟩
theorem se_Q_point : q_sel M_Q_point := ⟨wd_451, by decide +kernel⟩
def M_Q_copy : qM := (⟨"RedoQuorum", "copy", "(III)I"⟩, prog_1_method_16_code, 5, some .int)
theorem cd_Q_copy : q_code M_Q_copy 3 := ⟨⟨wd_456, by decide +kernel⟩, ⟨wd_1, by decide +kernel⟩, ⟨by decide +kernel, by decide +kernel⟩, by decide +kernel⟩
theorem in_Q_copy : q_inst M_Q_copy := ⟨wd_454, by decide +kernel⟩
theorem se_Q_copy : q_sel M_Q_copy := ⟨wd_455, by decide +kernel⟩
def M_C_keptUpTo : qM := (⟨"RedoQuorum$StorageCopy", "keptUpTo", "(I)I"⟩, prog_5_method_11_code, 4, some .int)
theorem cd_C_keptUpTo : q_code M_C_keptUpTo 1 := ⟨⟨wd_461, by decide +kernel⟩, ⟨wd_5, by decide +kernel⟩, ⟨by decide +kernel, by decide +kernel⟩, by decide +kernel⟩
theorem in_C_keptUpTo : q_inst M_C_keptUpTo := ⟨wd_459, by decide +kernel⟩
theorem se_C_keptUpTo : q_sel M_C_keptUpTo := ⟨wd_460, by decide +kernel⟩
def M_Q_follow : qM := (⟨"RedoQuorum", "follow", "(I)I"⟩, prog_1_method_17_code, 2, some .int)
theorem cd_Q_follow : q_code M_Q_follow 1 := ⟨⟨wd_465, by decide +kernel⟩, ⟨wd_1, by decide +kernel⟩, ⟨by decide +kernel, by decide +kernel⟩, by decide +kernel⟩
theorem in_Q_follow : q_inst M_Q_follow := ⟨wd_463, by decide +kernel⟩
theorem se_Q_follow : q_sel M_Q_follow := ⟨wd_464, by decide +kernel⟩
def M_Q_isReplica : qM := (⟨"RedoQuorum", "isReplica", "(I)Z"⟩, prog_1_method_23_code, 1, some .boolean)
theorem cd_Q_isReplica : q_code M_Q_isReplica 1 := ⟨⟨wd_468, by decide +kernel⟩, ⟨wd_1, by decide +kernel⟩, ⟨by decide +kernel, by decide +kernel⟩, by decide +kernel⟩
theorem st_Q_isReplica : q_stat M_Q_isReplica := ⟨wd_467, by decide +kernel⟩
def M_Q_view : qM := (⟨"RedoQuorum", "view", "(II)I"⟩, prog_1_method_18_code, 3, some .int)
theorem cd_Q_view : q_code M_Q_view 2 := ⟨⟨wd_472, by decide +kernel⟩, ⟨wd_1, by decide +kernel⟩, ⟨by decide +kernel, by decide +kernel⟩, by decide +kernel⟩
theorem in_Q_view : q_inst M_Q_view := ⟨wd_470, by decide +kernel⟩
theorem se_Q_view : q_sel M_Q_view := ⟨wd_471, by decide +kernel⟩
def M_L_endedValueUpTo : qM := (⟨"RedoQuorum$Log", "endedValueUpTo", "(II)I"⟩, prog_4_method_12_code, 4, some .int)
theorem cd_L_endedValueUpTo : q_code M_L_endedValueUpTo 2 := ⟨⟨wd_476, by decide +kernel⟩, ⟨wd_2, by decide +kernel⟩, ⟨by decide +kernel, by decide +kernel⟩, by decide +kernel⟩
theorem in_L_endedValueUpTo : q_inst M_L_endedValueUpTo := ⟨wd_474, by decide +kernel⟩
theorem se_L_endedValueUpTo : q_sel M_L_endedValueUpTo := ⟨wd_475, by decide +kernel⟩
def M_L_isEndedBy : qM := (⟨"RedoQuorum$Log", "isEndedBy", "(II)Z"⟩, prog_4_method_14_code, 3, some .boolean)
theorem cd_L_isEndedBy : q_code M_L_isEndedBy 2 := ⟨⟨wd_480, by decide +kernel⟩, ⟨wd_2, by decide +kernel⟩, ⟨by decide +kernel, by decide +kernel⟩, by decide +kernel⟩
theorem in_L_isEndedBy : q_inst M_L_isEndedBy := ⟨wd_478, by decide +kernel⟩
theorem se_L_isEndedBy : q_sel M_L_isEndedBy := ⟨wd_479, by decide +kernel⟩
def M_Q_collect : qM := (⟨"RedoQuorum", "collect", "(II)I"⟩, prog_1_method_19_code, 7, some .int)
theorem cd_Q_collect : q_code M_Q_collect 2 := ⟨⟨wd_484, by decide +kernel⟩, ⟨wd_1, by decide +kernel⟩, ⟨by decide +kernel, by decide +kernel⟩, by decide +kernel⟩
theorem in_Q_collect : q_inst M_Q_collect := ⟨wd_482, by decide +kernel⟩
theorem se_Q_collect : q_sel M_Q_collect := ⟨wd_483, by decide +kernel⟩
def M_L_lowOf : qM := (⟨"RedoQuorum$Log", "lowOf", "(I)I"⟩, prog_4_method_17_code, 3, some .int)
theorem cd_L_lowOf : q_code M_L_lowOf 1 := ⟨⟨wd_488, by decide +kernel⟩, ⟨wd_2, by decide +kernel⟩, ⟨by decide +kernel, by decide +kernel⟩, by decide +kernel⟩
theorem in_L_lowOf : q_inst M_L_lowOf := ⟨wd_486, by decide +kernel⟩
theorem se_L_lowOf : q_sel M_L_lowOf := ⟨wd_487, by decide +kernel⟩
def M_C_foldUpTo : qM := (⟨"RedoQuorum$StorageCopy", "foldUpTo", "(I)I"⟩, prog_5_method_12_code, 3, some .int)
theorem cd_C_foldUpTo : q_code M_C_foldUpTo 1 := ⟨⟨wd_493, by decide +kernel⟩, ⟨wd_5, by decide +kernel⟩, ⟨by decide +kernel, by decide +kernel⟩, by decide +kernel⟩
theorem in_C_foldUpTo : q_inst M_C_foldUpTo := ⟨wd_491, by decide +kernel⟩
theorem se_C_foldUpTo : q_sel M_C_foldUpTo := ⟨wd_492, by decide +kernel⟩
def M_Q_cached : qM := (⟨"RedoQuorum", "cached", "(I)I"⟩, prog_1_method_20_code, 2, some .int)
theorem cd_Q_cached : q_code M_Q_cached 1 := ⟨⟨wd_498, by decide +kernel⟩, ⟨wd_1, by decide +kernel⟩, ⟨by decide +kernel, by decide +kernel⟩, by decide +kernel⟩
theorem in_Q_cached : q_inst M_Q_cached := ⟨wd_496, by decide +kernel⟩
theorem se_Q_cached : q_sel M_Q_cached := ⟨wd_497, by decide +kernel⟩
def M_M_init : qM := (⟨"RedoQuorumModel", "<init>", "()V"⟩, prog_8_method_1_code, 1, none)
theorem cd_M_init : q_code M_M_init 0 := ⟨⟨wd_503, by decide +kernel⟩, ⟨wd_7, by decide +kernel⟩, ⟨by decide +kernel, by decide +kernel⟩, by decide +kernel⟩
theorem in_M_init : q_inst M_M_init := ⟨wd_502, by decide +kernel⟩
def M_M_cached : qM := (⟨"RedoQuorumModel", "cached", "(I)I"⟩, prog_8_method_25_code, 3, some .int)
theorem cd_M_cached : q_code M_M_cached 1 := ⟨⟨wd_563, by decide +kernel⟩, ⟨wd_7, by decide +kernel⟩, ⟨by decide +kernel, by decide +kernel⟩, by decide +kernel⟩
theorem in_M_cached : q_inst M_M_cached := ⟨wd_561, by decide +kernel⟩
theorem se_M_cached : q_sel M_M_cached := ⟨wd_562, by decide +kernel⟩
def M_M_placeOf : qM := (⟨"RedoQuorumModel", "placeOf", "(I)I"⟩, prog_8_method_21_code, 3, some .int)
theorem cd_M_placeOf : q_code M_M_placeOf 1 := ⟨⟨wd_567, by decide +kernel⟩, ⟨wd_7, by decide +kernel⟩, ⟨by decide +kernel, by decide +kernel⟩, by decide +kernel⟩
theorem in_M_placeOf : q_inst M_M_placeOf := ⟨wd_566, by decide +kernel⟩
theorem se_M_placeOf : q_sel M_M_placeOf := ⟨List.mem_of_getElem? (i := 14) rfl, by decide +kernel⟩
def M_M_begin : qM := (⟨"RedoQuorumModel", "begin", "()I"⟩, prog_8_method_26_code, 3, some .int)
theorem cd_M_begin : q_code M_M_begin 0 := ⟨⟨wd_571, by decide +kernel⟩, ⟨wd_7, by decide +kernel⟩, ⟨by decide +kernel, by decide +kernel⟩, by decide +kernel⟩
theorem in_M_begin : q_inst M_M_begin := ⟨wd_569, by decide +kernel⟩
theorem se_M_begin : q_sel M_M_begin := ⟨wd_570, by decide +kernel⟩
def M_M_read : qM := (⟨"RedoQuorumModel", "read", "(II)I"⟩, prog_8_method_28_code, 4, some .int)
theorem cd_M_read : q_code M_M_read 2 := ⟨⟨wd_575, by decide +kernel⟩, ⟨wd_7, by decide +kernel⟩, ⟨by decide +kernel, by decide +kernel⟩, by decide +kernel⟩
theorem in_M_read : q_inst M_M_read := ⟨wd_573, by decide +kernel⟩
theorem se_M_read : q_sel M_M_read := ⟨wd_574, by decide +kernel⟩
def M_M_isKey : qM := (⟨"RedoQuorumModel", "isKey", "(I)Z"⟩, prog_8_method_2_code, 1, some .boolean)
theorem cd_M_isKey : q_code M_M_isKey 1 := ⟨⟨wd_578, by decide +kernel⟩, ⟨wd_7, by decide +kernel⟩, ⟨by decide +kernel, by decide +kernel⟩, by decide +kernel⟩
theorem st_M_isKey : q_stat M_M_isKey := ⟨wd_577, by decide +kernel⟩
def M_M_isActive : qM := (⟨"RedoQuorumModel", "isActive", "(I)Z"⟩, prog_8_method_5_code, 2, some .boolean)
theorem cd_M_isActive : q_code M_M_isActive 1 := ⟨⟨wd_582, by decide +kernel⟩, ⟨wd_7, by decide +kernel⟩, ⟨by decide +kernel, by decide +kernel⟩, by decide +kernel⟩
theorem in_M_isActive : q_inst M_M_isActive := ⟨wd_581, by decide +kernel⟩
theorem se_M_isActive : q_sel M_M_isActive := ⟨List.mem_of_getElem? (i := 15) rfl, by decide +kernel⟩
def M_M_locked : qM := (⟨"RedoQuorumModel", "locked", "(II)Z"⟩, prog_8_method_27_code, 3, some .boolean)
theorem cd_M_locked : q_code M_M_locked 2 := ⟨⟨wd_586, by decide +kernel⟩, ⟨wd_7, by decide +kernel⟩, ⟨by decide +kernel, by decide +kernel⟩, by decide +kernel⟩
theorem in_M_locked : q_inst M_M_locked := ⟨wd_585, by decide +kernel⟩
theorem se_M_locked : q_sel M_M_locked := ⟨List.mem_of_getElem? (i := 16) rfl, by decide +kernel⟩
def M_M_touch : qM := (⟨"RedoQuorumModel", "touch", "(II)I"⟩, prog_8_method_24_code, 5, some .int)
theorem cd_M_touch : q_code M_M_touch 2 := ⟨⟨wd_590, by decide +kernel⟩, ⟨wd_7, by decide +kernel⟩, ⟨by decide +kernel, by decide +kernel⟩, by decide +kernel⟩
theorem in_M_touch : q_inst M_M_touch := ⟨wd_589, by decide +kernel⟩
theorem se_M_touch : q_sel M_M_touch := ⟨List.mem_of_getElem? (i := 17) rfl, by decide +kernel⟩
def M_M_goes : qM := (⟨"RedoQuorumModel", "goes", "(I)I"⟩, prog_8_method_23_code, 3, some .int)
theorem cd_M_goes : q_code M_M_goes 1 := ⟨⟨wd_594, by decide +kernel⟩, ⟨wd_7, by decide +kernel⟩, ⟨by decide +kernel, by decide +kernel⟩, by decide +kernel⟩
theorem in_M_goes : q_inst M_M_goes := ⟨wd_593, by decide +kernel⟩
theorem se_M_goes : q_sel M_M_goes := ⟨List.mem_of_getElem? (i := 18) rfl, by decide +kernel⟩
def M_M_latest : qM := (⟨"RedoQuorumModel", "latest", "(I)I"⟩, prog_8_method_8_code, 5, some .int)
theorem cd_M_latest : q_code M_M_latest 1 := ⟨⟨wd_598, by decide +kernel⟩, ⟨wd_7, by decide +kernel⟩, ⟨by decide +kernel, by decide +kernel⟩, by decide +kernel⟩
theorem in_M_latest : q_inst M_M_latest := ⟨wd_597, by decide +kernel⟩
theorem se_M_latest : q_sel M_M_latest := ⟨List.mem_of_getElem? (i := 19) rfl, by decide +kernel⟩
def M_M_changeUpTo : qM := (⟨"RedoQuorumModel", "changeUpTo", "(II)I"⟩, prog_8_method_6_code, 5, some .int)
theorem cd_M_changeUpTo : q_code M_M_changeUpTo 2 := ⟨⟨wd_602, by decide +kernel⟩, ⟨wd_7, by decide +kernel⟩, ⟨by decide +kernel, by decide +kernel⟩, by decide +kernel⟩
theorem in_M_changeUpTo : q_inst M_M_changeUpTo := ⟨wd_601, by decide +kernel⟩
theorem se_M_changeUpTo : q_sel M_M_changeUpTo := ⟨List.mem_of_getElem? (i := 20) rfl, by decide +kernel⟩
def M_M_served : qM := (⟨"RedoQuorumModel", "served", "(II)Z"⟩, prog_8_method_20_code, 6, some .boolean)
theorem cd_M_served : q_code M_M_served 2 := ⟨⟨wd_606, by decide +kernel⟩, ⟨wd_7, by decide +kernel⟩, ⟨by decide +kernel, by decide +kernel⟩, by decide +kernel⟩
theorem in_M_served : q_inst M_M_served := ⟨wd_605, by decide +kernel⟩
theorem se_M_served : q_sel M_M_served := ⟨List.mem_of_getElem? (i := 21) rfl, by decide +kernel⟩
def M_M_groupOf : qM := (⟨"RedoQuorumModel", "groupOf", "(I)I"⟩, prog_8_method_4_code, 2, some .int)
theorem cd_M_groupOf : q_code M_M_groupOf 1 := ⟨⟨wd_610, by decide +kernel⟩, ⟨wd_7, by decide +kernel⟩, ⟨by decide +kernel, by decide +kernel⟩, by decide +kernel⟩
theorem in_M_groupOf : q_inst M_M_groupOf := ⟨wd_609, by decide +kernel⟩
theorem se_M_groupOf : q_sel M_M_groupOf := ⟨List.mem_of_getElem? (i := 22) rfl, by decide +kernel⟩
def M_M_drop : qM := (⟨"RedoQuorumModel", "drop", "(I)V"⟩, prog_8_method_22_code, 3, none)
theorem cd_M_drop : q_code M_M_drop 1 := ⟨⟨wd_614, by decide +kernel⟩, ⟨wd_7, by decide +kernel⟩, ⟨by decide +kernel, by decide +kernel⟩, by decide +kernel⟩
theorem in_M_drop : q_inst M_M_drop := ⟨wd_613, by decide +kernel⟩
theorem se_M_drop : q_sel M_M_drop := ⟨List.mem_of_getElem? (i := 23) rfl, by decide +kernel⟩
def M_M_valueUpTo : qM := (⟨"RedoQuorumModel", "valueUpTo", "(II)I"⟩, prog_8_method_7_code, 4, some .int)
theorem cd_M_valueUpTo : q_code M_M_valueUpTo 2 := ⟨⟨wd_618, by decide +kernel⟩, ⟨wd_7, by decide +kernel⟩, ⟨by decide +kernel, by decide +kernel⟩, by decide +kernel⟩
theorem in_M_valueUpTo : q_inst M_M_valueUpTo := ⟨wd_617, by decide +kernel⟩
theorem se_M_valueUpTo : q_sel M_M_valueUpTo := ⟨List.mem_of_getElem? (i := 24) rfl, by decide +kernel⟩
def M_M_write : qM := (⟨"RedoQuorumModel", "write", "(III)I"⟩, prog_8_method_29_code, 5, some .int)
theorem cd_M_write : q_code M_M_write 3 := ⟨⟨wd_622, by decide +kernel⟩, ⟨wd_7, by decide +kernel⟩, ⟨by decide +kernel, by decide +kernel⟩, by decide +kernel⟩
theorem in_M_write : q_inst M_M_write := ⟨wd_620, by decide +kernel⟩
theorem se_M_write : q_sel M_M_write := ⟨wd_621, by decide +kernel⟩
def M_M_add : qM := (⟨"RedoQuorumModel", "add", "(IIIIZ)I"⟩, prog_8_method_9_code, 7, some .int)
theorem cd_M_add : q_code M_M_add 5 := ⟨⟨wd_626, by decide +kernel⟩, ⟨wd_7, by decide +kernel⟩, ⟨by decide +kernel, by decide +kernel⟩, by decide +kernel⟩
theorem in_M_add : q_inst M_M_add := ⟨wd_625, by decide +kernel⟩
theorem se_M_add : q_sel M_M_add := ⟨List.mem_of_getElem? (i := 25) rfl, by decide +kernel⟩
def M_M_shift : qM := (⟨"RedoQuorumModel", "shift", "(IIII)I"⟩, prog_8_method_30_code, 8, some .int)
theorem cd_M_shift : q_code M_M_shift 4 := ⟨⟨wd_630, by decide +kernel⟩, ⟨wd_7, by decide +kernel⟩, ⟨by decide +kernel, by decide +kernel⟩, by decide +kernel⟩
theorem in_M_shift : q_inst M_M_shift := ⟨wd_628, by decide +kernel⟩
theorem se_M_shift : q_sel M_M_shift := ⟨wd_629, by decide +kernel⟩
def M_M_commit : qM := (⟨"RedoQuorumModel", "commit", "(I)I"⟩, prog_8_method_31_code, 2, some .int)
theorem cd_M_commit : q_code M_M_commit 1 := ⟨⟨wd_634, by decide +kernel⟩, ⟨wd_7, by decide +kernel⟩, ⟨by decide +kernel, by decide +kernel⟩, by decide +kernel⟩
theorem in_M_commit : q_inst M_M_commit := ⟨wd_632, by decide +kernel⟩
theorem se_M_commit : q_sel M_M_commit := ⟨wd_633, by decide +kernel⟩
def M_M_finish : qM := (⟨"RedoQuorumModel", "finish", "(II)I"⟩, prog_8_method_10_code, 4, some .int)
theorem cd_M_finish : q_code M_M_finish 2 := ⟨⟨wd_638, by decide +kernel⟩, ⟨wd_7, by decide +kernel⟩, ⟨by decide +kernel, by decide +kernel⟩, by decide +kernel⟩
theorem in_M_finish : q_inst M_M_finish := ⟨wd_637, by decide +kernel⟩
theorem se_M_finish : q_sel M_M_finish := ⟨List.mem_of_getElem? (i := 26) rfl, by decide +kernel⟩
def M_M_abort : qM := (⟨"RedoQuorumModel", "abort", "(I)I"⟩, prog_8_method_32_code, 2, some .int)
theorem cd_M_abort : q_code M_M_abort 1 := ⟨⟨wd_642, by decide +kernel⟩, ⟨wd_7, by decide +kernel⟩, ⟨by decide +kernel, by decide +kernel⟩, by decide +kernel⟩
theorem in_M_abort : q_inst M_M_abort := ⟨wd_640, by decide +kernel⟩
theorem se_M_abort : q_sel M_M_abort := ⟨wd_641, by decide +kernel⟩
def M_M_rollBack : qM := (⟨"RedoQuorumModel", "rollBack", "(I)I"⟩, prog_8_method_12_code, 6, some .int)
theorem cd_M_rollBack : q_code M_M_rollBack 1 := ⟨⟨wd_646, by decide +kernel⟩, ⟨wd_7, by decide +kernel⟩, ⟨by decide +kernel, by decide +kernel⟩, by decide +kernel⟩
theorem in_M_rollBack : q_inst M_M_rollBack := ⟨wd_645, by decide +kernel⟩
theorem se_M_rollBack : q_sel M_M_rollBack := ⟨List.mem_of_getElem? (i := 27) rfl, by decide +kernel⟩
def M_M_firstChange : qM := (⟨"RedoQuorumModel", "firstChange", "(II)I"⟩, prog_8_method_11_code, 4, some .int)
theorem cd_M_firstChange : q_code M_M_firstChange 2 := ⟨⟨wd_650, by decide +kernel⟩, ⟨wd_7, by decide +kernel⟩, ⟨by decide +kernel, by decide +kernel⟩, by decide +kernel⟩
theorem in_M_firstChange : q_inst M_M_firstChange := ⟨wd_649, by decide +kernel⟩
theorem se_M_firstChange : q_sel M_M_firstChange := ⟨List.mem_of_getElem? (i := 28) rfl, by decide +kernel⟩
def M_M_status : qM := (⟨"RedoQuorumModel", "status", "(I)I"⟩, prog_8_method_33_code, 3, some .int)
theorem cd_M_status : q_code M_M_status 1 := ⟨⟨wd_654, by decide +kernel⟩, ⟨wd_7, by decide +kernel⟩, ⟨by decide +kernel, by decide +kernel⟩, by decide +kernel⟩
theorem in_M_status : q_inst M_M_status := ⟨wd_652, by decide +kernel⟩
theorem se_M_status : q_sel M_M_status := ⟨wd_653, by decide +kernel⟩
def M_M_endOf : qM := (⟨"RedoQuorumModel", "endOf", "(II)I"⟩, prog_8_method_13_code, 4, some .int)
theorem cd_M_endOf : q_code M_M_endOf 2 := ⟨⟨wd_658, by decide +kernel⟩, ⟨wd_7, by decide +kernel⟩, ⟨by decide +kernel, by decide +kernel⟩, by decide +kernel⟩
theorem in_M_endOf : q_inst M_M_endOf := ⟨wd_657, by decide +kernel⟩
theorem se_M_endOf : q_sel M_M_endOf := ⟨List.mem_of_getElem? (i := 29) rfl, by decide +kernel⟩
def M_M_deliver : qM := (⟨"RedoQuorumModel", "deliver", "(II)I"⟩, prog_8_method_34_code, 5, some .int)
theorem cd_M_deliver : q_code M_M_deliver 2 := ⟨⟨wd_662, by decide +kernel⟩, ⟨wd_7, by decide +kernel⟩, ⟨by decide +kernel, by decide +kernel⟩, by decide +kernel⟩
theorem in_M_deliver : q_inst M_M_deliver := ⟨wd_660, by decide +kernel⟩
theorem se_M_deliver : q_sel M_M_deliver := ⟨wd_661, by decide +kernel⟩
def M_M_reportPoint : qM := (⟨"RedoQuorumModel", "reportPoint", "(I)V"⟩, prog_8_method_18_code, 2, none)
theorem cd_M_reportPoint : q_code M_M_reportPoint 1 := ⟨⟨wd_666, by decide +kernel⟩, ⟨wd_7, by decide +kernel⟩, ⟨by decide +kernel, by decide +kernel⟩, by decide +kernel⟩
theorem in_M_reportPoint : q_inst M_M_reportPoint := ⟨wd_665, by decide +kernel⟩
theorem se_M_reportPoint : q_sel M_M_reportPoint := ⟨List.mem_of_getElem? (i := 30) rfl, by decide +kernel⟩
def M_M_pointOf : qM := (⟨"RedoQuorumModel", "pointOf", "(I)I"⟩, prog_8_method_14_code, 5, some .int)
theorem cd_M_pointOf : q_code M_M_pointOf 1 := ⟨⟨wd_670, by decide +kernel⟩, ⟨wd_7, by decide +kernel⟩, ⟨by decide +kernel, by decide +kernel⟩, by decide +kernel⟩
theorem in_M_pointOf : q_inst M_M_pointOf := ⟨wd_669, by decide +kernel⟩
theorem se_M_pointOf : q_sel M_M_pointOf := ⟨List.mem_of_getElem? (i := 31) rfl, by decide +kernel⟩
def M_M_advance : qM := (⟨"RedoQuorumModel", "advance", "()V"⟩, prog_8_method_19_code, 2, none)
theorem cd_M_advance : q_code M_M_advance 0 := ⟨⟨wd_674, by decide +kernel⟩, ⟨wd_7, by decide +kernel⟩, ⟨by decide +kernel, by decide +kernel⟩, by decide +kernel⟩
theorem in_M_advance : q_inst M_M_advance := ⟨wd_673, by decide +kernel⟩
theorem se_M_advance : q_sel M_M_advance := ⟨List.mem_of_getElem? (i := 32) rfl, by decide +kernel⟩
def M_M_complete : qM := (⟨"RedoQuorumModel", "complete", "()I"⟩, prog_8_method_16_code, 4, some .int)
theorem cd_M_complete : q_code M_M_complete 0 := ⟨⟨wd_678, by decide +kernel⟩, ⟨wd_7, by decide +kernel⟩, ⟨by decide +kernel, by decide +kernel⟩, by decide +kernel⟩
theorem in_M_complete : q_inst M_M_complete := ⟨wd_677, by decide +kernel⟩
theorem se_M_complete : q_sel M_M_complete := ⟨List.mem_of_getElem? (i := 33) rfl, by decide +kernel⟩
def M_M_groupPoint : qM := (⟨"RedoQuorumModel", "groupPoint", "(I)I"⟩, prog_8_method_15_code, 6, some .int)
theorem cd_M_groupPoint : q_code M_M_groupPoint 1 := ⟨⟨wd_682, by decide +kernel⟩, ⟨wd_7, by decide +kernel⟩, ⟨by decide +kernel, by decide +kernel⟩, by decide +kernel⟩
theorem in_M_groupPoint : q_inst M_M_groupPoint := ⟨wd_681, by decide +kernel⟩
theorem se_M_groupPoint : q_sel M_M_groupPoint := ⟨List.mem_of_getElem? (i := 34) rfl, by decide +kernel⟩
def M_M_closeUpTo : qM := (⟨"RedoQuorumModel", "closeUpTo", "(I)I"⟩, prog_8_method_17_code, 4, some .int)
theorem cd_M_closeUpTo : q_code M_M_closeUpTo 1 := ⟨⟨wd_686, by decide +kernel⟩, ⟨wd_7, by decide +kernel⟩, ⟨by decide +kernel, by decide +kernel⟩, by decide +kernel⟩
theorem in_M_closeUpTo : q_inst M_M_closeUpTo := ⟨wd_685, by decide +kernel⟩
theorem se_M_closeUpTo : q_sel M_M_closeUpTo := ⟨List.mem_of_getElem? (i := 35) rfl, by decide +kernel⟩
def M_M_gossip : qM := (⟨"RedoQuorumModel", "gossip", "(III)I"⟩, prog_8_method_36_code, 4, some .int)
theorem cd_M_gossip : q_code M_M_gossip 3 := ⟨⟨wd_690, by decide +kernel⟩, ⟨wd_7, by decide +kernel⟩, ⟨by decide +kernel, by decide +kernel⟩, by decide +kernel⟩
theorem in_M_gossip : q_inst M_M_gossip := ⟨wd_688, by decide +kernel⟩
theorem se_M_gossip : q_sel M_M_gossip := ⟨wd_689, by decide +kernel⟩
def M_M_isCopy : qM := (⟨"RedoQuorumModel", "isCopy", "(II)Z"⟩, prog_8_method_3_code, 2, some .boolean)
theorem cd_M_isCopy : q_code M_M_isCopy 2 := ⟨⟨wd_693, by decide +kernel⟩, ⟨wd_7, by decide +kernel⟩, ⟨by decide +kernel, by decide +kernel⟩, by decide +kernel⟩
theorem st_M_isCopy : q_stat M_M_isCopy := ⟨wd_692, by decide +kernel⟩
def M_M_join : qM := (⟨"RedoQuorumModel", "join", "(II)I"⟩, prog_8_method_35_code, 5, some .int)
theorem cd_M_join : q_code M_M_join 2 := ⟨⟨wd_697, by decide +kernel⟩, ⟨wd_7, by decide +kernel⟩, ⟨by decide +kernel, by decide +kernel⟩, by decide +kernel⟩
theorem in_M_join : q_inst M_M_join := ⟨wd_696, by decide +kernel⟩
theorem se_M_join : q_sel M_M_join := ⟨List.mem_of_getElem? (i := 36) rfl, by decide +kernel⟩
def M_M_report : qM := (⟨"RedoQuorumModel", "report", "(II)I"⟩, prog_8_method_37_code, 3, some .int)
theorem cd_M_report : q_code M_M_report 2 := ⟨⟨wd_701, by decide +kernel⟩, ⟨wd_7, by decide +kernel⟩, ⟨by decide +kernel, by decide +kernel⟩, by decide +kernel⟩
theorem in_M_report : q_inst M_M_report := ⟨wd_699, by decide +kernel⟩
theorem se_M_report : q_sel M_M_report := ⟨wd_700, by decide +kernel⟩
def M_M_fault : qM := (⟨"RedoQuorumModel", "fault", "(III)Z"⟩, prog_8_method_39_code, 8, some .boolean)
theorem cd_M_fault : q_code M_M_fault 3 := ⟨⟨wd_705, by decide +kernel⟩, ⟨wd_7, by decide +kernel⟩, ⟨by decide +kernel, by decide +kernel⟩, by decide +kernel⟩
theorem in_M_fault : q_inst M_M_fault := ⟨wd_703, by decide +kernel⟩
theorem se_M_fault : q_sel M_M_fault := ⟨wd_704, by decide +kernel⟩
def M_M_live : qM := (⟨"RedoQuorumModel", "live", "(I)I"⟩, prog_8_method_38_code, 4, some .int)
theorem cd_M_live : q_code M_M_live 1 := ⟨⟨wd_709, by decide +kernel⟩, ⟨wd_7, by decide +kernel⟩, ⟨by decide +kernel, by decide +kernel⟩, by decide +kernel⟩
theorem in_M_live : q_inst M_M_live := ⟨wd_708, by decide +kernel⟩
theorem se_M_live : q_sel M_M_live := ⟨List.mem_of_getElem? (i := 37) rfl, by decide +kernel⟩
def M_M_crash : qM := (⟨"RedoQuorumModel", "crash", "()Z"⟩, prog_8_method_40_code, 2, some .boolean)
theorem cd_M_crash : q_code M_M_crash 0 := ⟨⟨wd_713, by decide +kernel⟩, ⟨wd_7, by decide +kernel⟩, ⟨by decide +kernel, by decide +kernel⟩, by decide +kernel⟩
theorem in_M_crash : q_inst M_M_crash := ⟨wd_711, by decide +kernel⟩
theorem se_M_crash : q_sel M_M_crash := ⟨wd_712, by decide +kernel⟩
def M_M_recover : qM := (⟨"RedoQuorumModel", "recover", "()I"⟩, prog_8_method_42_code, 6, some .int)
theorem cd_M_recover : q_code M_M_recover 0 := ⟨⟨wd_717, by decide +kernel⟩, ⟨wd_7, by decide +kernel⟩, ⟨by decide +kernel, by decide +kernel⟩, by decide +kernel⟩
theorem in_M_recover : q_inst M_M_recover := ⟨wd_715, by decide +kernel⟩
theorem se_M_recover : q_sel M_M_recover := ⟨wd_716, by decide +kernel⟩
def M_M_survives : qM := (⟨"RedoQuorumModel", "survives", "(I)Z"⟩, prog_8_method_41_code, 5, some .boolean)
theorem cd_M_survives : q_code M_M_survives 1 := ⟨⟨wd_721, by decide +kernel⟩, ⟨wd_7, by decide +kernel⟩, ⟨by decide +kernel, by decide +kernel⟩, by decide +kernel⟩
theorem in_M_survives : q_inst M_M_survives := ⟨wd_720, by decide +kernel⟩
theorem se_M_survives : q_sel M_M_survives := ⟨List.mem_of_getElem? (i := 38) rfl, by decide +kernel⟩
def M_M_point : qM := (⟨"RedoQuorumModel", "point", "(I)I"⟩, prog_8_method_43_code, 2, some .int)
theorem cd_M_point : q_code M_M_point 1 := ⟨⟨wd_725, by decide +kernel⟩, ⟨wd_7, by decide +kernel⟩, ⟨by decide +kernel, by decide +kernel⟩, by decide +kernel⟩
theorem in_M_point : q_inst M_M_point := ⟨wd_723, by decide +kernel⟩
theorem se_M_point : q_sel M_M_point := ⟨wd_724, by decide +kernel⟩
def M_M_copy : qM := (⟨"RedoQuorumModel", "copy", "(III)I"⟩, prog_8_method_44_code, 7, some .int)
theorem cd_M_copy : q_code M_M_copy 3 := ⟨⟨wd_729, by decide +kernel⟩, ⟨wd_7, by decide +kernel⟩, ⟨by decide +kernel, by decide +kernel⟩, by decide +kernel⟩
theorem in_M_copy : q_inst M_M_copy := ⟨wd_727, by decide +kernel⟩
theorem se_M_copy : q_sel M_M_copy := ⟨wd_728, by decide +kernel⟩
def M_M_follow : qM := (⟨"RedoQuorumModel", "follow", "(I)I"⟩, prog_8_method_45_code, 2, some .int)
theorem cd_M_follow : q_code M_M_follow 1 := ⟨⟨wd_733, by decide +kernel⟩, ⟨wd_7, by decide +kernel⟩, ⟨by decide +kernel, by decide +kernel⟩, by decide +kernel⟩
theorem in_M_follow : q_inst M_M_follow := ⟨wd_731, by decide +kernel⟩
theorem se_M_follow : q_sel M_M_follow := ⟨wd_732, by decide +kernel⟩
def M_M_view : qM := (⟨"RedoQuorumModel", "view", "(II)I"⟩, prog_8_method_46_code, 6, some .int)
theorem cd_M_view : q_code M_M_view 2 := ⟨⟨wd_737, by decide +kernel⟩, ⟨wd_7, by decide +kernel⟩, ⟨by decide +kernel, by decide +kernel⟩, by decide +kernel⟩
theorem in_M_view : q_inst M_M_view := ⟨wd_735, by decide +kernel⟩
theorem se_M_view : q_sel M_M_view := ⟨wd_736, by decide +kernel⟩
def M_M_collect : qM := (⟨"RedoQuorumModel", "collect", "(II)I"⟩, prog_8_method_48_code, 10, some .int)
theorem cd_M_collect : q_code M_M_collect 2 := ⟨⟨wd_741, by decide +kernel⟩, ⟨wd_7, by decide +kernel⟩, ⟨by decide +kernel, by decide +kernel⟩, by decide +kernel⟩
theorem in_M_collect : q_inst M_M_collect := ⟨wd_739, by decide +kernel⟩
theorem se_M_collect : q_sel M_M_collect := ⟨wd_740, by decide +kernel⟩
def M_M_low : qM := (⟨"RedoQuorumModel", "low", "(I)I"⟩, prog_8_method_47_code, 4, some .int)
theorem cd_M_low : q_code M_M_low 1 := ⟨⟨wd_745, by decide +kernel⟩, ⟨wd_7, by decide +kernel⟩, ⟨by decide +kernel, by decide +kernel⟩, by decide +kernel⟩
theorem in_M_low : q_inst M_M_low := ⟨wd_744, by decide +kernel⟩
theorem se_M_low : q_sel M_M_low := ⟨List.mem_of_getElem? (i := 39) rfl, by decide +kernel⟩
theorem mw_Q1 : Cond.methodLink "RedoQuorum" 1 ⟨"java/lang/Object", "<init>", "()V"⟩ ∈ lw_tbl ∧ q_mv (Cond.methodLink "RedoQuorum" 1 ⟨"java/lang/Object", "<init>", "()V"⟩) = true := ⟨wd_14, by decide +kernel⟩
theorem ml_Q9 : q_mlink "RedoQuorum" 9 M_L_init := Or.inr ⟨"RedoQuorum", wd_19⟩
theorem fl_Q10 : q_link "RedoQuorum" 10 "RedoQuorum" "log" "LRedoQuorum$Log;" := Or.inl ⟨wd_127, by decide +kernel⟩
theorem fw_Q10 : Cond.fieldLink "RedoQuorum" 10 "RedoQuorum" "log" "LRedoQuorum$Log;" ∈ lw_tbl ∧ q_mv (Cond.fieldLink "RedoQuorum" 10 "RedoQuorum" "log" "LRedoQuorum$Log;") = true := ⟨wd_127, by decide +kernel⟩
theorem ml_Q18 : q_mlink "RedoQuorum" 18 M_T_init := Or.inr ⟨"RedoQuorum", wd_53⟩
theorem fl_Q19 : q_link "RedoQuorum" 19 "RedoQuorum" "transactions" "LRedoQuorum$Transactions;" := Or.inl ⟨wd_128, by decide +kernel⟩
theorem fw_Q19 : Cond.fieldLink "RedoQuorum" 19 "RedoQuorum" "transactions" "LRedoQuorum$Transactions;" ∈ lw_tbl ∧ q_mv (Cond.fieldLink "RedoQuorum" 19 "RedoQuorum" "transactions" "LRedoQuorum$Transactions;") = true := ⟨wd_128, by decide +kernel⟩
theorem fl_Q25 : q_link "RedoQuorum" 25 "RedoQuorum" "groups" "[LRedoQuorum$Group;" := Or.inl ⟨wd_129, by decide +kernel⟩
theorem fw_Q25 : Cond.fieldLink "RedoQuorum" 25 "RedoQuorum" "groups" "[LRedoQuorum$Group;" ∈ lw_tbl ∧ q_mv (Cond.fieldLink "RedoQuorum" 25 "RedoQuorum" "groups" "[LRedoQuorum$Group;") = true := ⟨wd_129, by decide +kernel⟩
theorem ml_Q29 : q_mlink "RedoQuorum" 29 M_G_init := Or.inl ⟨wd_75, by decide +kernel⟩
theorem ml_Q34 : q_mlink "RedoQuorum" 34 M_H_init := Or.inr ⟨"RedoQuorum", wd_114⟩
theorem fl_Q35 : q_link "RedoQuorum" 35 "RedoQuorum" "cache" "LRedoQuorum$Cache;" := Or.inl ⟨wd_130, by decide +kernel⟩
theorem fw_Q35 : Cond.fieldLink "RedoQuorum" 35 "RedoQuorum" "cache" "LRedoQuorum$Cache;" ∈ lw_tbl ∧ q_mv (Cond.fieldLink "RedoQuorum" 35 "RedoQuorum" "cache" "LRedoQuorum$Cache;") = true := ⟨wd_130, by decide +kernel⟩
theorem fl_Q39 : q_link "RedoQuorum" 39 "RedoQuorum" "views" "[I" := Or.inl ⟨wd_131, by decide +kernel⟩
theorem fw_Q39 : Cond.fieldLink "RedoQuorum" 39 "RedoQuorum" "views" "[I" ∈ lw_tbl ∧ q_mv (Cond.fieldLink "RedoQuorum" 39 "RedoQuorum" "views" "[I") = true := ⟨wd_131, by decide +kernel⟩
theorem fl_Q43 : q_link "RedoQuorum" 43 "RedoQuorum" "up" "Z" := Or.inl ⟨wd_132, by decide +kernel⟩
theorem fw_Q43 : Cond.fieldLink "RedoQuorum" 43 "RedoQuorum" "up" "Z" ∈ lw_tbl ∧ q_mv (Cond.fieldLink "RedoQuorum" 43 "RedoQuorum" "up" "Z") = true := ⟨wd_132, by decide +kernel⟩
theorem fl_Q47 : q_link "RedoQuorum" 47 "RedoQuorum" "durable" "I" := Or.inl ⟨wd_133, by decide +kernel⟩
theorem fw_Q47 : Cond.fieldLink "RedoQuorum" 47 "RedoQuorum" "durable" "I" ∈ lw_tbl ∧ q_mv (Cond.fieldLink "RedoQuorum" 47 "RedoQuorum" "durable" "I") = true := ⟨wd_133, by decide +kernel⟩
theorem ml_Q51 : q_mlink "RedoQuorum" 51 M_T_isFull := Or.inl ⟨wd_153, by decide +kernel⟩
theorem fl_Q55 : q_link "RedoQuorum" 55 "RedoQuorum$Log" "size" "I" := Or.inr ⟨"RedoQuorum", wd_33⟩
theorem ml_Q58 : q_mlink "RedoQuorum" 58 M_T_start := Or.inl ⟨wd_157, by decide +kernel⟩
theorem ml_Q62 : q_mlink "RedoQuorum" 62 M_Q_isKey := Or.inl ⟨wd_165, by decide +kernel⟩
theorem ml_Q66 : q_mlink "RedoQuorum" 66 M_Q_refusalOfKeys := Or.inl ⟨wd_168, by decide +kernel⟩
theorem ml_Q70 : q_mlink "RedoQuorum" 70 M_Q_pageOf := Or.inl ⟨wd_184, by decide +kernel⟩
theorem ml_Q74 : q_mlink "RedoQuorum" 74 M_Q_touch := Or.inl ⟨wd_187, by decide +kernel⟩
theorem ml_Q78 : q_mlink "RedoQuorum" 78 M_T_hold := Or.inl ⟨wd_239, by decide +kernel⟩
theorem ml_Q82 : q_mlink "RedoQuorum" 82 M_L_valueUpTo := Or.inl ⟨wd_243, by decide +kernel⟩
theorem ml_Q85 : q_mlink "RedoQuorum" 85 M_Q_refusalOfChanges := Or.inl ⟨wd_251, by decide +kernel⟩
theorem ml_Q88 : q_mlink "RedoQuorum" 88 M_L_addChange := Or.inl ⟨wd_255, by decide +kernel⟩
theorem ml_Q92 : q_mlink "RedoQuorum" 92 M_Q_refusalOfTransaction := Or.inl ⟨wd_172, by decide +kernel⟩
theorem ml_Q95 : q_mlink "RedoQuorum" 95 M_T_finish := Or.inl ⟨wd_272, by decide +kernel⟩
theorem ml_Q98 : q_mlink "RedoQuorum" 98 M_L_addEnd := Or.inl ⟨wd_276, by decide +kernel⟩
theorem ml_Q102 : q_mlink "RedoQuorum" 102 M_L_rollBack := Or.inl ⟨wd_287, by decide +kernel⟩
theorem fl_Q105 : q_link "RedoQuorum" 105 "RedoQuorum$Transactions" "begun" "I" := Or.inr ⟨"RedoQuorum", wd_60⟩
theorem ml_Q108 : q_mlink "RedoQuorum" 108 M_T_isActive := Or.inl ⟨wd_176, by decide +kernel⟩
theorem fl_Q111 : q_link "RedoQuorum" 111 "RedoQuorum$Log" "end" "[I" := Or.inr ⟨"RedoQuorum", wd_31⟩
theorem ml_Q114 : q_mlink "RedoQuorum" 114 M_L_commits := Or.inl ⟨wd_302, by decide +kernel⟩
theorem ml_Q117 : q_mlink "RedoQuorum" 117 M_L_has := Or.inl ⟨wd_310, by decide +kernel⟩
theorem fl_Q120 : q_link "RedoQuorum" 120 "RedoQuorum$Log" "group" "[I" := Or.inr ⟨"RedoQuorum", wd_29⟩
theorem fl_Q123 : q_link "RedoQuorum" 123 "RedoQuorum$Group" "copies" "[LRedoQuorum$StorageCopy;" := Or.inr ⟨"RedoQuorum", wd_108⟩
theorem ml_Q127 : q_mlink "RedoQuorum" 127 M_C_isLive := Or.inl ⟨wd_314, by decide +kernel⟩
theorem ml_Q132 : q_mlink "RedoQuorum" 132 M_C_take := Or.inl ⟨wd_315, by decide +kernel⟩
theorem ml_Q135 : q_mlink "RedoQuorum" 135 M_C_tellReach := Or.inl ⟨wd_319, by decide +kernel⟩
theorem ml_Q139 : q_mlink "RedoQuorum" 139 M_Q_raiseDurable := Or.inl ⟨wd_327, by decide +kernel⟩
theorem ml_Q142 : q_mlink "RedoQuorum" 142 M_Q_isCopy := Or.inl ⟨wd_352, by decide +kernel⟩
theorem ml_Q146 : q_mlink "RedoQuorum" 146 M_C_takeAllOf := Or.inl ⟨wd_355, by decide +kernel⟩
theorem ml_Q150 : q_mlink "RedoQuorum" 150 M_Q_refusalOfCopy := Or.inl ⟨wd_365, by decide +kernel⟩
theorem fl_Q153 : q_link "RedoQuorum" 153 "RedoQuorum$StorageCopy" "reported" "I" := Or.inr ⟨"RedoQuorum", wd_95⟩
theorem ml_Q156 : q_mlink "RedoQuorum" 156 M_C_change := Or.inl ⟨wd_373, by decide +kernel⟩
theorem ml_Q159 : q_mlink "RedoQuorum" 159 M_C_lose := Or.inl ⟨wd_377, by decide +kernel⟩
theorem ml_Q162 : q_mlink "RedoQuorum" 162 M_G_repair := Or.inl ⟨wd_385, by decide +kernel⟩
theorem ml_Q166 : q_mlink "RedoQuorum" 166 M_H_clear := Or.inl ⟨wd_398, by decide +kernel⟩
theorem ml_Q169 : q_mlink "RedoQuorum" 169 M_G_forgetReports := Or.inl ⟨wd_402, by decide +kernel⟩
theorem ml_Q172 : q_mlink "RedoQuorum" 172 M_G_liveCopies := Or.inl ⟨wd_410, by decide +kernel⟩
theorem ml_Q175 : q_mlink "RedoQuorum" 175 M_Q_reachOfLiveCopies := Or.inl ⟨wd_411, by decide +kernel⟩
theorem ml_Q178 : q_mlink "RedoQuorum" 178 M_L_lastCloseUpTo := Or.inl ⟨wd_343, by decide +kernel⟩
theorem ml_Q181 : q_mlink "RedoQuorum" 181 M_G_dropAfter := Or.inl ⟨wd_419, by decide +kernel⟩
theorem ml_Q184 : q_mlink "RedoQuorum" 184 M_L_cutAfter := Or.inl ⟨wd_424, by decide +kernel⟩
theorem ml_Q187 : q_mlink "RedoQuorum" 187 M_G_tellReaches := Or.inl ⟨wd_431, by decide +kernel⟩
theorem ml_Q190 : q_mlink "RedoQuorum" 190 M_T_finishAll := Or.inl ⟨wd_436, by decide +kernel⟩
theorem ml_Q193 : q_mlink "RedoQuorum" 193 M_Q_rollBackUnended := Or.inl ⟨wd_441, by decide +kernel⟩
theorem ml_Q196 : q_mlink "RedoQuorum" 196 M_Q_completePoint := Or.inl ⟨wd_331, by decide +kernel⟩
theorem fl_Q199 : q_link "RedoQuorum" 199 "RedoQuorum$StorageCopy" "state" "I" := Or.inr ⟨"RedoQuorum", wd_91⟩
theorem ml_Q202 : q_mlink "RedoQuorum" 202 M_C_reach := Or.inl ⟨wd_457, by decide +kernel⟩
theorem ml_Q206 : q_mlink "RedoQuorum" 206 M_C_keptUpTo := Or.inl ⟨wd_458, by decide +kernel⟩
theorem ml_Q209 : q_mlink "RedoQuorum" 209 M_Q_isReplica := Or.inl ⟨wd_466, by decide +kernel⟩
theorem ml_Q212 : q_mlink "RedoQuorum" 212 M_Q_groupOfPage := Or.inl ⟨wd_224, by decide +kernel⟩
theorem ml_Q215 : q_mlink "RedoQuorum" 215 M_G_serves := Or.inl ⟨wd_227, by decide +kernel⟩
theorem ml_Q219 : q_mlink "RedoQuorum" 219 M_L_endedValueUpTo := Or.inl ⟨wd_473, by decide +kernel⟩
theorem ml_Q222 : q_mlink "RedoQuorum" 222 M_L_lowOf := Or.inl ⟨wd_485, by decide +kernel⟩
theorem mw_Q225 : Cond.methodLink "RedoQuorum" 225 ⟨"java/lang/Math", "min", "(II)I"⟩ ∈ lw_tbl ∧ q_mv (Cond.methodLink "RedoQuorum" 225 ⟨"java/lang/Math", "min", "(II)I"⟩) = true := ⟨wd_489, by decide +kernel⟩
theorem ml_Q230 : q_mlink "RedoQuorum" 230 M_C_foldUpTo := Or.inl ⟨wd_490, by decide +kernel⟩
theorem ml_Q233 : q_mlink "RedoQuorum" 233 M_H_rankOf := Or.inl ⟨wd_191, by decide +kernel⟩
theorem ml_Q236 : q_mlink "RedoQuorum" 236 M_T_mayHold := Or.inl ⟨wd_180, by decide +kernel⟩
theorem ml_Q239 : q_mlink "RedoQuorum" 239 M_H_remove := Or.inl ⟨wd_195, by decide +kernel⟩
theorem ml_Q242 : q_mlink "RedoQuorum" 242 M_H_append := Or.inl ⟨wd_199, by decide +kernel⟩
theorem ml_Q245 : q_mlink "RedoQuorum" 245 M_Q_pageThatMayGo := Or.inl ⟨wd_203, by decide +kernel⟩
theorem ml_Q248 : q_mlink "RedoQuorum" 248 M_Q_isAheadOfDurable := Or.inl ⟨wd_207, by decide +kernel⟩
theorem ml_Q251 : q_mlink "RedoQuorum" 251 M_H_isFull := Or.inl ⟨wd_220, by decide +kernel⟩
theorem fl_Q252 : q_link "RedoQuorum" 252 "RedoQuorum$Cache" "count" "I" := Or.inr ⟨"RedoQuorum", wd_121⟩
theorem fl_Q255 : q_link "RedoQuorum" 255 "RedoQuorum$Cache" "pages" "[I" := Or.inr ⟨"RedoQuorum", wd_119⟩
theorem ml_Q258 : q_mlink "RedoQuorum" 258 M_L_latestOf := Or.inl ⟨wd_211, by decide +kernel⟩
theorem ml_Q261 : q_mlink "RedoQuorum" 261 M_G_quorumPoint := Or.inl ⟨wd_335, by decide +kernel⟩
theorem mw_Q264 : Cond.methodLink "RedoQuorum" 264 ⟨"java/lang/Math", "max", "(II)I"⟩ ∈ lw_tbl ∧ q_mv (Cond.methodLink "RedoQuorum" 264 ⟨"java/lang/Math", "max", "(II)I"⟩) = true := ⟨wd_347, by decide +kernel⟩
theorem ml_Q267 : q_mlink "RedoQuorum" 267 M_G_liveCopyHolds := Or.inl ⟨wd_415, by decide +kernel⟩
theorem ml_Q270 : q_mlink "RedoQuorum" 270 M_L_hasChangeOf := Or.inl ⟨wd_445, by decide +kernel⟩
theorem mw_H1 : Cond.methodLink "RedoQuorum$Cache" 1 ⟨"java/lang/Object", "<init>", "()V"⟩ ∈ lw_tbl ∧ q_mv (Cond.methodLink "RedoQuorum$Cache" 1 ⟨"java/lang/Object", "<init>", "()V"⟩) = true := ⟨wd_117, by decide +kernel⟩
theorem fl_H9 : q_link "RedoQuorum$Cache" 9 "RedoQuorum$Cache" "pages" "[I" := Or.inl ⟨wd_118, by decide +kernel⟩
theorem fw_H9 : Cond.fieldLink "RedoQuorum$Cache" 9 "RedoQuorum$Cache" "pages" "[I" ∈ lw_tbl ∧ q_mv (Cond.fieldLink "RedoQuorum$Cache" 9 "RedoQuorum$Cache" "pages" "[I") = true := ⟨wd_118, by decide +kernel⟩
theorem fl_H13 : q_link "RedoQuorum$Cache" 13 "RedoQuorum$Cache" "count" "I" := Or.inl ⟨wd_120, by decide +kernel⟩
theorem fw_H13 : Cond.fieldLink "RedoQuorum$Cache" 13 "RedoQuorum$Cache" "count" "I" ∈ lw_tbl ∧ q_mv (Cond.fieldLink "RedoQuorum$Cache" 13 "RedoQuorum$Cache" "count" "I") = true := ⟨wd_120, by decide +kernel⟩
theorem mw_G3 : Cond.methodLink "RedoQuorum$Group" 3 ⟨"java/lang/Object", "<init>", "()V"⟩ ∈ lw_tbl ∧ q_mv (Cond.methodLink "RedoQuorum$Group" 3 ⟨"java/lang/Object", "<init>", "()V"⟩) = true := ⟨wd_78, by decide +kernel⟩
theorem fl_G11 : q_link "RedoQuorum$Group" 11 "RedoQuorum$Group" "copies" "[LRedoQuorum$StorageCopy;" := Or.inl ⟨wd_107, by decide +kernel⟩
theorem fw_G11 : Cond.fieldLink "RedoQuorum$Group" 11 "RedoQuorum$Group" "copies" "[LRedoQuorum$StorageCopy;" ∈ lw_tbl ∧ q_mv (Cond.fieldLink "RedoQuorum$Group" 11 "RedoQuorum$Group" "copies" "[LRedoQuorum$StorageCopy;") = true := ⟨wd_107, by decide +kernel⟩
theorem ml_G17 : q_mlink "RedoQuorum$Group" 17 M_C_init := Or.inl ⟨wd_82, by decide +kernel⟩
theorem ml_G20 : q_mlink "RedoQuorum$Group" 20 M_C_isLive := Or.inl ⟨wd_231, by decide +kernel⟩
theorem fl_G24 : q_link "RedoQuorum$Group" 24 "RedoQuorum$StorageCopy" "held" "[Z" := Or.inr ⟨"RedoQuorum", wd_88⟩
theorem ml_G28 : q_mlink "RedoQuorum$Group" 28 M_C_holdsAllUpTo := Or.inl ⟨wd_235, by decide +kernel⟩
theorem fl_G32 : q_link "RedoQuorum$Group" 32 "RedoQuorum$StorageCopy" "reported" "I" := Or.inr ⟨"RedoQuorum", wd_94⟩
theorem ml_G36 : q_mlink "RedoQuorum$Group" 36 M_G_copiesThatReported := Or.inl ⟨wd_339, by decide +kernel⟩
theorem fl_G40 : q_link "RedoQuorum$Group" 40 "RedoQuorum$StorageCopy" "state" "I" := Or.inr ⟨"RedoQuorum", wd_90⟩
theorem ml_G43 : q_mlink "RedoQuorum$Group" 43 M_G_liveCopies := Or.inl ⟨wd_389, by decide +kernel⟩
theorem ml_G47 : q_mlink "RedoQuorum$Group" 47 M_C_takeAllOf := Or.inl ⟨wd_393, by decide +kernel⟩
theorem ml_G51 : q_mlink "RedoQuorum$Group" 51 M_C_dropAfter := Or.inl ⟨wd_423, by decide +kernel⟩
theorem ml_G54 : q_mlink "RedoQuorum$Group" 54 M_C_tellReach := Or.inl ⟨wd_435, by decide +kernel⟩
theorem mw_L3 : Cond.methodLink "RedoQuorum$Log" 3 ⟨"java/lang/Object", "<init>", "()V"⟩ ∈ lw_tbl ∧ q_mv (Cond.methodLink "RedoQuorum$Log" 3 ⟨"java/lang/Object", "<init>", "()V"⟩) = true := ⟨wd_22, by decide +kernel⟩
theorem fl_L11 : q_link "RedoQuorum$Log" 11 "RedoQuorum$Log" "kind" "[I" := Or.inl ⟨wd_23, by decide +kernel⟩
theorem fw_L11 : Cond.fieldLink "RedoQuorum$Log" 11 "RedoQuorum$Log" "kind" "[I" ∈ lw_tbl ∧ q_mv (Cond.fieldLink "RedoQuorum$Log" 11 "RedoQuorum$Log" "kind" "[I") = true := ⟨wd_23, by decide +kernel⟩
theorem fl_L15 : q_link "RedoQuorum$Log" 15 "RedoQuorum$Log" "owner" "[I" := Or.inl ⟨wd_24, by decide +kernel⟩
theorem fw_L15 : Cond.fieldLink "RedoQuorum$Log" 15 "RedoQuorum$Log" "owner" "[I" ∈ lw_tbl ∧ q_mv (Cond.fieldLink "RedoQuorum$Log" 15 "RedoQuorum$Log" "owner" "[I") = true := ⟨wd_24, by decide +kernel⟩
theorem fl_L18 : q_link "RedoQuorum$Log" 18 "RedoQuorum$Log" "key" "[I" := Or.inl ⟨wd_25, by decide +kernel⟩
theorem fw_L18 : Cond.fieldLink "RedoQuorum$Log" 18 "RedoQuorum$Log" "key" "[I" ∈ lw_tbl ∧ q_mv (Cond.fieldLink "RedoQuorum$Log" 18 "RedoQuorum$Log" "key" "[I") = true := ⟨wd_25, by decide +kernel⟩
theorem fl_L21 : q_link "RedoQuorum$Log" 21 "RedoQuorum$Log" "value" "[I" := Or.inl ⟨wd_26, by decide +kernel⟩
theorem fw_L21 : Cond.fieldLink "RedoQuorum$Log" 21 "RedoQuorum$Log" "value" "[I" ∈ lw_tbl ∧ q_mv (Cond.fieldLink "RedoQuorum$Log" 21 "RedoQuorum$Log" "value" "[I") = true := ⟨wd_26, by decide +kernel⟩
theorem fl_L24 : q_link "RedoQuorum$Log" 24 "RedoQuorum$Log" "group" "[I" := Or.inl ⟨wd_27, by decide +kernel⟩
theorem fw_L24 : Cond.fieldLink "RedoQuorum$Log" 24 "RedoQuorum$Log" "group" "[I" ∈ lw_tbl ∧ q_mv (Cond.fieldLink "RedoQuorum$Log" 24 "RedoQuorum$Log" "group" "[I") = true := ⟨wd_27, by decide +kernel⟩
theorem fl_L27 : q_link "RedoQuorum$Log" 27 "RedoQuorum$Log" "end" "[I" := Or.inl ⟨wd_30, by decide +kernel⟩
theorem fw_L27 : Cond.fieldLink "RedoQuorum$Log" 27 "RedoQuorum$Log" "end" "[I" ∈ lw_tbl ∧ q_mv (Cond.fieldLink "RedoQuorum$Log" 27 "RedoQuorum$Log" "end" "[I") = true := ⟨wd_30, by decide +kernel⟩
theorem fl_L30 : q_link "RedoQuorum$Log" 30 "RedoQuorum$Log" "size" "I" := Or.inl ⟨wd_32, by decide +kernel⟩
theorem fw_L30 : Cond.fieldLink "RedoQuorum$Log" 30 "RedoQuorum$Log" "size" "I" ∈ lw_tbl ∧ q_mv (Cond.fieldLink "RedoQuorum$Log" 30 "RedoQuorum$Log" "size" "I") = true := ⟨wd_32, by decide +kernel⟩
theorem ml_L34 : q_mlink "RedoQuorum$Log" 34 M_Q_pageOf := Or.inr ⟨"RedoQuorum", wd_219⟩
theorem ml_L38 : q_mlink "RedoQuorum$Log" 38 M_Q_groupOfPage := Or.inr ⟨"RedoQuorum", wd_259⟩
theorem ml_L41 : q_mlink "RedoQuorum$Log" 41 M_L_add := Or.inl ⟨wd_260, by decide +kernel⟩
theorem mw_L45 : Cond.methodLink "RedoQuorum$Log" 45 ⟨"java/lang/Math", "max", "(II)I"⟩ ∈ lw_tbl ∧ q_mv (Cond.methodLink "RedoQuorum$Log" 45 ⟨"java/lang/Math", "max", "(II)I"⟩) = true := ⟨wd_280, by decide +kernel⟩
theorem ml_L51 : q_mlink "RedoQuorum$Log" 51 M_L_firstChange := Or.inl ⟨wd_291, by decide +kernel⟩
theorem ml_L54 : q_mlink "RedoQuorum$Log" 54 M_L_valueUpTo := Or.inl ⟨wd_295, by decide +kernel⟩
theorem ml_L57 : q_mlink "RedoQuorum$Log" 57 M_L_addChange := Or.inl ⟨wd_296, by decide +kernel⟩
theorem ml_L61 : q_mlink "RedoQuorum$Log" 61 M_L_addEnd := Or.inl ⟨wd_297, by decide +kernel⟩
theorem mw_L65 : Cond.methodLink "RedoQuorum$Log" 65 ⟨"java/lang/Math", "min", "(II)I"⟩ ∈ lw_tbl ∧ q_mv (Cond.methodLink "RedoQuorum$Log" 65 ⟨"java/lang/Math", "min", "(II)I"⟩) = true := ⟨wd_428, by decide +kernel⟩
theorem ml_L68 : q_mlink "RedoQuorum$Log" 68 M_L_isEndedBy := Or.inl ⟨wd_477, by decide +kernel⟩
theorem ml_L72 : q_mlink "RedoQuorum$Log" 72 M_L_isEnd := Or.inl ⟨wd_215, by decide +kernel⟩
theorem mw_C1 : Cond.methodLink "RedoQuorum$StorageCopy" 1 ⟨"java/lang/Object", "<init>", "()V"⟩ ∈ lw_tbl ∧ q_mv (Cond.methodLink "RedoQuorum$StorageCopy" 1 ⟨"java/lang/Object", "<init>", "()V"⟩) = true := ⟨wd_85, by decide +kernel⟩
theorem fl_C9 : q_link "RedoQuorum$StorageCopy" 9 "RedoQuorum$StorageCopy" "held" "[Z" := Or.inl ⟨wd_87, by decide +kernel⟩
theorem fw_C9 : Cond.fieldLink "RedoQuorum$StorageCopy" 9 "RedoQuorum$StorageCopy" "held" "[Z" ∈ lw_tbl ∧ q_mv (Cond.fieldLink "RedoQuorum$StorageCopy" 9 "RedoQuorum$StorageCopy" "held" "[Z") = true := ⟨wd_87, by decide +kernel⟩
theorem fl_C15 : q_link "RedoQuorum$StorageCopy" 15 "RedoQuorum$StorageCopy" "state" "I" := Or.inl ⟨wd_89, by decide +kernel⟩
theorem fw_C15 : Cond.fieldLink "RedoQuorum$StorageCopy" 15 "RedoQuorum$StorageCopy" "state" "I" ∈ lw_tbl ∧ q_mv (Cond.fieldLink "RedoQuorum$StorageCopy" 15 "RedoQuorum$StorageCopy" "state" "I") = true := ⟨wd_89, by decide +kernel⟩
theorem fl_C19 : q_link "RedoQuorum$StorageCopy" 19 "RedoQuorum$StorageCopy" "fold" "I" := Or.inl ⟨wd_92, by decide +kernel⟩
theorem fw_C19 : Cond.fieldLink "RedoQuorum$StorageCopy" 19 "RedoQuorum$StorageCopy" "fold" "I" ∈ lw_tbl ∧ q_mv (Cond.fieldLink "RedoQuorum$StorageCopy" 19 "RedoQuorum$StorageCopy" "fold" "I") = true := ⟨wd_92, by decide +kernel⟩
theorem fl_C22 : q_link "RedoQuorum$StorageCopy" 22 "RedoQuorum$StorageCopy" "reported" "I" := Or.inl ⟨wd_93, by decide +kernel⟩
theorem fw_C22 : Cond.fieldLink "RedoQuorum$StorageCopy" 22 "RedoQuorum$StorageCopy" "reported" "I" ∈ lw_tbl ∧ q_mv (Cond.fieldLink "RedoQuorum$StorageCopy" 22 "RedoQuorum$StorageCopy" "reported" "I") = true := ⟨wd_93, by decide +kernel⟩
theorem fl_C25 : q_link "RedoQuorum$StorageCopy" 25 "RedoQuorum$StorageCopy" "group" "I" := Or.inl ⟨wd_86, by decide +kernel⟩
theorem fw_C25 : Cond.fieldLink "RedoQuorum$StorageCopy" 25 "RedoQuorum$StorageCopy" "group" "I" ∈ lw_tbl ∧ q_mv (Cond.fieldLink "RedoQuorum$StorageCopy" 25 "RedoQuorum$StorageCopy" "group" "I") = true := ⟨wd_86, by decide +kernel⟩
theorem ml_C28 : q_mlink "RedoQuorum$StorageCopy" 28 M_C_dropAfter := Or.inl ⟨wd_381, by decide +kernel⟩
theorem ml_C32 : q_mlink "RedoQuorum$StorageCopy" 32 M_C_take := Or.inl ⟨wd_359, by decide +kernel⟩
theorem mw_C36 : Cond.methodLink "RedoQuorum$StorageCopy" 36 ⟨"java/lang/Math", "max", "(II)I"⟩ ∈ lw_tbl ∧ q_mv (Cond.methodLink "RedoQuorum$StorageCopy" 36 ⟨"java/lang/Math", "max", "(II)I"⟩) = true := ⟨wd_360, by decide +kernel⟩
theorem fl_C42 : q_link "RedoQuorum$StorageCopy" 42 "RedoQuorum$Log" "size" "I" := Or.inr ⟨"RedoQuorum", wd_34⟩
theorem fl_C45 : q_link "RedoQuorum$StorageCopy" 45 "RedoQuorum$Log" "group" "[I" := Or.inr ⟨"RedoQuorum", wd_28⟩
theorem ml_C48 : q_mlink "RedoQuorum$StorageCopy" 48 M_C_reach := Or.inl ⟨wd_323, by decide +kernel⟩
theorem ml_C52 : q_mlink "RedoQuorum$StorageCopy" 52 M_C_keptUpTo := Or.inl ⟨wd_494, by decide +kernel⟩
theorem mw_T3 : Cond.methodLink "RedoQuorum$Transactions" 3 ⟨"java/lang/Object", "<init>", "()V"⟩ ∈ lw_tbl ∧ q_mv (Cond.methodLink "RedoQuorum$Transactions" 3 ⟨"java/lang/Object", "<init>", "()V"⟩) = true := ⟨wd_56, by decide +kernel⟩
theorem fl_T9 : q_link "RedoQuorum$Transactions" 9 "RedoQuorum$Transactions" "active" "[Z" := Or.inl ⟨wd_57, by decide +kernel⟩
theorem fw_T9 : Cond.fieldLink "RedoQuorum$Transactions" 9 "RedoQuorum$Transactions" "active" "[Z" ∈ lw_tbl ∧ q_mv (Cond.fieldLink "RedoQuorum$Transactions" 9 "RedoQuorum$Transactions" "active" "[Z") = true := ⟨wd_57, by decide +kernel⟩
theorem fl_T15 : q_link "RedoQuorum$Transactions" 15 "RedoQuorum$Transactions" "holder" "[I" := Or.inl ⟨wd_58, by decide +kernel⟩
theorem fw_T15 : Cond.fieldLink "RedoQuorum$Transactions" 15 "RedoQuorum$Transactions" "holder" "[I" ∈ lw_tbl ∧ q_mv (Cond.fieldLink "RedoQuorum$Transactions" 15 "RedoQuorum$Transactions" "holder" "[I") = true := ⟨wd_58, by decide +kernel⟩
theorem fl_T19 : q_link "RedoQuorum$Transactions" 19 "RedoQuorum$Transactions" "begun" "I" := Or.inl ⟨wd_59, by decide +kernel⟩
theorem fw_T19 : Cond.fieldLink "RedoQuorum$Transactions" 19 "RedoQuorum$Transactions" "begun" "I" ∈ lw_tbl ∧ q_mv (Cond.fieldLink "RedoQuorum$Transactions" 19 "RedoQuorum$Transactions" "begun" "I") = true := ⟨wd_59, by decide +kernel⟩
theorem fl_T23 : q_link "RedoQuorum$Transactions" 23 "RedoQuorum$Transactions" "activeCount" "I" := Or.inl ⟨wd_61, by decide +kernel⟩
theorem fw_T23 : Cond.fieldLink "RedoQuorum$Transactions" 23 "RedoQuorum$Transactions" "activeCount" "I" ∈ lw_tbl ∧ q_mv (Cond.fieldLink "RedoQuorum$Transactions" 23 "RedoQuorum$Transactions" "activeCount" "I") = true := ⟨wd_61, by decide +kernel⟩
theorem ml_T26 : q_mlink "RedoQuorum$Transactions" 26 M_T_finish := Or.inl ⟨wd_440, by decide +kernel⟩
theorem ml_W9 : q_mlink "RedoQuorumLaw" 9 M_Q_init := Or.inl ⟨wd_11, by decide +kernel⟩
theorem ml_W12 : q_mlink "RedoQuorumLaw" 12 M_M_init := Or.inl ⟨wd_501, by decide +kernel⟩
theorem ml_W13 : q_mlink "RedoQuorumLaw" 13 M_Q_begin := Or.inl ⟨wd_149, by decide +kernel⟩
theorem ml_W17 : q_mlink "RedoQuorumLaw" 17 M_M_begin := Or.inl ⟨wd_568, by decide +kernel⟩
theorem ml_W18 : q_mlink "RedoQuorumLaw" 18 M_Q_read := Or.inl ⟨wd_161, by decide +kernel⟩
theorem ml_W22 : q_mlink "RedoQuorumLaw" 22 M_M_read := Or.inl ⟨wd_572, by decide +kernel⟩
theorem ml_W23 : q_mlink "RedoQuorumLaw" 23 M_Q_write := Or.inl ⟨wd_247, by decide +kernel⟩
theorem ml_W27 : q_mlink "RedoQuorumLaw" 27 M_M_write := Or.inl ⟨wd_619, by decide +kernel⟩
theorem ml_W28 : q_mlink "RedoQuorumLaw" 28 M_Q_shift := Or.inl ⟨wd_264, by decide +kernel⟩
theorem ml_W32 : q_mlink "RedoQuorumLaw" 32 M_M_shift := Or.inl ⟨wd_627, by decide +kernel⟩
theorem ml_W33 : q_mlink "RedoQuorumLaw" 33 M_Q_commit := Or.inl ⟨wd_268, by decide +kernel⟩
theorem ml_W37 : q_mlink "RedoQuorumLaw" 37 M_M_commit := Or.inl ⟨wd_631, by decide +kernel⟩
theorem ml_W38 : q_mlink "RedoQuorumLaw" 38 M_Q_abort := Or.inl ⟨wd_283, by decide +kernel⟩
theorem ml_W41 : q_mlink "RedoQuorumLaw" 41 M_M_abort := Or.inl ⟨wd_639, by decide +kernel⟩
theorem ml_W42 : q_mlink "RedoQuorumLaw" 42 M_Q_status := Or.inl ⟨wd_298, by decide +kernel⟩
theorem ml_W45 : q_mlink "RedoQuorumLaw" 45 M_M_status := Or.inl ⟨wd_651, by decide +kernel⟩
theorem ml_W46 : q_mlink "RedoQuorumLaw" 46 M_Q_deliver := Or.inl ⟨wd_306, by decide +kernel⟩
theorem ml_W49 : q_mlink "RedoQuorumLaw" 49 M_M_deliver := Or.inl ⟨wd_659, by decide +kernel⟩
theorem ml_W50 : q_mlink "RedoQuorumLaw" 50 M_Q_gossip := Or.inl ⟨wd_348, by decide +kernel⟩
theorem ml_W53 : q_mlink "RedoQuorumLaw" 53 M_M_gossip := Or.inl ⟨wd_687, by decide +kernel⟩
theorem ml_W54 : q_mlink "RedoQuorumLaw" 54 M_Q_report := Or.inl ⟨wd_361, by decide +kernel⟩
theorem ml_W57 : q_mlink "RedoQuorumLaw" 57 M_M_report := Or.inl ⟨wd_698, by decide +kernel⟩
theorem ml_W58 : q_mlink "RedoQuorumLaw" 58 M_Q_fault := Or.inl ⟨wd_369, by decide +kernel⟩
theorem ml_W62 : q_mlink "RedoQuorumLaw" 62 M_M_fault := Or.inl ⟨wd_702, by decide +kernel⟩
theorem ml_W63 : q_mlink "RedoQuorumLaw" 63 M_Q_crash := Or.inl ⟨wd_394, by decide +kernel⟩
theorem ml_W67 : q_mlink "RedoQuorumLaw" 67 M_M_crash := Or.inl ⟨wd_710, by decide +kernel⟩
theorem ml_W68 : q_mlink "RedoQuorumLaw" 68 M_Q_recover := Or.inl ⟨wd_406, by decide +kernel⟩
theorem ml_W71 : q_mlink "RedoQuorumLaw" 71 M_M_recover := Or.inl ⟨wd_714, by decide +kernel⟩
theorem ml_W72 : q_mlink "RedoQuorumLaw" 72 M_Q_point := Or.inl ⟨wd_449, by decide +kernel⟩
theorem ml_W75 : q_mlink "RedoQuorumLaw" 75 M_M_point := Or.inl ⟨wd_722, by decide +kernel⟩
theorem ml_W76 : q_mlink "RedoQuorumLaw" 76 M_Q_copy := Or.inl ⟨wd_453, by decide +kernel⟩
theorem ml_W79 : q_mlink "RedoQuorumLaw" 79 M_M_copy := Or.inl ⟨wd_726, by decide +kernel⟩
theorem ml_W80 : q_mlink "RedoQuorumLaw" 80 M_Q_follow := Or.inl ⟨wd_462, by decide +kernel⟩
theorem ml_W83 : q_mlink "RedoQuorumLaw" 83 M_M_follow := Or.inl ⟨wd_730, by decide +kernel⟩
theorem ml_W84 : q_mlink "RedoQuorumLaw" 84 M_Q_view := Or.inl ⟨wd_469, by decide +kernel⟩
theorem ml_W87 : q_mlink "RedoQuorumLaw" 87 M_M_view := Or.inl ⟨wd_734, by decide +kernel⟩
theorem ml_W88 : q_mlink "RedoQuorumLaw" 88 M_Q_collect := Or.inl ⟨wd_481, by decide +kernel⟩
theorem ml_W91 : q_mlink "RedoQuorumLaw" 91 M_M_collect := Or.inl ⟨wd_738, by decide +kernel⟩
theorem ml_W92 : q_mlink "RedoQuorumLaw" 92 M_Q_cached := Or.inl ⟨wd_495, by decide +kernel⟩
theorem ml_W95 : q_mlink "RedoQuorumLaw" 95 M_M_cached := Or.inl ⟨wd_560, by decide +kernel⟩
theorem mw_M1 : Cond.methodLink "RedoQuorumModel" 1 ⟨"java/lang/Object", "<init>", "()V"⟩ ∈ lw_tbl ∧ q_mv (Cond.methodLink "RedoQuorumModel" 1 ⟨"java/lang/Object", "<init>", "()V"⟩) = true := ⟨wd_504, by decide +kernel⟩
theorem fl_M7 : q_link "RedoQuorumModel" 7 "RedoQuorumModel" "owner" "[I" := Or.inl ⟨wd_506, by decide +kernel⟩
theorem fw_M7 : Cond.fieldLink "RedoQuorumModel" 7 "RedoQuorumModel" "owner" "[I" ∈ lw_tbl ∧ q_mv (Cond.fieldLink "RedoQuorumModel" 7 "RedoQuorumModel" "owner" "[I") = true := ⟨wd_506, by decide +kernel⟩
theorem fl_M13 : q_link "RedoQuorumModel" 13 "RedoQuorumModel" "keyOf" "[I" := Or.inl ⟨wd_507, by decide +kernel⟩
theorem fw_M13 : Cond.fieldLink "RedoQuorumModel" 13 "RedoQuorumModel" "keyOf" "[I" ∈ lw_tbl ∧ q_mv (Cond.fieldLink "RedoQuorumModel" 13 "RedoQuorumModel" "keyOf" "[I") = true := ⟨wd_507, by decide +kernel⟩
theorem fl_M16 : q_link "RedoQuorumModel" 16 "RedoQuorumModel" "valueOf" "[I" := Or.inl ⟨wd_508, by decide +kernel⟩
theorem fw_M16 : Cond.fieldLink "RedoQuorumModel" 16 "RedoQuorumModel" "valueOf" "[I" ∈ lw_tbl ∧ q_mv (Cond.fieldLink "RedoQuorumModel" 16 "RedoQuorumModel" "valueOf" "[I") = true := ⟨wd_508, by decide +kernel⟩
theorem fl_M19 : q_link "RedoQuorumModel" 19 "RedoQuorumModel" "ends" "[I" := Or.inl ⟨wd_509, by decide +kernel⟩
theorem fw_M19 : Cond.fieldLink "RedoQuorumModel" 19 "RedoQuorumModel" "ends" "[I" ∈ lw_tbl ∧ q_mv (Cond.fieldLink "RedoQuorumModel" 19 "RedoQuorumModel" "ends" "[I") = true := ⟨wd_509, by decide +kernel⟩
theorem fl_M22 : q_link "RedoQuorumModel" 22 "RedoQuorumModel" "closes" "[Z" := Or.inl ⟨wd_510, by decide +kernel⟩
theorem fw_M22 : Cond.fieldLink "RedoQuorumModel" 22 "RedoQuorumModel" "closes" "[Z" ∈ lw_tbl ∧ q_mv (Cond.fieldLink "RedoQuorumModel" 22 "RedoQuorumModel" "closes" "[Z") = true := ⟨wd_510, by decide +kernel⟩
theorem fl_M26 : q_link "RedoQuorumModel" 26 "RedoQuorumModel" "holds" "[Z" := Or.inl ⟨wd_511, by decide +kernel⟩
theorem fw_M26 : Cond.fieldLink "RedoQuorumModel" 26 "RedoQuorumModel" "holds" "[Z" ∈ lw_tbl ∧ q_mv (Cond.fieldLink "RedoQuorumModel" 26 "RedoQuorumModel" "holds" "[Z") = true := ⟨wd_511, by decide +kernel⟩
theorem fl_M29 : q_link "RedoQuorumModel" 29 "RedoQuorumModel" "stateOf" "[I" := Or.inl ⟨wd_512, by decide +kernel⟩
theorem fw_M29 : Cond.fieldLink "RedoQuorumModel" 29 "RedoQuorumModel" "stateOf" "[I" ∈ lw_tbl ∧ q_mv (Cond.fieldLink "RedoQuorumModel" 29 "RedoQuorumModel" "stateOf" "[I") = true := ⟨wd_512, by decide +kernel⟩
theorem fl_M32 : q_link "RedoQuorumModel" 32 "RedoQuorumModel" "fold" "[I" := Or.inl ⟨wd_513, by decide +kernel⟩
theorem fw_M32 : Cond.fieldLink "RedoQuorumModel" 32 "RedoQuorumModel" "fold" "[I" ∈ lw_tbl ∧ q_mv (Cond.fieldLink "RedoQuorumModel" 32 "RedoQuorumModel" "fold" "[I") = true := ⟨wd_513, by decide +kernel⟩
theorem fl_M35 : q_link "RedoQuorumModel" 35 "RedoQuorumModel" "reported" "[I" := Or.inl ⟨wd_514, by decide +kernel⟩
theorem fw_M35 : Cond.fieldLink "RedoQuorumModel" 35 "RedoQuorumModel" "reported" "[I" ∈ lw_tbl ∧ q_mv (Cond.fieldLink "RedoQuorumModel" 35 "RedoQuorumModel" "reported" "[I") = true := ⟨wd_514, by decide +kernel⟩
theorem fl_M38 : q_link "RedoQuorumModel" 38 "RedoQuorumModel" "active" "[Z" := Or.inl ⟨wd_518, by decide +kernel⟩
theorem fw_M38 : Cond.fieldLink "RedoQuorumModel" 38 "RedoQuorumModel" "active" "[Z" ∈ lw_tbl ∧ q_mv (Cond.fieldLink "RedoQuorumModel" 38 "RedoQuorumModel" "active" "[Z") = true := ⟨wd_518, by decide +kernel⟩
theorem fl_M41 : q_link "RedoQuorumModel" 41 "RedoQuorumModel" "heldBy" "[I" := Or.inl ⟨wd_519, by decide +kernel⟩
theorem fw_M41 : Cond.fieldLink "RedoQuorumModel" 41 "RedoQuorumModel" "heldBy" "[I" ∈ lw_tbl ∧ q_mv (Cond.fieldLink "RedoQuorumModel" 41 "RedoQuorumModel" "heldBy" "[I") = true := ⟨wd_519, by decide +kernel⟩
theorem fl_M44 : q_link "RedoQuorumModel" 44 "RedoQuorumModel" "cache" "[I" := Or.inl ⟨wd_520, by decide +kernel⟩
theorem fw_M44 : Cond.fieldLink "RedoQuorumModel" 44 "RedoQuorumModel" "cache" "[I" ∈ lw_tbl ∧ q_mv (Cond.fieldLink "RedoQuorumModel" 44 "RedoQuorumModel" "cache" "[I") = true := ⟨wd_520, by decide +kernel⟩
theorem fl_M47 : q_link "RedoQuorumModel" 47 "RedoQuorumModel" "views" "[I" := Or.inl ⟨wd_522, by decide +kernel⟩
theorem fw_M47 : Cond.fieldLink "RedoQuorumModel" 47 "RedoQuorumModel" "views" "[I" ∈ lw_tbl ∧ q_mv (Cond.fieldLink "RedoQuorumModel" 47 "RedoQuorumModel" "views" "[I") = true := ⟨wd_522, by decide +kernel⟩
theorem fl_M50 : q_link "RedoQuorumModel" 50 "RedoQuorumModel" "begun" "I" := Or.inl ⟨wd_517, by decide +kernel⟩
theorem fw_M50 : Cond.fieldLink "RedoQuorumModel" 50 "RedoQuorumModel" "begun" "I" ∈ lw_tbl ∧ q_mv (Cond.fieldLink "RedoQuorumModel" 50 "RedoQuorumModel" "begun" "I") = true := ⟨wd_517, by decide +kernel⟩
theorem fl_M54 : q_link "RedoQuorumModel" 54 "RedoQuorumModel" "n" "I" := Or.inl ⟨wd_505, by decide +kernel⟩
theorem fw_M54 : Cond.fieldLink "RedoQuorumModel" 54 "RedoQuorumModel" "n" "I" ∈ lw_tbl ∧ q_mv (Cond.fieldLink "RedoQuorumModel" 54 "RedoQuorumModel" "n" "I") = true := ⟨wd_505, by decide +kernel⟩
theorem ml_M57 : q_mlink "RedoQuorumModel" 57 M_M_changeUpTo := Or.inl ⟨wd_599, by decide +kernel⟩
theorem ml_M61 : q_mlink "RedoQuorumModel" 61 M_M_add := Or.inl ⟨wd_623, by decide +kernel⟩
theorem ml_M65 : q_mlink "RedoQuorumModel" 65 M_M_firstChange := Or.inl ⟨wd_647, by decide +kernel⟩
theorem ml_M68 : q_mlink "RedoQuorumModel" 68 M_M_valueUpTo := Or.inl ⟨wd_615, by decide +kernel⟩
theorem ml_M71 : q_mlink "RedoQuorumModel" 71 M_M_finish := Or.inl ⟨wd_635, by decide +kernel⟩
theorem ml_M74 : q_mlink "RedoQuorumModel" 74 M_M_groupOf := Or.inl ⟨wd_607, by decide +kernel⟩
theorem ml_M78 : q_mlink "RedoQuorumModel" 78 M_M_groupPoint := Or.inl ⟨wd_679, by decide +kernel⟩
theorem ml_M81 : q_mlink "RedoQuorumModel" 81 M_M_pointOf := Or.inl ⟨wd_667, by decide +kernel⟩
theorem ml_M84 : q_mlink "RedoQuorumModel" 84 M_M_advance := Or.inl ⟨wd_671, by decide +kernel⟩
theorem ml_M87 : q_mlink "RedoQuorumModel" 87 M_M_complete := Or.inl ⟨wd_675, by decide +kernel⟩
theorem ml_M91 : q_mlink "RedoQuorumModel" 91 M_M_closeUpTo := Or.inl ⟨wd_683, by decide +kernel⟩
theorem fl_M94 : q_link "RedoQuorumModel" 94 "RedoQuorumModel" "durable" "I" := Or.inl ⟨wd_516, by decide +kernel⟩
theorem fw_M94 : Cond.fieldLink "RedoQuorumModel" 94 "RedoQuorumModel" "durable" "I" ∈ lw_tbl ∧ q_mv (Cond.fieldLink "RedoQuorumModel" 94 "RedoQuorumModel" "durable" "I") = true := ⟨wd_516, by decide +kernel⟩
theorem fl_M97 : q_link "RedoQuorumModel" 97 "RedoQuorumModel" "pages" "I" := Or.inl ⟨wd_521, by decide +kernel⟩
theorem fw_M97 : Cond.fieldLink "RedoQuorumModel" 97 "RedoQuorumModel" "pages" "I" ∈ lw_tbl ∧ q_mv (Cond.fieldLink "RedoQuorumModel" 97 "RedoQuorumModel" "pages" "I") = true := ⟨wd_521, by decide +kernel⟩
theorem ml_M100 : q_mlink "RedoQuorumModel" 100 M_M_latest := Or.inl ⟨wd_595, by decide +kernel⟩
theorem ml_M103 : q_mlink "RedoQuorumModel" 103 M_M_placeOf := Or.inl ⟨wd_564, by decide +kernel⟩
theorem ml_M106 : q_mlink "RedoQuorumModel" 106 M_M_goes := Or.inl ⟨wd_591, by decide +kernel⟩
theorem ml_M109 : q_mlink "RedoQuorumModel" 109 M_M_served := Or.inl ⟨wd_603, by decide +kernel⟩
theorem ml_M113 : q_mlink "RedoQuorumModel" 113 M_M_drop := Or.inl ⟨wd_611, by decide +kernel⟩
theorem fl_M117 : q_link "RedoQuorumModel" 117 "RedoQuorumModel" "down" "Z" := Or.inl ⟨wd_515, by decide +kernel⟩
theorem fw_M117 : Cond.fieldLink "RedoQuorumModel" 117 "RedoQuorumModel" "down" "Z" ∈ lw_tbl ∧ q_mv (Cond.fieldLink "RedoQuorumModel" 117 "RedoQuorumModel" "down" "Z") = true := ⟨wd_515, by decide +kernel⟩
theorem ml_M121 : q_mlink "RedoQuorumModel" 121 M_M_isKey := Or.inl ⟨wd_576, by decide +kernel⟩
theorem ml_M125 : q_mlink "RedoQuorumModel" 125 M_M_isActive := Or.inl ⟨wd_579, by decide +kernel⟩
theorem ml_M128 : q_mlink "RedoQuorumModel" 128 M_M_locked := Or.inl ⟨wd_583, by decide +kernel⟩
theorem ml_M131 : q_mlink "RedoQuorumModel" 131 M_M_touch := Or.inl ⟨wd_587, by decide +kernel⟩
theorem ml_M134 : q_mlink "RedoQuorumModel" 134 M_M_rollBack := Or.inl ⟨wd_643, by decide +kernel⟩
theorem ml_M137 : q_mlink "RedoQuorumModel" 137 M_M_endOf := Or.inl ⟨wd_655, by decide +kernel⟩
theorem ml_M140 : q_mlink "RedoQuorumModel" 140 M_M_reportPoint := Or.inl ⟨wd_663, by decide +kernel⟩
theorem ml_M143 : q_mlink "RedoQuorumModel" 143 M_M_isCopy := Or.inl ⟨wd_691, by decide +kernel⟩
theorem ml_M146 : q_mlink "RedoQuorumModel" 146 M_M_join := Or.inl ⟨wd_694, by decide +kernel⟩
theorem ml_M149 : q_mlink "RedoQuorumModel" 149 M_M_live := Or.inl ⟨wd_706, by decide +kernel⟩
theorem ml_M152 : q_mlink "RedoQuorumModel" 152 M_M_survives := Or.inl ⟨wd_718, by decide +kernel⟩
theorem ml_M155 : q_mlink "RedoQuorumModel" 155 M_M_low := Or.inl ⟨wd_742, by decide +kernel⟩
theorem ob_1 : Cond.instanceMethod ⟨"java/lang/Object", "<init>", "()V"⟩ ∈ lw_tbl ∧ q_mv (Cond.instanceMethod ⟨"java/lang/Object", "<init>", "()V"⟩) = true := ⟨wd_15, by decide +kernel⟩
theorem ob_2 : Cond.code ⟨"java/lang/Object", "<init>", "()V"⟩ object_method_1_code 1 (none : Option Jvm.ClassFile.FieldType) ∈ lw_tbl ∧ q_mv (Cond.code ⟨"java/lang/Object", "<init>", "()V"⟩ object_method_1_code 1 (none : Option Jvm.ClassFile.FieldType)) = true := ⟨wd_16, by decide +kernel⟩
theorem mt_0 : Cond.initialized "java/lang/Math" ∈ lw_tbl ∧ q_mv (Cond.initialized "java/lang/Math") = true := ⟨wd_8, by decide +kernel⟩
theorem mx_1 : Cond.static ⟨"java/lang/Math", "max", "(II)I"⟩ ∈ lw_tbl ∧ q_mv (Cond.static ⟨"java/lang/Math", "max", "(II)I"⟩) = true := ⟨wd_281, by decide +kernel⟩
theorem mx_2 : Cond.code ⟨"java/lang/Math", "max", "(II)I"⟩ prog_9_method_65_code 2 (some .int) ∈ lw_tbl ∧ q_mv (Cond.code ⟨"java/lang/Math", "max", "(II)I"⟩ prog_9_method_65_code 2 (some .int)) = true := ⟨wd_282, by decide +kernel⟩
theorem mn_1 : Cond.static ⟨"java/lang/Math", "min", "(II)I"⟩ ∈ lw_tbl ∧ q_mv (Cond.static ⟨"java/lang/Math", "min", "(II)I"⟩) = true := ⟨wd_429, by decide +kernel⟩
theorem mn_2 : Cond.code ⟨"java/lang/Math", "min", "(II)I"⟩ prog_9_method_69_code 2 (some .int) ∈ lw_tbl ∧ q_mv (Cond.code ⟨"java/lang/Math", "min", "(II)I"⟩ prog_9_method_69_code 2 (some .int)) = true := ⟨wd_430, by decide +kernel⟩
theorem ac_0 : Cond.arrayClass .int ∈ lw_tbl ∧ q_mv (Cond.arrayClass .int) = true := ⟨wd_50, by decide +kernel⟩
theorem ac_1 : Cond.arrayClass .boolean ∈ lw_tbl ∧ q_mv (Cond.arrayClass .boolean) = true := ⟨wd_71, by decide +kernel⟩
theorem ao_2 : Cond.arrayOver (.object "RedoQuorum$Group") ∈ lw_tbl ∧ q_mv (Cond.arrayOver (.object "RedoQuorum$Group")) = true := ⟨wd_73, by decide +kernel⟩
theorem ao_3 : Cond.arrayOver (.object "RedoQuorum$StorageCopy") ∈ lw_tbl ∧ q_mv (Cond.arrayOver (.object "RedoQuorum$StorageCopy")) = true := ⟨wd_80, by decide +kernel⟩
theorem ii_W : Cond.initialized "RedoQuorumLaw" ∈ lw_tbl ∧ q_mv (Cond.initialized "RedoQuorumLaw") = true := ⟨wd_0, by decide +kernel⟩
theorem ii_Q : Cond.initialized "RedoQuorum" ∈ lw_tbl ∧ q_mv (Cond.initialized "RedoQuorum") = true := ⟨wd_1, by decide +kernel⟩
theorem ii_L : Cond.initialized "RedoQuorum$Log" ∈ lw_tbl ∧ q_mv (Cond.initialized "RedoQuorum$Log") = true := ⟨wd_2, by decide +kernel⟩
theorem ii_T : Cond.initialized "RedoQuorum$Transactions" ∈ lw_tbl ∧ q_mv (Cond.initialized "RedoQuorum$Transactions") = true := ⟨wd_3, by decide +kernel⟩
theorem ii_G : Cond.initialized "RedoQuorum$Group" ∈ lw_tbl ∧ q_mv (Cond.initialized "RedoQuorum$Group") = true := ⟨wd_4, by decide +kernel⟩
theorem ii_C : Cond.initialized "RedoQuorum$StorageCopy" ∈ lw_tbl ∧ q_mv (Cond.initialized "RedoQuorum$StorageCopy") = true := ⟨wd_5, by decide +kernel⟩
theorem ii_H : Cond.initialized "RedoQuorum$Cache" ∈ lw_tbl ∧ q_mv (Cond.initialized "RedoQuorum$Cache") = true := ⟨wd_6, by decide +kernel⟩
theorem ii_M : Cond.initialized "RedoQuorumModel" ∈ lw_tbl ∧ q_mv (Cond.initialized "RedoQuorumModel") = true := ⟨wd_7, by decide +kernel⟩
theorem cl_W7 : Cond.classLink "RedoQuorumLaw" 7 "RedoQuorum" ∈ lw_tbl ∧ q_mv (Cond.classLink "RedoQuorumLaw" 7 "RedoQuorum") = true := ⟨wd_9, by decide +kernel⟩
theorem is_Q : Cond.instantiable "RedoQuorum" 7 ∈ lw_tbl ∧ q_mv (Cond.instantiable "RedoQuorum" 7) = true := ⟨wd_10, by decide +kernel⟩
theorem cl_Q7 : Cond.classLink "RedoQuorum" 7 "RedoQuorum$Log" ∈ lw_tbl ∧ q_mv (Cond.classLink "RedoQuorum" 7 "RedoQuorum$Log") = true := ⟨wd_17, by decide +kernel⟩
theorem is_L : Cond.instantiable "RedoQuorum$Log" 7 ∈ lw_tbl ∧ q_mv (Cond.instantiable "RedoQuorum$Log" 7) = true := ⟨wd_18, by decide +kernel⟩
theorem cl_Q16 : Cond.classLink "RedoQuorum" 16 "RedoQuorum$Transactions" ∈ lw_tbl ∧ q_mv (Cond.classLink "RedoQuorum" 16 "RedoQuorum$Transactions") = true := ⟨wd_51, by decide +kernel⟩
theorem is_T : Cond.instantiable "RedoQuorum$Transactions" 4 ∈ lw_tbl ∧ q_mv (Cond.instantiable "RedoQuorum$Transactions" 4) = true := ⟨wd_52, by decide +kernel⟩
theorem cl_Q23 : Cond.classLink "RedoQuorum" 23 "RedoQuorum$Group" ∈ lw_tbl ∧ q_mv (Cond.classLink "RedoQuorum" 23 "RedoQuorum$Group") = true := ⟨wd_72, by decide +kernel⟩
theorem is_G : Cond.instantiable "RedoQuorum$Group" 1 ∈ lw_tbl ∧ q_mv (Cond.instantiable "RedoQuorum$Group" 1) = true := ⟨wd_74, by decide +kernel⟩
theorem cl_G9 : Cond.classLink "RedoQuorum$Group" 9 "RedoQuorum$StorageCopy" ∈ lw_tbl ∧ q_mv (Cond.classLink "RedoQuorum$Group" 9 "RedoQuorum$StorageCopy") = true := ⟨wd_79, by decide +kernel⟩
theorem is_C : Cond.instantiable "RedoQuorum$StorageCopy" 5 ∈ lw_tbl ∧ q_mv (Cond.instantiable "RedoQuorum$StorageCopy" 5) = true := ⟨wd_81, by decide +kernel⟩
theorem cl_Q32 : Cond.classLink "RedoQuorum" 32 "RedoQuorum$Cache" ∈ lw_tbl ∧ q_mv (Cond.classLink "RedoQuorum" 32 "RedoQuorum$Cache") = true := ⟨wd_112, by decide +kernel⟩
theorem is_H : Cond.instantiable "RedoQuorum$Cache" 2 ∈ lw_tbl ∧ q_mv (Cond.instantiable "RedoQuorum$Cache" 2) = true := ⟨wd_113, by decide +kernel⟩
theorem cl_W10 : Cond.classLink "RedoQuorumLaw" 10 "RedoQuorumModel" ∈ lw_tbl ∧ q_mv (Cond.classLink "RedoQuorumLaw" 10 "RedoQuorumModel") = true := ⟨wd_499, by decide +kernel⟩
theorem is_M : Cond.instantiable "RedoQuorumModel" 18 ∈ lw_tbl ∧ q_mv (Cond.instantiable "RedoQuorumModel" 18) = true := ⟨wd_500, by decide +kernel⟩
def M_W_law : qM := (x, code, 4, some .boolean)
end
section
/-! Decode rows (by program, wip/whole/gen.py). -/
theorem dH_init_0 : decode M_H_init.2.1 0 = .ok (.aload_n 0, 1) := by decide +kernel
theorem dH_init_1 : decode M_H_init.2.1 1 = .ok (.invokespecial 1, 3) := by decide +kernel
theorem dH_init_4 : decode M_H_init.2.1 4 = .ok (.aload_n 0, 1) := by decide +kernel
theorem dH_init_5 : decode M_H_init.2.1 5 = .ok (.iconst 4, 1) := by decide +kernel
theorem dH_init_6 : decode M_H_init.2.1 6 = .ok (.newarray .int, 2) := by decide +kernel
theorem dH_init_8 : decode M_H_init.2.1 8 = .ok (.putfield 9, 3) := by decide +kernel
theorem dH_init_11 : decode M_H_init.2.1 11 = .ok (.aload_n 0, 1) := by decide +kernel
theorem dH_init_12 : decode M_H_init.2.1 12 = .ok (.iconst 0, 1) := by decide +kernel
theorem dH_init_13 : decode M_H_init.2.1 13 = .ok (.putfield 13, 3) := by decide +kernel
theorem dH_init_16 : decode M_H_init.2.1 16 = .ok (.return_, 1) := by decide +kernel
theorem dH_isFull_0 : decode M_H_isFull.2.1 0 = .ok (.aload_n 0, 1) := by decide +kernel
theorem dH_isFull_1 : decode M_H_isFull.2.1 1 = .ok (.getfield 13, 3) := by decide +kernel
theorem dH_isFull_4 : decode M_H_isFull.2.1 4 = .ok (.iconst 4, 1) := by decide +kernel
theorem dH_isFull_5 : decode M_H_isFull.2.1 5 = .ok (.if_icmp .lt 7, 3) := by decide +kernel
theorem dH_isFull_8 : decode M_H_isFull.2.1 8 = .ok (.iconst 1, 1) := by decide +kernel
theorem dH_isFull_9 : decode M_H_isFull.2.1 9 = .ok (.goto 4, 3) := by decide +kernel
theorem dH_isFull_12 : decode M_H_isFull.2.1 12 = .ok (.iconst 0, 1) := by decide +kernel
theorem dH_isFull_13 : decode M_H_isFull.2.1 13 = .ok (.ireturn, 1) := by decide +kernel
theorem dH_rankOf_0 : decode M_H_rankOf.2.1 0 = .ok (.iconst 0, 1) := by decide +kernel
theorem dH_rankOf_1 : decode M_H_rankOf.2.1 1 = .ok (.istore_n 2, 1) := by decide +kernel
theorem dH_rankOf_2 : decode M_H_rankOf.2.1 2 = .ok (.iload_n 2, 1) := by decide +kernel
theorem dH_rankOf_3 : decode M_H_rankOf.2.1 3 = .ok (.aload_n 0, 1) := by decide +kernel
theorem dH_rankOf_4 : decode M_H_rankOf.2.1 4 = .ok (.getfield 13, 3) := by decide +kernel
theorem dH_rankOf_7 : decode M_H_rankOf.2.1 7 = .ok (.if_icmp .ge 26, 3) := by decide +kernel
theorem dH_rankOf_10 : decode M_H_rankOf.2.1 10 = .ok (.aload_n 0, 1) := by decide +kernel
theorem dH_rankOf_11 : decode M_H_rankOf.2.1 11 = .ok (.getfield 9, 3) := by decide +kernel
theorem dH_rankOf_14 : decode M_H_rankOf.2.1 14 = .ok (.iload_n 2, 1) := by decide +kernel
theorem dH_rankOf_15 : decode M_H_rankOf.2.1 15 = .ok (.iaload, 1) := by decide +kernel
theorem dH_rankOf_16 : decode M_H_rankOf.2.1 16 = .ok (.iload_n 1, 1) := by decide +kernel
theorem dH_rankOf_17 : decode M_H_rankOf.2.1 17 = .ok (.if_icmp .ne 10, 3) := by decide +kernel
theorem dH_rankOf_20 : decode M_H_rankOf.2.1 20 = .ok (.aload_n 0, 1) := by decide +kernel
theorem dH_rankOf_21 : decode M_H_rankOf.2.1 21 = .ok (.getfield 13, 3) := by decide +kernel
theorem dH_rankOf_24 : decode M_H_rankOf.2.1 24 = .ok (.iload_n 2, 1) := by decide +kernel
theorem dH_rankOf_25 : decode M_H_rankOf.2.1 25 = .ok (.isub, 1) := by decide +kernel
theorem dH_rankOf_26 : decode M_H_rankOf.2.1 26 = .ok (.ireturn, 1) := by decide +kernel
theorem dH_rankOf_27 : decode M_H_rankOf.2.1 27 = .ok (.iinc 2 1, 3) := by decide +kernel
theorem dH_rankOf_30 : decode M_H_rankOf.2.1 30 = .ok (.goto (-28), 3) := by decide +kernel
theorem dH_rankOf_33 : decode M_H_rankOf.2.1 33 = .ok (.iconst 0, 1) := by decide +kernel
theorem dH_rankOf_34 : decode M_H_rankOf.2.1 34 = .ok (.ireturn, 1) := by decide +kernel
theorem dH_append_0 : decode M_H_append.2.1 0 = .ok (.aload_n 0, 1) := by decide +kernel
theorem dH_append_1 : decode M_H_append.2.1 1 = .ok (.getfield 13, 3) := by decide +kernel
theorem dH_append_4 : decode M_H_append.2.1 4 = .ok (.iconst 4, 1) := by decide +kernel
theorem dH_append_5 : decode M_H_append.2.1 5 = .ok (.if_icmp .ge 23, 3) := by decide +kernel
theorem dH_append_8 : decode M_H_append.2.1 8 = .ok (.aload_n 0, 1) := by decide +kernel
theorem dH_append_9 : decode M_H_append.2.1 9 = .ok (.getfield 9, 3) := by decide +kernel
theorem dH_append_12 : decode M_H_append.2.1 12 = .ok (.aload_n 0, 1) := by decide +kernel
theorem dH_append_13 : decode M_H_append.2.1 13 = .ok (.getfield 13, 3) := by decide +kernel
theorem dH_append_16 : decode M_H_append.2.1 16 = .ok (.iload_n 1, 1) := by decide +kernel
theorem dH_append_17 : decode M_H_append.2.1 17 = .ok (.iastore, 1) := by decide +kernel
theorem dH_append_18 : decode M_H_append.2.1 18 = .ok (.aload_n 0, 1) := by decide +kernel
theorem dH_append_19 : decode M_H_append.2.1 19 = .ok (.dup, 1) := by decide +kernel
theorem dH_append_20 : decode M_H_append.2.1 20 = .ok (.getfield 13, 3) := by decide +kernel
theorem dH_append_23 : decode M_H_append.2.1 23 = .ok (.iconst 1, 1) := by decide +kernel
theorem dH_append_24 : decode M_H_append.2.1 24 = .ok (.iadd, 1) := by decide +kernel
theorem dH_append_25 : decode M_H_append.2.1 25 = .ok (.putfield 13, 3) := by decide +kernel
theorem dH_append_28 : decode M_H_append.2.1 28 = .ok (.return_, 1) := by decide +kernel
theorem dH_remove_0 : decode M_H_remove.2.1 0 = .ok (.iconst 0, 1) := by decide +kernel
theorem dH_remove_1 : decode M_H_remove.2.1 1 = .ok (.istore_n 2, 1) := by decide +kernel
theorem dH_remove_2 : decode M_H_remove.2.1 2 = .ok (.iconst 0, 1) := by decide +kernel
theorem dH_remove_3 : decode M_H_remove.2.1 3 = .ok (.istore_n 3, 1) := by decide +kernel
theorem dH_remove_4 : decode M_H_remove.2.1 4 = .ok (.iload_n 3, 1) := by decide +kernel
theorem dH_remove_5 : decode M_H_remove.2.1 5 = .ok (.aload_n 0, 1) := by decide +kernel
theorem dH_remove_6 : decode M_H_remove.2.1 6 = .ok (.getfield 13, 3) := by decide +kernel
theorem dH_remove_9 : decode M_H_remove.2.1 9 = .ok (.if_icmp .ge 34, 3) := by decide +kernel
theorem dH_remove_12 : decode M_H_remove.2.1 12 = .ok (.aload_n 0, 1) := by decide +kernel
theorem dH_remove_13 : decode M_H_remove.2.1 13 = .ok (.getfield 9, 3) := by decide +kernel
theorem dH_remove_16 : decode M_H_remove.2.1 16 = .ok (.iload_n 3, 1) := by decide +kernel
theorem dH_remove_17 : decode M_H_remove.2.1 17 = .ok (.iaload, 1) := by decide +kernel
theorem dH_remove_18 : decode M_H_remove.2.1 18 = .ok (.iload_n 1, 1) := by decide +kernel
theorem dH_remove_19 : decode M_H_remove.2.1 19 = .ok (.if_icmp .eq 18, 3) := by decide +kernel
theorem dH_remove_22 : decode M_H_remove.2.1 22 = .ok (.aload_n 0, 1) := by decide +kernel
theorem dH_remove_23 : decode M_H_remove.2.1 23 = .ok (.getfield 9, 3) := by decide +kernel
theorem dH_remove_26 : decode M_H_remove.2.1 26 = .ok (.iload_n 2, 1) := by decide +kernel
theorem dH_remove_27 : decode M_H_remove.2.1 27 = .ok (.aload_n 0, 1) := by decide +kernel
theorem dH_remove_28 : decode M_H_remove.2.1 28 = .ok (.getfield 9, 3) := by decide +kernel
theorem dH_remove_31 : decode M_H_remove.2.1 31 = .ok (.iload_n 3, 1) := by decide +kernel
theorem dH_remove_32 : decode M_H_remove.2.1 32 = .ok (.iaload, 1) := by decide +kernel
theorem dH_remove_33 : decode M_H_remove.2.1 33 = .ok (.iastore, 1) := by decide +kernel
theorem dH_remove_34 : decode M_H_remove.2.1 34 = .ok (.iinc 2 1, 3) := by decide +kernel
theorem dH_remove_37 : decode M_H_remove.2.1 37 = .ok (.iinc 3 1, 3) := by decide +kernel
theorem dH_remove_40 : decode M_H_remove.2.1 40 = .ok (.goto (-36), 3) := by decide +kernel
theorem dH_remove_43 : decode M_H_remove.2.1 43 = .ok (.aload_n 0, 1) := by decide +kernel
theorem dH_remove_44 : decode M_H_remove.2.1 44 = .ok (.iload_n 2, 1) := by decide +kernel
theorem dH_remove_45 : decode M_H_remove.2.1 45 = .ok (.putfield 13, 3) := by decide +kernel
theorem dH_remove_48 : decode M_H_remove.2.1 48 = .ok (.return_, 1) := by decide +kernel
theorem dH_clear_0 : decode M_H_clear.2.1 0 = .ok (.aload_n 0, 1) := by decide +kernel
theorem dH_clear_1 : decode M_H_clear.2.1 1 = .ok (.iconst 0, 1) := by decide +kernel
theorem dH_clear_2 : decode M_H_clear.2.1 2 = .ok (.putfield 13, 3) := by decide +kernel
theorem dH_clear_5 : decode M_H_clear.2.1 5 = .ok (.return_, 1) := by decide +kernel
theorem dG_init_0 : decode M_G_init.2.1 0 = .ok (.aload_n 0, 1) := by decide +kernel
theorem dG_init_1 : decode M_G_init.2.1 1 = .ok (.invokespecial 3, 3) := by decide +kernel
theorem dG_init_4 : decode M_G_init.2.1 4 = .ok (.aload_n 0, 1) := by decide +kernel
theorem dG_init_5 : decode M_G_init.2.1 5 = .ok (.bipush 6, 2) := by decide +kernel
theorem dG_init_7 : decode M_G_init.2.1 7 = .ok (.anewarray 9, 3) := by decide +kernel
theorem dG_init_10 : decode M_G_init.2.1 10 = .ok (.putfield 11, 3) := by decide +kernel
theorem dG_init_13 : decode M_G_init.2.1 13 = .ok (.iconst 0, 1) := by decide +kernel
theorem dG_init_14 : decode M_G_init.2.1 14 = .ok (.istore_n 2, 1) := by decide +kernel
theorem dG_init_15 : decode M_G_init.2.1 15 = .ok (.iload_n 2, 1) := by decide +kernel
theorem dG_init_16 : decode M_G_init.2.1 16 = .ok (.bipush 6, 2) := by decide +kernel
theorem dG_init_18 : decode M_G_init.2.1 18 = .ok (.if_icmp .ge 23, 3) := by decide +kernel
theorem dG_init_21 : decode M_G_init.2.1 21 = .ok (.aload_n 0, 1) := by decide +kernel
theorem dG_init_22 : decode M_G_init.2.1 22 = .ok (.getfield 11, 3) := by decide +kernel
theorem dG_init_25 : decode M_G_init.2.1 25 = .ok (.iload_n 2, 1) := by decide +kernel
theorem dG_init_26 : decode M_G_init.2.1 26 = .ok (.new 9, 3) := by decide +kernel
theorem dG_init_29 : decode M_G_init.2.1 29 = .ok (.dup, 1) := by decide +kernel
theorem dG_init_30 : decode M_G_init.2.1 30 = .ok (.iload_n 1, 1) := by decide +kernel
theorem dG_init_31 : decode M_G_init.2.1 31 = .ok (.invokespecial 17, 3) := by decide +kernel
theorem dG_init_34 : decode M_G_init.2.1 34 = .ok (.aastore, 1) := by decide +kernel
theorem dG_init_35 : decode M_G_init.2.1 35 = .ok (.iinc 2 1, 3) := by decide +kernel
theorem dG_init_38 : decode M_G_init.2.1 38 = .ok (.goto (-23), 3) := by decide +kernel
theorem dG_init_41 : decode M_G_init.2.1 41 = .ok (.return_, 1) := by decide +kernel
theorem dG_liveCopies_0 : decode M_G_liveCopies.2.1 0 = .ok (.iconst 0, 1) := by decide +kernel
theorem dG_liveCopies_1 : decode M_G_liveCopies.2.1 1 = .ok (.istore_n 1, 1) := by decide +kernel
theorem dG_liveCopies_2 : decode M_G_liveCopies.2.1 2 = .ok (.iconst 0, 1) := by decide +kernel
theorem dG_liveCopies_3 : decode M_G_liveCopies.2.1 3 = .ok (.istore_n 2, 1) := by decide +kernel
theorem dG_liveCopies_4 : decode M_G_liveCopies.2.1 4 = .ok (.iload_n 2, 1) := by decide +kernel
theorem dG_liveCopies_5 : decode M_G_liveCopies.2.1 5 = .ok (.bipush 6, 2) := by decide +kernel
theorem dG_liveCopies_7 : decode M_G_liveCopies.2.1 7 = .ok (.if_icmp .ge 24, 3) := by decide +kernel
theorem dG_liveCopies_10 : decode M_G_liveCopies.2.1 10 = .ok (.aload_n 0, 1) := by decide +kernel
theorem dG_liveCopies_11 : decode M_G_liveCopies.2.1 11 = .ok (.getfield 11, 3) := by decide +kernel
theorem dG_liveCopies_14 : decode M_G_liveCopies.2.1 14 = .ok (.iload_n 2, 1) := by decide +kernel
theorem dG_liveCopies_15 : decode M_G_liveCopies.2.1 15 = .ok (.aaload, 1) := by decide +kernel
theorem dG_liveCopies_16 : decode M_G_liveCopies.2.1 16 = .ok (.invokevirtual 20, 3) := by decide +kernel
theorem dG_liveCopies_19 : decode M_G_liveCopies.2.1 19 = .ok (.ifCond .eq 6, 3) := by decide +kernel
theorem dG_liveCopies_22 : decode M_G_liveCopies.2.1 22 = .ok (.iinc 1 1, 3) := by decide +kernel
theorem dG_liveCopies_25 : decode M_G_liveCopies.2.1 25 = .ok (.iinc 2 1, 3) := by decide +kernel
theorem dG_liveCopies_28 : decode M_G_liveCopies.2.1 28 = .ok (.goto (-24), 3) := by decide +kernel
theorem dG_liveCopies_31 : decode M_G_liveCopies.2.1 31 = .ok (.iload_n 1, 1) := by decide +kernel
theorem dG_liveCopies_32 : decode M_G_liveCopies.2.1 32 = .ok (.ireturn, 1) := by decide +kernel
theorem dG_liveCopyHolds_0 : decode M_G_liveCopyHolds.2.1 0 = .ok (.iconst 0, 1) := by decide +kernel
theorem dG_liveCopyHolds_1 : decode M_G_liveCopyHolds.2.1 1 = .ok (.istore_n 2, 1) := by decide +kernel
theorem dG_liveCopyHolds_2 : decode M_G_liveCopyHolds.2.1 2 = .ok (.iload_n 2, 1) := by decide +kernel
theorem dG_liveCopyHolds_3 : decode M_G_liveCopyHolds.2.1 3 = .ok (.bipush 6, 2) := by decide +kernel
theorem dG_liveCopyHolds_5 : decode M_G_liveCopyHolds.2.1 5 = .ok (.if_icmp .ge 37, 3) := by decide +kernel
theorem dG_liveCopyHolds_8 : decode M_G_liveCopyHolds.2.1 8 = .ok (.aload_n 0, 1) := by decide +kernel
theorem dG_liveCopyHolds_9 : decode M_G_liveCopyHolds.2.1 9 = .ok (.getfield 11, 3) := by decide +kernel
theorem dG_liveCopyHolds_12 : decode M_G_liveCopyHolds.2.1 12 = .ok (.iload_n 2, 1) := by decide +kernel
theorem dG_liveCopyHolds_13 : decode M_G_liveCopyHolds.2.1 13 = .ok (.aaload, 1) := by decide +kernel
theorem dG_liveCopyHolds_14 : decode M_G_liveCopyHolds.2.1 14 = .ok (.invokevirtual 20, 3) := by decide +kernel
theorem dG_liveCopyHolds_17 : decode M_G_liveCopyHolds.2.1 17 = .ok (.ifCond .eq 19, 3) := by decide +kernel
theorem dG_liveCopyHolds_20 : decode M_G_liveCopyHolds.2.1 20 = .ok (.aload_n 0, 1) := by decide +kernel
theorem dG_liveCopyHolds_21 : decode M_G_liveCopyHolds.2.1 21 = .ok (.getfield 11, 3) := by decide +kernel
theorem dG_liveCopyHolds_24 : decode M_G_liveCopyHolds.2.1 24 = .ok (.iload_n 2, 1) := by decide +kernel
theorem dG_liveCopyHolds_25 : decode M_G_liveCopyHolds.2.1 25 = .ok (.aaload, 1) := by decide +kernel
theorem dG_liveCopyHolds_26 : decode M_G_liveCopyHolds.2.1 26 = .ok (.getfield 24, 3) := by decide +kernel
theorem dG_liveCopyHolds_29 : decode M_G_liveCopyHolds.2.1 29 = .ok (.iload_n 1, 1) := by decide +kernel
theorem dG_liveCopyHolds_30 : decode M_G_liveCopyHolds.2.1 30 = .ok (.baload, 1) := by decide +kernel
theorem dG_liveCopyHolds_31 : decode M_G_liveCopyHolds.2.1 31 = .ok (.ifCond .eq 5, 3) := by decide +kernel
theorem dG_liveCopyHolds_34 : decode M_G_liveCopyHolds.2.1 34 = .ok (.iconst 1, 1) := by decide +kernel
theorem dG_liveCopyHolds_35 : decode M_G_liveCopyHolds.2.1 35 = .ok (.ireturn, 1) := by decide +kernel
theorem dG_liveCopyHolds_36 : decode M_G_liveCopyHolds.2.1 36 = .ok (.iinc 2 1, 3) := by decide +kernel
theorem dG_liveCopyHolds_39 : decode M_G_liveCopyHolds.2.1 39 = .ok (.goto (-37), 3) := by decide +kernel
theorem dG_liveCopyHolds_42 : decode M_G_liveCopyHolds.2.1 42 = .ok (.iconst 0, 1) := by decide +kernel
theorem dG_liveCopyHolds_43 : decode M_G_liveCopyHolds.2.1 43 = .ok (.ireturn, 1) := by decide +kernel
theorem dG_serves_0 : decode M_G_serves.2.1 0 = .ok (.iconst 0, 1) := by decide +kernel
theorem dG_serves_1 : decode M_G_serves.2.1 1 = .ok (.istore_n 3, 1) := by decide +kernel
theorem dG_serves_2 : decode M_G_serves.2.1 2 = .ok (.iload_n 3, 1) := by decide +kernel
theorem dG_serves_3 : decode M_G_serves.2.1 3 = .ok (.bipush 6, 2) := by decide +kernel
theorem dG_serves_5 : decode M_G_serves.2.1 5 = .ok (.if_icmp .ge 37, 3) := by decide +kernel
theorem dG_serves_8 : decode M_G_serves.2.1 8 = .ok (.aload_n 0, 1) := by decide +kernel
theorem dG_serves_9 : decode M_G_serves.2.1 9 = .ok (.getfield 11, 3) := by decide +kernel
theorem dG_serves_12 : decode M_G_serves.2.1 12 = .ok (.iload_n 3, 1) := by decide +kernel
theorem dG_serves_13 : decode M_G_serves.2.1 13 = .ok (.aaload, 1) := by decide +kernel
theorem dG_serves_14 : decode M_G_serves.2.1 14 = .ok (.invokevirtual 20, 3) := by decide +kernel
theorem dG_serves_17 : decode M_G_serves.2.1 17 = .ok (.ifCond .eq 19, 3) := by decide +kernel
theorem dG_serves_20 : decode M_G_serves.2.1 20 = .ok (.aload_n 0, 1) := by decide +kernel
theorem dG_serves_21 : decode M_G_serves.2.1 21 = .ok (.getfield 11, 3) := by decide +kernel
theorem dG_serves_24 : decode M_G_serves.2.1 24 = .ok (.iload_n 3, 1) := by decide +kernel
theorem dG_serves_25 : decode M_G_serves.2.1 25 = .ok (.aaload, 1) := by decide +kernel
theorem dG_serves_26 : decode M_G_serves.2.1 26 = .ok (.iload_n 1, 1) := by decide +kernel
theorem dG_serves_27 : decode M_G_serves.2.1 27 = .ok (.aload_n 2, 1) := by decide +kernel
theorem dG_serves_28 : decode M_G_serves.2.1 28 = .ok (.invokevirtual 28, 3) := by decide +kernel
theorem dG_serves_31 : decode M_G_serves.2.1 31 = .ok (.ifCond .eq 5, 3) := by decide +kernel
theorem dG_serves_34 : decode M_G_serves.2.1 34 = .ok (.iconst 1, 1) := by decide +kernel
theorem dG_serves_35 : decode M_G_serves.2.1 35 = .ok (.ireturn, 1) := by decide +kernel
theorem dG_serves_36 : decode M_G_serves.2.1 36 = .ok (.iinc 3 1, 3) := by decide +kernel
theorem dG_serves_39 : decode M_G_serves.2.1 39 = .ok (.goto (-37), 3) := by decide +kernel
theorem dG_serves_42 : decode M_G_serves.2.1 42 = .ok (.iconst 0, 1) := by decide +kernel
theorem dG_serves_43 : decode M_G_serves.2.1 43 = .ok (.ireturn, 1) := by decide +kernel
theorem dG_quorumPoint_0 : decode M_G_quorumPoint.2.1 0 = .ok (.iconst 0, 1) := by decide +kernel
theorem dG_quorumPoint_1 : decode M_G_quorumPoint.2.1 1 = .ok (.istore_n 1, 1) := by decide +kernel
theorem dG_quorumPoint_2 : decode M_G_quorumPoint.2.1 2 = .ok (.iconst 0, 1) := by decide +kernel
theorem dG_quorumPoint_3 : decode M_G_quorumPoint.2.1 3 = .ok (.istore_n 2, 1) := by decide +kernel
theorem dG_quorumPoint_4 : decode M_G_quorumPoint.2.1 4 = .ok (.iload_n 2, 1) := by decide +kernel
theorem dG_quorumPoint_5 : decode M_G_quorumPoint.2.1 5 = .ok (.bipush 6, 2) := by decide +kernel
theorem dG_quorumPoint_7 : decode M_G_quorumPoint.2.1 7 = .ok (.if_icmp .ge 35, 3) := by decide +kernel
theorem dG_quorumPoint_10 : decode M_G_quorumPoint.2.1 10 = .ok (.aload_n 0, 1) := by decide +kernel
theorem dG_quorumPoint_11 : decode M_G_quorumPoint.2.1 11 = .ok (.getfield 11, 3) := by decide +kernel
theorem dG_quorumPoint_14 : decode M_G_quorumPoint.2.1 14 = .ok (.iload_n 2, 1) := by decide +kernel
theorem dG_quorumPoint_15 : decode M_G_quorumPoint.2.1 15 = .ok (.aaload, 1) := by decide +kernel
theorem dG_quorumPoint_16 : decode M_G_quorumPoint.2.1 16 = .ok (.getfield 32, 3) := by decide +kernel
theorem dG_quorumPoint_19 : decode M_G_quorumPoint.2.1 19 = .ok (.istore_n 3, 1) := by decide +kernel
theorem dG_quorumPoint_20 : decode M_G_quorumPoint.2.1 20 = .ok (.iload_n 3, 1) := by decide +kernel
theorem dG_quorumPoint_21 : decode M_G_quorumPoint.2.1 21 = .ok (.iload_n 1, 1) := by decide +kernel
theorem dG_quorumPoint_22 : decode M_G_quorumPoint.2.1 22 = .ok (.if_icmp .le 14, 3) := by decide +kernel
theorem dG_quorumPoint_25 : decode M_G_quorumPoint.2.1 25 = .ok (.aload_n 0, 1) := by decide +kernel
theorem dG_quorumPoint_26 : decode M_G_quorumPoint.2.1 26 = .ok (.iload_n 3, 1) := by decide +kernel
theorem dG_quorumPoint_27 : decode M_G_quorumPoint.2.1 27 = .ok (.invokevirtual 36, 3) := by decide +kernel
theorem dG_quorumPoint_30 : decode M_G_quorumPoint.2.1 30 = .ok (.iconst 4, 1) := by decide +kernel
theorem dG_quorumPoint_31 : decode M_G_quorumPoint.2.1 31 = .ok (.if_icmp .lt 5, 3) := by decide +kernel
theorem dG_quorumPoint_34 : decode M_G_quorumPoint.2.1 34 = .ok (.iload_n 3, 1) := by decide +kernel
theorem dG_quorumPoint_35 : decode M_G_quorumPoint.2.1 35 = .ok (.istore_n 1, 1) := by decide +kernel
theorem dG_quorumPoint_36 : decode M_G_quorumPoint.2.1 36 = .ok (.iinc 2 1, 3) := by decide +kernel
theorem dG_quorumPoint_39 : decode M_G_quorumPoint.2.1 39 = .ok (.goto (-35), 3) := by decide +kernel
theorem dG_quorumPoint_42 : decode M_G_quorumPoint.2.1 42 = .ok (.iload_n 1, 1) := by decide +kernel
theorem dG_quorumPoint_43 : decode M_G_quorumPoint.2.1 43 = .ok (.ireturn, 1) := by decide +kernel
theorem dG_copiesThatReported_0 : decode M_G_copiesThatReported.2.1 0 = .ok (.iconst 0, 1) := by decide +kernel
theorem dG_copiesThatReported_1 : decode M_G_copiesThatReported.2.1 1 = .ok (.istore_n 2, 1) := by decide +kernel
theorem dG_copiesThatReported_2 : decode M_G_copiesThatReported.2.1 2 = .ok (.iconst 0, 1) := by decide +kernel
theorem dG_copiesThatReported_3 : decode M_G_copiesThatReported.2.1 3 = .ok (.istore_n 3, 1) := by decide +kernel
theorem dG_copiesThatReported_4 : decode M_G_copiesThatReported.2.1 4 = .ok (.iload_n 3, 1) := by decide +kernel
theorem dG_copiesThatReported_5 : decode M_G_copiesThatReported.2.1 5 = .ok (.bipush 6, 2) := by decide +kernel
theorem dG_copiesThatReported_7 : decode M_G_copiesThatReported.2.1 7 = .ok (.if_icmp .ge 25, 3) := by decide +kernel
theorem dG_copiesThatReported_10 : decode M_G_copiesThatReported.2.1 10 = .ok (.aload_n 0, 1) := by decide +kernel
theorem dG_copiesThatReported_11 : decode M_G_copiesThatReported.2.1 11 = .ok (.getfield 11, 3) := by decide +kernel
theorem dG_copiesThatReported_14 : decode M_G_copiesThatReported.2.1 14 = .ok (.iload_n 3, 1) := by decide +kernel
theorem dG_copiesThatReported_15 : decode M_G_copiesThatReported.2.1 15 = .ok (.aaload, 1) := by decide +kernel
theorem dG_copiesThatReported_16 : decode M_G_copiesThatReported.2.1 16 = .ok (.getfield 32, 3) := by decide +kernel
theorem dG_copiesThatReported_19 : decode M_G_copiesThatReported.2.1 19 = .ok (.iload_n 1, 1) := by decide +kernel
theorem dG_copiesThatReported_20 : decode M_G_copiesThatReported.2.1 20 = .ok (.if_icmp .lt 6, 3) := by decide +kernel
theorem dG_copiesThatReported_23 : decode M_G_copiesThatReported.2.1 23 = .ok (.iinc 2 1, 3) := by decide +kernel
theorem dG_copiesThatReported_26 : decode M_G_copiesThatReported.2.1 26 = .ok (.iinc 3 1, 3) := by decide +kernel
theorem dG_copiesThatReported_29 : decode M_G_copiesThatReported.2.1 29 = .ok (.goto (-25), 3) := by decide +kernel
theorem dG_copiesThatReported_32 : decode M_G_copiesThatReported.2.1 32 = .ok (.iload_n 2, 1) := by decide +kernel
theorem dG_copiesThatReported_33 : decode M_G_copiesThatReported.2.1 33 = .ok (.ireturn, 1) := by decide +kernel
theorem dG_repair_0 : decode M_G_repair.2.1 0 = .ok (.aload_n 1, 1) := by decide +kernel
theorem dG_repair_1 : decode M_G_repair.2.1 1 = .ok (.getfield 40, 3) := by decide +kernel
theorem dG_repair_4 : decode M_G_repair.2.1 4 = .ok (.iconst 2, 1) := by decide +kernel
theorem dG_repair_5 : decode M_G_repair.2.1 5 = .ok (.if_icmp .ne 11, 3) := by decide +kernel
theorem dG_repair_8 : decode M_G_repair.2.1 8 = .ok (.aload_n 0, 1) := by decide +kernel
theorem dG_repair_9 : decode M_G_repair.2.1 9 = .ok (.invokevirtual 43, 3) := by decide +kernel
theorem dG_repair_12 : decode M_G_repair.2.1 12 = .ok (.iconst 3, 1) := by decide +kernel
theorem dG_repair_13 : decode M_G_repair.2.1 13 = .ok (.if_icmp .ge 5, 3) := by decide +kernel
theorem dG_repair_16 : decode M_G_repair.2.1 16 = .ok (.iconst 0, 1) := by decide +kernel
theorem dG_repair_17 : decode M_G_repair.2.1 17 = .ok (.ireturn, 1) := by decide +kernel
theorem dG_repair_18 : decode M_G_repair.2.1 18 = .ok (.iconst 0, 1) := by decide +kernel
theorem dG_repair_19 : decode M_G_repair.2.1 19 = .ok (.istore_n 2, 1) := by decide +kernel
theorem dG_repair_20 : decode M_G_repair.2.1 20 = .ok (.iload_n 2, 1) := by decide +kernel
theorem dG_repair_21 : decode M_G_repair.2.1 21 = .ok (.bipush 6, 2) := by decide +kernel
theorem dG_repair_23 : decode M_G_repair.2.1 23 = .ok (.if_icmp .ge 32, 3) := by decide +kernel
theorem dG_repair_26 : decode M_G_repair.2.1 26 = .ok (.aload_n 0, 1) := by decide +kernel
theorem dG_repair_27 : decode M_G_repair.2.1 27 = .ok (.getfield 11, 3) := by decide +kernel
theorem dG_repair_30 : decode M_G_repair.2.1 30 = .ok (.iload_n 2, 1) := by decide +kernel
theorem dG_repair_31 : decode M_G_repair.2.1 31 = .ok (.aaload, 1) := by decide +kernel
theorem dG_repair_32 : decode M_G_repair.2.1 32 = .ok (.invokevirtual 20, 3) := by decide +kernel
theorem dG_repair_35 : decode M_G_repair.2.1 35 = .ok (.ifCond .eq 14, 3) := by decide +kernel
theorem dG_repair_38 : decode M_G_repair.2.1 38 = .ok (.aload_n 1, 1) := by decide +kernel
theorem dG_repair_39 : decode M_G_repair.2.1 39 = .ok (.aload_n 0, 1) := by decide +kernel
theorem dG_repair_40 : decode M_G_repair.2.1 40 = .ok (.getfield 11, 3) := by decide +kernel
theorem dG_repair_43 : decode M_G_repair.2.1 43 = .ok (.iload_n 2, 1) := by decide +kernel
theorem dG_repair_44 : decode M_G_repair.2.1 44 = .ok (.aaload, 1) := by decide +kernel
theorem dG_repair_45 : decode M_G_repair.2.1 45 = .ok (.invokevirtual 47, 3) := by decide +kernel
theorem dG_repair_48 : decode M_G_repair.2.1 48 = .ok (.pop, 1) := by decide +kernel
theorem dG_repair_49 : decode M_G_repair.2.1 49 = .ok (.iinc 2 1, 3) := by decide +kernel
theorem dG_repair_52 : decode M_G_repair.2.1 52 = .ok (.goto (-32), 3) := by decide +kernel
theorem dG_repair_55 : decode M_G_repair.2.1 55 = .ok (.aload_n 1, 1) := by decide +kernel
theorem dG_repair_56 : decode M_G_repair.2.1 56 = .ok (.iconst 0, 1) := by decide +kernel
theorem dG_repair_57 : decode M_G_repair.2.1 57 = .ok (.putfield 40, 3) := by decide +kernel
theorem dG_repair_60 : decode M_G_repair.2.1 60 = .ok (.iconst 1, 1) := by decide +kernel
theorem dG_repair_61 : decode M_G_repair.2.1 61 = .ok (.ireturn, 1) := by decide +kernel
theorem dG_dropAfter_0 : decode M_G_dropAfter.2.1 0 = .ok (.iconst 0, 1) := by decide +kernel
theorem dG_dropAfter_1 : decode M_G_dropAfter.2.1 1 = .ok (.istore_n 2, 1) := by decide +kernel
theorem dG_dropAfter_2 : decode M_G_dropAfter.2.1 2 = .ok (.iload_n 2, 1) := by decide +kernel
theorem dG_dropAfter_3 : decode M_G_dropAfter.2.1 3 = .ok (.bipush 6, 2) := by decide +kernel
theorem dG_dropAfter_5 : decode M_G_dropAfter.2.1 5 = .ok (.if_icmp .ge 19, 3) := by decide +kernel
theorem dG_dropAfter_8 : decode M_G_dropAfter.2.1 8 = .ok (.aload_n 0, 1) := by decide +kernel
theorem dG_dropAfter_9 : decode M_G_dropAfter.2.1 9 = .ok (.getfield 11, 3) := by decide +kernel
theorem dG_dropAfter_12 : decode M_G_dropAfter.2.1 12 = .ok (.iload_n 2, 1) := by decide +kernel
theorem dG_dropAfter_13 : decode M_G_dropAfter.2.1 13 = .ok (.aaload, 1) := by decide +kernel
theorem dG_dropAfter_14 : decode M_G_dropAfter.2.1 14 = .ok (.iload_n 1, 1) := by decide +kernel
theorem dG_dropAfter_15 : decode M_G_dropAfter.2.1 15 = .ok (.invokevirtual 51, 3) := by decide +kernel
theorem dG_dropAfter_18 : decode M_G_dropAfter.2.1 18 = .ok (.iinc 2 1, 3) := by decide +kernel
theorem dG_dropAfter_21 : decode M_G_dropAfter.2.1 21 = .ok (.goto (-19), 3) := by decide +kernel
theorem dG_dropAfter_24 : decode M_G_dropAfter.2.1 24 = .ok (.return_, 1) := by decide +kernel
theorem dG_forgetReports_0 : decode M_G_forgetReports.2.1 0 = .ok (.iconst 0, 1) := by decide +kernel
theorem dG_forgetReports_1 : decode M_G_forgetReports.2.1 1 = .ok (.istore_n 1, 1) := by decide +kernel
theorem dG_forgetReports_2 : decode M_G_forgetReports.2.1 2 = .ok (.iload_n 1, 1) := by decide +kernel
theorem dG_forgetReports_3 : decode M_G_forgetReports.2.1 3 = .ok (.bipush 6, 2) := by decide +kernel
theorem dG_forgetReports_5 : decode M_G_forgetReports.2.1 5 = .ok (.if_icmp .ge 19, 3) := by decide +kernel
theorem dG_forgetReports_8 : decode M_G_forgetReports.2.1 8 = .ok (.aload_n 0, 1) := by decide +kernel
theorem dG_forgetReports_9 : decode M_G_forgetReports.2.1 9 = .ok (.getfield 11, 3) := by decide +kernel
theorem dG_forgetReports_12 : decode M_G_forgetReports.2.1 12 = .ok (.iload_n 1, 1) := by decide +kernel
theorem dG_forgetReports_13 : decode M_G_forgetReports.2.1 13 = .ok (.aaload, 1) := by decide +kernel
theorem dG_forgetReports_14 : decode M_G_forgetReports.2.1 14 = .ok (.iconst 0, 1) := by decide +kernel
theorem dG_forgetReports_15 : decode M_G_forgetReports.2.1 15 = .ok (.putfield 32, 3) := by decide +kernel
theorem dG_forgetReports_18 : decode M_G_forgetReports.2.1 18 = .ok (.iinc 1 1, 3) := by decide +kernel
theorem dG_forgetReports_21 : decode M_G_forgetReports.2.1 21 = .ok (.goto (-19), 3) := by decide +kernel
theorem dG_forgetReports_24 : decode M_G_forgetReports.2.1 24 = .ok (.return_, 1) := by decide +kernel
theorem dG_tellReaches_0 : decode M_G_tellReaches.2.1 0 = .ok (.iconst 0, 1) := by decide +kernel
theorem dG_tellReaches_1 : decode M_G_tellReaches.2.1 1 = .ok (.istore_n 2, 1) := by decide +kernel
theorem dG_tellReaches_2 : decode M_G_tellReaches.2.1 2 = .ok (.iload_n 2, 1) := by decide +kernel
theorem dG_tellReaches_3 : decode M_G_tellReaches.2.1 3 = .ok (.bipush 6, 2) := by decide +kernel
theorem dG_tellReaches_5 : decode M_G_tellReaches.2.1 5 = .ok (.if_icmp .ge 31, 3) := by decide +kernel
theorem dG_tellReaches_8 : decode M_G_tellReaches.2.1 8 = .ok (.aload_n 0, 1) := by decide +kernel
theorem dG_tellReaches_9 : decode M_G_tellReaches.2.1 9 = .ok (.getfield 11, 3) := by decide +kernel
theorem dG_tellReaches_12 : decode M_G_tellReaches.2.1 12 = .ok (.iload_n 2, 1) := by decide +kernel
theorem dG_tellReaches_13 : decode M_G_tellReaches.2.1 13 = .ok (.aaload, 1) := by decide +kernel
theorem dG_tellReaches_14 : decode M_G_tellReaches.2.1 14 = .ok (.invokevirtual 20, 3) := by decide +kernel
theorem dG_tellReaches_17 : decode M_G_tellReaches.2.1 17 = .ok (.ifCond .eq 13, 3) := by decide +kernel
theorem dG_tellReaches_20 : decode M_G_tellReaches.2.1 20 = .ok (.aload_n 0, 1) := by decide +kernel
theorem dG_tellReaches_21 : decode M_G_tellReaches.2.1 21 = .ok (.getfield 11, 3) := by decide +kernel
theorem dG_tellReaches_24 : decode M_G_tellReaches.2.1 24 = .ok (.iload_n 2, 1) := by decide +kernel
theorem dG_tellReaches_25 : decode M_G_tellReaches.2.1 25 = .ok (.aaload, 1) := by decide +kernel
theorem dG_tellReaches_26 : decode M_G_tellReaches.2.1 26 = .ok (.aload_n 1, 1) := by decide +kernel
theorem dG_tellReaches_27 : decode M_G_tellReaches.2.1 27 = .ok (.invokevirtual 54, 3) := by decide +kernel
theorem dG_tellReaches_30 : decode M_G_tellReaches.2.1 30 = .ok (.iinc 2 1, 3) := by decide +kernel
theorem dG_tellReaches_33 : decode M_G_tellReaches.2.1 33 = .ok (.goto (-31), 3) := by decide +kernel
theorem dG_tellReaches_36 : decode M_G_tellReaches.2.1 36 = .ok (.return_, 1) := by decide +kernel
theorem dL_init_0 : decode M_L_init.2.1 0 = .ok (.aload_n 0, 1) := by decide +kernel
theorem dL_init_1 : decode M_L_init.2.1 1 = .ok (.invokespecial 3, 3) := by decide +kernel
theorem dL_init_4 : decode M_L_init.2.1 4 = .ok (.aload_n 0, 1) := by decide +kernel
theorem dL_init_5 : decode M_L_init.2.1 5 = .ok (.sipush 188, 3) := by decide +kernel
theorem dL_init_8 : decode M_L_init.2.1 8 = .ok (.newarray .int, 2) := by decide +kernel
theorem dL_init_10 : decode M_L_init.2.1 10 = .ok (.putfield 11, 3) := by decide +kernel
theorem dL_init_13 : decode M_L_init.2.1 13 = .ok (.aload_n 0, 1) := by decide +kernel
theorem dL_init_14 : decode M_L_init.2.1 14 = .ok (.sipush 188, 3) := by decide +kernel
theorem dL_init_17 : decode M_L_init.2.1 17 = .ok (.newarray .int, 2) := by decide +kernel
theorem dL_init_19 : decode M_L_init.2.1 19 = .ok (.putfield 15, 3) := by decide +kernel
theorem dL_init_22 : decode M_L_init.2.1 22 = .ok (.aload_n 0, 1) := by decide +kernel
theorem dL_init_23 : decode M_L_init.2.1 23 = .ok (.sipush 188, 3) := by decide +kernel
theorem dL_init_26 : decode M_L_init.2.1 26 = .ok (.newarray .int, 2) := by decide +kernel
theorem dL_init_28 : decode M_L_init.2.1 28 = .ok (.putfield 18, 3) := by decide +kernel
theorem dL_init_31 : decode M_L_init.2.1 31 = .ok (.aload_n 0, 1) := by decide +kernel
theorem dL_init_32 : decode M_L_init.2.1 32 = .ok (.sipush 188, 3) := by decide +kernel
theorem dL_init_35 : decode M_L_init.2.1 35 = .ok (.newarray .int, 2) := by decide +kernel
theorem dL_init_37 : decode M_L_init.2.1 37 = .ok (.putfield 21, 3) := by decide +kernel
theorem dL_init_40 : decode M_L_init.2.1 40 = .ok (.aload_n 0, 1) := by decide +kernel
theorem dL_init_41 : decode M_L_init.2.1 41 = .ok (.sipush 188, 3) := by decide +kernel
theorem dL_init_44 : decode M_L_init.2.1 44 = .ok (.newarray .int, 2) := by decide +kernel
theorem dL_init_46 : decode M_L_init.2.1 46 = .ok (.putfield 24, 3) := by decide +kernel
theorem dL_init_49 : decode M_L_init.2.1 49 = .ok (.aload_n 0, 1) := by decide +kernel
theorem dL_init_50 : decode M_L_init.2.1 50 = .ok (.bipush 61, 2) := by decide +kernel
theorem dL_init_52 : decode M_L_init.2.1 52 = .ok (.newarray .int, 2) := by decide +kernel
theorem dL_init_54 : decode M_L_init.2.1 54 = .ok (.putfield 27, 3) := by decide +kernel
theorem dL_init_57 : decode M_L_init.2.1 57 = .ok (.aload_n 0, 1) := by decide +kernel
theorem dL_init_58 : decode M_L_init.2.1 58 = .ok (.iconst 0, 1) := by decide +kernel
theorem dL_init_59 : decode M_L_init.2.1 59 = .ok (.putfield 30, 3) := by decide +kernel
theorem dL_init_62 : decode M_L_init.2.1 62 = .ok (.return_, 1) := by decide +kernel
theorem dL_has_0 : decode M_L_has.2.1 0 = .ok (.iload_n 1, 1) := by decide +kernel
theorem dL_has_1 : decode M_L_has.2.1 1 = .ok (.iconst 1, 1) := by decide +kernel
theorem dL_has_2 : decode M_L_has.2.1 2 = .ok (.if_icmp .lt 15, 3) := by decide +kernel
theorem dL_has_5 : decode M_L_has.2.1 5 = .ok (.iload_n 1, 1) := by decide +kernel
theorem dL_has_6 : decode M_L_has.2.1 6 = .ok (.aload_n 0, 1) := by decide +kernel
theorem dL_has_7 : decode M_L_has.2.1 7 = .ok (.getfield 30, 3) := by decide +kernel
theorem dL_has_10 : decode M_L_has.2.1 10 = .ok (.if_icmp .gt 7, 3) := by decide +kernel
theorem dL_has_13 : decode M_L_has.2.1 13 = .ok (.iconst 1, 1) := by decide +kernel
theorem dL_has_14 : decode M_L_has.2.1 14 = .ok (.goto 4, 3) := by decide +kernel
theorem dL_has_17 : decode M_L_has.2.1 17 = .ok (.iconst 0, 1) := by decide +kernel
theorem dL_has_18 : decode M_L_has.2.1 18 = .ok (.ireturn, 1) := by decide +kernel
theorem dL_addChange_0 : decode M_L_addChange.2.1 0 = .ok (.aload_n 0, 1) := by decide +kernel
theorem dL_addChange_1 : decode M_L_addChange.2.1 1 = .ok (.iload 4, 2) := by decide +kernel
theorem dL_addChange_3 : decode M_L_addChange.2.1 3 = .ok (.ifCond .eq 7, 3) := by decide +kernel
theorem dL_addChange_6 : decode M_L_addChange.2.1 6 = .ok (.iconst 1, 1) := by decide +kernel
theorem dL_addChange_7 : decode M_L_addChange.2.1 7 = .ok (.goto 4, 3) := by decide +kernel
theorem dL_addChange_10 : decode M_L_addChange.2.1 10 = .ok (.iconst 0, 1) := by decide +kernel
theorem dL_addChange_11 : decode M_L_addChange.2.1 11 = .ok (.iload_n 1, 1) := by decide +kernel
theorem dL_addChange_12 : decode M_L_addChange.2.1 12 = .ok (.iload_n 2, 1) := by decide +kernel
theorem dL_addChange_13 : decode M_L_addChange.2.1 13 = .ok (.iload_n 3, 1) := by decide +kernel
theorem dL_addChange_14 : decode M_L_addChange.2.1 14 = .ok (.iload_n 2, 1) := by decide +kernel
theorem dL_addChange_15 : decode M_L_addChange.2.1 15 = .ok (.invokestatic 34, 3) := by decide +kernel
theorem dL_addChange_18 : decode M_L_addChange.2.1 18 = .ok (.invokestatic 38, 3) := by decide +kernel
theorem dL_addChange_21 : decode M_L_addChange.2.1 21 = .ok (.invokevirtual 41, 3) := by decide +kernel
theorem dL_addChange_24 : decode M_L_addChange.2.1 24 = .ok (.ireturn, 1) := by decide +kernel
theorem dL_addEnd_0 : decode M_L_addEnd.2.1 0 = .ok (.aload_n 0, 1) := by decide +kernel
theorem dL_addEnd_1 : decode M_L_addEnd.2.1 1 = .ok (.iload_n 2, 1) := by decide +kernel
theorem dL_addEnd_2 : decode M_L_addEnd.2.1 2 = .ok (.ifCond .eq 7, 3) := by decide +kernel
theorem dL_addEnd_5 : decode M_L_addEnd.2.1 5 = .ok (.iconst 2, 1) := by decide +kernel
theorem dL_addEnd_6 : decode M_L_addEnd.2.1 6 = .ok (.goto 4, 3) := by decide +kernel
theorem dL_addEnd_9 : decode M_L_addEnd.2.1 9 = .ok (.iconst 3, 1) := by decide +kernel
theorem dL_addEnd_10 : decode M_L_addEnd.2.1 10 = .ok (.iload_n 1, 1) := by decide +kernel
theorem dL_addEnd_11 : decode M_L_addEnd.2.1 11 = .ok (.iconst (-1), 1) := by decide +kernel
theorem dL_addEnd_12 : decode M_L_addEnd.2.1 12 = .ok (.iconst 0, 1) := by decide +kernel
theorem dL_addEnd_13 : decode M_L_addEnd.2.1 13 = .ok (.iload_n 1, 1) := by decide +kernel
theorem dL_addEnd_14 : decode M_L_addEnd.2.1 14 = .ok (.iconst 2, 1) := by decide +kernel
theorem dL_addEnd_15 : decode M_L_addEnd.2.1 15 = .ok (.irem, 1) := by decide +kernel
theorem dL_addEnd_16 : decode M_L_addEnd.2.1 16 = .ok (.invokevirtual 41, 3) := by decide +kernel
theorem dL_addEnd_19 : decode M_L_addEnd.2.1 19 = .ok (.istore_n 3, 1) := by decide +kernel
theorem dL_addEnd_20 : decode M_L_addEnd.2.1 20 = .ok (.aload_n 0, 1) := by decide +kernel
theorem dL_addEnd_21 : decode M_L_addEnd.2.1 21 = .ok (.getfield 27, 3) := by decide +kernel
theorem dL_addEnd_24 : decode M_L_addEnd.2.1 24 = .ok (.iload_n 1, 1) := by decide +kernel
theorem dL_addEnd_25 : decode M_L_addEnd.2.1 25 = .ok (.iconst 0, 1) := by decide +kernel
theorem dL_addEnd_26 : decode M_L_addEnd.2.1 26 = .ok (.iload_n 3, 1) := by decide +kernel
theorem dL_addEnd_27 : decode M_L_addEnd.2.1 27 = .ok (.invokestatic 45, 3) := by decide +kernel
theorem dL_addEnd_30 : decode M_L_addEnd.2.1 30 = .ok (.iastore, 1) := by decide +kernel
theorem dL_addEnd_31 : decode M_L_addEnd.2.1 31 = .ok (.iload_n 3, 1) := by decide +kernel
theorem dL_addEnd_32 : decode M_L_addEnd.2.1 32 = .ok (.ireturn, 1) := by decide +kernel
theorem dL_add_0 : decode M_L_add.2.1 0 = .ok (.aload_n 0, 1) := by decide +kernel
theorem dL_add_1 : decode M_L_add.2.1 1 = .ok (.getfield 30, 3) := by decide +kernel
theorem dL_add_4 : decode M_L_add.2.1 4 = .ok (.sipush 187, 3) := by decide +kernel
theorem dL_add_7 : decode M_L_add.2.1 7 = .ok (.if_icmp .lt 6, 3) := by decide +kernel
theorem dL_add_10 : decode M_L_add.2.1 10 = .ok (.bipush (-5), 2) := by decide +kernel
theorem dL_add_12 : decode M_L_add.2.1 12 = .ok (.ireturn, 1) := by decide +kernel
theorem dL_add_13 : decode M_L_add.2.1 13 = .ok (.aload_n 0, 1) := by decide +kernel
theorem dL_add_14 : decode M_L_add.2.1 14 = .ok (.dup, 1) := by decide +kernel
theorem dL_add_15 : decode M_L_add.2.1 15 = .ok (.getfield 30, 3) := by decide +kernel
theorem dL_add_18 : decode M_L_add.2.1 18 = .ok (.iconst 1, 1) := by decide +kernel
theorem dL_add_19 : decode M_L_add.2.1 19 = .ok (.iadd, 1) := by decide +kernel
theorem dL_add_20 : decode M_L_add.2.1 20 = .ok (.putfield 30, 3) := by decide +kernel
theorem dL_add_23 : decode M_L_add.2.1 23 = .ok (.aload_n 0, 1) := by decide +kernel
theorem dL_add_24 : decode M_L_add.2.1 24 = .ok (.getfield 11, 3) := by decide +kernel
theorem dL_add_27 : decode M_L_add.2.1 27 = .ok (.aload_n 0, 1) := by decide +kernel
theorem dL_add_28 : decode M_L_add.2.1 28 = .ok (.getfield 30, 3) := by decide +kernel
theorem dL_add_31 : decode M_L_add.2.1 31 = .ok (.iload_n 1, 1) := by decide +kernel
theorem dL_add_32 : decode M_L_add.2.1 32 = .ok (.iastore, 1) := by decide +kernel
theorem dL_add_33 : decode M_L_add.2.1 33 = .ok (.aload_n 0, 1) := by decide +kernel
theorem dL_add_34 : decode M_L_add.2.1 34 = .ok (.getfield 15, 3) := by decide +kernel
theorem dL_add_37 : decode M_L_add.2.1 37 = .ok (.aload_n 0, 1) := by decide +kernel
theorem dL_add_38 : decode M_L_add.2.1 38 = .ok (.getfield 30, 3) := by decide +kernel
theorem dL_add_41 : decode M_L_add.2.1 41 = .ok (.iload_n 2, 1) := by decide +kernel
theorem dL_add_42 : decode M_L_add.2.1 42 = .ok (.iastore, 1) := by decide +kernel
theorem dL_add_43 : decode M_L_add.2.1 43 = .ok (.aload_n 0, 1) := by decide +kernel
theorem dL_add_44 : decode M_L_add.2.1 44 = .ok (.getfield 18, 3) := by decide +kernel
theorem dL_add_47 : decode M_L_add.2.1 47 = .ok (.aload_n 0, 1) := by decide +kernel
theorem dL_add_48 : decode M_L_add.2.1 48 = .ok (.getfield 30, 3) := by decide +kernel
theorem dL_add_51 : decode M_L_add.2.1 51 = .ok (.iload_n 3, 1) := by decide +kernel
theorem dL_add_52 : decode M_L_add.2.1 52 = .ok (.iastore, 1) := by decide +kernel
theorem dL_add_53 : decode M_L_add.2.1 53 = .ok (.aload_n 0, 1) := by decide +kernel
theorem dL_add_54 : decode M_L_add.2.1 54 = .ok (.getfield 21, 3) := by decide +kernel
theorem dL_add_57 : decode M_L_add.2.1 57 = .ok (.aload_n 0, 1) := by decide +kernel
theorem dL_add_58 : decode M_L_add.2.1 58 = .ok (.getfield 30, 3) := by decide +kernel
theorem dL_add_61 : decode M_L_add.2.1 61 = .ok (.iload 4, 2) := by decide +kernel
theorem dL_add_63 : decode M_L_add.2.1 63 = .ok (.iastore, 1) := by decide +kernel
theorem dL_add_64 : decode M_L_add.2.1 64 = .ok (.aload_n 0, 1) := by decide +kernel
theorem dL_add_65 : decode M_L_add.2.1 65 = .ok (.getfield 24, 3) := by decide +kernel
theorem dL_add_68 : decode M_L_add.2.1 68 = .ok (.aload_n 0, 1) := by decide +kernel
theorem dL_add_69 : decode M_L_add.2.1 69 = .ok (.getfield 30, 3) := by decide +kernel
theorem dL_add_72 : decode M_L_add.2.1 72 = .ok (.iload 5, 2) := by decide +kernel
theorem dL_add_74 : decode M_L_add.2.1 74 = .ok (.iastore, 1) := by decide +kernel
theorem dL_add_75 : decode M_L_add.2.1 75 = .ok (.aload_n 0, 1) := by decide +kernel
theorem dL_add_76 : decode M_L_add.2.1 76 = .ok (.getfield 30, 3) := by decide +kernel
theorem dL_add_79 : decode M_L_add.2.1 79 = .ok (.ireturn, 1) := by decide +kernel
theorem dL_rollBack_0 : decode M_L_rollBack.2.1 0 = .ok (.iconst 0, 1) := by decide +kernel
theorem dL_rollBack_1 : decode M_L_rollBack.2.1 1 = .ok (.istore_n 2, 1) := by decide +kernel
theorem dL_rollBack_2 : decode M_L_rollBack.2.1 2 = .ok (.iload_n 2, 1) := by decide +kernel
theorem dL_rollBack_3 : decode M_L_rollBack.2.1 3 = .ok (.bipush 32, 2) := by decide +kernel
theorem dL_rollBack_5 : decode M_L_rollBack.2.1 5 = .ok (.if_icmp .ge 36, 3) := by decide +kernel
theorem dL_rollBack_8 : decode M_L_rollBack.2.1 8 = .ok (.aload_n 0, 1) := by decide +kernel
theorem dL_rollBack_9 : decode M_L_rollBack.2.1 9 = .ok (.iload_n 1, 1) := by decide +kernel
theorem dL_rollBack_10 : decode M_L_rollBack.2.1 10 = .ok (.iload_n 2, 1) := by decide +kernel
theorem dL_rollBack_11 : decode M_L_rollBack.2.1 11 = .ok (.invokevirtual 51, 3) := by decide +kernel
theorem dL_rollBack_14 : decode M_L_rollBack.2.1 14 = .ok (.istore_n 3, 1) := by decide +kernel
theorem dL_rollBack_15 : decode M_L_rollBack.2.1 15 = .ok (.iload_n 3, 1) := by decide +kernel
theorem dL_rollBack_16 : decode M_L_rollBack.2.1 16 = .ok (.ifCond .le 19, 3) := by decide +kernel
theorem dL_rollBack_19 : decode M_L_rollBack.2.1 19 = .ok (.aload_n 0, 1) := by decide +kernel
theorem dL_rollBack_20 : decode M_L_rollBack.2.1 20 = .ok (.iload_n 1, 1) := by decide +kernel
theorem dL_rollBack_21 : decode M_L_rollBack.2.1 21 = .ok (.iload_n 2, 1) := by decide +kernel
theorem dL_rollBack_22 : decode M_L_rollBack.2.1 22 = .ok (.aload_n 0, 1) := by decide +kernel
theorem dL_rollBack_23 : decode M_L_rollBack.2.1 23 = .ok (.iload_n 2, 1) := by decide +kernel
theorem dL_rollBack_24 : decode M_L_rollBack.2.1 24 = .ok (.iload_n 3, 1) := by decide +kernel
theorem dL_rollBack_25 : decode M_L_rollBack.2.1 25 = .ok (.iconst 1, 1) := by decide +kernel
theorem dL_rollBack_26 : decode M_L_rollBack.2.1 26 = .ok (.isub, 1) := by decide +kernel
theorem dL_rollBack_27 : decode M_L_rollBack.2.1 27 = .ok (.invokevirtual 54, 3) := by decide +kernel
theorem dL_rollBack_30 : decode M_L_rollBack.2.1 30 = .ok (.iconst 0, 1) := by decide +kernel
theorem dL_rollBack_31 : decode M_L_rollBack.2.1 31 = .ok (.invokevirtual 57, 3) := by decide +kernel
theorem dL_rollBack_34 : decode M_L_rollBack.2.1 34 = .ok (.pop, 1) := by decide +kernel
theorem dL_rollBack_35 : decode M_L_rollBack.2.1 35 = .ok (.iinc 2 1, 3) := by decide +kernel
theorem dL_rollBack_38 : decode M_L_rollBack.2.1 38 = .ok (.goto (-36), 3) := by decide +kernel
theorem dL_rollBack_41 : decode M_L_rollBack.2.1 41 = .ok (.aload_n 0, 1) := by decide +kernel
theorem dL_rollBack_42 : decode M_L_rollBack.2.1 42 = .ok (.iload_n 1, 1) := by decide +kernel
theorem dL_rollBack_43 : decode M_L_rollBack.2.1 43 = .ok (.iconst 0, 1) := by decide +kernel
theorem dL_rollBack_44 : decode M_L_rollBack.2.1 44 = .ok (.invokevirtual 61, 3) := by decide +kernel
theorem dL_rollBack_47 : decode M_L_rollBack.2.1 47 = .ok (.ireturn, 1) := by decide +kernel
theorem dL_cutAfter_0 : decode M_L_cutAfter.2.1 0 = .ok (.aload_n 0, 1) := by decide +kernel
theorem dL_cutAfter_1 : decode M_L_cutAfter.2.1 1 = .ok (.aload_n 0, 1) := by decide +kernel
theorem dL_cutAfter_2 : decode M_L_cutAfter.2.1 2 = .ok (.getfield 30, 3) := by decide +kernel
theorem dL_cutAfter_5 : decode M_L_cutAfter.2.1 5 = .ok (.iload_n 1, 1) := by decide +kernel
theorem dL_cutAfter_6 : decode M_L_cutAfter.2.1 6 = .ok (.invokestatic 65, 3) := by decide +kernel
theorem dL_cutAfter_9 : decode M_L_cutAfter.2.1 9 = .ok (.putfield 30, 3) := by decide +kernel
theorem dL_cutAfter_12 : decode M_L_cutAfter.2.1 12 = .ok (.iconst 1, 1) := by decide +kernel
theorem dL_cutAfter_13 : decode M_L_cutAfter.2.1 13 = .ok (.istore_n 2, 1) := by decide +kernel
theorem dL_cutAfter_14 : decode M_L_cutAfter.2.1 14 = .ok (.iload_n 2, 1) := by decide +kernel
theorem dL_cutAfter_15 : decode M_L_cutAfter.2.1 15 = .ok (.bipush 60, 2) := by decide +kernel
theorem dL_cutAfter_17 : decode M_L_cutAfter.2.1 17 = .ok (.if_icmp .gt 29, 3) := by decide +kernel
theorem dL_cutAfter_20 : decode M_L_cutAfter.2.1 20 = .ok (.aload_n 0, 1) := by decide +kernel
theorem dL_cutAfter_21 : decode M_L_cutAfter.2.1 21 = .ok (.getfield 27, 3) := by decide +kernel
theorem dL_cutAfter_24 : decode M_L_cutAfter.2.1 24 = .ok (.iload_n 2, 1) := by decide +kernel
theorem dL_cutAfter_25 : decode M_L_cutAfter.2.1 25 = .ok (.iaload, 1) := by decide +kernel
theorem dL_cutAfter_26 : decode M_L_cutAfter.2.1 26 = .ok (.aload_n 0, 1) := by decide +kernel
theorem dL_cutAfter_27 : decode M_L_cutAfter.2.1 27 = .ok (.getfield 30, 3) := by decide +kernel
theorem dL_cutAfter_30 : decode M_L_cutAfter.2.1 30 = .ok (.if_icmp .le 10, 3) := by decide +kernel
theorem dL_cutAfter_33 : decode M_L_cutAfter.2.1 33 = .ok (.aload_n 0, 1) := by decide +kernel
theorem dL_cutAfter_34 : decode M_L_cutAfter.2.1 34 = .ok (.getfield 27, 3) := by decide +kernel
theorem dL_cutAfter_37 : decode M_L_cutAfter.2.1 37 = .ok (.iload_n 2, 1) := by decide +kernel
theorem dL_cutAfter_38 : decode M_L_cutAfter.2.1 38 = .ok (.iconst 0, 1) := by decide +kernel
theorem dL_cutAfter_39 : decode M_L_cutAfter.2.1 39 = .ok (.iastore, 1) := by decide +kernel
theorem dL_cutAfter_40 : decode M_L_cutAfter.2.1 40 = .ok (.iinc 2 1, 3) := by decide +kernel
theorem dL_cutAfter_43 : decode M_L_cutAfter.2.1 43 = .ok (.goto (-29), 3) := by decide +kernel
theorem dL_cutAfter_46 : decode M_L_cutAfter.2.1 46 = .ok (.return_, 1) := by decide +kernel
theorem dL_isEnd_0 : decode M_L_isEnd.2.1 0 = .ok (.aload_n 0, 1) := by decide +kernel
theorem dL_isEnd_1 : decode M_L_isEnd.2.1 1 = .ok (.getfield 11, 3) := by decide +kernel
theorem dL_isEnd_4 : decode M_L_isEnd.2.1 4 = .ok (.iload_n 1, 1) := by decide +kernel
theorem dL_isEnd_5 : decode M_L_isEnd.2.1 5 = .ok (.iaload, 1) := by decide +kernel
theorem dL_isEnd_6 : decode M_L_isEnd.2.1 6 = .ok (.iconst 2, 1) := by decide +kernel
theorem dL_isEnd_7 : decode M_L_isEnd.2.1 7 = .ok (.if_icmp .eq 13, 3) := by decide +kernel
theorem dL_isEnd_10 : decode M_L_isEnd.2.1 10 = .ok (.aload_n 0, 1) := by decide +kernel
theorem dL_isEnd_11 : decode M_L_isEnd.2.1 11 = .ok (.getfield 11, 3) := by decide +kernel
theorem dL_isEnd_14 : decode M_L_isEnd.2.1 14 = .ok (.iload_n 1, 1) := by decide +kernel
theorem dL_isEnd_15 : decode M_L_isEnd.2.1 15 = .ok (.iaload, 1) := by decide +kernel
theorem dL_isEnd_16 : decode M_L_isEnd.2.1 16 = .ok (.iconst 3, 1) := by decide +kernel
theorem dL_isEnd_17 : decode M_L_isEnd.2.1 17 = .ok (.if_icmp .ne 7, 3) := by decide +kernel
theorem dL_isEnd_20 : decode M_L_isEnd.2.1 20 = .ok (.iconst 1, 1) := by decide +kernel
theorem dL_isEnd_21 : decode M_L_isEnd.2.1 21 = .ok (.goto 4, 3) := by decide +kernel
theorem dL_isEnd_24 : decode M_L_isEnd.2.1 24 = .ok (.iconst 0, 1) := by decide +kernel
theorem dL_isEnd_25 : decode M_L_isEnd.2.1 25 = .ok (.ireturn, 1) := by decide +kernel
theorem dL_commits_0 : decode M_L_commits.2.1 0 = .ok (.aload_n 0, 1) := by decide +kernel
theorem dL_commits_1 : decode M_L_commits.2.1 1 = .ok (.getfield 11, 3) := by decide +kernel
theorem dL_commits_4 : decode M_L_commits.2.1 4 = .ok (.iload_n 1, 1) := by decide +kernel
theorem dL_commits_5 : decode M_L_commits.2.1 5 = .ok (.iaload, 1) := by decide +kernel
theorem dL_commits_6 : decode M_L_commits.2.1 6 = .ok (.iconst 2, 1) := by decide +kernel
theorem dL_commits_7 : decode M_L_commits.2.1 7 = .ok (.if_icmp .ne 7, 3) := by decide +kernel
theorem dL_commits_10 : decode M_L_commits.2.1 10 = .ok (.iconst 1, 1) := by decide +kernel
theorem dL_commits_11 : decode M_L_commits.2.1 11 = .ok (.goto 4, 3) := by decide +kernel
theorem dL_commits_14 : decode M_L_commits.2.1 14 = .ok (.iconst 0, 1) := by decide +kernel
theorem dL_commits_15 : decode M_L_commits.2.1 15 = .ok (.ireturn, 1) := by decide +kernel
theorem dL_lastCloseUpTo_0 : decode M_L_lastCloseUpTo.2.1 0 = .ok (.iload_n 1, 1) := by decide +kernel
theorem dL_lastCloseUpTo_1 : decode M_L_lastCloseUpTo.2.1 1 = .ok (.istore_n 2, 1) := by decide +kernel
theorem dL_lastCloseUpTo_2 : decode M_L_lastCloseUpTo.2.1 2 = .ok (.iload_n 2, 1) := by decide +kernel
theorem dL_lastCloseUpTo_3 : decode M_L_lastCloseUpTo.2.1 3 = .ok (.iconst 1, 1) := by decide +kernel
theorem dL_lastCloseUpTo_4 : decode M_L_lastCloseUpTo.2.1 4 = .ok (.if_icmp .lt 20, 3) := by decide +kernel
theorem dL_lastCloseUpTo_7 : decode M_L_lastCloseUpTo.2.1 7 = .ok (.aload_n 0, 1) := by decide +kernel
theorem dL_lastCloseUpTo_8 : decode M_L_lastCloseUpTo.2.1 8 = .ok (.getfield 11, 3) := by decide +kernel
theorem dL_lastCloseUpTo_11 : decode M_L_lastCloseUpTo.2.1 11 = .ok (.iload_n 2, 1) := by decide +kernel
theorem dL_lastCloseUpTo_12 : decode M_L_lastCloseUpTo.2.1 12 = .ok (.iaload, 1) := by decide +kernel
theorem dL_lastCloseUpTo_13 : decode M_L_lastCloseUpTo.2.1 13 = .ok (.ifCond .eq 5, 3) := by decide +kernel
theorem dL_lastCloseUpTo_16 : decode M_L_lastCloseUpTo.2.1 16 = .ok (.iload_n 2, 1) := by decide +kernel
theorem dL_lastCloseUpTo_17 : decode M_L_lastCloseUpTo.2.1 17 = .ok (.ireturn, 1) := by decide +kernel
theorem dL_lastCloseUpTo_18 : decode M_L_lastCloseUpTo.2.1 18 = .ok (.iinc 2 (-1), 3) := by decide +kernel
theorem dL_lastCloseUpTo_21 : decode M_L_lastCloseUpTo.2.1 21 = .ok (.goto (-19), 3) := by decide +kernel
theorem dL_lastCloseUpTo_24 : decode M_L_lastCloseUpTo.2.1 24 = .ok (.iconst 0, 1) := by decide +kernel
theorem dL_lastCloseUpTo_25 : decode M_L_lastCloseUpTo.2.1 25 = .ok (.ireturn, 1) := by decide +kernel
theorem dL_valueUpTo_0 : decode M_L_valueUpTo.2.1 0 = .ok (.iload_n 2, 1) := by decide +kernel
theorem dL_valueUpTo_1 : decode M_L_valueUpTo.2.1 1 = .ok (.istore_n 3, 1) := by decide +kernel
theorem dL_valueUpTo_2 : decode M_L_valueUpTo.2.1 2 = .ok (.iload_n 3, 1) := by decide +kernel
theorem dL_valueUpTo_3 : decode M_L_valueUpTo.2.1 3 = .ok (.iconst 1, 1) := by decide +kernel
theorem dL_valueUpTo_4 : decode M_L_valueUpTo.2.1 4 = .ok (.if_icmp .lt 26, 3) := by decide +kernel
theorem dL_valueUpTo_7 : decode M_L_valueUpTo.2.1 7 = .ok (.aload_n 0, 1) := by decide +kernel
theorem dL_valueUpTo_8 : decode M_L_valueUpTo.2.1 8 = .ok (.getfield 18, 3) := by decide +kernel
theorem dL_valueUpTo_11 : decode M_L_valueUpTo.2.1 11 = .ok (.iload_n 3, 1) := by decide +kernel
theorem dL_valueUpTo_12 : decode M_L_valueUpTo.2.1 12 = .ok (.iaload, 1) := by decide +kernel
theorem dL_valueUpTo_13 : decode M_L_valueUpTo.2.1 13 = .ok (.iload_n 1, 1) := by decide +kernel
theorem dL_valueUpTo_14 : decode M_L_valueUpTo.2.1 14 = .ok (.if_icmp .ne 10, 3) := by decide +kernel
theorem dL_valueUpTo_17 : decode M_L_valueUpTo.2.1 17 = .ok (.aload_n 0, 1) := by decide +kernel
theorem dL_valueUpTo_18 : decode M_L_valueUpTo.2.1 18 = .ok (.getfield 21, 3) := by decide +kernel
theorem dL_valueUpTo_21 : decode M_L_valueUpTo.2.1 21 = .ok (.iload_n 3, 1) := by decide +kernel
theorem dL_valueUpTo_22 : decode M_L_valueUpTo.2.1 22 = .ok (.iaload, 1) := by decide +kernel
theorem dL_valueUpTo_23 : decode M_L_valueUpTo.2.1 23 = .ok (.ireturn, 1) := by decide +kernel
theorem dL_valueUpTo_24 : decode M_L_valueUpTo.2.1 24 = .ok (.iinc 3 (-1), 3) := by decide +kernel
theorem dL_valueUpTo_27 : decode M_L_valueUpTo.2.1 27 = .ok (.goto (-25), 3) := by decide +kernel
theorem dL_valueUpTo_30 : decode M_L_valueUpTo.2.1 30 = .ok (.iconst 0, 1) := by decide +kernel
theorem dL_valueUpTo_31 : decode M_L_valueUpTo.2.1 31 = .ok (.ireturn, 1) := by decide +kernel
theorem dL_endedValueUpTo_0 : decode M_L_endedValueUpTo.2.1 0 = .ok (.iload_n 2, 1) := by decide +kernel
theorem dL_endedValueUpTo_1 : decode M_L_endedValueUpTo.2.1 1 = .ok (.istore_n 3, 1) := by decide +kernel
theorem dL_endedValueUpTo_2 : decode M_L_endedValueUpTo.2.1 2 = .ok (.iload_n 3, 1) := by decide +kernel
theorem dL_endedValueUpTo_3 : decode M_L_endedValueUpTo.2.1 3 = .ok (.iconst 1, 1) := by decide +kernel
theorem dL_endedValueUpTo_4 : decode M_L_endedValueUpTo.2.1 4 = .ok (.if_icmp .lt 40, 3) := by decide +kernel
theorem dL_endedValueUpTo_7 : decode M_L_endedValueUpTo.2.1 7 = .ok (.aload_n 0, 1) := by decide +kernel
theorem dL_endedValueUpTo_8 : decode M_L_endedValueUpTo.2.1 8 = .ok (.getfield 18, 3) := by decide +kernel
theorem dL_endedValueUpTo_11 : decode M_L_endedValueUpTo.2.1 11 = .ok (.iload_n 3, 1) := by decide +kernel
theorem dL_endedValueUpTo_12 : decode M_L_endedValueUpTo.2.1 12 = .ok (.iaload, 1) := by decide +kernel
theorem dL_endedValueUpTo_13 : decode M_L_endedValueUpTo.2.1 13 = .ok (.iload_n 1, 1) := by decide +kernel
theorem dL_endedValueUpTo_14 : decode M_L_endedValueUpTo.2.1 14 = .ok (.if_icmp .ne 24, 3) := by decide +kernel
theorem dL_endedValueUpTo_17 : decode M_L_endedValueUpTo.2.1 17 = .ok (.aload_n 0, 1) := by decide +kernel
theorem dL_endedValueUpTo_18 : decode M_L_endedValueUpTo.2.1 18 = .ok (.aload_n 0, 1) := by decide +kernel
theorem dL_endedValueUpTo_19 : decode M_L_endedValueUpTo.2.1 19 = .ok (.getfield 15, 3) := by decide +kernel
theorem dL_endedValueUpTo_22 : decode M_L_endedValueUpTo.2.1 22 = .ok (.iload_n 3, 1) := by decide +kernel
theorem dL_endedValueUpTo_23 : decode M_L_endedValueUpTo.2.1 23 = .ok (.iaload, 1) := by decide +kernel
theorem dL_endedValueUpTo_24 : decode M_L_endedValueUpTo.2.1 24 = .ok (.iload_n 2, 1) := by decide +kernel
theorem dL_endedValueUpTo_25 : decode M_L_endedValueUpTo.2.1 25 = .ok (.invokevirtual 68, 3) := by decide +kernel
theorem dL_endedValueUpTo_28 : decode M_L_endedValueUpTo.2.1 28 = .ok (.ifCond .eq 10, 3) := by decide +kernel
theorem dL_endedValueUpTo_31 : decode M_L_endedValueUpTo.2.1 31 = .ok (.aload_n 0, 1) := by decide +kernel
theorem dL_endedValueUpTo_32 : decode M_L_endedValueUpTo.2.1 32 = .ok (.getfield 21, 3) := by decide +kernel
theorem dL_endedValueUpTo_35 : decode M_L_endedValueUpTo.2.1 35 = .ok (.iload_n 3, 1) := by decide +kernel
theorem dL_endedValueUpTo_36 : decode M_L_endedValueUpTo.2.1 36 = .ok (.iaload, 1) := by decide +kernel
theorem dL_endedValueUpTo_37 : decode M_L_endedValueUpTo.2.1 37 = .ok (.ireturn, 1) := by decide +kernel
theorem dL_endedValueUpTo_38 : decode M_L_endedValueUpTo.2.1 38 = .ok (.iinc 3 (-1), 3) := by decide +kernel
theorem dL_endedValueUpTo_41 : decode M_L_endedValueUpTo.2.1 41 = .ok (.goto (-39), 3) := by decide +kernel
theorem dL_endedValueUpTo_44 : decode M_L_endedValueUpTo.2.1 44 = .ok (.iconst 0, 1) := by decide +kernel
theorem dL_endedValueUpTo_45 : decode M_L_endedValueUpTo.2.1 45 = .ok (.ireturn, 1) := by decide +kernel
theorem dL_latestOf_0 : decode M_L_latestOf.2.1 0 = .ok (.aload_n 0, 1) := by decide +kernel
theorem dL_latestOf_1 : decode M_L_latestOf.2.1 1 = .ok (.getfield 30, 3) := by decide +kernel
theorem dL_latestOf_4 : decode M_L_latestOf.2.1 4 = .ok (.istore_n 2, 1) := by decide +kernel
theorem dL_latestOf_5 : decode M_L_latestOf.2.1 5 = .ok (.iload_n 2, 1) := by decide +kernel
theorem dL_latestOf_6 : decode M_L_latestOf.2.1 6 = .ok (.iconst 1, 1) := by decide +kernel
theorem dL_latestOf_7 : decode M_L_latestOf.2.1 7 = .ok (.if_icmp .lt 32, 3) := by decide +kernel
theorem dL_latestOf_10 : decode M_L_latestOf.2.1 10 = .ok (.aload_n 0, 1) := by decide +kernel
theorem dL_latestOf_11 : decode M_L_latestOf.2.1 11 = .ok (.iload_n 2, 1) := by decide +kernel
theorem dL_latestOf_12 : decode M_L_latestOf.2.1 12 = .ok (.invokevirtual 72, 3) := by decide +kernel
theorem dL_latestOf_15 : decode M_L_latestOf.2.1 15 = .ok (.ifCond .ne 18, 3) := by decide +kernel
theorem dL_latestOf_18 : decode M_L_latestOf.2.1 18 = .ok (.aload_n 0, 1) := by decide +kernel
theorem dL_latestOf_19 : decode M_L_latestOf.2.1 19 = .ok (.getfield 18, 3) := by decide +kernel
theorem dL_latestOf_22 : decode M_L_latestOf.2.1 22 = .ok (.iload_n 2, 1) := by decide +kernel
theorem dL_latestOf_23 : decode M_L_latestOf.2.1 23 = .ok (.iaload, 1) := by decide +kernel
theorem dL_latestOf_24 : decode M_L_latestOf.2.1 24 = .ok (.invokestatic 34, 3) := by decide +kernel
theorem dL_latestOf_27 : decode M_L_latestOf.2.1 27 = .ok (.iload_n 1, 1) := by decide +kernel
theorem dL_latestOf_28 : decode M_L_latestOf.2.1 28 = .ok (.if_icmp .ne 5, 3) := by decide +kernel
theorem dL_latestOf_31 : decode M_L_latestOf.2.1 31 = .ok (.iload_n 2, 1) := by decide +kernel
theorem dL_latestOf_32 : decode M_L_latestOf.2.1 32 = .ok (.ireturn, 1) := by decide +kernel
theorem dL_latestOf_33 : decode M_L_latestOf.2.1 33 = .ok (.iinc 2 (-1), 3) := by decide +kernel
theorem dL_latestOf_36 : decode M_L_latestOf.2.1 36 = .ok (.goto (-31), 3) := by decide +kernel
theorem dL_latestOf_39 : decode M_L_latestOf.2.1 39 = .ok (.iconst 0, 1) := by decide +kernel
theorem dL_latestOf_40 : decode M_L_latestOf.2.1 40 = .ok (.ireturn, 1) := by decide +kernel
theorem dL_isEndedBy_0 : decode M_L_isEndedBy.2.1 0 = .ok (.aload_n 0, 1) := by decide +kernel
theorem dL_isEndedBy_1 : decode M_L_isEndedBy.2.1 1 = .ok (.getfield 27, 3) := by decide +kernel
theorem dL_isEndedBy_4 : decode M_L_isEndedBy.2.1 4 = .ok (.iload_n 1, 1) := by decide +kernel
theorem dL_isEndedBy_5 : decode M_L_isEndedBy.2.1 5 = .ok (.iaload, 1) := by decide +kernel
theorem dL_isEndedBy_6 : decode M_L_isEndedBy.2.1 6 = .ok (.ifCond .le 17, 3) := by decide +kernel
theorem dL_isEndedBy_9 : decode M_L_isEndedBy.2.1 9 = .ok (.aload_n 0, 1) := by decide +kernel
theorem dL_isEndedBy_10 : decode M_L_isEndedBy.2.1 10 = .ok (.getfield 27, 3) := by decide +kernel
theorem dL_isEndedBy_13 : decode M_L_isEndedBy.2.1 13 = .ok (.iload_n 1, 1) := by decide +kernel
theorem dL_isEndedBy_14 : decode M_L_isEndedBy.2.1 14 = .ok (.iaload, 1) := by decide +kernel
theorem dL_isEndedBy_15 : decode M_L_isEndedBy.2.1 15 = .ok (.iload_n 2, 1) := by decide +kernel
theorem dL_isEndedBy_16 : decode M_L_isEndedBy.2.1 16 = .ok (.if_icmp .gt 7, 3) := by decide +kernel
theorem dL_isEndedBy_19 : decode M_L_isEndedBy.2.1 19 = .ok (.iconst 1, 1) := by decide +kernel
theorem dL_isEndedBy_20 : decode M_L_isEndedBy.2.1 20 = .ok (.goto 4, 3) := by decide +kernel
theorem dL_isEndedBy_23 : decode M_L_isEndedBy.2.1 23 = .ok (.iconst 0, 1) := by decide +kernel
theorem dL_isEndedBy_24 : decode M_L_isEndedBy.2.1 24 = .ok (.ireturn, 1) := by decide +kernel
theorem dL_hasChangeOf_0 : decode M_L_hasChangeOf.2.1 0 = .ok (.iconst 1, 1) := by decide +kernel
theorem dL_hasChangeOf_1 : decode M_L_hasChangeOf.2.1 1 = .ok (.istore_n 2, 1) := by decide +kernel
theorem dL_hasChangeOf_2 : decode M_L_hasChangeOf.2.1 2 = .ok (.iload_n 2, 1) := by decide +kernel
theorem dL_hasChangeOf_3 : decode M_L_hasChangeOf.2.1 3 = .ok (.aload_n 0, 1) := by decide +kernel
theorem dL_hasChangeOf_4 : decode M_L_hasChangeOf.2.1 4 = .ok (.getfield 30, 3) := by decide +kernel
theorem dL_hasChangeOf_7 : decode M_L_hasChangeOf.2.1 7 = .ok (.if_icmp .gt 29, 3) := by decide +kernel
theorem dL_hasChangeOf_10 : decode M_L_hasChangeOf.2.1 10 = .ok (.aload_n 0, 1) := by decide +kernel
theorem dL_hasChangeOf_11 : decode M_L_hasChangeOf.2.1 11 = .ok (.getfield 15, 3) := by decide +kernel
theorem dL_hasChangeOf_14 : decode M_L_hasChangeOf.2.1 14 = .ok (.iload_n 2, 1) := by decide +kernel
theorem dL_hasChangeOf_15 : decode M_L_hasChangeOf.2.1 15 = .ok (.iaload, 1) := by decide +kernel
theorem dL_hasChangeOf_16 : decode M_L_hasChangeOf.2.1 16 = .ok (.iload_n 1, 1) := by decide +kernel
theorem dL_hasChangeOf_17 : decode M_L_hasChangeOf.2.1 17 = .ok (.if_icmp .ne 13, 3) := by decide +kernel
theorem dL_hasChangeOf_20 : decode M_L_hasChangeOf.2.1 20 = .ok (.aload_n 0, 1) := by decide +kernel
theorem dL_hasChangeOf_21 : decode M_L_hasChangeOf.2.1 21 = .ok (.iload_n 2, 1) := by decide +kernel
theorem dL_hasChangeOf_22 : decode M_L_hasChangeOf.2.1 22 = .ok (.invokevirtual 72, 3) := by decide +kernel
theorem dL_hasChangeOf_25 : decode M_L_hasChangeOf.2.1 25 = .ok (.ifCond .ne 5, 3) := by decide +kernel
theorem dL_hasChangeOf_28 : decode M_L_hasChangeOf.2.1 28 = .ok (.iconst 1, 1) := by decide +kernel
theorem dL_hasChangeOf_29 : decode M_L_hasChangeOf.2.1 29 = .ok (.ireturn, 1) := by decide +kernel
theorem dL_hasChangeOf_30 : decode M_L_hasChangeOf.2.1 30 = .ok (.iinc 2 1, 3) := by decide +kernel
theorem dL_hasChangeOf_33 : decode M_L_hasChangeOf.2.1 33 = .ok (.goto (-31), 3) := by decide +kernel
theorem dL_hasChangeOf_36 : decode M_L_hasChangeOf.2.1 36 = .ok (.iconst 0, 1) := by decide +kernel
theorem dL_hasChangeOf_37 : decode M_L_hasChangeOf.2.1 37 = .ok (.ireturn, 1) := by decide +kernel
theorem dL_firstChange_0 : decode M_L_firstChange.2.1 0 = .ok (.iconst 1, 1) := by decide +kernel
theorem dL_firstChange_1 : decode M_L_firstChange.2.1 1 = .ok (.istore_n 3, 1) := by decide +kernel
theorem dL_firstChange_2 : decode M_L_firstChange.2.1 2 = .ok (.iload_n 3, 1) := by decide +kernel
theorem dL_firstChange_3 : decode M_L_firstChange.2.1 3 = .ok (.aload_n 0, 1) := by decide +kernel
theorem dL_firstChange_4 : decode M_L_firstChange.2.1 4 = .ok (.getfield 30, 3) := by decide +kernel
theorem dL_firstChange_7 : decode M_L_firstChange.2.1 7 = .ok (.if_icmp .gt 31, 3) := by decide +kernel
theorem dL_firstChange_10 : decode M_L_firstChange.2.1 10 = .ok (.aload_n 0, 1) := by decide +kernel
theorem dL_firstChange_11 : decode M_L_firstChange.2.1 11 = .ok (.getfield 15, 3) := by decide +kernel
theorem dL_firstChange_14 : decode M_L_firstChange.2.1 14 = .ok (.iload_n 3, 1) := by decide +kernel
theorem dL_firstChange_15 : decode M_L_firstChange.2.1 15 = .ok (.iaload, 1) := by decide +kernel
theorem dL_firstChange_16 : decode M_L_firstChange.2.1 16 = .ok (.iload_n 1, 1) := by decide +kernel
theorem dL_firstChange_17 : decode M_L_firstChange.2.1 17 = .ok (.if_icmp .ne 15, 3) := by decide +kernel
theorem dL_firstChange_20 : decode M_L_firstChange.2.1 20 = .ok (.aload_n 0, 1) := by decide +kernel
theorem dL_firstChange_21 : decode M_L_firstChange.2.1 21 = .ok (.getfield 18, 3) := by decide +kernel
theorem dL_firstChange_24 : decode M_L_firstChange.2.1 24 = .ok (.iload_n 3, 1) := by decide +kernel
theorem dL_firstChange_25 : decode M_L_firstChange.2.1 25 = .ok (.iaload, 1) := by decide +kernel
theorem dL_firstChange_26 : decode M_L_firstChange.2.1 26 = .ok (.iload_n 2, 1) := by decide +kernel
theorem dL_firstChange_27 : decode M_L_firstChange.2.1 27 = .ok (.if_icmp .ne 5, 3) := by decide +kernel
theorem dL_firstChange_30 : decode M_L_firstChange.2.1 30 = .ok (.iload_n 3, 1) := by decide +kernel
theorem dL_firstChange_31 : decode M_L_firstChange.2.1 31 = .ok (.ireturn, 1) := by decide +kernel
theorem dL_firstChange_32 : decode M_L_firstChange.2.1 32 = .ok (.iinc 3 1, 3) := by decide +kernel
theorem dL_firstChange_35 : decode M_L_firstChange.2.1 35 = .ok (.goto (-33), 3) := by decide +kernel
theorem dL_firstChange_38 : decode M_L_firstChange.2.1 38 = .ok (.iconst 0, 1) := by decide +kernel
theorem dL_firstChange_39 : decode M_L_firstChange.2.1 39 = .ok (.ireturn, 1) := by decide +kernel
theorem dL_lowOf_0 : decode M_L_lowOf.2.1 0 = .ok (.iconst 1, 1) := by decide +kernel
theorem dL_lowOf_1 : decode M_L_lowOf.2.1 1 = .ok (.istore_n 2, 1) := by decide +kernel
theorem dL_lowOf_2 : decode M_L_lowOf.2.1 2 = .ok (.iload_n 2, 1) := by decide +kernel
theorem dL_lowOf_3 : decode M_L_lowOf.2.1 3 = .ok (.iload_n 1, 1) := by decide +kernel
theorem dL_lowOf_4 : decode M_L_lowOf.2.1 4 = .ok (.if_icmp .gt 27, 3) := by decide +kernel
theorem dL_lowOf_7 : decode M_L_lowOf.2.1 7 = .ok (.aload_n 0, 1) := by decide +kernel
theorem dL_lowOf_8 : decode M_L_lowOf.2.1 8 = .ok (.aload_n 0, 1) := by decide +kernel
theorem dL_lowOf_9 : decode M_L_lowOf.2.1 9 = .ok (.getfield 15, 3) := by decide +kernel
theorem dL_lowOf_12 : decode M_L_lowOf.2.1 12 = .ok (.iload_n 2, 1) := by decide +kernel
theorem dL_lowOf_13 : decode M_L_lowOf.2.1 13 = .ok (.iaload, 1) := by decide +kernel
theorem dL_lowOf_14 : decode M_L_lowOf.2.1 14 = .ok (.iload_n 1, 1) := by decide +kernel
theorem dL_lowOf_15 : decode M_L_lowOf.2.1 15 = .ok (.invokevirtual 68, 3) := by decide +kernel
theorem dL_lowOf_18 : decode M_L_lowOf.2.1 18 = .ok (.ifCond .ne 7, 3) := by decide +kernel
theorem dL_lowOf_21 : decode M_L_lowOf.2.1 21 = .ok (.iload_n 2, 1) := by decide +kernel
theorem dL_lowOf_22 : decode M_L_lowOf.2.1 22 = .ok (.iconst 1, 1) := by decide +kernel
theorem dL_lowOf_23 : decode M_L_lowOf.2.1 23 = .ok (.isub, 1) := by decide +kernel
theorem dL_lowOf_24 : decode M_L_lowOf.2.1 24 = .ok (.ireturn, 1) := by decide +kernel
theorem dL_lowOf_25 : decode M_L_lowOf.2.1 25 = .ok (.iinc 2 1, 3) := by decide +kernel
theorem dL_lowOf_28 : decode M_L_lowOf.2.1 28 = .ok (.goto (-26), 3) := by decide +kernel
theorem dL_lowOf_31 : decode M_L_lowOf.2.1 31 = .ok (.iload_n 1, 1) := by decide +kernel
theorem dL_lowOf_32 : decode M_L_lowOf.2.1 32 = .ok (.ireturn, 1) := by decide +kernel
theorem dC_init_0 : decode M_C_init.2.1 0 = .ok (.aload_n 0, 1) := by decide +kernel
theorem dC_init_1 : decode M_C_init.2.1 1 = .ok (.invokespecial 1, 3) := by decide +kernel
theorem dC_init_4 : decode M_C_init.2.1 4 = .ok (.aload_n 0, 1) := by decide +kernel
theorem dC_init_5 : decode M_C_init.2.1 5 = .ok (.sipush 188, 3) := by decide +kernel
theorem dC_init_8 : decode M_C_init.2.1 8 = .ok (.newarray .boolean, 2) := by decide +kernel
theorem dC_init_10 : decode M_C_init.2.1 10 = .ok (.putfield 9, 3) := by decide +kernel
theorem dC_init_13 : decode M_C_init.2.1 13 = .ok (.aload_n 0, 1) := by decide +kernel
theorem dC_init_14 : decode M_C_init.2.1 14 = .ok (.iconst 0, 1) := by decide +kernel
theorem dC_init_15 : decode M_C_init.2.1 15 = .ok (.putfield 15, 3) := by decide +kernel
theorem dC_init_18 : decode M_C_init.2.1 18 = .ok (.aload_n 0, 1) := by decide +kernel
theorem dC_init_19 : decode M_C_init.2.1 19 = .ok (.iconst 0, 1) := by decide +kernel
theorem dC_init_20 : decode M_C_init.2.1 20 = .ok (.putfield 19, 3) := by decide +kernel
theorem dC_init_23 : decode M_C_init.2.1 23 = .ok (.aload_n 0, 1) := by decide +kernel
theorem dC_init_24 : decode M_C_init.2.1 24 = .ok (.iconst 0, 1) := by decide +kernel
theorem dC_init_25 : decode M_C_init.2.1 25 = .ok (.putfield 22, 3) := by decide +kernel
theorem dC_init_28 : decode M_C_init.2.1 28 = .ok (.aload_n 0, 1) := by decide +kernel
theorem dC_init_29 : decode M_C_init.2.1 29 = .ok (.iload_n 1, 1) := by decide +kernel
theorem dC_init_30 : decode M_C_init.2.1 30 = .ok (.putfield 25, 3) := by decide +kernel
theorem dC_init_33 : decode M_C_init.2.1 33 = .ok (.return_, 1) := by decide +kernel
theorem dC_isLive_0 : decode M_C_isLive.2.1 0 = .ok (.aload_n 0, 1) := by decide +kernel
theorem dC_isLive_1 : decode M_C_isLive.2.1 1 = .ok (.getfield 15, 3) := by decide +kernel
theorem dC_isLive_4 : decode M_C_isLive.2.1 4 = .ok (.ifCond .ne 7, 3) := by decide +kernel
theorem dC_isLive_7 : decode M_C_isLive.2.1 7 = .ok (.iconst 1, 1) := by decide +kernel
theorem dC_isLive_8 : decode M_C_isLive.2.1 8 = .ok (.goto 4, 3) := by decide +kernel
theorem dC_isLive_11 : decode M_C_isLive.2.1 11 = .ok (.iconst 0, 1) := by decide +kernel
theorem dC_isLive_12 : decode M_C_isLive.2.1 12 = .ok (.ireturn, 1) := by decide +kernel
theorem dC_change_0 : decode M_C_change.2.1 0 = .ok (.aload_n 0, 1) := by decide +kernel
theorem dC_change_1 : decode M_C_change.2.1 1 = .ok (.getfield 15, 3) := by decide +kernel
theorem dC_change_4 : decode M_C_change.2.1 4 = .ok (.iload_n 1, 1) := by decide +kernel
theorem dC_change_5 : decode M_C_change.2.1 5 = .ok (.if_icmp .eq 5, 3) := by decide +kernel
theorem dC_change_8 : decode M_C_change.2.1 8 = .ok (.iconst 0, 1) := by decide +kernel
theorem dC_change_9 : decode M_C_change.2.1 9 = .ok (.ireturn, 1) := by decide +kernel
theorem dC_change_10 : decode M_C_change.2.1 10 = .ok (.aload_n 0, 1) := by decide +kernel
theorem dC_change_11 : decode M_C_change.2.1 11 = .ok (.iload_n 2, 1) := by decide +kernel
theorem dC_change_12 : decode M_C_change.2.1 12 = .ok (.putfield 15, 3) := by decide +kernel
theorem dC_change_15 : decode M_C_change.2.1 15 = .ok (.iconst 1, 1) := by decide +kernel
theorem dC_change_16 : decode M_C_change.2.1 16 = .ok (.ireturn, 1) := by decide +kernel
theorem dC_lose_0 : decode M_C_lose.2.1 0 = .ok (.aload_n 0, 1) := by decide +kernel
theorem dC_lose_1 : decode M_C_lose.2.1 1 = .ok (.getfield 15, 3) := by decide +kernel
theorem dC_lose_4 : decode M_C_lose.2.1 4 = .ok (.iconst 2, 1) := by decide +kernel
theorem dC_lose_5 : decode M_C_lose.2.1 5 = .ok (.if_icmp .ne 5, 3) := by decide +kernel
theorem dC_lose_8 : decode M_C_lose.2.1 8 = .ok (.iconst 0, 1) := by decide +kernel
theorem dC_lose_9 : decode M_C_lose.2.1 9 = .ok (.ireturn, 1) := by decide +kernel
theorem dC_lose_10 : decode M_C_lose.2.1 10 = .ok (.aload_n 0, 1) := by decide +kernel
theorem dC_lose_11 : decode M_C_lose.2.1 11 = .ok (.iconst 2, 1) := by decide +kernel
theorem dC_lose_12 : decode M_C_lose.2.1 12 = .ok (.putfield 15, 3) := by decide +kernel
theorem dC_lose_15 : decode M_C_lose.2.1 15 = .ok (.aload_n 0, 1) := by decide +kernel
theorem dC_lose_16 : decode M_C_lose.2.1 16 = .ok (.iconst 0, 1) := by decide +kernel
theorem dC_lose_17 : decode M_C_lose.2.1 17 = .ok (.invokevirtual 28, 3) := by decide +kernel
theorem dC_lose_20 : decode M_C_lose.2.1 20 = .ok (.aload_n 0, 1) := by decide +kernel
theorem dC_lose_21 : decode M_C_lose.2.1 21 = .ok (.iconst 0, 1) := by decide +kernel
theorem dC_lose_22 : decode M_C_lose.2.1 22 = .ok (.putfield 19, 3) := by decide +kernel
theorem dC_lose_25 : decode M_C_lose.2.1 25 = .ok (.aload_n 0, 1) := by decide +kernel
theorem dC_lose_26 : decode M_C_lose.2.1 26 = .ok (.iconst 0, 1) := by decide +kernel
theorem dC_lose_27 : decode M_C_lose.2.1 27 = .ok (.putfield 22, 3) := by decide +kernel
theorem dC_lose_30 : decode M_C_lose.2.1 30 = .ok (.iconst 1, 1) := by decide +kernel
theorem dC_lose_31 : decode M_C_lose.2.1 31 = .ok (.ireturn, 1) := by decide +kernel
theorem dC_take_0 : decode M_C_take.2.1 0 = .ok (.aload_n 0, 1) := by decide +kernel
theorem dC_take_1 : decode M_C_take.2.1 1 = .ok (.getfield 9, 3) := by decide +kernel
theorem dC_take_4 : decode M_C_take.2.1 4 = .ok (.iload_n 1, 1) := by decide +kernel
theorem dC_take_5 : decode M_C_take.2.1 5 = .ok (.baload, 1) := by decide +kernel
theorem dC_take_6 : decode M_C_take.2.1 6 = .ok (.ifCond .ne 7, 3) := by decide +kernel
theorem dC_take_9 : decode M_C_take.2.1 9 = .ok (.iconst 1, 1) := by decide +kernel
theorem dC_take_10 : decode M_C_take.2.1 10 = .ok (.goto 4, 3) := by decide +kernel
theorem dC_take_13 : decode M_C_take.2.1 13 = .ok (.iconst 0, 1) := by decide +kernel
theorem dC_take_14 : decode M_C_take.2.1 14 = .ok (.istore_n 2, 1) := by decide +kernel
theorem dC_take_15 : decode M_C_take.2.1 15 = .ok (.aload_n 0, 1) := by decide +kernel
theorem dC_take_16 : decode M_C_take.2.1 16 = .ok (.getfield 9, 3) := by decide +kernel
theorem dC_take_19 : decode M_C_take.2.1 19 = .ok (.iload_n 1, 1) := by decide +kernel
theorem dC_take_20 : decode M_C_take.2.1 20 = .ok (.iconst 1, 1) := by decide +kernel
theorem dC_take_21 : decode M_C_take.2.1 21 = .ok (.bastore, 1) := by decide +kernel
theorem dC_take_22 : decode M_C_take.2.1 22 = .ok (.iload_n 2, 1) := by decide +kernel
theorem dC_take_23 : decode M_C_take.2.1 23 = .ok (.ireturn, 1) := by decide +kernel
theorem dC_takeAllOf_0 : decode M_C_takeAllOf.2.1 0 = .ok (.iconst 0, 1) := by decide +kernel
theorem dC_takeAllOf_1 : decode M_C_takeAllOf.2.1 1 = .ok (.istore_n 2, 1) := by decide +kernel
theorem dC_takeAllOf_2 : decode M_C_takeAllOf.2.1 2 = .ok (.iconst 1, 1) := by decide +kernel
theorem dC_takeAllOf_3 : decode M_C_takeAllOf.2.1 3 = .ok (.istore_n 3, 1) := by decide +kernel
theorem dC_takeAllOf_4 : decode M_C_takeAllOf.2.1 4 = .ok (.iload_n 3, 1) := by decide +kernel
theorem dC_takeAllOf_5 : decode M_C_takeAllOf.2.1 5 = .ok (.sipush 187, 3) := by decide +kernel
theorem dC_takeAllOf_8 : decode M_C_takeAllOf.2.1 8 = .ok (.if_icmp .gt 29, 3) := by decide +kernel
theorem dC_takeAllOf_11 : decode M_C_takeAllOf.2.1 11 = .ok (.aload_n 1, 1) := by decide +kernel
theorem dC_takeAllOf_12 : decode M_C_takeAllOf.2.1 12 = .ok (.getfield 9, 3) := by decide +kernel
theorem dC_takeAllOf_15 : decode M_C_takeAllOf.2.1 15 = .ok (.iload_n 3, 1) := by decide +kernel
theorem dC_takeAllOf_16 : decode M_C_takeAllOf.2.1 16 = .ok (.baload, 1) := by decide +kernel
theorem dC_takeAllOf_17 : decode M_C_takeAllOf.2.1 17 = .ok (.ifCond .eq 14, 3) := by decide +kernel
theorem dC_takeAllOf_20 : decode M_C_takeAllOf.2.1 20 = .ok (.aload_n 0, 1) := by decide +kernel
theorem dC_takeAllOf_21 : decode M_C_takeAllOf.2.1 21 = .ok (.iload_n 3, 1) := by decide +kernel
theorem dC_takeAllOf_22 : decode M_C_takeAllOf.2.1 22 = .ok (.invokevirtual 32, 3) := by decide +kernel
theorem dC_takeAllOf_25 : decode M_C_takeAllOf.2.1 25 = .ok (.ifCond .eq 6, 3) := by decide +kernel
theorem dC_takeAllOf_28 : decode M_C_takeAllOf.2.1 28 = .ok (.iinc 2 1, 3) := by decide +kernel
theorem dC_takeAllOf_31 : decode M_C_takeAllOf.2.1 31 = .ok (.iinc 3 1, 3) := by decide +kernel
theorem dC_takeAllOf_34 : decode M_C_takeAllOf.2.1 34 = .ok (.goto (-30), 3) := by decide +kernel
theorem dC_takeAllOf_37 : decode M_C_takeAllOf.2.1 37 = .ok (.aload_n 0, 1) := by decide +kernel
theorem dC_takeAllOf_38 : decode M_C_takeAllOf.2.1 38 = .ok (.aload_n 0, 1) := by decide +kernel
theorem dC_takeAllOf_39 : decode M_C_takeAllOf.2.1 39 = .ok (.getfield 19, 3) := by decide +kernel
theorem dC_takeAllOf_42 : decode M_C_takeAllOf.2.1 42 = .ok (.aload_n 1, 1) := by decide +kernel
theorem dC_takeAllOf_43 : decode M_C_takeAllOf.2.1 43 = .ok (.getfield 19, 3) := by decide +kernel
theorem dC_takeAllOf_46 : decode M_C_takeAllOf.2.1 46 = .ok (.invokestatic 36, 3) := by decide +kernel
theorem dC_takeAllOf_49 : decode M_C_takeAllOf.2.1 49 = .ok (.putfield 19, 3) := by decide +kernel
theorem dC_takeAllOf_52 : decode M_C_takeAllOf.2.1 52 = .ok (.iload_n 2, 1) := by decide +kernel
theorem dC_takeAllOf_53 : decode M_C_takeAllOf.2.1 53 = .ok (.ireturn, 1) := by decide +kernel
theorem dC_dropAfter_0 : decode M_C_dropAfter.2.1 0 = .ok (.iload_n 1, 1) := by decide +kernel
theorem dC_dropAfter_1 : decode M_C_dropAfter.2.1 1 = .ok (.iconst 1, 1) := by decide +kernel
theorem dC_dropAfter_2 : decode M_C_dropAfter.2.1 2 = .ok (.iadd, 1) := by decide +kernel
theorem dC_dropAfter_3 : decode M_C_dropAfter.2.1 3 = .ok (.istore_n 2, 1) := by decide +kernel
theorem dC_dropAfter_4 : decode M_C_dropAfter.2.1 4 = .ok (.iload_n 2, 1) := by decide +kernel
theorem dC_dropAfter_5 : decode M_C_dropAfter.2.1 5 = .ok (.sipush 187, 3) := by decide +kernel
theorem dC_dropAfter_8 : decode M_C_dropAfter.2.1 8 = .ok (.if_icmp .gt 16, 3) := by decide +kernel
theorem dC_dropAfter_11 : decode M_C_dropAfter.2.1 11 = .ok (.aload_n 0, 1) := by decide +kernel
theorem dC_dropAfter_12 : decode M_C_dropAfter.2.1 12 = .ok (.getfield 9, 3) := by decide +kernel
theorem dC_dropAfter_15 : decode M_C_dropAfter.2.1 15 = .ok (.iload_n 2, 1) := by decide +kernel
theorem dC_dropAfter_16 : decode M_C_dropAfter.2.1 16 = .ok (.iconst 0, 1) := by decide +kernel
theorem dC_dropAfter_17 : decode M_C_dropAfter.2.1 17 = .ok (.bastore, 1) := by decide +kernel
theorem dC_dropAfter_18 : decode M_C_dropAfter.2.1 18 = .ok (.iinc 2 1, 3) := by decide +kernel
theorem dC_dropAfter_21 : decode M_C_dropAfter.2.1 21 = .ok (.goto (-17), 3) := by decide +kernel
theorem dC_dropAfter_24 : decode M_C_dropAfter.2.1 24 = .ok (.return_, 1) := by decide +kernel
theorem dC_reach_0 : decode M_C_reach.2.1 0 = .ok (.iconst 0, 1) := by decide +kernel
theorem dC_reach_1 : decode M_C_reach.2.1 1 = .ok (.istore_n 2, 1) := by decide +kernel
theorem dC_reach_2 : decode M_C_reach.2.1 2 = .ok (.iconst 1, 1) := by decide +kernel
theorem dC_reach_3 : decode M_C_reach.2.1 3 = .ok (.istore_n 3, 1) := by decide +kernel
theorem dC_reach_4 : decode M_C_reach.2.1 4 = .ok (.iload_n 3, 1) := by decide +kernel
theorem dC_reach_5 : decode M_C_reach.2.1 5 = .ok (.aload_n 1, 1) := by decide +kernel
theorem dC_reach_6 : decode M_C_reach.2.1 6 = .ok (.getfield 42, 3) := by decide +kernel
theorem dC_reach_9 : decode M_C_reach.2.1 9 = .ok (.if_icmp .gt 36, 3) := by decide +kernel
theorem dC_reach_12 : decode M_C_reach.2.1 12 = .ok (.aload_n 1, 1) := by decide +kernel
theorem dC_reach_13 : decode M_C_reach.2.1 13 = .ok (.getfield 45, 3) := by decide +kernel
theorem dC_reach_16 : decode M_C_reach.2.1 16 = .ok (.iload_n 3, 1) := by decide +kernel
theorem dC_reach_17 : decode M_C_reach.2.1 17 = .ok (.iaload, 1) := by decide +kernel
theorem dC_reach_18 : decode M_C_reach.2.1 18 = .ok (.aload_n 0, 1) := by decide +kernel
theorem dC_reach_19 : decode M_C_reach.2.1 19 = .ok (.getfield 25, 3) := by decide +kernel
theorem dC_reach_22 : decode M_C_reach.2.1 22 = .ok (.if_icmp .ne 17, 3) := by decide +kernel
theorem dC_reach_25 : decode M_C_reach.2.1 25 = .ok (.aload_n 0, 1) := by decide +kernel
theorem dC_reach_26 : decode M_C_reach.2.1 26 = .ok (.getfield 9, 3) := by decide +kernel
theorem dC_reach_29 : decode M_C_reach.2.1 29 = .ok (.iload_n 3, 1) := by decide +kernel
theorem dC_reach_30 : decode M_C_reach.2.1 30 = .ok (.baload, 1) := by decide +kernel
theorem dC_reach_31 : decode M_C_reach.2.1 31 = .ok (.ifCond .ne 6, 3) := by decide +kernel
theorem dC_reach_34 : decode M_C_reach.2.1 34 = .ok (.goto 11, 3) := by decide +kernel
theorem dC_reach_37 : decode M_C_reach.2.1 37 = .ok (.iload_n 3, 1) := by decide +kernel
theorem dC_reach_38 : decode M_C_reach.2.1 38 = .ok (.istore_n 2, 1) := by decide +kernel
theorem dC_reach_39 : decode M_C_reach.2.1 39 = .ok (.iinc 3 1, 3) := by decide +kernel
theorem dC_reach_42 : decode M_C_reach.2.1 42 = .ok (.goto (-38), 3) := by decide +kernel
theorem dC_reach_45 : decode M_C_reach.2.1 45 = .ok (.iload_n 2, 1) := by decide +kernel
theorem dC_reach_46 : decode M_C_reach.2.1 46 = .ok (.ireturn, 1) := by decide +kernel
theorem dC_tellReach_0 : decode M_C_tellReach.2.1 0 = .ok (.aload_n 0, 1) := by decide +kernel
theorem dC_tellReach_1 : decode M_C_tellReach.2.1 1 = .ok (.aload_n 0, 1) := by decide +kernel
theorem dC_tellReach_2 : decode M_C_tellReach.2.1 2 = .ok (.aload_n 1, 1) := by decide +kernel
theorem dC_tellReach_3 : decode M_C_tellReach.2.1 3 = .ok (.invokevirtual 48, 3) := by decide +kernel
theorem dC_tellReach_6 : decode M_C_tellReach.2.1 6 = .ok (.putfield 22, 3) := by decide +kernel
theorem dC_tellReach_9 : decode M_C_tellReach.2.1 9 = .ok (.return_, 1) := by decide +kernel
theorem dC_holdsAllUpTo_0 : decode M_C_holdsAllUpTo.2.1 0 = .ok (.iconst 1, 1) := by decide +kernel
theorem dC_holdsAllUpTo_1 : decode M_C_holdsAllUpTo.2.1 1 = .ok (.istore_n 3, 1) := by decide +kernel
theorem dC_holdsAllUpTo_2 : decode M_C_holdsAllUpTo.2.1 2 = .ok (.iload_n 3, 1) := by decide +kernel
theorem dC_holdsAllUpTo_3 : decode M_C_holdsAllUpTo.2.1 3 = .ok (.iload_n 1, 1) := by decide +kernel
theorem dC_holdsAllUpTo_4 : decode M_C_holdsAllUpTo.2.1 4 = .ok (.if_icmp .gt 33, 3) := by decide +kernel
theorem dC_holdsAllUpTo_7 : decode M_C_holdsAllUpTo.2.1 7 = .ok (.aload_n 2, 1) := by decide +kernel
theorem dC_holdsAllUpTo_8 : decode M_C_holdsAllUpTo.2.1 8 = .ok (.getfield 45, 3) := by decide +kernel
theorem dC_holdsAllUpTo_11 : decode M_C_holdsAllUpTo.2.1 11 = .ok (.iload_n 3, 1) := by decide +kernel
theorem dC_holdsAllUpTo_12 : decode M_C_holdsAllUpTo.2.1 12 = .ok (.iaload, 1) := by decide +kernel
theorem dC_holdsAllUpTo_13 : decode M_C_holdsAllUpTo.2.1 13 = .ok (.aload_n 0, 1) := by decide +kernel
theorem dC_holdsAllUpTo_14 : decode M_C_holdsAllUpTo.2.1 14 = .ok (.getfield 25, 3) := by decide +kernel
theorem dC_holdsAllUpTo_17 : decode M_C_holdsAllUpTo.2.1 17 = .ok (.if_icmp .ne 14, 3) := by decide +kernel
theorem dC_holdsAllUpTo_20 : decode M_C_holdsAllUpTo.2.1 20 = .ok (.aload_n 0, 1) := by decide +kernel
theorem dC_holdsAllUpTo_21 : decode M_C_holdsAllUpTo.2.1 21 = .ok (.getfield 9, 3) := by decide +kernel
theorem dC_holdsAllUpTo_24 : decode M_C_holdsAllUpTo.2.1 24 = .ok (.iload_n 3, 1) := by decide +kernel
theorem dC_holdsAllUpTo_25 : decode M_C_holdsAllUpTo.2.1 25 = .ok (.baload, 1) := by decide +kernel
theorem dC_holdsAllUpTo_26 : decode M_C_holdsAllUpTo.2.1 26 = .ok (.ifCond .ne 5, 3) := by decide +kernel
theorem dC_holdsAllUpTo_29 : decode M_C_holdsAllUpTo.2.1 29 = .ok (.iconst 0, 1) := by decide +kernel
theorem dC_holdsAllUpTo_30 : decode M_C_holdsAllUpTo.2.1 30 = .ok (.ireturn, 1) := by decide +kernel
theorem dC_holdsAllUpTo_31 : decode M_C_holdsAllUpTo.2.1 31 = .ok (.iinc 3 1, 3) := by decide +kernel
theorem dC_holdsAllUpTo_34 : decode M_C_holdsAllUpTo.2.1 34 = .ok (.goto (-32), 3) := by decide +kernel
theorem dC_holdsAllUpTo_37 : decode M_C_holdsAllUpTo.2.1 37 = .ok (.iconst 1, 1) := by decide +kernel
theorem dC_holdsAllUpTo_38 : decode M_C_holdsAllUpTo.2.1 38 = .ok (.ireturn, 1) := by decide +kernel
theorem dC_keptUpTo_0 : decode M_C_keptUpTo.2.1 0 = .ok (.iconst 0, 1) := by decide +kernel
theorem dC_keptUpTo_1 : decode M_C_keptUpTo.2.1 1 = .ok (.istore_n 2, 1) := by decide +kernel
theorem dC_keptUpTo_2 : decode M_C_keptUpTo.2.1 2 = .ok (.aload_n 0, 1) := by decide +kernel
theorem dC_keptUpTo_3 : decode M_C_keptUpTo.2.1 3 = .ok (.getfield 19, 3) := by decide +kernel
theorem dC_keptUpTo_6 : decode M_C_keptUpTo.2.1 6 = .ok (.iconst 1, 1) := by decide +kernel
theorem dC_keptUpTo_7 : decode M_C_keptUpTo.2.1 7 = .ok (.iadd, 1) := by decide +kernel
theorem dC_keptUpTo_8 : decode M_C_keptUpTo.2.1 8 = .ok (.istore_n 3, 1) := by decide +kernel
theorem dC_keptUpTo_9 : decode M_C_keptUpTo.2.1 9 = .ok (.iload_n 3, 1) := by decide +kernel
theorem dC_keptUpTo_10 : decode M_C_keptUpTo.2.1 10 = .ok (.iload_n 1, 1) := by decide +kernel
theorem dC_keptUpTo_11 : decode M_C_keptUpTo.2.1 11 = .ok (.if_icmp .gt 21, 3) := by decide +kernel
theorem dC_keptUpTo_14 : decode M_C_keptUpTo.2.1 14 = .ok (.aload_n 0, 1) := by decide +kernel
theorem dC_keptUpTo_15 : decode M_C_keptUpTo.2.1 15 = .ok (.getfield 9, 3) := by decide +kernel
theorem dC_keptUpTo_18 : decode M_C_keptUpTo.2.1 18 = .ok (.iload_n 3, 1) := by decide +kernel
theorem dC_keptUpTo_19 : decode M_C_keptUpTo.2.1 19 = .ok (.baload, 1) := by decide +kernel
theorem dC_keptUpTo_20 : decode M_C_keptUpTo.2.1 20 = .ok (.ifCond .eq 6, 3) := by decide +kernel
theorem dC_keptUpTo_23 : decode M_C_keptUpTo.2.1 23 = .ok (.iinc 2 1, 3) := by decide +kernel
theorem dC_keptUpTo_26 : decode M_C_keptUpTo.2.1 26 = .ok (.iinc 3 1, 3) := by decide +kernel
theorem dC_keptUpTo_29 : decode M_C_keptUpTo.2.1 29 = .ok (.goto (-20), 3) := by decide +kernel
theorem dC_keptUpTo_32 : decode M_C_keptUpTo.2.1 32 = .ok (.iload_n 2, 1) := by decide +kernel
theorem dC_keptUpTo_33 : decode M_C_keptUpTo.2.1 33 = .ok (.ireturn, 1) := by decide +kernel
theorem dC_foldUpTo_0 : decode M_C_foldUpTo.2.1 0 = .ok (.aload_n 0, 1) := by decide +kernel
theorem dC_foldUpTo_1 : decode M_C_foldUpTo.2.1 1 = .ok (.iload_n 1, 1) := by decide +kernel
theorem dC_foldUpTo_2 : decode M_C_foldUpTo.2.1 2 = .ok (.invokevirtual 52, 3) := by decide +kernel
theorem dC_foldUpTo_5 : decode M_C_foldUpTo.2.1 5 = .ok (.istore_n 2, 1) := by decide +kernel
theorem dC_foldUpTo_6 : decode M_C_foldUpTo.2.1 6 = .ok (.aload_n 0, 1) := by decide +kernel
theorem dC_foldUpTo_7 : decode M_C_foldUpTo.2.1 7 = .ok (.aload_n 0, 1) := by decide +kernel
theorem dC_foldUpTo_8 : decode M_C_foldUpTo.2.1 8 = .ok (.getfield 19, 3) := by decide +kernel
theorem dC_foldUpTo_11 : decode M_C_foldUpTo.2.1 11 = .ok (.iload_n 1, 1) := by decide +kernel
theorem dC_foldUpTo_12 : decode M_C_foldUpTo.2.1 12 = .ok (.invokestatic 36, 3) := by decide +kernel
theorem dC_foldUpTo_15 : decode M_C_foldUpTo.2.1 15 = .ok (.putfield 19, 3) := by decide +kernel
theorem dC_foldUpTo_18 : decode M_C_foldUpTo.2.1 18 = .ok (.iload_n 2, 1) := by decide +kernel
theorem dC_foldUpTo_19 : decode M_C_foldUpTo.2.1 19 = .ok (.ireturn, 1) := by decide +kernel
theorem dT_init_0 : decode M_T_init.2.1 0 = .ok (.aload_n 0, 1) := by decide +kernel
theorem dT_init_1 : decode M_T_init.2.1 1 = .ok (.invokespecial 3, 3) := by decide +kernel
theorem dT_init_4 : decode M_T_init.2.1 4 = .ok (.aload_n 0, 1) := by decide +kernel
theorem dT_init_5 : decode M_T_init.2.1 5 = .ok (.bipush 61, 2) := by decide +kernel
theorem dT_init_7 : decode M_T_init.2.1 7 = .ok (.newarray .boolean, 2) := by decide +kernel
theorem dT_init_9 : decode M_T_init.2.1 9 = .ok (.putfield 9, 3) := by decide +kernel
theorem dT_init_12 : decode M_T_init.2.1 12 = .ok (.aload_n 0, 1) := by decide +kernel
theorem dT_init_13 : decode M_T_init.2.1 13 = .ok (.bipush 32, 2) := by decide +kernel
theorem dT_init_15 : decode M_T_init.2.1 15 = .ok (.newarray .int, 2) := by decide +kernel
theorem dT_init_17 : decode M_T_init.2.1 17 = .ok (.putfield 15, 3) := by decide +kernel
theorem dT_init_20 : decode M_T_init.2.1 20 = .ok (.aload_n 0, 1) := by decide +kernel
theorem dT_init_21 : decode M_T_init.2.1 21 = .ok (.iconst 0, 1) := by decide +kernel
theorem dT_init_22 : decode M_T_init.2.1 22 = .ok (.putfield 19, 3) := by decide +kernel
theorem dT_init_25 : decode M_T_init.2.1 25 = .ok (.aload_n 0, 1) := by decide +kernel
theorem dT_init_26 : decode M_T_init.2.1 26 = .ok (.iconst 0, 1) := by decide +kernel
theorem dT_init_27 : decode M_T_init.2.1 27 = .ok (.putfield 23, 3) := by decide +kernel
theorem dT_init_30 : decode M_T_init.2.1 30 = .ok (.return_, 1) := by decide +kernel
theorem dT_isFull_0 : decode M_T_isFull.2.1 0 = .ok (.aload_n 0, 1) := by decide +kernel
theorem dT_isFull_1 : decode M_T_isFull.2.1 1 = .ok (.getfield 23, 3) := by decide +kernel
theorem dT_isFull_4 : decode M_T_isFull.2.1 4 = .ok (.iconst 4, 1) := by decide +kernel
theorem dT_isFull_5 : decode M_T_isFull.2.1 5 = .ok (.if_icmp .ge 12, 3) := by decide +kernel
theorem dT_isFull_8 : decode M_T_isFull.2.1 8 = .ok (.aload_n 0, 1) := by decide +kernel
theorem dT_isFull_9 : decode M_T_isFull.2.1 9 = .ok (.getfield 19, 3) := by decide +kernel
theorem dT_isFull_12 : decode M_T_isFull.2.1 12 = .ok (.bipush 60, 2) := by decide +kernel
theorem dT_isFull_14 : decode M_T_isFull.2.1 14 = .ok (.if_icmp .lt 7, 3) := by decide +kernel
theorem dT_isFull_17 : decode M_T_isFull.2.1 17 = .ok (.iconst 1, 1) := by decide +kernel
theorem dT_isFull_18 : decode M_T_isFull.2.1 18 = .ok (.goto 4, 3) := by decide +kernel
theorem dT_isFull_21 : decode M_T_isFull.2.1 21 = .ok (.iconst 0, 1) := by decide +kernel
theorem dT_isFull_22 : decode M_T_isFull.2.1 22 = .ok (.ireturn, 1) := by decide +kernel
theorem dT_start_0 : decode M_T_start.2.1 0 = .ok (.aload_n 0, 1) := by decide +kernel
theorem dT_start_1 : decode M_T_start.2.1 1 = .ok (.dup, 1) := by decide +kernel
theorem dT_start_2 : decode M_T_start.2.1 2 = .ok (.getfield 19, 3) := by decide +kernel
theorem dT_start_5 : decode M_T_start.2.1 5 = .ok (.iconst 1, 1) := by decide +kernel
theorem dT_start_6 : decode M_T_start.2.1 6 = .ok (.iadd, 1) := by decide +kernel
theorem dT_start_7 : decode M_T_start.2.1 7 = .ok (.putfield 19, 3) := by decide +kernel
theorem dT_start_10 : decode M_T_start.2.1 10 = .ok (.aload_n 0, 1) := by decide +kernel
theorem dT_start_11 : decode M_T_start.2.1 11 = .ok (.getfield 9, 3) := by decide +kernel
theorem dT_start_14 : decode M_T_start.2.1 14 = .ok (.aload_n 0, 1) := by decide +kernel
theorem dT_start_15 : decode M_T_start.2.1 15 = .ok (.getfield 19, 3) := by decide +kernel
theorem dT_start_18 : decode M_T_start.2.1 18 = .ok (.iconst 1, 1) := by decide +kernel
theorem dT_start_19 : decode M_T_start.2.1 19 = .ok (.bastore, 1) := by decide +kernel
theorem dT_start_20 : decode M_T_start.2.1 20 = .ok (.aload_n 0, 1) := by decide +kernel
theorem dT_start_21 : decode M_T_start.2.1 21 = .ok (.dup, 1) := by decide +kernel
theorem dT_start_22 : decode M_T_start.2.1 22 = .ok (.getfield 23, 3) := by decide +kernel
theorem dT_start_25 : decode M_T_start.2.1 25 = .ok (.iconst 1, 1) := by decide +kernel
theorem dT_start_26 : decode M_T_start.2.1 26 = .ok (.iadd, 1) := by decide +kernel
theorem dT_start_27 : decode M_T_start.2.1 27 = .ok (.putfield 23, 3) := by decide +kernel
theorem dT_start_30 : decode M_T_start.2.1 30 = .ok (.aload_n 0, 1) := by decide +kernel
theorem dT_start_31 : decode M_T_start.2.1 31 = .ok (.getfield 19, 3) := by decide +kernel
theorem dT_start_34 : decode M_T_start.2.1 34 = .ok (.ireturn, 1) := by decide +kernel
theorem dT_isActive_0 : decode M_T_isActive.2.1 0 = .ok (.iload_n 1, 1) := by decide +kernel
theorem dT_isActive_1 : decode M_T_isActive.2.1 1 = .ok (.iconst 1, 1) := by decide +kernel
theorem dT_isActive_2 : decode M_T_isActive.2.1 2 = .ok (.if_icmp .lt 24, 3) := by decide +kernel
theorem dT_isActive_5 : decode M_T_isActive.2.1 5 = .ok (.iload_n 1, 1) := by decide +kernel
theorem dT_isActive_6 : decode M_T_isActive.2.1 6 = .ok (.aload_n 0, 1) := by decide +kernel
theorem dT_isActive_7 : decode M_T_isActive.2.1 7 = .ok (.getfield 19, 3) := by decide +kernel
theorem dT_isActive_10 : decode M_T_isActive.2.1 10 = .ok (.if_icmp .gt 16, 3) := by decide +kernel
theorem dT_isActive_13 : decode M_T_isActive.2.1 13 = .ok (.aload_n 0, 1) := by decide +kernel
theorem dT_isActive_14 : decode M_T_isActive.2.1 14 = .ok (.getfield 9, 3) := by decide +kernel
theorem dT_isActive_17 : decode M_T_isActive.2.1 17 = .ok (.iload_n 1, 1) := by decide +kernel
theorem dT_isActive_18 : decode M_T_isActive.2.1 18 = .ok (.baload, 1) := by decide +kernel
theorem dT_isActive_19 : decode M_T_isActive.2.1 19 = .ok (.ifCond .eq 7, 3) := by decide +kernel
theorem dT_isActive_22 : decode M_T_isActive.2.1 22 = .ok (.iconst 1, 1) := by decide +kernel
theorem dT_isActive_23 : decode M_T_isActive.2.1 23 = .ok (.goto 4, 3) := by decide +kernel
theorem dT_isActive_26 : decode M_T_isActive.2.1 26 = .ok (.iconst 0, 1) := by decide +kernel
theorem dT_isActive_27 : decode M_T_isActive.2.1 27 = .ok (.ireturn, 1) := by decide +kernel
theorem dT_mayHold_0 : decode M_T_mayHold.2.1 0 = .ok (.aload_n 0, 1) := by decide +kernel
theorem dT_mayHold_1 : decode M_T_mayHold.2.1 1 = .ok (.getfield 15, 3) := by decide +kernel
theorem dT_mayHold_4 : decode M_T_mayHold.2.1 4 = .ok (.iload_n 2, 1) := by decide +kernel
theorem dT_mayHold_5 : decode M_T_mayHold.2.1 5 = .ok (.iaload, 1) := by decide +kernel
theorem dT_mayHold_6 : decode M_T_mayHold.2.1 6 = .ok (.ifCond .eq 13, 3) := by decide +kernel
theorem dT_mayHold_9 : decode M_T_mayHold.2.1 9 = .ok (.aload_n 0, 1) := by decide +kernel
theorem dT_mayHold_10 : decode M_T_mayHold.2.1 10 = .ok (.getfield 15, 3) := by decide +kernel
theorem dT_mayHold_13 : decode M_T_mayHold.2.1 13 = .ok (.iload_n 2, 1) := by decide +kernel
theorem dT_mayHold_14 : decode M_T_mayHold.2.1 14 = .ok (.iaload, 1) := by decide +kernel
theorem dT_mayHold_15 : decode M_T_mayHold.2.1 15 = .ok (.iload_n 1, 1) := by decide +kernel
theorem dT_mayHold_16 : decode M_T_mayHold.2.1 16 = .ok (.if_icmp .ne 7, 3) := by decide +kernel
theorem dT_mayHold_19 : decode M_T_mayHold.2.1 19 = .ok (.iconst 1, 1) := by decide +kernel
theorem dT_mayHold_20 : decode M_T_mayHold.2.1 20 = .ok (.goto 4, 3) := by decide +kernel
theorem dT_mayHold_23 : decode M_T_mayHold.2.1 23 = .ok (.iconst 0, 1) := by decide +kernel
theorem dT_mayHold_24 : decode M_T_mayHold.2.1 24 = .ok (.ireturn, 1) := by decide +kernel
theorem dT_hold_0 : decode M_T_hold.2.1 0 = .ok (.aload_n 0, 1) := by decide +kernel
theorem dT_hold_1 : decode M_T_hold.2.1 1 = .ok (.getfield 15, 3) := by decide +kernel
theorem dT_hold_4 : decode M_T_hold.2.1 4 = .ok (.iload_n 2, 1) := by decide +kernel
theorem dT_hold_5 : decode M_T_hold.2.1 5 = .ok (.iload_n 1, 1) := by decide +kernel
theorem dT_hold_6 : decode M_T_hold.2.1 6 = .ok (.iastore, 1) := by decide +kernel
theorem dT_hold_7 : decode M_T_hold.2.1 7 = .ok (.return_, 1) := by decide +kernel
theorem dT_finish_0 : decode M_T_finish.2.1 0 = .ok (.aload_n 0, 1) := by decide +kernel
theorem dT_finish_1 : decode M_T_finish.2.1 1 = .ok (.getfield 9, 3) := by decide +kernel
theorem dT_finish_4 : decode M_T_finish.2.1 4 = .ok (.iload_n 1, 1) := by decide +kernel
theorem dT_finish_5 : decode M_T_finish.2.1 5 = .ok (.iconst 0, 1) := by decide +kernel
theorem dT_finish_6 : decode M_T_finish.2.1 6 = .ok (.bastore, 1) := by decide +kernel
theorem dT_finish_7 : decode M_T_finish.2.1 7 = .ok (.aload_n 0, 1) := by decide +kernel
theorem dT_finish_8 : decode M_T_finish.2.1 8 = .ok (.dup, 1) := by decide +kernel
theorem dT_finish_9 : decode M_T_finish.2.1 9 = .ok (.getfield 23, 3) := by decide +kernel
theorem dT_finish_12 : decode M_T_finish.2.1 12 = .ok (.iconst 1, 1) := by decide +kernel
theorem dT_finish_13 : decode M_T_finish.2.1 13 = .ok (.isub, 1) := by decide +kernel
theorem dT_finish_14 : decode M_T_finish.2.1 14 = .ok (.putfield 23, 3) := by decide +kernel
theorem dT_finish_17 : decode M_T_finish.2.1 17 = .ok (.iconst 0, 1) := by decide +kernel
theorem dT_finish_18 : decode M_T_finish.2.1 18 = .ok (.istore_n 2, 1) := by decide +kernel
theorem dT_finish_19 : decode M_T_finish.2.1 19 = .ok (.iload_n 2, 1) := by decide +kernel
theorem dT_finish_20 : decode M_T_finish.2.1 20 = .ok (.bipush 32, 2) := by decide +kernel
theorem dT_finish_22 : decode M_T_finish.2.1 22 = .ok (.if_icmp .ge 26, 3) := by decide +kernel
theorem dT_finish_25 : decode M_T_finish.2.1 25 = .ok (.aload_n 0, 1) := by decide +kernel
theorem dT_finish_26 : decode M_T_finish.2.1 26 = .ok (.getfield 15, 3) := by decide +kernel
theorem dT_finish_29 : decode M_T_finish.2.1 29 = .ok (.iload_n 2, 1) := by decide +kernel
theorem dT_finish_30 : decode M_T_finish.2.1 30 = .ok (.iaload, 1) := by decide +kernel
theorem dT_finish_31 : decode M_T_finish.2.1 31 = .ok (.iload_n 1, 1) := by decide +kernel
theorem dT_finish_32 : decode M_T_finish.2.1 32 = .ok (.if_icmp .ne 10, 3) := by decide +kernel
theorem dT_finish_35 : decode M_T_finish.2.1 35 = .ok (.aload_n 0, 1) := by decide +kernel
theorem dT_finish_36 : decode M_T_finish.2.1 36 = .ok (.getfield 15, 3) := by decide +kernel
theorem dT_finish_39 : decode M_T_finish.2.1 39 = .ok (.iload_n 2, 1) := by decide +kernel
theorem dT_finish_40 : decode M_T_finish.2.1 40 = .ok (.iconst 0, 1) := by decide +kernel
theorem dT_finish_41 : decode M_T_finish.2.1 41 = .ok (.iastore, 1) := by decide +kernel
theorem dT_finish_42 : decode M_T_finish.2.1 42 = .ok (.iinc 2 1, 3) := by decide +kernel
theorem dT_finish_45 : decode M_T_finish.2.1 45 = .ok (.goto (-26), 3) := by decide +kernel
theorem dT_finish_48 : decode M_T_finish.2.1 48 = .ok (.return_, 1) := by decide +kernel
theorem dT_finishAll_0 : decode M_T_finishAll.2.1 0 = .ok (.iconst 1, 1) := by decide +kernel
theorem dT_finishAll_1 : decode M_T_finishAll.2.1 1 = .ok (.istore_n 1, 1) := by decide +kernel
theorem dT_finishAll_2 : decode M_T_finishAll.2.1 2 = .ok (.iload_n 1, 1) := by decide +kernel
theorem dT_finishAll_3 : decode M_T_finishAll.2.1 3 = .ok (.aload_n 0, 1) := by decide +kernel
theorem dT_finishAll_4 : decode M_T_finishAll.2.1 4 = .ok (.getfield 19, 3) := by decide +kernel
theorem dT_finishAll_7 : decode M_T_finishAll.2.1 7 = .ok (.if_icmp .gt 23, 3) := by decide +kernel
theorem dT_finishAll_10 : decode M_T_finishAll.2.1 10 = .ok (.aload_n 0, 1) := by decide +kernel
theorem dT_finishAll_11 : decode M_T_finishAll.2.1 11 = .ok (.getfield 9, 3) := by decide +kernel
theorem dT_finishAll_14 : decode M_T_finishAll.2.1 14 = .ok (.iload_n 1, 1) := by decide +kernel
theorem dT_finishAll_15 : decode M_T_finishAll.2.1 15 = .ok (.baload, 1) := by decide +kernel
theorem dT_finishAll_16 : decode M_T_finishAll.2.1 16 = .ok (.ifCond .eq 8, 3) := by decide +kernel
theorem dT_finishAll_19 : decode M_T_finishAll.2.1 19 = .ok (.aload_n 0, 1) := by decide +kernel
theorem dT_finishAll_20 : decode M_T_finishAll.2.1 20 = .ok (.iload_n 1, 1) := by decide +kernel
theorem dT_finishAll_21 : decode M_T_finishAll.2.1 21 = .ok (.invokevirtual 26, 3) := by decide +kernel
theorem dT_finishAll_24 : decode M_T_finishAll.2.1 24 = .ok (.iinc 1 1, 3) := by decide +kernel
theorem dT_finishAll_27 : decode M_T_finishAll.2.1 27 = .ok (.goto (-25), 3) := by decide +kernel
theorem dT_finishAll_30 : decode M_T_finishAll.2.1 30 = .ok (.return_, 1) := by decide +kernel
end
section
/-! Decode rows (by program, wip/whole/gen.py). -/
theorem dQ_init_0 : decode M_Q_init.2.1 0 = .ok (.aload_n 0, 1) := by decide +kernel
theorem dQ_init_1 : decode M_Q_init.2.1 1 = .ok (.invokespecial 1, 3) := by decide +kernel
theorem dQ_init_4 : decode M_Q_init.2.1 4 = .ok (.aload_n 0, 1) := by decide +kernel
theorem dQ_init_5 : decode M_Q_init.2.1 5 = .ok (.new 7, 3) := by decide +kernel
theorem dQ_init_8 : decode M_Q_init.2.1 8 = .ok (.dup, 1) := by decide +kernel
theorem dQ_init_9 : decode M_Q_init.2.1 9 = .ok (.invokespecial 9, 3) := by decide +kernel
theorem dQ_init_12 : decode M_Q_init.2.1 12 = .ok (.putfield 10, 3) := by decide +kernel
theorem dQ_init_15 : decode M_Q_init.2.1 15 = .ok (.aload_n 0, 1) := by decide +kernel
theorem dQ_init_16 : decode M_Q_init.2.1 16 = .ok (.new 16, 3) := by decide +kernel
theorem dQ_init_19 : decode M_Q_init.2.1 19 = .ok (.dup, 1) := by decide +kernel
theorem dQ_init_20 : decode M_Q_init.2.1 20 = .ok (.invokespecial 18, 3) := by decide +kernel
theorem dQ_init_23 : decode M_Q_init.2.1 23 = .ok (.putfield 19, 3) := by decide +kernel
theorem dQ_init_26 : decode M_Q_init.2.1 26 = .ok (.aload_n 0, 1) := by decide +kernel
theorem dQ_init_27 : decode M_Q_init.2.1 27 = .ok (.iconst 2, 1) := by decide +kernel
theorem dQ_init_28 : decode M_Q_init.2.1 28 = .ok (.anewarray 23, 3) := by decide +kernel
theorem dQ_init_31 : decode M_Q_init.2.1 31 = .ok (.putfield 25, 3) := by decide +kernel
theorem dQ_init_34 : decode M_Q_init.2.1 34 = .ok (.iconst 0, 1) := by decide +kernel
theorem dQ_init_35 : decode M_Q_init.2.1 35 = .ok (.istore_n 1, 1) := by decide +kernel
theorem dQ_init_36 : decode M_Q_init.2.1 36 = .ok (.iload_n 1, 1) := by decide +kernel
theorem dQ_init_37 : decode M_Q_init.2.1 37 = .ok (.iconst 2, 1) := by decide +kernel
theorem dQ_init_38 : decode M_Q_init.2.1 38 = .ok (.if_icmp .ge 23, 3) := by decide +kernel
theorem dQ_init_41 : decode M_Q_init.2.1 41 = .ok (.aload_n 0, 1) := by decide +kernel
theorem dQ_init_42 : decode M_Q_init.2.1 42 = .ok (.getfield 25, 3) := by decide +kernel
theorem dQ_init_45 : decode M_Q_init.2.1 45 = .ok (.iload_n 1, 1) := by decide +kernel
theorem dQ_init_46 : decode M_Q_init.2.1 46 = .ok (.new 23, 3) := by decide +kernel
theorem dQ_init_49 : decode M_Q_init.2.1 49 = .ok (.dup, 1) := by decide +kernel
theorem dQ_init_50 : decode M_Q_init.2.1 50 = .ok (.iload_n 1, 1) := by decide +kernel
theorem dQ_init_51 : decode M_Q_init.2.1 51 = .ok (.invokespecial 29, 3) := by decide +kernel
theorem dQ_init_54 : decode M_Q_init.2.1 54 = .ok (.aastore, 1) := by decide +kernel
theorem dQ_init_55 : decode M_Q_init.2.1 55 = .ok (.iinc 1 1, 3) := by decide +kernel
theorem dQ_init_58 : decode M_Q_init.2.1 58 = .ok (.goto (-22), 3) := by decide +kernel
theorem dQ_init_61 : decode M_Q_init.2.1 61 = .ok (.aload_n 0, 1) := by decide +kernel
theorem dQ_init_62 : decode M_Q_init.2.1 62 = .ok (.new 32, 3) := by decide +kernel
theorem dQ_init_65 : decode M_Q_init.2.1 65 = .ok (.dup, 1) := by decide +kernel
theorem dQ_init_66 : decode M_Q_init.2.1 66 = .ok (.invokespecial 34, 3) := by decide +kernel
theorem dQ_init_69 : decode M_Q_init.2.1 69 = .ok (.putfield 35, 3) := by decide +kernel
theorem dQ_init_72 : decode M_Q_init.2.1 72 = .ok (.aload_n 0, 1) := by decide +kernel
theorem dQ_init_73 : decode M_Q_init.2.1 73 = .ok (.iconst 2, 1) := by decide +kernel
theorem dQ_init_74 : decode M_Q_init.2.1 74 = .ok (.newarray .int, 2) := by decide +kernel
theorem dQ_init_76 : decode M_Q_init.2.1 76 = .ok (.putfield 39, 3) := by decide +kernel
theorem dQ_init_79 : decode M_Q_init.2.1 79 = .ok (.aload_n 0, 1) := by decide +kernel
theorem dQ_init_80 : decode M_Q_init.2.1 80 = .ok (.iconst 1, 1) := by decide +kernel
theorem dQ_init_81 : decode M_Q_init.2.1 81 = .ok (.putfield 43, 3) := by decide +kernel
theorem dQ_init_84 : decode M_Q_init.2.1 84 = .ok (.aload_n 0, 1) := by decide +kernel
theorem dQ_init_85 : decode M_Q_init.2.1 85 = .ok (.iconst 0, 1) := by decide +kernel
theorem dQ_init_86 : decode M_Q_init.2.1 86 = .ok (.putfield 47, 3) := by decide +kernel
theorem dQ_init_89 : decode M_Q_init.2.1 89 = .ok (.return_, 1) := by decide +kernel
theorem dQ_begin_0 : decode M_Q_begin.2.1 0 = .ok (.aload_n 0, 1) := by decide +kernel
theorem dQ_begin_1 : decode M_Q_begin.2.1 1 = .ok (.getfield 43, 3) := by decide +kernel
theorem dQ_begin_4 : decode M_Q_begin.2.1 4 = .ok (.ifCond .ne 6, 3) := by decide +kernel
theorem dQ_begin_7 : decode M_Q_begin.2.1 7 = .ok (.bipush (-2), 2) := by decide +kernel
theorem dQ_begin_9 : decode M_Q_begin.2.1 9 = .ok (.ireturn, 1) := by decide +kernel
theorem dQ_begin_10 : decode M_Q_begin.2.1 10 = .ok (.aload_n 0, 1) := by decide +kernel
theorem dQ_begin_11 : decode M_Q_begin.2.1 11 = .ok (.getfield 19, 3) := by decide +kernel
theorem dQ_begin_14 : decode M_Q_begin.2.1 14 = .ok (.invokevirtual 51, 3) := by decide +kernel
theorem dQ_begin_17 : decode M_Q_begin.2.1 17 = .ok (.ifCond .ne 16, 3) := by decide +kernel
theorem dQ_begin_20 : decode M_Q_begin.2.1 20 = .ok (.aload_n 0, 1) := by decide +kernel
theorem dQ_begin_21 : decode M_Q_begin.2.1 21 = .ok (.getfield 10, 3) := by decide +kernel
theorem dQ_begin_24 : decode M_Q_begin.2.1 24 = .ok (.getfield 55, 3) := by decide +kernel
theorem dQ_begin_27 : decode M_Q_begin.2.1 27 = .ok (.sipush 150, 3) := by decide +kernel
theorem dQ_begin_30 : decode M_Q_begin.2.1 30 = .ok (.if_icmp .lt 6, 3) := by decide +kernel
theorem dQ_begin_33 : decode M_Q_begin.2.1 33 = .ok (.bipush (-5), 2) := by decide +kernel
theorem dQ_begin_35 : decode M_Q_begin.2.1 35 = .ok (.ireturn, 1) := by decide +kernel
theorem dQ_begin_36 : decode M_Q_begin.2.1 36 = .ok (.aload_n 0, 1) := by decide +kernel
theorem dQ_begin_37 : decode M_Q_begin.2.1 37 = .ok (.getfield 19, 3) := by decide +kernel
theorem dQ_begin_40 : decode M_Q_begin.2.1 40 = .ok (.invokevirtual 58, 3) := by decide +kernel
theorem dQ_begin_43 : decode M_Q_begin.2.1 43 = .ok (.ireturn, 1) := by decide +kernel
theorem dQ_read_0 : decode M_Q_read.2.1 0 = .ok (.iload_n 2, 1) := by decide +kernel
theorem dQ_read_1 : decode M_Q_read.2.1 1 = .ok (.invokestatic 62, 3) := by decide +kernel
theorem dQ_read_4 : decode M_Q_read.2.1 4 = .ok (.ifCond .ne 5, 3) := by decide +kernel
theorem dQ_read_7 : decode M_Q_read.2.1 7 = .ok (.iconst (-1), 1) := by decide +kernel
theorem dQ_read_8 : decode M_Q_read.2.1 8 = .ok (.ireturn, 1) := by decide +kernel
theorem dQ_read_9 : decode M_Q_read.2.1 9 = .ok (.aload_n 0, 1) := by decide +kernel
theorem dQ_read_10 : decode M_Q_read.2.1 10 = .ok (.iload_n 1, 1) := by decide +kernel
theorem dQ_read_11 : decode M_Q_read.2.1 11 = .ok (.iload_n 2, 1) := by decide +kernel
theorem dQ_read_12 : decode M_Q_read.2.1 12 = .ok (.iload_n 2, 1) := by decide +kernel
theorem dQ_read_13 : decode M_Q_read.2.1 13 = .ok (.invokevirtual 66, 3) := by decide +kernel
theorem dQ_read_16 : decode M_Q_read.2.1 16 = .ok (.istore_n 3, 1) := by decide +kernel
theorem dQ_read_17 : decode M_Q_read.2.1 17 = .ok (.iload_n 3, 1) := by decide +kernel
theorem dQ_read_18 : decode M_Q_read.2.1 18 = .ok (.ifCond .ne 13, 3) := by decide +kernel
theorem dQ_read_21 : decode M_Q_read.2.1 21 = .ok (.aload_n 0, 1) := by decide +kernel
theorem dQ_read_22 : decode M_Q_read.2.1 22 = .ok (.iload_n 2, 1) := by decide +kernel
theorem dQ_read_23 : decode M_Q_read.2.1 23 = .ok (.invokestatic 70, 3) := by decide +kernel
theorem dQ_read_26 : decode M_Q_read.2.1 26 = .ok (.iconst (-1), 1) := by decide +kernel
theorem dQ_read_27 : decode M_Q_read.2.1 27 = .ok (.invokevirtual 74, 3) := by decide +kernel
theorem dQ_read_30 : decode M_Q_read.2.1 30 = .ok (.istore_n 3, 1) := by decide +kernel
theorem dQ_read_31 : decode M_Q_read.2.1 31 = .ok (.iload_n 3, 1) := by decide +kernel
theorem dQ_read_32 : decode M_Q_read.2.1 32 = .ok (.ifCond .eq 5, 3) := by decide +kernel
theorem dQ_read_35 : decode M_Q_read.2.1 35 = .ok (.iload_n 3, 1) := by decide +kernel
theorem dQ_read_36 : decode M_Q_read.2.1 36 = .ok (.ireturn, 1) := by decide +kernel
theorem dQ_read_37 : decode M_Q_read.2.1 37 = .ok (.aload_n 0, 1) := by decide +kernel
theorem dQ_read_38 : decode M_Q_read.2.1 38 = .ok (.getfield 19, 3) := by decide +kernel
theorem dQ_read_41 : decode M_Q_read.2.1 41 = .ok (.iload_n 1, 1) := by decide +kernel
theorem dQ_read_42 : decode M_Q_read.2.1 42 = .ok (.iload_n 2, 1) := by decide +kernel
theorem dQ_read_43 : decode M_Q_read.2.1 43 = .ok (.invokevirtual 78, 3) := by decide +kernel
theorem dQ_read_46 : decode M_Q_read.2.1 46 = .ok (.aload_n 0, 1) := by decide +kernel
theorem dQ_read_47 : decode M_Q_read.2.1 47 = .ok (.getfield 10, 3) := by decide +kernel
theorem dQ_read_50 : decode M_Q_read.2.1 50 = .ok (.iload_n 2, 1) := by decide +kernel
theorem dQ_read_51 : decode M_Q_read.2.1 51 = .ok (.aload_n 0, 1) := by decide +kernel
theorem dQ_read_52 : decode M_Q_read.2.1 52 = .ok (.getfield 10, 3) := by decide +kernel
theorem dQ_read_55 : decode M_Q_read.2.1 55 = .ok (.getfield 55, 3) := by decide +kernel
theorem dQ_read_58 : decode M_Q_read.2.1 58 = .ok (.invokevirtual 82, 3) := by decide +kernel
theorem dQ_read_61 : decode M_Q_read.2.1 61 = .ok (.ireturn, 1) := by decide +kernel
theorem dQ_write_0 : decode M_Q_write.2.1 0 = .ok (.iload_n 2, 1) := by decide +kernel
theorem dQ_write_1 : decode M_Q_write.2.1 1 = .ok (.invokestatic 62, 3) := by decide +kernel
theorem dQ_write_4 : decode M_Q_write.2.1 4 = .ok (.ifCond .eq 14, 3) := by decide +kernel
theorem dQ_write_7 : decode M_Q_write.2.1 7 = .ok (.iload_n 3, 1) := by decide +kernel
theorem dQ_write_8 : decode M_Q_write.2.1 8 = .ok (.ifCond .lt 10, 3) := by decide +kernel
theorem dQ_write_11 : decode M_Q_write.2.1 11 = .ok (.iload_n 3, 1) := by decide +kernel
theorem dQ_write_12 : decode M_Q_write.2.1 12 = .ok (.sipush 9999, 3) := by decide +kernel
theorem dQ_write_15 : decode M_Q_write.2.1 15 = .ok (.if_icmp .le 5, 3) := by decide +kernel
theorem dQ_write_18 : decode M_Q_write.2.1 18 = .ok (.iconst (-1), 1) := by decide +kernel
theorem dQ_write_19 : decode M_Q_write.2.1 19 = .ok (.ireturn, 1) := by decide +kernel
theorem dQ_write_20 : decode M_Q_write.2.1 20 = .ok (.aload_n 0, 1) := by decide +kernel
theorem dQ_write_21 : decode M_Q_write.2.1 21 = .ok (.iload_n 1, 1) := by decide +kernel
theorem dQ_write_22 : decode M_Q_write.2.1 22 = .ok (.iload_n 2, 1) := by decide +kernel
theorem dQ_write_23 : decode M_Q_write.2.1 23 = .ok (.iload_n 2, 1) := by decide +kernel
theorem dQ_write_24 : decode M_Q_write.2.1 24 = .ok (.invokevirtual 85, 3) := by decide +kernel
theorem dQ_write_27 : decode M_Q_write.2.1 27 = .ok (.istore 4, 2) := by decide +kernel
theorem dQ_write_29 : decode M_Q_write.2.1 29 = .ok (.iload 4, 2) := by decide +kernel
theorem dQ_write_31 : decode M_Q_write.2.1 31 = .ok (.ifCond .ne 14, 3) := by decide +kernel
theorem dQ_write_34 : decode M_Q_write.2.1 34 = .ok (.aload_n 0, 1) := by decide +kernel
theorem dQ_write_35 : decode M_Q_write.2.1 35 = .ok (.iload_n 2, 1) := by decide +kernel
theorem dQ_write_36 : decode M_Q_write.2.1 36 = .ok (.invokestatic 70, 3) := by decide +kernel
theorem dQ_write_39 : decode M_Q_write.2.1 39 = .ok (.iconst (-1), 1) := by decide +kernel
theorem dQ_write_40 : decode M_Q_write.2.1 40 = .ok (.invokevirtual 74, 3) := by decide +kernel
theorem dQ_write_43 : decode M_Q_write.2.1 43 = .ok (.istore 4, 2) := by decide +kernel
theorem dQ_write_45 : decode M_Q_write.2.1 45 = .ok (.iload 4, 2) := by decide +kernel
theorem dQ_write_47 : decode M_Q_write.2.1 47 = .ok (.ifCond .eq 6, 3) := by decide +kernel
theorem dQ_write_50 : decode M_Q_write.2.1 50 = .ok (.iload 4, 2) := by decide +kernel
theorem dQ_write_52 : decode M_Q_write.2.1 52 = .ok (.ireturn, 1) := by decide +kernel
theorem dQ_write_53 : decode M_Q_write.2.1 53 = .ok (.aload_n 0, 1) := by decide +kernel
theorem dQ_write_54 : decode M_Q_write.2.1 54 = .ok (.getfield 19, 3) := by decide +kernel
theorem dQ_write_57 : decode M_Q_write.2.1 57 = .ok (.iload_n 1, 1) := by decide +kernel
theorem dQ_write_58 : decode M_Q_write.2.1 58 = .ok (.iload_n 2, 1) := by decide +kernel
theorem dQ_write_59 : decode M_Q_write.2.1 59 = .ok (.invokevirtual 78, 3) := by decide +kernel
theorem dQ_write_62 : decode M_Q_write.2.1 62 = .ok (.aload_n 0, 1) := by decide +kernel
theorem dQ_write_63 : decode M_Q_write.2.1 63 = .ok (.getfield 10, 3) := by decide +kernel
theorem dQ_write_66 : decode M_Q_write.2.1 66 = .ok (.iload_n 1, 1) := by decide +kernel
theorem dQ_write_67 : decode M_Q_write.2.1 67 = .ok (.iload_n 2, 1) := by decide +kernel
theorem dQ_write_68 : decode M_Q_write.2.1 68 = .ok (.iload_n 3, 1) := by decide +kernel
theorem dQ_write_69 : decode M_Q_write.2.1 69 = .ok (.iconst 1, 1) := by decide +kernel
theorem dQ_write_70 : decode M_Q_write.2.1 70 = .ok (.invokevirtual 88, 3) := by decide +kernel
theorem dQ_write_73 : decode M_Q_write.2.1 73 = .ok (.ireturn, 1) := by decide +kernel
theorem dQ_shift_0 : decode M_Q_shift.2.1 0 = .ok (.iload_n 2, 1) := by decide +kernel
theorem dQ_shift_1 : decode M_Q_shift.2.1 1 = .ok (.invokestatic 62, 3) := by decide +kernel
theorem dQ_shift_4 : decode M_Q_shift.2.1 4 = .ok (.ifCond .eq 29, 3) := by decide +kernel
theorem dQ_shift_7 : decode M_Q_shift.2.1 7 = .ok (.iload_n 3, 1) := by decide +kernel
theorem dQ_shift_8 : decode M_Q_shift.2.1 8 = .ok (.invokestatic 62, 3) := by decide +kernel
theorem dQ_shift_11 : decode M_Q_shift.2.1 11 = .ok (.ifCond .eq 22, 3) := by decide +kernel
theorem dQ_shift_14 : decode M_Q_shift.2.1 14 = .ok (.iload_n 2, 1) := by decide +kernel
theorem dQ_shift_15 : decode M_Q_shift.2.1 15 = .ok (.iload_n 3, 1) := by decide +kernel
theorem dQ_shift_16 : decode M_Q_shift.2.1 16 = .ok (.if_icmp .eq 17, 3) := by decide +kernel
theorem dQ_shift_19 : decode M_Q_shift.2.1 19 = .ok (.iload 4, 2) := by decide +kernel
theorem dQ_shift_21 : decode M_Q_shift.2.1 21 = .ok (.iconst 1, 1) := by decide +kernel
theorem dQ_shift_22 : decode M_Q_shift.2.1 22 = .ok (.if_icmp .lt 11, 3) := by decide +kernel
theorem dQ_shift_25 : decode M_Q_shift.2.1 25 = .ok (.iload 4, 2) := by decide +kernel
theorem dQ_shift_27 : decode M_Q_shift.2.1 27 = .ok (.sipush 9999, 3) := by decide +kernel
theorem dQ_shift_30 : decode M_Q_shift.2.1 30 = .ok (.if_icmp .le 5, 3) := by decide +kernel
theorem dQ_shift_33 : decode M_Q_shift.2.1 33 = .ok (.iconst (-1), 1) := by decide +kernel
theorem dQ_shift_34 : decode M_Q_shift.2.1 34 = .ok (.ireturn, 1) := by decide +kernel
theorem dQ_shift_35 : decode M_Q_shift.2.1 35 = .ok (.aload_n 0, 1) := by decide +kernel
theorem dQ_shift_36 : decode M_Q_shift.2.1 36 = .ok (.iload_n 1, 1) := by decide +kernel
theorem dQ_shift_37 : decode M_Q_shift.2.1 37 = .ok (.iload_n 2, 1) := by decide +kernel
theorem dQ_shift_38 : decode M_Q_shift.2.1 38 = .ok (.iload_n 3, 1) := by decide +kernel
theorem dQ_shift_39 : decode M_Q_shift.2.1 39 = .ok (.invokevirtual 85, 3) := by decide +kernel
theorem dQ_shift_42 : decode M_Q_shift.2.1 42 = .ok (.istore 5, 2) := by decide +kernel
theorem dQ_shift_44 : decode M_Q_shift.2.1 44 = .ok (.iload 5, 2) := by decide +kernel
theorem dQ_shift_46 : decode M_Q_shift.2.1 46 = .ok (.ifCond .ne 17, 3) := by decide +kernel
theorem dQ_shift_49 : decode M_Q_shift.2.1 49 = .ok (.aload_n 0, 1) := by decide +kernel
theorem dQ_shift_50 : decode M_Q_shift.2.1 50 = .ok (.iload_n 2, 1) := by decide +kernel
theorem dQ_shift_51 : decode M_Q_shift.2.1 51 = .ok (.invokestatic 70, 3) := by decide +kernel
theorem dQ_shift_54 : decode M_Q_shift.2.1 54 = .ok (.iload_n 3, 1) := by decide +kernel
theorem dQ_shift_55 : decode M_Q_shift.2.1 55 = .ok (.invokestatic 70, 3) := by decide +kernel
theorem dQ_shift_58 : decode M_Q_shift.2.1 58 = .ok (.invokevirtual 74, 3) := by decide +kernel
theorem dQ_shift_61 : decode M_Q_shift.2.1 61 = .ok (.istore 5, 2) := by decide +kernel
theorem dQ_shift_63 : decode M_Q_shift.2.1 63 = .ok (.iload 5, 2) := by decide +kernel
theorem dQ_shift_65 : decode M_Q_shift.2.1 65 = .ok (.ifCond .ne 17, 3) := by decide +kernel
theorem dQ_shift_68 : decode M_Q_shift.2.1 68 = .ok (.aload_n 0, 1) := by decide +kernel
theorem dQ_shift_69 : decode M_Q_shift.2.1 69 = .ok (.iload_n 3, 1) := by decide +kernel
theorem dQ_shift_70 : decode M_Q_shift.2.1 70 = .ok (.invokestatic 70, 3) := by decide +kernel
theorem dQ_shift_73 : decode M_Q_shift.2.1 73 = .ok (.iload_n 2, 1) := by decide +kernel
theorem dQ_shift_74 : decode M_Q_shift.2.1 74 = .ok (.invokestatic 70, 3) := by decide +kernel
theorem dQ_shift_77 : decode M_Q_shift.2.1 77 = .ok (.invokevirtual 74, 3) := by decide +kernel
theorem dQ_shift_80 : decode M_Q_shift.2.1 80 = .ok (.istore 5, 2) := by decide +kernel
theorem dQ_shift_82 : decode M_Q_shift.2.1 82 = .ok (.iload 5, 2) := by decide +kernel
theorem dQ_shift_84 : decode M_Q_shift.2.1 84 = .ok (.ifCond .eq 6, 3) := by decide +kernel
theorem dQ_shift_87 : decode M_Q_shift.2.1 87 = .ok (.iload 5, 2) := by decide +kernel
theorem dQ_shift_89 : decode M_Q_shift.2.1 89 = .ok (.ireturn, 1) := by decide +kernel
theorem dQ_shift_90 : decode M_Q_shift.2.1 90 = .ok (.aload_n 0, 1) := by decide +kernel
theorem dQ_shift_91 : decode M_Q_shift.2.1 91 = .ok (.getfield 10, 3) := by decide +kernel
theorem dQ_shift_94 : decode M_Q_shift.2.1 94 = .ok (.iload_n 2, 1) := by decide +kernel
theorem dQ_shift_95 : decode M_Q_shift.2.1 95 = .ok (.aload_n 0, 1) := by decide +kernel
theorem dQ_shift_96 : decode M_Q_shift.2.1 96 = .ok (.getfield 10, 3) := by decide +kernel
theorem dQ_shift_99 : decode M_Q_shift.2.1 99 = .ok (.getfield 55, 3) := by decide +kernel
theorem dQ_shift_102 : decode M_Q_shift.2.1 102 = .ok (.invokevirtual 82, 3) := by decide +kernel
theorem dQ_shift_105 : decode M_Q_shift.2.1 105 = .ok (.iload 4, 2) := by decide +kernel
theorem dQ_shift_107 : decode M_Q_shift.2.1 107 = .ok (.isub, 1) := by decide +kernel
theorem dQ_shift_108 : decode M_Q_shift.2.1 108 = .ok (.istore 6, 2) := by decide +kernel
theorem dQ_shift_110 : decode M_Q_shift.2.1 110 = .ok (.aload_n 0, 1) := by decide +kernel
theorem dQ_shift_111 : decode M_Q_shift.2.1 111 = .ok (.getfield 10, 3) := by decide +kernel
theorem dQ_shift_114 : decode M_Q_shift.2.1 114 = .ok (.iload_n 3, 1) := by decide +kernel
theorem dQ_shift_115 : decode M_Q_shift.2.1 115 = .ok (.aload_n 0, 1) := by decide +kernel
theorem dQ_shift_116 : decode M_Q_shift.2.1 116 = .ok (.getfield 10, 3) := by decide +kernel
theorem dQ_shift_119 : decode M_Q_shift.2.1 119 = .ok (.getfield 55, 3) := by decide +kernel
theorem dQ_shift_122 : decode M_Q_shift.2.1 122 = .ok (.invokevirtual 82, 3) := by decide +kernel
theorem dQ_shift_125 : decode M_Q_shift.2.1 125 = .ok (.iload 4, 2) := by decide +kernel
theorem dQ_shift_127 : decode M_Q_shift.2.1 127 = .ok (.iadd, 1) := by decide +kernel
theorem dQ_shift_128 : decode M_Q_shift.2.1 128 = .ok (.istore 7, 2) := by decide +kernel
theorem dQ_shift_130 : decode M_Q_shift.2.1 130 = .ok (.iload 6, 2) := by decide +kernel
theorem dQ_shift_132 : decode M_Q_shift.2.1 132 = .ok (.ifCond .lt 11, 3) := by decide +kernel
theorem dQ_shift_135 : decode M_Q_shift.2.1 135 = .ok (.iload 7, 2) := by decide +kernel
theorem dQ_shift_137 : decode M_Q_shift.2.1 137 = .ok (.sipush 9999, 3) := by decide +kernel
theorem dQ_shift_140 : decode M_Q_shift.2.1 140 = .ok (.if_icmp .le 6, 3) := by decide +kernel
theorem dQ_shift_143 : decode M_Q_shift.2.1 143 = .ok (.bipush (-8), 2) := by decide +kernel
theorem dQ_shift_145 : decode M_Q_shift.2.1 145 = .ok (.ireturn, 1) := by decide +kernel
theorem dQ_shift_146 : decode M_Q_shift.2.1 146 = .ok (.aload_n 0, 1) := by decide +kernel
theorem dQ_shift_147 : decode M_Q_shift.2.1 147 = .ok (.getfield 19, 3) := by decide +kernel
theorem dQ_shift_150 : decode M_Q_shift.2.1 150 = .ok (.iload_n 1, 1) := by decide +kernel
theorem dQ_shift_151 : decode M_Q_shift.2.1 151 = .ok (.iload_n 2, 1) := by decide +kernel
theorem dQ_shift_152 : decode M_Q_shift.2.1 152 = .ok (.invokevirtual 78, 3) := by decide +kernel
theorem dQ_shift_155 : decode M_Q_shift.2.1 155 = .ok (.aload_n 0, 1) := by decide +kernel
theorem dQ_shift_156 : decode M_Q_shift.2.1 156 = .ok (.getfield 19, 3) := by decide +kernel
theorem dQ_shift_159 : decode M_Q_shift.2.1 159 = .ok (.iload_n 1, 1) := by decide +kernel
theorem dQ_shift_160 : decode M_Q_shift.2.1 160 = .ok (.iload_n 3, 1) := by decide +kernel
theorem dQ_shift_161 : decode M_Q_shift.2.1 161 = .ok (.invokevirtual 78, 3) := by decide +kernel
theorem dQ_shift_164 : decode M_Q_shift.2.1 164 = .ok (.aload_n 0, 1) := by decide +kernel
theorem dQ_shift_165 : decode M_Q_shift.2.1 165 = .ok (.getfield 10, 3) := by decide +kernel
theorem dQ_shift_168 : decode M_Q_shift.2.1 168 = .ok (.iload_n 1, 1) := by decide +kernel
theorem dQ_shift_169 : decode M_Q_shift.2.1 169 = .ok (.iload_n 2, 1) := by decide +kernel
theorem dQ_shift_170 : decode M_Q_shift.2.1 170 = .ok (.iload 6, 2) := by decide +kernel
theorem dQ_shift_172 : decode M_Q_shift.2.1 172 = .ok (.iconst 0, 1) := by decide +kernel
theorem dQ_shift_173 : decode M_Q_shift.2.1 173 = .ok (.invokevirtual 88, 3) := by decide +kernel
theorem dQ_shift_176 : decode M_Q_shift.2.1 176 = .ok (.pop, 1) := by decide +kernel
theorem dQ_shift_177 : decode M_Q_shift.2.1 177 = .ok (.aload_n 0, 1) := by decide +kernel
theorem dQ_shift_178 : decode M_Q_shift.2.1 178 = .ok (.getfield 10, 3) := by decide +kernel
theorem dQ_shift_181 : decode M_Q_shift.2.1 181 = .ok (.iload_n 1, 1) := by decide +kernel
theorem dQ_shift_182 : decode M_Q_shift.2.1 182 = .ok (.iload_n 3, 1) := by decide +kernel
theorem dQ_shift_183 : decode M_Q_shift.2.1 183 = .ok (.iload 7, 2) := by decide +kernel
theorem dQ_shift_185 : decode M_Q_shift.2.1 185 = .ok (.iconst 1, 1) := by decide +kernel
theorem dQ_shift_186 : decode M_Q_shift.2.1 186 = .ok (.invokevirtual 88, 3) := by decide +kernel
theorem dQ_shift_189 : decode M_Q_shift.2.1 189 = .ok (.ireturn, 1) := by decide +kernel
theorem dQ_commit_0 : decode M_Q_commit.2.1 0 = .ok (.aload_n 0, 1) := by decide +kernel
theorem dQ_commit_1 : decode M_Q_commit.2.1 1 = .ok (.iload_n 1, 1) := by decide +kernel
theorem dQ_commit_2 : decode M_Q_commit.2.1 2 = .ok (.invokevirtual 92, 3) := by decide +kernel
theorem dQ_commit_5 : decode M_Q_commit.2.1 5 = .ok (.istore_n 2, 1) := by decide +kernel
theorem dQ_commit_6 : decode M_Q_commit.2.1 6 = .ok (.iload_n 2, 1) := by decide +kernel
theorem dQ_commit_7 : decode M_Q_commit.2.1 7 = .ok (.ifCond .eq 5, 3) := by decide +kernel
theorem dQ_commit_10 : decode M_Q_commit.2.1 10 = .ok (.iload_n 2, 1) := by decide +kernel
theorem dQ_commit_11 : decode M_Q_commit.2.1 11 = .ok (.ireturn, 1) := by decide +kernel
theorem dQ_commit_12 : decode M_Q_commit.2.1 12 = .ok (.aload_n 0, 1) := by decide +kernel
theorem dQ_commit_13 : decode M_Q_commit.2.1 13 = .ok (.getfield 19, 3) := by decide +kernel
theorem dQ_commit_16 : decode M_Q_commit.2.1 16 = .ok (.iload_n 1, 1) := by decide +kernel
theorem dQ_commit_17 : decode M_Q_commit.2.1 17 = .ok (.invokevirtual 95, 3) := by decide +kernel
theorem dQ_commit_20 : decode M_Q_commit.2.1 20 = .ok (.aload_n 0, 1) := by decide +kernel
theorem dQ_commit_21 : decode M_Q_commit.2.1 21 = .ok (.getfield 10, 3) := by decide +kernel
theorem dQ_commit_24 : decode M_Q_commit.2.1 24 = .ok (.iload_n 1, 1) := by decide +kernel
theorem dQ_commit_25 : decode M_Q_commit.2.1 25 = .ok (.iconst 1, 1) := by decide +kernel
theorem dQ_commit_26 : decode M_Q_commit.2.1 26 = .ok (.invokevirtual 98, 3) := by decide +kernel
theorem dQ_commit_29 : decode M_Q_commit.2.1 29 = .ok (.ireturn, 1) := by decide +kernel
theorem dQ_abort_0 : decode M_Q_abort.2.1 0 = .ok (.aload_n 0, 1) := by decide +kernel
theorem dQ_abort_1 : decode M_Q_abort.2.1 1 = .ok (.iload_n 1, 1) := by decide +kernel
theorem dQ_abort_2 : decode M_Q_abort.2.1 2 = .ok (.invokevirtual 92, 3) := by decide +kernel
theorem dQ_abort_5 : decode M_Q_abort.2.1 5 = .ok (.istore_n 2, 1) := by decide +kernel
theorem dQ_abort_6 : decode M_Q_abort.2.1 6 = .ok (.iload_n 2, 1) := by decide +kernel
theorem dQ_abort_7 : decode M_Q_abort.2.1 7 = .ok (.ifCond .eq 5, 3) := by decide +kernel
theorem dQ_abort_10 : decode M_Q_abort.2.1 10 = .ok (.iload_n 2, 1) := by decide +kernel
theorem dQ_abort_11 : decode M_Q_abort.2.1 11 = .ok (.ireturn, 1) := by decide +kernel
theorem dQ_abort_12 : decode M_Q_abort.2.1 12 = .ok (.aload_n 0, 1) := by decide +kernel
theorem dQ_abort_13 : decode M_Q_abort.2.1 13 = .ok (.getfield 19, 3) := by decide +kernel
theorem dQ_abort_16 : decode M_Q_abort.2.1 16 = .ok (.iload_n 1, 1) := by decide +kernel
theorem dQ_abort_17 : decode M_Q_abort.2.1 17 = .ok (.invokevirtual 95, 3) := by decide +kernel
theorem dQ_abort_20 : decode M_Q_abort.2.1 20 = .ok (.aload_n 0, 1) := by decide +kernel
theorem dQ_abort_21 : decode M_Q_abort.2.1 21 = .ok (.getfield 10, 3) := by decide +kernel
theorem dQ_abort_24 : decode M_Q_abort.2.1 24 = .ok (.iload_n 1, 1) := by decide +kernel
theorem dQ_abort_25 : decode M_Q_abort.2.1 25 = .ok (.invokevirtual 102, 3) := by decide +kernel
theorem dQ_abort_28 : decode M_Q_abort.2.1 28 = .ok (.ireturn, 1) := by decide +kernel
theorem dQ_status_0 : decode M_Q_status.2.1 0 = .ok (.iload_n 1, 1) := by decide +kernel
theorem dQ_status_1 : decode M_Q_status.2.1 1 = .ok (.iconst 1, 1) := by decide +kernel
theorem dQ_status_2 : decode M_Q_status.2.1 2 = .ok (.if_icmp .lt 14, 3) := by decide +kernel
theorem dQ_status_5 : decode M_Q_status.2.1 5 = .ok (.iload_n 1, 1) := by decide +kernel
theorem dQ_status_6 : decode M_Q_status.2.1 6 = .ok (.aload_n 0, 1) := by decide +kernel
theorem dQ_status_7 : decode M_Q_status.2.1 7 = .ok (.getfield 19, 3) := by decide +kernel
theorem dQ_status_10 : decode M_Q_status.2.1 10 = .ok (.getfield 105, 3) := by decide +kernel
theorem dQ_status_13 : decode M_Q_status.2.1 13 = .ok (.if_icmp .le 5, 3) := by decide +kernel
theorem dQ_status_16 : decode M_Q_status.2.1 16 = .ok (.iconst 0, 1) := by decide +kernel
theorem dQ_status_17 : decode M_Q_status.2.1 17 = .ok (.ireturn, 1) := by decide +kernel
theorem dQ_status_18 : decode M_Q_status.2.1 18 = .ok (.aload_n 0, 1) := by decide +kernel
theorem dQ_status_19 : decode M_Q_status.2.1 19 = .ok (.getfield 19, 3) := by decide +kernel
theorem dQ_status_22 : decode M_Q_status.2.1 22 = .ok (.iload_n 1, 1) := by decide +kernel
theorem dQ_status_23 : decode M_Q_status.2.1 23 = .ok (.invokevirtual 108, 3) := by decide +kernel
theorem dQ_status_26 : decode M_Q_status.2.1 26 = .ok (.ifCond .eq 5, 3) := by decide +kernel
theorem dQ_status_29 : decode M_Q_status.2.1 29 = .ok (.iconst 1, 1) := by decide +kernel
theorem dQ_status_30 : decode M_Q_status.2.1 30 = .ok (.ireturn, 1) := by decide +kernel
theorem dQ_status_31 : decode M_Q_status.2.1 31 = .ok (.aload_n 0, 1) := by decide +kernel
theorem dQ_status_32 : decode M_Q_status.2.1 32 = .ok (.getfield 10, 3) := by decide +kernel
theorem dQ_status_35 : decode M_Q_status.2.1 35 = .ok (.getfield 111, 3) := by decide +kernel
theorem dQ_status_38 : decode M_Q_status.2.1 38 = .ok (.iload_n 1, 1) := by decide +kernel
theorem dQ_status_39 : decode M_Q_status.2.1 39 = .ok (.iaload, 1) := by decide +kernel
theorem dQ_status_40 : decode M_Q_status.2.1 40 = .ok (.istore_n 2, 1) := by decide +kernel
theorem dQ_status_41 : decode M_Q_status.2.1 41 = .ok (.iload_n 2, 1) := by decide +kernel
theorem dQ_status_42 : decode M_Q_status.2.1 42 = .ok (.ifCond .ne 5, 3) := by decide +kernel
theorem dQ_status_45 : decode M_Q_status.2.1 45 = .ok (.iconst 5, 1) := by decide +kernel
theorem dQ_status_46 : decode M_Q_status.2.1 46 = .ok (.ireturn, 1) := by decide +kernel
theorem dQ_status_47 : decode M_Q_status.2.1 47 = .ok (.aload_n 0, 1) := by decide +kernel
theorem dQ_status_48 : decode M_Q_status.2.1 48 = .ok (.getfield 10, 3) := by decide +kernel
theorem dQ_status_51 : decode M_Q_status.2.1 51 = .ok (.iload_n 2, 1) := by decide +kernel
theorem dQ_status_52 : decode M_Q_status.2.1 52 = .ok (.invokevirtual 114, 3) := by decide +kernel
theorem dQ_status_55 : decode M_Q_status.2.1 55 = .ok (.ifCond .ne 5, 3) := by decide +kernel
theorem dQ_status_58 : decode M_Q_status.2.1 58 = .ok (.iconst 4, 1) := by decide +kernel
theorem dQ_status_59 : decode M_Q_status.2.1 59 = .ok (.ireturn, 1) := by decide +kernel
theorem dQ_status_60 : decode M_Q_status.2.1 60 = .ok (.iload_n 2, 1) := by decide +kernel
theorem dQ_status_61 : decode M_Q_status.2.1 61 = .ok (.aload_n 0, 1) := by decide +kernel
theorem dQ_status_62 : decode M_Q_status.2.1 62 = .ok (.getfield 47, 3) := by decide +kernel
theorem dQ_status_65 : decode M_Q_status.2.1 65 = .ok (.if_icmp .le 7, 3) := by decide +kernel
theorem dQ_status_68 : decode M_Q_status.2.1 68 = .ok (.iconst 2, 1) := by decide +kernel
theorem dQ_status_69 : decode M_Q_status.2.1 69 = .ok (.goto 4, 3) := by decide +kernel
theorem dQ_status_72 : decode M_Q_status.2.1 72 = .ok (.iconst 3, 1) := by decide +kernel
theorem dQ_status_73 : decode M_Q_status.2.1 73 = .ok (.ireturn, 1) := by decide +kernel
theorem dQ_deliver_0 : decode M_Q_deliver.2.1 0 = .ok (.aload_n 0, 1) := by decide +kernel
theorem dQ_deliver_1 : decode M_Q_deliver.2.1 1 = .ok (.getfield 10, 3) := by decide +kernel
theorem dQ_deliver_4 : decode M_Q_deliver.2.1 4 = .ok (.iload_n 1, 1) := by decide +kernel
theorem dQ_deliver_5 : decode M_Q_deliver.2.1 5 = .ok (.invokevirtual 117, 3) := by decide +kernel
theorem dQ_deliver_8 : decode M_Q_deliver.2.1 8 = .ok (.ifCond .eq 13, 3) := by decide +kernel
theorem dQ_deliver_11 : decode M_Q_deliver.2.1 11 = .ok (.iload_n 2, 1) := by decide +kernel
theorem dQ_deliver_12 : decode M_Q_deliver.2.1 12 = .ok (.ifCond .lt 9, 3) := by decide +kernel
theorem dQ_deliver_15 : decode M_Q_deliver.2.1 15 = .ok (.iload_n 2, 1) := by decide +kernel
theorem dQ_deliver_16 : decode M_Q_deliver.2.1 16 = .ok (.bipush 6, 2) := by decide +kernel
theorem dQ_deliver_18 : decode M_Q_deliver.2.1 18 = .ok (.if_icmp .lt 5, 3) := by decide +kernel
theorem dQ_deliver_21 : decode M_Q_deliver.2.1 21 = .ok (.iconst (-1), 1) := by decide +kernel
theorem dQ_deliver_22 : decode M_Q_deliver.2.1 22 = .ok (.ireturn, 1) := by decide +kernel
theorem dQ_deliver_23 : decode M_Q_deliver.2.1 23 = .ok (.aload_n 0, 1) := by decide +kernel
theorem dQ_deliver_24 : decode M_Q_deliver.2.1 24 = .ok (.getfield 25, 3) := by decide +kernel
theorem dQ_deliver_27 : decode M_Q_deliver.2.1 27 = .ok (.aload_n 0, 1) := by decide +kernel
theorem dQ_deliver_28 : decode M_Q_deliver.2.1 28 = .ok (.getfield 10, 3) := by decide +kernel
theorem dQ_deliver_31 : decode M_Q_deliver.2.1 31 = .ok (.getfield 120, 3) := by decide +kernel
theorem dQ_deliver_34 : decode M_Q_deliver.2.1 34 = .ok (.iload_n 1, 1) := by decide +kernel
theorem dQ_deliver_35 : decode M_Q_deliver.2.1 35 = .ok (.iaload, 1) := by decide +kernel
theorem dQ_deliver_36 : decode M_Q_deliver.2.1 36 = .ok (.aaload, 1) := by decide +kernel
theorem dQ_deliver_37 : decode M_Q_deliver.2.1 37 = .ok (.getfield 123, 3) := by decide +kernel
theorem dQ_deliver_40 : decode M_Q_deliver.2.1 40 = .ok (.iload_n 2, 1) := by decide +kernel
theorem dQ_deliver_41 : decode M_Q_deliver.2.1 41 = .ok (.aaload, 1) := by decide +kernel
theorem dQ_deliver_42 : decode M_Q_deliver.2.1 42 = .ok (.astore_n 3, 1) := by decide +kernel
theorem dQ_deliver_43 : decode M_Q_deliver.2.1 43 = .ok (.aload_n 3, 1) := by decide +kernel
theorem dQ_deliver_44 : decode M_Q_deliver.2.1 44 = .ok (.invokevirtual 127, 3) := by decide +kernel
theorem dQ_deliver_47 : decode M_Q_deliver.2.1 47 = .ok (.ifCond .ne 5, 3) := by decide +kernel
theorem dQ_deliver_50 : decode M_Q_deliver.2.1 50 = .ok (.iconst 0, 1) := by decide +kernel
theorem dQ_deliver_51 : decode M_Q_deliver.2.1 51 = .ok (.ireturn, 1) := by decide +kernel
theorem dQ_deliver_52 : decode M_Q_deliver.2.1 52 = .ok (.aload_n 3, 1) := by decide +kernel
theorem dQ_deliver_53 : decode M_Q_deliver.2.1 53 = .ok (.iload_n 1, 1) := by decide +kernel
theorem dQ_deliver_54 : decode M_Q_deliver.2.1 54 = .ok (.invokevirtual 132, 3) := by decide +kernel
theorem dQ_deliver_57 : decode M_Q_deliver.2.1 57 = .ok (.istore 4, 2) := by decide +kernel
theorem dQ_deliver_59 : decode M_Q_deliver.2.1 59 = .ok (.aload_n 0, 1) := by decide +kernel
theorem dQ_deliver_60 : decode M_Q_deliver.2.1 60 = .ok (.getfield 43, 3) := by decide +kernel
theorem dQ_deliver_63 : decode M_Q_deliver.2.1 63 = .ok (.ifCond .eq 15, 3) := by decide +kernel
theorem dQ_deliver_66 : decode M_Q_deliver.2.1 66 = .ok (.aload_n 3, 1) := by decide +kernel
theorem dQ_deliver_67 : decode M_Q_deliver.2.1 67 = .ok (.aload_n 0, 1) := by decide +kernel
theorem dQ_deliver_68 : decode M_Q_deliver.2.1 68 = .ok (.getfield 10, 3) := by decide +kernel
theorem dQ_deliver_71 : decode M_Q_deliver.2.1 71 = .ok (.invokevirtual 135, 3) := by decide +kernel
theorem dQ_deliver_74 : decode M_Q_deliver.2.1 74 = .ok (.aload_n 0, 1) := by decide +kernel
theorem dQ_deliver_75 : decode M_Q_deliver.2.1 75 = .ok (.invokevirtual 139, 3) := by decide +kernel
theorem dQ_deliver_78 : decode M_Q_deliver.2.1 78 = .ok (.iload 4, 2) := by decide +kernel
theorem dQ_deliver_80 : decode M_Q_deliver.2.1 80 = .ok (.ifCond .eq 7, 3) := by decide +kernel
theorem dQ_deliver_83 : decode M_Q_deliver.2.1 83 = .ok (.iconst 2, 1) := by decide +kernel
theorem dQ_deliver_84 : decode M_Q_deliver.2.1 84 = .ok (.goto 4, 3) := by decide +kernel
theorem dQ_deliver_87 : decode M_Q_deliver.2.1 87 = .ok (.iconst 1, 1) := by decide +kernel
theorem dQ_deliver_88 : decode M_Q_deliver.2.1 88 = .ok (.ireturn, 1) := by decide +kernel
theorem dQ_gossip_0 : decode M_Q_gossip.2.1 0 = .ok (.iload_n 1, 1) := by decide +kernel
theorem dQ_gossip_1 : decode M_Q_gossip.2.1 1 = .ok (.iload_n 2, 1) := by decide +kernel
theorem dQ_gossip_2 : decode M_Q_gossip.2.1 2 = .ok (.invokestatic 142, 3) := by decide +kernel
theorem dQ_gossip_5 : decode M_Q_gossip.2.1 5 = .ok (.ifCond .eq 16, 3) := by decide +kernel
theorem dQ_gossip_8 : decode M_Q_gossip.2.1 8 = .ok (.iload_n 1, 1) := by decide +kernel
theorem dQ_gossip_9 : decode M_Q_gossip.2.1 9 = .ok (.iload_n 3, 1) := by decide +kernel
theorem dQ_gossip_10 : decode M_Q_gossip.2.1 10 = .ok (.invokestatic 142, 3) := by decide +kernel
theorem dQ_gossip_13 : decode M_Q_gossip.2.1 13 = .ok (.ifCond .eq 8, 3) := by decide +kernel
theorem dQ_gossip_16 : decode M_Q_gossip.2.1 16 = .ok (.iload_n 2, 1) := by decide +kernel
theorem dQ_gossip_17 : decode M_Q_gossip.2.1 17 = .ok (.iload_n 3, 1) := by decide +kernel
theorem dQ_gossip_18 : decode M_Q_gossip.2.1 18 = .ok (.if_icmp .ne 5, 3) := by decide +kernel
theorem dQ_gossip_21 : decode M_Q_gossip.2.1 21 = .ok (.iconst (-1), 1) := by decide +kernel
theorem dQ_gossip_22 : decode M_Q_gossip.2.1 22 = .ok (.ireturn, 1) := by decide +kernel
theorem dQ_gossip_23 : decode M_Q_gossip.2.1 23 = .ok (.aload_n 0, 1) := by decide +kernel
theorem dQ_gossip_24 : decode M_Q_gossip.2.1 24 = .ok (.getfield 25, 3) := by decide +kernel
theorem dQ_gossip_27 : decode M_Q_gossip.2.1 27 = .ok (.iload_n 1, 1) := by decide +kernel
theorem dQ_gossip_28 : decode M_Q_gossip.2.1 28 = .ok (.aaload, 1) := by decide +kernel
theorem dQ_gossip_29 : decode M_Q_gossip.2.1 29 = .ok (.getfield 123, 3) := by decide +kernel
theorem dQ_gossip_32 : decode M_Q_gossip.2.1 32 = .ok (.iload_n 2, 1) := by decide +kernel
theorem dQ_gossip_33 : decode M_Q_gossip.2.1 33 = .ok (.aaload, 1) := by decide +kernel
theorem dQ_gossip_34 : decode M_Q_gossip.2.1 34 = .ok (.astore 4, 2) := by decide +kernel
theorem dQ_gossip_36 : decode M_Q_gossip.2.1 36 = .ok (.aload_n 0, 1) := by decide +kernel
theorem dQ_gossip_37 : decode M_Q_gossip.2.1 37 = .ok (.getfield 25, 3) := by decide +kernel
theorem dQ_gossip_40 : decode M_Q_gossip.2.1 40 = .ok (.iload_n 1, 1) := by decide +kernel
theorem dQ_gossip_41 : decode M_Q_gossip.2.1 41 = .ok (.aaload, 1) := by decide +kernel
theorem dQ_gossip_42 : decode M_Q_gossip.2.1 42 = .ok (.getfield 123, 3) := by decide +kernel
theorem dQ_gossip_45 : decode M_Q_gossip.2.1 45 = .ok (.iload_n 3, 1) := by decide +kernel
theorem dQ_gossip_46 : decode M_Q_gossip.2.1 46 = .ok (.aaload, 1) := by decide +kernel
theorem dQ_gossip_47 : decode M_Q_gossip.2.1 47 = .ok (.astore 5, 2) := by decide +kernel
theorem dQ_gossip_49 : decode M_Q_gossip.2.1 49 = .ok (.aload 4, 2) := by decide +kernel
theorem dQ_gossip_51 : decode M_Q_gossip.2.1 51 = .ok (.invokevirtual 127, 3) := by decide +kernel
theorem dQ_gossip_54 : decode M_Q_gossip.2.1 54 = .ok (.ifCond .eq 11, 3) := by decide +kernel
theorem dQ_gossip_57 : decode M_Q_gossip.2.1 57 = .ok (.aload 5, 2) := by decide +kernel
theorem dQ_gossip_59 : decode M_Q_gossip.2.1 59 = .ok (.invokevirtual 127, 3) := by decide +kernel
theorem dQ_gossip_62 : decode M_Q_gossip.2.1 62 = .ok (.ifCond .ne 6, 3) := by decide +kernel
theorem dQ_gossip_65 : decode M_Q_gossip.2.1 65 = .ok (.bipush (-7), 2) := by decide +kernel
theorem dQ_gossip_67 : decode M_Q_gossip.2.1 67 = .ok (.ireturn, 1) := by decide +kernel
theorem dQ_gossip_68 : decode M_Q_gossip.2.1 68 = .ok (.aload 5, 2) := by decide +kernel
theorem dQ_gossip_70 : decode M_Q_gossip.2.1 70 = .ok (.aload 4, 2) := by decide +kernel
theorem dQ_gossip_72 : decode M_Q_gossip.2.1 72 = .ok (.invokevirtual 146, 3) := by decide +kernel
theorem dQ_gossip_75 : decode M_Q_gossip.2.1 75 = .ok (.ireturn, 1) := by decide +kernel
theorem dQ_report_0 : decode M_Q_report.2.1 0 = .ok (.aload_n 0, 1) := by decide +kernel
theorem dQ_report_1 : decode M_Q_report.2.1 1 = .ok (.iload_n 1, 1) := by decide +kernel
theorem dQ_report_2 : decode M_Q_report.2.1 2 = .ok (.iload_n 2, 1) := by decide +kernel
theorem dQ_report_3 : decode M_Q_report.2.1 3 = .ok (.invokevirtual 150, 3) := by decide +kernel
theorem dQ_report_6 : decode M_Q_report.2.1 6 = .ok (.istore_n 3, 1) := by decide +kernel
theorem dQ_report_7 : decode M_Q_report.2.1 7 = .ok (.iload_n 3, 1) := by decide +kernel
theorem dQ_report_8 : decode M_Q_report.2.1 8 = .ok (.ifCond .eq 5, 3) := by decide +kernel
theorem dQ_report_11 : decode M_Q_report.2.1 11 = .ok (.iload_n 3, 1) := by decide +kernel
theorem dQ_report_12 : decode M_Q_report.2.1 12 = .ok (.ireturn, 1) := by decide +kernel
theorem dQ_report_13 : decode M_Q_report.2.1 13 = .ok (.aload_n 0, 1) := by decide +kernel
theorem dQ_report_14 : decode M_Q_report.2.1 14 = .ok (.getfield 25, 3) := by decide +kernel
theorem dQ_report_17 : decode M_Q_report.2.1 17 = .ok (.iload_n 1, 1) := by decide +kernel
theorem dQ_report_18 : decode M_Q_report.2.1 18 = .ok (.aaload, 1) := by decide +kernel
theorem dQ_report_19 : decode M_Q_report.2.1 19 = .ok (.getfield 123, 3) := by decide +kernel
theorem dQ_report_22 : decode M_Q_report.2.1 22 = .ok (.iload_n 2, 1) := by decide +kernel
theorem dQ_report_23 : decode M_Q_report.2.1 23 = .ok (.aaload, 1) := by decide +kernel
theorem dQ_report_24 : decode M_Q_report.2.1 24 = .ok (.astore 4, 2) := by decide +kernel
theorem dQ_report_26 : decode M_Q_report.2.1 26 = .ok (.aload 4, 2) := by decide +kernel
theorem dQ_report_28 : decode M_Q_report.2.1 28 = .ok (.aload_n 0, 1) := by decide +kernel
theorem dQ_report_29 : decode M_Q_report.2.1 29 = .ok (.getfield 10, 3) := by decide +kernel
theorem dQ_report_32 : decode M_Q_report.2.1 32 = .ok (.invokevirtual 135, 3) := by decide +kernel
theorem dQ_report_35 : decode M_Q_report.2.1 35 = .ok (.aload_n 0, 1) := by decide +kernel
theorem dQ_report_36 : decode M_Q_report.2.1 36 = .ok (.invokevirtual 139, 3) := by decide +kernel
theorem dQ_report_39 : decode M_Q_report.2.1 39 = .ok (.aload 4, 2) := by decide +kernel
theorem dQ_report_41 : decode M_Q_report.2.1 41 = .ok (.getfield 153, 3) := by decide +kernel
theorem dQ_report_44 : decode M_Q_report.2.1 44 = .ok (.ireturn, 1) := by decide +kernel
theorem dQ_fault_0 : decode M_Q_fault.2.1 0 = .ok (.iload_n 1, 1) := by decide +kernel
theorem dQ_fault_1 : decode M_Q_fault.2.1 1 = .ok (.iload_n 2, 1) := by decide +kernel
theorem dQ_fault_2 : decode M_Q_fault.2.1 2 = .ok (.invokestatic 142, 3) := by decide +kernel
theorem dQ_fault_5 : decode M_Q_fault.2.1 5 = .ok (.ifCond .ne 5, 3) := by decide +kernel
theorem dQ_fault_8 : decode M_Q_fault.2.1 8 = .ok (.iconst 0, 1) := by decide +kernel
theorem dQ_fault_9 : decode M_Q_fault.2.1 9 = .ok (.ireturn, 1) := by decide +kernel
theorem dQ_fault_10 : decode M_Q_fault.2.1 10 = .ok (.aload_n 0, 1) := by decide +kernel
theorem dQ_fault_11 : decode M_Q_fault.2.1 11 = .ok (.getfield 25, 3) := by decide +kernel
theorem dQ_fault_14 : decode M_Q_fault.2.1 14 = .ok (.iload_n 1, 1) := by decide +kernel
theorem dQ_fault_15 : decode M_Q_fault.2.1 15 = .ok (.aaload, 1) := by decide +kernel
theorem dQ_fault_16 : decode M_Q_fault.2.1 16 = .ok (.getfield 123, 3) := by decide +kernel
theorem dQ_fault_19 : decode M_Q_fault.2.1 19 = .ok (.iload_n 2, 1) := by decide +kernel
theorem dQ_fault_20 : decode M_Q_fault.2.1 20 = .ok (.aaload, 1) := by decide +kernel
theorem dQ_fault_21 : decode M_Q_fault.2.1 21 = .ok (.astore 4, 2) := by decide +kernel
theorem dQ_fault_23 : decode M_Q_fault.2.1 23 = .ok (.iload_n 3, 1) := by decide +kernel
theorem dQ_fault_24 : decode M_Q_fault.2.1 24 = .ok (.tableswitch 66 0 3 #[32, 40, 48, 54], 32) := by decide +kernel
theorem dQ_fault_56 : decode M_Q_fault.2.1 56 = .ok (.aload 4, 2) := by decide +kernel
theorem dQ_fault_58 : decode M_Q_fault.2.1 58 = .ok (.iconst 0, 1) := by decide +kernel
theorem dQ_fault_59 : decode M_Q_fault.2.1 59 = .ok (.iconst 1, 1) := by decide +kernel
theorem dQ_fault_60 : decode M_Q_fault.2.1 60 = .ok (.invokevirtual 156, 3) := by decide +kernel
theorem dQ_fault_63 : decode M_Q_fault.2.1 63 = .ok (.ireturn, 1) := by decide +kernel
theorem dQ_fault_64 : decode M_Q_fault.2.1 64 = .ok (.aload 4, 2) := by decide +kernel
theorem dQ_fault_66 : decode M_Q_fault.2.1 66 = .ok (.iconst 1, 1) := by decide +kernel
theorem dQ_fault_67 : decode M_Q_fault.2.1 67 = .ok (.iconst 0, 1) := by decide +kernel
theorem dQ_fault_68 : decode M_Q_fault.2.1 68 = .ok (.invokevirtual 156, 3) := by decide +kernel
theorem dQ_fault_71 : decode M_Q_fault.2.1 71 = .ok (.ireturn, 1) := by decide +kernel
theorem dQ_fault_72 : decode M_Q_fault.2.1 72 = .ok (.aload 4, 2) := by decide +kernel
theorem dQ_fault_74 : decode M_Q_fault.2.1 74 = .ok (.invokevirtual 159, 3) := by decide +kernel
theorem dQ_fault_77 : decode M_Q_fault.2.1 77 = .ok (.ireturn, 1) := by decide +kernel
theorem dQ_fault_78 : decode M_Q_fault.2.1 78 = .ok (.aload_n 0, 1) := by decide +kernel
theorem dQ_fault_79 : decode M_Q_fault.2.1 79 = .ok (.getfield 25, 3) := by decide +kernel
theorem dQ_fault_82 : decode M_Q_fault.2.1 82 = .ok (.iload_n 1, 1) := by decide +kernel
theorem dQ_fault_83 : decode M_Q_fault.2.1 83 = .ok (.aaload, 1) := by decide +kernel
theorem dQ_fault_84 : decode M_Q_fault.2.1 84 = .ok (.aload 4, 2) := by decide +kernel
theorem dQ_fault_86 : decode M_Q_fault.2.1 86 = .ok (.invokevirtual 162, 3) := by decide +kernel
theorem dQ_fault_89 : decode M_Q_fault.2.1 89 = .ok (.ireturn, 1) := by decide +kernel
theorem dQ_fault_90 : decode M_Q_fault.2.1 90 = .ok (.iconst 0, 1) := by decide +kernel
theorem dQ_fault_91 : decode M_Q_fault.2.1 91 = .ok (.ireturn, 1) := by decide +kernel
theorem dQ_crash_0 : decode M_Q_crash.2.1 0 = .ok (.aload_n 0, 1) := by decide +kernel
theorem dQ_crash_1 : decode M_Q_crash.2.1 1 = .ok (.getfield 43, 3) := by decide +kernel
theorem dQ_crash_4 : decode M_Q_crash.2.1 4 = .ok (.ifCond .ne 5, 3) := by decide +kernel
theorem dQ_crash_7 : decode M_Q_crash.2.1 7 = .ok (.iconst 0, 1) := by decide +kernel
theorem dQ_crash_8 : decode M_Q_crash.2.1 8 = .ok (.ireturn, 1) := by decide +kernel
theorem dQ_crash_9 : decode M_Q_crash.2.1 9 = .ok (.aload_n 0, 1) := by decide +kernel
theorem dQ_crash_10 : decode M_Q_crash.2.1 10 = .ok (.iconst 0, 1) := by decide +kernel
theorem dQ_crash_11 : decode M_Q_crash.2.1 11 = .ok (.putfield 43, 3) := by decide +kernel
theorem dQ_crash_14 : decode M_Q_crash.2.1 14 = .ok (.aload_n 0, 1) := by decide +kernel
theorem dQ_crash_15 : decode M_Q_crash.2.1 15 = .ok (.getfield 35, 3) := by decide +kernel
theorem dQ_crash_18 : decode M_Q_crash.2.1 18 = .ok (.invokevirtual 166, 3) := by decide +kernel
theorem dQ_crash_21 : decode M_Q_crash.2.1 21 = .ok (.iconst 0, 1) := by decide +kernel
theorem dQ_crash_22 : decode M_Q_crash.2.1 22 = .ok (.istore_n 1, 1) := by decide +kernel
theorem dQ_crash_23 : decode M_Q_crash.2.1 23 = .ok (.iload_n 1, 1) := by decide +kernel
theorem dQ_crash_24 : decode M_Q_crash.2.1 24 = .ok (.iconst 2, 1) := by decide +kernel
theorem dQ_crash_25 : decode M_Q_crash.2.1 25 = .ok (.if_icmp .ge 18, 3) := by decide +kernel
theorem dQ_crash_28 : decode M_Q_crash.2.1 28 = .ok (.aload_n 0, 1) := by decide +kernel
theorem dQ_crash_29 : decode M_Q_crash.2.1 29 = .ok (.getfield 25, 3) := by decide +kernel
theorem dQ_crash_32 : decode M_Q_crash.2.1 32 = .ok (.iload_n 1, 1) := by decide +kernel
theorem dQ_crash_33 : decode M_Q_crash.2.1 33 = .ok (.aaload, 1) := by decide +kernel
theorem dQ_crash_34 : decode M_Q_crash.2.1 34 = .ok (.invokevirtual 169, 3) := by decide +kernel
theorem dQ_crash_37 : decode M_Q_crash.2.1 37 = .ok (.iinc 1 1, 3) := by decide +kernel
theorem dQ_crash_40 : decode M_Q_crash.2.1 40 = .ok (.goto (-17), 3) := by decide +kernel
theorem dQ_crash_43 : decode M_Q_crash.2.1 43 = .ok (.iconst 1, 1) := by decide +kernel
theorem dQ_crash_44 : decode M_Q_crash.2.1 44 = .ok (.ireturn, 1) := by decide +kernel
theorem dQ_recover_0 : decode M_Q_recover.2.1 0 = .ok (.aload_n 0, 1) := by decide +kernel
theorem dQ_recover_1 : decode M_Q_recover.2.1 1 = .ok (.getfield 43, 3) := by decide +kernel
theorem dQ_recover_4 : decode M_Q_recover.2.1 4 = .ok (.ifCond .eq 5, 3) := by decide +kernel
theorem dQ_recover_7 : decode M_Q_recover.2.1 7 = .ok (.iconst (-1), 1) := by decide +kernel
theorem dQ_recover_8 : decode M_Q_recover.2.1 8 = .ok (.ireturn, 1) := by decide +kernel
theorem dQ_recover_9 : decode M_Q_recover.2.1 9 = .ok (.iconst 0, 1) := by decide +kernel
theorem dQ_recover_10 : decode M_Q_recover.2.1 10 = .ok (.istore_n 1, 1) := by decide +kernel
theorem dQ_recover_11 : decode M_Q_recover.2.1 11 = .ok (.iload_n 1, 1) := by decide +kernel
theorem dQ_recover_12 : decode M_Q_recover.2.1 12 = .ok (.iconst 2, 1) := by decide +kernel
theorem dQ_recover_13 : decode M_Q_recover.2.1 13 = .ok (.if_icmp .ge 25, 3) := by decide +kernel
theorem dQ_recover_16 : decode M_Q_recover.2.1 16 = .ok (.aload_n 0, 1) := by decide +kernel
theorem dQ_recover_17 : decode M_Q_recover.2.1 17 = .ok (.getfield 25, 3) := by decide +kernel
theorem dQ_recover_20 : decode M_Q_recover.2.1 20 = .ok (.iload_n 1, 1) := by decide +kernel
theorem dQ_recover_21 : decode M_Q_recover.2.1 21 = .ok (.aaload, 1) := by decide +kernel
theorem dQ_recover_22 : decode M_Q_recover.2.1 22 = .ok (.invokevirtual 172, 3) := by decide +kernel
theorem dQ_recover_25 : decode M_Q_recover.2.1 25 = .ok (.iconst 3, 1) := by decide +kernel
theorem dQ_recover_26 : decode M_Q_recover.2.1 26 = .ok (.if_icmp .ge 6, 3) := by decide +kernel
theorem dQ_recover_29 : decode M_Q_recover.2.1 29 = .ok (.bipush (-7), 2) := by decide +kernel
theorem dQ_recover_31 : decode M_Q_recover.2.1 31 = .ok (.ireturn, 1) := by decide +kernel
theorem dQ_recover_32 : decode M_Q_recover.2.1 32 = .ok (.iinc 1 1, 3) := by decide +kernel
theorem dQ_recover_35 : decode M_Q_recover.2.1 35 = .ok (.goto (-24), 3) := by decide +kernel
theorem dQ_recover_38 : decode M_Q_recover.2.1 38 = .ok (.aload_n 0, 1) := by decide +kernel
theorem dQ_recover_39 : decode M_Q_recover.2.1 39 = .ok (.getfield 10, 3) := by decide +kernel
theorem dQ_recover_42 : decode M_Q_recover.2.1 42 = .ok (.aload_n 0, 1) := by decide +kernel
theorem dQ_recover_43 : decode M_Q_recover.2.1 43 = .ok (.invokevirtual 175, 3) := by decide +kernel
theorem dQ_recover_46 : decode M_Q_recover.2.1 46 = .ok (.invokevirtual 178, 3) := by decide +kernel
theorem dQ_recover_49 : decode M_Q_recover.2.1 49 = .ok (.istore_n 1, 1) := by decide +kernel
theorem dQ_recover_50 : decode M_Q_recover.2.1 50 = .ok (.iconst 0, 1) := by decide +kernel
theorem dQ_recover_51 : decode M_Q_recover.2.1 51 = .ok (.istore_n 2, 1) := by decide +kernel
theorem dQ_recover_52 : decode M_Q_recover.2.1 52 = .ok (.iload_n 2, 1) := by decide +kernel
theorem dQ_recover_53 : decode M_Q_recover.2.1 53 = .ok (.iconst 2, 1) := by decide +kernel
theorem dQ_recover_54 : decode M_Q_recover.2.1 54 = .ok (.if_icmp .ge 19, 3) := by decide +kernel
theorem dQ_recover_57 : decode M_Q_recover.2.1 57 = .ok (.aload_n 0, 1) := by decide +kernel
theorem dQ_recover_58 : decode M_Q_recover.2.1 58 = .ok (.getfield 25, 3) := by decide +kernel
theorem dQ_recover_61 : decode M_Q_recover.2.1 61 = .ok (.iload_n 2, 1) := by decide +kernel
theorem dQ_recover_62 : decode M_Q_recover.2.1 62 = .ok (.aaload, 1) := by decide +kernel
theorem dQ_recover_63 : decode M_Q_recover.2.1 63 = .ok (.iload_n 1, 1) := by decide +kernel
theorem dQ_recover_64 : decode M_Q_recover.2.1 64 = .ok (.invokevirtual 181, 3) := by decide +kernel
theorem dQ_recover_67 : decode M_Q_recover.2.1 67 = .ok (.iinc 2 1, 3) := by decide +kernel
theorem dQ_recover_70 : decode M_Q_recover.2.1 70 = .ok (.goto (-18), 3) := by decide +kernel
theorem dQ_recover_73 : decode M_Q_recover.2.1 73 = .ok (.aload_n 0, 1) := by decide +kernel
theorem dQ_recover_74 : decode M_Q_recover.2.1 74 = .ok (.getfield 10, 3) := by decide +kernel
theorem dQ_recover_77 : decode M_Q_recover.2.1 77 = .ok (.iload_n 1, 1) := by decide +kernel
theorem dQ_recover_78 : decode M_Q_recover.2.1 78 = .ok (.invokevirtual 184, 3) := by decide +kernel
theorem dQ_recover_81 : decode M_Q_recover.2.1 81 = .ok (.aload_n 0, 1) := by decide +kernel
theorem dQ_recover_82 : decode M_Q_recover.2.1 82 = .ok (.iconst 1, 1) := by decide +kernel
theorem dQ_recover_83 : decode M_Q_recover.2.1 83 = .ok (.putfield 43, 3) := by decide +kernel
theorem dQ_recover_86 : decode M_Q_recover.2.1 86 = .ok (.iconst 0, 1) := by decide +kernel
theorem dQ_recover_87 : decode M_Q_recover.2.1 87 = .ok (.istore_n 2, 1) := by decide +kernel
theorem dQ_recover_88 : decode M_Q_recover.2.1 88 = .ok (.iload_n 2, 1) := by decide +kernel
theorem dQ_recover_89 : decode M_Q_recover.2.1 89 = .ok (.iconst 2, 1) := by decide +kernel
theorem dQ_recover_90 : decode M_Q_recover.2.1 90 = .ok (.if_icmp .ge 22, 3) := by decide +kernel
theorem dQ_recover_93 : decode M_Q_recover.2.1 93 = .ok (.aload_n 0, 1) := by decide +kernel
theorem dQ_recover_94 : decode M_Q_recover.2.1 94 = .ok (.getfield 25, 3) := by decide +kernel
theorem dQ_recover_97 : decode M_Q_recover.2.1 97 = .ok (.iload_n 2, 1) := by decide +kernel
theorem dQ_recover_98 : decode M_Q_recover.2.1 98 = .ok (.aaload, 1) := by decide +kernel
theorem dQ_recover_99 : decode M_Q_recover.2.1 99 = .ok (.aload_n 0, 1) := by decide +kernel
theorem dQ_recover_100 : decode M_Q_recover.2.1 100 = .ok (.getfield 10, 3) := by decide +kernel
theorem dQ_recover_103 : decode M_Q_recover.2.1 103 = .ok (.invokevirtual 187, 3) := by decide +kernel
theorem dQ_recover_106 : decode M_Q_recover.2.1 106 = .ok (.iinc 2 1, 3) := by decide +kernel
theorem dQ_recover_109 : decode M_Q_recover.2.1 109 = .ok (.goto (-21), 3) := by decide +kernel
theorem dQ_recover_112 : decode M_Q_recover.2.1 112 = .ok (.aload_n 0, 1) := by decide +kernel
theorem dQ_recover_113 : decode M_Q_recover.2.1 113 = .ok (.invokevirtual 139, 3) := by decide +kernel
theorem dQ_recover_116 : decode M_Q_recover.2.1 116 = .ok (.aload_n 0, 1) := by decide +kernel
theorem dQ_recover_117 : decode M_Q_recover.2.1 117 = .ok (.getfield 19, 3) := by decide +kernel
theorem dQ_recover_120 : decode M_Q_recover.2.1 120 = .ok (.invokevirtual 190, 3) := by decide +kernel
theorem dQ_recover_123 : decode M_Q_recover.2.1 123 = .ok (.aload_n 0, 1) := by decide +kernel
theorem dQ_recover_124 : decode M_Q_recover.2.1 124 = .ok (.invokevirtual 193, 3) := by decide +kernel
theorem dQ_recover_127 : decode M_Q_recover.2.1 127 = .ok (.iload_n 1, 1) := by decide +kernel
theorem dQ_recover_128 : decode M_Q_recover.2.1 128 = .ok (.ireturn, 1) := by decide +kernel
theorem dQ_point_0 : decode M_Q_point.2.1 0 = .ok (.iload_n 1, 1) := by decide +kernel
theorem dQ_point_1 : decode M_Q_point.2.1 1 = .ok (.tableswitch 57 0 2 #[27, 35, 52], 27) := by decide +kernel
theorem dQ_point_28 : decode M_Q_point.2.1 28 = .ok (.aload_n 0, 1) := by decide +kernel
theorem dQ_point_29 : decode M_Q_point.2.1 29 = .ok (.getfield 10, 3) := by decide +kernel
theorem dQ_point_32 : decode M_Q_point.2.1 32 = .ok (.getfield 55, 3) := by decide +kernel
theorem dQ_point_35 : decode M_Q_point.2.1 35 = .ok (.ireturn, 1) := by decide +kernel
theorem dQ_point_36 : decode M_Q_point.2.1 36 = .ok (.aload_n 0, 1) := by decide +kernel
theorem dQ_point_37 : decode M_Q_point.2.1 37 = .ok (.getfield 43, 3) := by decide +kernel
theorem dQ_point_40 : decode M_Q_point.2.1 40 = .ok (.ifCond .eq 10, 3) := by decide +kernel
theorem dQ_point_43 : decode M_Q_point.2.1 43 = .ok (.aload_n 0, 1) := by decide +kernel
theorem dQ_point_44 : decode M_Q_point.2.1 44 = .ok (.invokevirtual 196, 3) := by decide +kernel
theorem dQ_point_47 : decode M_Q_point.2.1 47 = .ok (.goto 5, 3) := by decide +kernel
theorem dQ_point_50 : decode M_Q_point.2.1 50 = .ok (.bipush (-2), 2) := by decide +kernel
theorem dQ_point_52 : decode M_Q_point.2.1 52 = .ok (.ireturn, 1) := by decide +kernel
theorem dQ_point_53 : decode M_Q_point.2.1 53 = .ok (.aload_n 0, 1) := by decide +kernel
theorem dQ_point_54 : decode M_Q_point.2.1 54 = .ok (.getfield 47, 3) := by decide +kernel
theorem dQ_point_57 : decode M_Q_point.2.1 57 = .ok (.ireturn, 1) := by decide +kernel
theorem dQ_point_58 : decode M_Q_point.2.1 58 = .ok (.iconst (-1), 1) := by decide +kernel
theorem dQ_point_59 : decode M_Q_point.2.1 59 = .ok (.ireturn, 1) := by decide +kernel
theorem dQ_copy_0 : decode M_Q_copy.2.1 0 = .ok (.iload_n 1, 1) := by decide +kernel
theorem dQ_copy_1 : decode M_Q_copy.2.1 1 = .ok (.iload_n 2, 1) := by decide +kernel
theorem dQ_copy_2 : decode M_Q_copy.2.1 2 = .ok (.invokestatic 142, 3) := by decide +kernel
theorem dQ_copy_5 : decode M_Q_copy.2.1 5 = .ok (.ifCond .ne 5, 3) := by decide +kernel
theorem dQ_copy_8 : decode M_Q_copy.2.1 8 = .ok (.iconst (-1), 1) := by decide +kernel
theorem dQ_copy_9 : decode M_Q_copy.2.1 9 = .ok (.ireturn, 1) := by decide +kernel
theorem dQ_copy_10 : decode M_Q_copy.2.1 10 = .ok (.aload_n 0, 1) := by decide +kernel
theorem dQ_copy_11 : decode M_Q_copy.2.1 11 = .ok (.getfield 25, 3) := by decide +kernel
theorem dQ_copy_14 : decode M_Q_copy.2.1 14 = .ok (.iload_n 1, 1) := by decide +kernel
theorem dQ_copy_15 : decode M_Q_copy.2.1 15 = .ok (.aaload, 1) := by decide +kernel
theorem dQ_copy_16 : decode M_Q_copy.2.1 16 = .ok (.getfield 123, 3) := by decide +kernel
theorem dQ_copy_19 : decode M_Q_copy.2.1 19 = .ok (.iload_n 2, 1) := by decide +kernel
theorem dQ_copy_20 : decode M_Q_copy.2.1 20 = .ok (.aaload, 1) := by decide +kernel
theorem dQ_copy_21 : decode M_Q_copy.2.1 21 = .ok (.astore 4, 2) := by decide +kernel
theorem dQ_copy_23 : decode M_Q_copy.2.1 23 = .ok (.iload_n 3, 1) := by decide +kernel
theorem dQ_copy_24 : decode M_Q_copy.2.1 24 = .ok (.ifCond .ne 9, 3) := by decide +kernel
theorem dQ_copy_27 : decode M_Q_copy.2.1 27 = .ok (.aload 4, 2) := by decide +kernel
theorem dQ_copy_29 : decode M_Q_copy.2.1 29 = .ok (.getfield 199, 3) := by decide +kernel
theorem dQ_copy_32 : decode M_Q_copy.2.1 32 = .ok (.ireturn, 1) := by decide +kernel
theorem dQ_copy_33 : decode M_Q_copy.2.1 33 = .ok (.aload 4, 2) := by decide +kernel
theorem dQ_copy_35 : decode M_Q_copy.2.1 35 = .ok (.invokevirtual 127, 3) := by decide +kernel
theorem dQ_copy_38 : decode M_Q_copy.2.1 38 = .ok (.ifCond .ne 5, 3) := by decide +kernel
theorem dQ_copy_41 : decode M_Q_copy.2.1 41 = .ok (.iconst (-1), 1) := by decide +kernel
theorem dQ_copy_42 : decode M_Q_copy.2.1 42 = .ok (.ireturn, 1) := by decide +kernel
theorem dQ_copy_43 : decode M_Q_copy.2.1 43 = .ok (.iload_n 3, 1) := by decide +kernel
theorem dQ_copy_44 : decode M_Q_copy.2.1 44 = .ok (.lookupswitch 51 #[(1, 28), (2, 38)], 28) := by decide +kernel
theorem dQ_copy_72 : decode M_Q_copy.2.1 72 = .ok (.aload 4, 2) := by decide +kernel
theorem dQ_copy_74 : decode M_Q_copy.2.1 74 = .ok (.aload_n 0, 1) := by decide +kernel
theorem dQ_copy_75 : decode M_Q_copy.2.1 75 = .ok (.getfield 10, 3) := by decide +kernel
theorem dQ_copy_78 : decode M_Q_copy.2.1 78 = .ok (.invokevirtual 202, 3) := by decide +kernel
theorem dQ_copy_81 : decode M_Q_copy.2.1 81 = .ok (.ireturn, 1) := by decide +kernel
theorem dQ_copy_82 : decode M_Q_copy.2.1 82 = .ok (.aload 4, 2) := by decide +kernel
theorem dQ_copy_84 : decode M_Q_copy.2.1 84 = .ok (.aload_n 0, 1) := by decide +kernel
theorem dQ_copy_85 : decode M_Q_copy.2.1 85 = .ok (.getfield 10, 3) := by decide +kernel
theorem dQ_copy_88 : decode M_Q_copy.2.1 88 = .ok (.getfield 55, 3) := by decide +kernel
theorem dQ_copy_91 : decode M_Q_copy.2.1 91 = .ok (.invokevirtual 206, 3) := by decide +kernel
theorem dQ_copy_94 : decode M_Q_copy.2.1 94 = .ok (.ireturn, 1) := by decide +kernel
theorem dQ_copy_95 : decode M_Q_copy.2.1 95 = .ok (.iconst (-1), 1) := by decide +kernel
theorem dQ_copy_96 : decode M_Q_copy.2.1 96 = .ok (.ireturn, 1) := by decide +kernel
theorem dQ_follow_0 : decode M_Q_follow.2.1 0 = .ok (.iload_n 1, 1) := by decide +kernel
theorem dQ_follow_1 : decode M_Q_follow.2.1 1 = .ok (.invokestatic 209, 3) := by decide +kernel
theorem dQ_follow_4 : decode M_Q_follow.2.1 4 = .ok (.ifCond .ne 5, 3) := by decide +kernel
theorem dQ_follow_7 : decode M_Q_follow.2.1 7 = .ok (.iconst (-1), 1) := by decide +kernel
theorem dQ_follow_8 : decode M_Q_follow.2.1 8 = .ok (.ireturn, 1) := by decide +kernel
theorem dQ_follow_9 : decode M_Q_follow.2.1 9 = .ok (.aload_n 0, 1) := by decide +kernel
theorem dQ_follow_10 : decode M_Q_follow.2.1 10 = .ok (.getfield 43, 3) := by decide +kernel
theorem dQ_follow_13 : decode M_Q_follow.2.1 13 = .ok (.ifCond .ne 6, 3) := by decide +kernel
theorem dQ_follow_16 : decode M_Q_follow.2.1 16 = .ok (.bipush (-2), 2) := by decide +kernel
theorem dQ_follow_18 : decode M_Q_follow.2.1 18 = .ok (.ireturn, 1) := by decide +kernel
theorem dQ_follow_19 : decode M_Q_follow.2.1 19 = .ok (.aload_n 0, 1) := by decide +kernel
theorem dQ_follow_20 : decode M_Q_follow.2.1 20 = .ok (.getfield 39, 3) := by decide +kernel
theorem dQ_follow_23 : decode M_Q_follow.2.1 23 = .ok (.iload_n 1, 1) := by decide +kernel
theorem dQ_follow_24 : decode M_Q_follow.2.1 24 = .ok (.aload_n 0, 1) := by decide +kernel
theorem dQ_follow_25 : decode M_Q_follow.2.1 25 = .ok (.getfield 47, 3) := by decide +kernel
theorem dQ_follow_28 : decode M_Q_follow.2.1 28 = .ok (.iastore, 1) := by decide +kernel
theorem dQ_follow_29 : decode M_Q_follow.2.1 29 = .ok (.aload_n 0, 1) := by decide +kernel
theorem dQ_follow_30 : decode M_Q_follow.2.1 30 = .ok (.getfield 47, 3) := by decide +kernel
theorem dQ_follow_33 : decode M_Q_follow.2.1 33 = .ok (.ireturn, 1) := by decide +kernel
theorem dQ_view_0 : decode M_Q_view.2.1 0 = .ok (.iload_n 1, 1) := by decide +kernel
theorem dQ_view_1 : decode M_Q_view.2.1 1 = .ok (.invokestatic 209, 3) := by decide +kernel
theorem dQ_view_4 : decode M_Q_view.2.1 4 = .ok (.ifCond .eq 10, 3) := by decide +kernel
theorem dQ_view_7 : decode M_Q_view.2.1 7 = .ok (.iload_n 2, 1) := by decide +kernel
theorem dQ_view_8 : decode M_Q_view.2.1 8 = .ok (.invokestatic 62, 3) := by decide +kernel
theorem dQ_view_11 : decode M_Q_view.2.1 11 = .ok (.ifCond .ne 5, 3) := by decide +kernel
theorem dQ_view_14 : decode M_Q_view.2.1 14 = .ok (.iconst (-1), 1) := by decide +kernel
theorem dQ_view_15 : decode M_Q_view.2.1 15 = .ok (.ireturn, 1) := by decide +kernel
theorem dQ_view_16 : decode M_Q_view.2.1 16 = .ok (.aload_n 0, 1) := by decide +kernel
theorem dQ_view_17 : decode M_Q_view.2.1 17 = .ok (.getfield 25, 3) := by decide +kernel
theorem dQ_view_20 : decode M_Q_view.2.1 20 = .ok (.iload_n 2, 1) := by decide +kernel
theorem dQ_view_21 : decode M_Q_view.2.1 21 = .ok (.invokestatic 70, 3) := by decide +kernel
theorem dQ_view_24 : decode M_Q_view.2.1 24 = .ok (.invokestatic 212, 3) := by decide +kernel
theorem dQ_view_27 : decode M_Q_view.2.1 27 = .ok (.aaload, 1) := by decide +kernel
theorem dQ_view_28 : decode M_Q_view.2.1 28 = .ok (.aload_n 0, 1) := by decide +kernel
theorem dQ_view_29 : decode M_Q_view.2.1 29 = .ok (.getfield 39, 3) := by decide +kernel
theorem dQ_view_32 : decode M_Q_view.2.1 32 = .ok (.iload_n 1, 1) := by decide +kernel
theorem dQ_view_33 : decode M_Q_view.2.1 33 = .ok (.iaload, 1) := by decide +kernel
theorem dQ_view_34 : decode M_Q_view.2.1 34 = .ok (.aload_n 0, 1) := by decide +kernel
theorem dQ_view_35 : decode M_Q_view.2.1 35 = .ok (.getfield 10, 3) := by decide +kernel
theorem dQ_view_38 : decode M_Q_view.2.1 38 = .ok (.invokevirtual 215, 3) := by decide +kernel
theorem dQ_view_41 : decode M_Q_view.2.1 41 = .ok (.ifCond .ne 6, 3) := by decide +kernel
theorem dQ_view_44 : decode M_Q_view.2.1 44 = .ok (.bipush (-7), 2) := by decide +kernel
theorem dQ_view_46 : decode M_Q_view.2.1 46 = .ok (.ireturn, 1) := by decide +kernel
theorem dQ_view_47 : decode M_Q_view.2.1 47 = .ok (.aload_n 0, 1) := by decide +kernel
theorem dQ_view_48 : decode M_Q_view.2.1 48 = .ok (.getfield 10, 3) := by decide +kernel
theorem dQ_view_51 : decode M_Q_view.2.1 51 = .ok (.iload_n 2, 1) := by decide +kernel
theorem dQ_view_52 : decode M_Q_view.2.1 52 = .ok (.aload_n 0, 1) := by decide +kernel
theorem dQ_view_53 : decode M_Q_view.2.1 53 = .ok (.getfield 39, 3) := by decide +kernel
theorem dQ_view_56 : decode M_Q_view.2.1 56 = .ok (.iload_n 1, 1) := by decide +kernel
theorem dQ_view_57 : decode M_Q_view.2.1 57 = .ok (.iaload, 1) := by decide +kernel
theorem dQ_view_58 : decode M_Q_view.2.1 58 = .ok (.invokevirtual 219, 3) := by decide +kernel
theorem dQ_view_61 : decode M_Q_view.2.1 61 = .ok (.ireturn, 1) := by decide +kernel
theorem dQ_collect_0 : decode M_Q_collect.2.1 0 = .ok (.aload_n 0, 1) := by decide +kernel
theorem dQ_collect_1 : decode M_Q_collect.2.1 1 = .ok (.iload_n 1, 1) := by decide +kernel
theorem dQ_collect_2 : decode M_Q_collect.2.1 2 = .ok (.iload_n 2, 1) := by decide +kernel
theorem dQ_collect_3 : decode M_Q_collect.2.1 3 = .ok (.invokevirtual 150, 3) := by decide +kernel
theorem dQ_collect_6 : decode M_Q_collect.2.1 6 = .ok (.istore_n 3, 1) := by decide +kernel
theorem dQ_collect_7 : decode M_Q_collect.2.1 7 = .ok (.iload_n 3, 1) := by decide +kernel
theorem dQ_collect_8 : decode M_Q_collect.2.1 8 = .ok (.ifCond .eq 5, 3) := by decide +kernel
theorem dQ_collect_11 : decode M_Q_collect.2.1 11 = .ok (.iload_n 3, 1) := by decide +kernel
theorem dQ_collect_12 : decode M_Q_collect.2.1 12 = .ok (.ireturn, 1) := by decide +kernel
theorem dQ_collect_13 : decode M_Q_collect.2.1 13 = .ok (.aload_n 0, 1) := by decide +kernel
theorem dQ_collect_14 : decode M_Q_collect.2.1 14 = .ok (.getfield 25, 3) := by decide +kernel
theorem dQ_collect_17 : decode M_Q_collect.2.1 17 = .ok (.iload_n 1, 1) := by decide +kernel
theorem dQ_collect_18 : decode M_Q_collect.2.1 18 = .ok (.aaload, 1) := by decide +kernel
theorem dQ_collect_19 : decode M_Q_collect.2.1 19 = .ok (.getfield 123, 3) := by decide +kernel
theorem dQ_collect_22 : decode M_Q_collect.2.1 22 = .ok (.iload_n 2, 1) := by decide +kernel
theorem dQ_collect_23 : decode M_Q_collect.2.1 23 = .ok (.aaload, 1) := by decide +kernel
theorem dQ_collect_24 : decode M_Q_collect.2.1 24 = .ok (.astore 4, 2) := by decide +kernel
theorem dQ_collect_26 : decode M_Q_collect.2.1 26 = .ok (.aload 4, 2) := by decide +kernel
theorem dQ_collect_28 : decode M_Q_collect.2.1 28 = .ok (.aload_n 0, 1) := by decide +kernel
theorem dQ_collect_29 : decode M_Q_collect.2.1 29 = .ok (.getfield 10, 3) := by decide +kernel
theorem dQ_collect_32 : decode M_Q_collect.2.1 32 = .ok (.invokevirtual 202, 3) := by decide +kernel
theorem dQ_collect_35 : decode M_Q_collect.2.1 35 = .ok (.aload_n 0, 1) := by decide +kernel
theorem dQ_collect_36 : decode M_Q_collect.2.1 36 = .ok (.getfield 10, 3) := by decide +kernel
theorem dQ_collect_39 : decode M_Q_collect.2.1 39 = .ok (.aload_n 0, 1) := by decide +kernel
theorem dQ_collect_40 : decode M_Q_collect.2.1 40 = .ok (.getfield 47, 3) := by decide +kernel
theorem dQ_collect_43 : decode M_Q_collect.2.1 43 = .ok (.invokevirtual 222, 3) := by decide +kernel
theorem dQ_collect_46 : decode M_Q_collect.2.1 46 = .ok (.invokestatic 225, 3) := by decide +kernel
theorem dQ_collect_49 : decode M_Q_collect.2.1 49 = .ok (.istore 5, 2) := by decide +kernel
theorem dQ_collect_51 : decode M_Q_collect.2.1 51 = .ok (.iconst 0, 1) := by decide +kernel
theorem dQ_collect_52 : decode M_Q_collect.2.1 52 = .ok (.istore 6, 2) := by decide +kernel
theorem dQ_collect_54 : decode M_Q_collect.2.1 54 = .ok (.iload 6, 2) := by decide +kernel
theorem dQ_collect_56 : decode M_Q_collect.2.1 56 = .ok (.iconst 2, 1) := by decide +kernel
theorem dQ_collect_57 : decode M_Q_collect.2.1 57 = .ok (.if_icmp .ge 30, 3) := by decide +kernel
theorem dQ_collect_60 : decode M_Q_collect.2.1 60 = .ok (.iload 5, 2) := by decide +kernel
theorem dQ_collect_62 : decode M_Q_collect.2.1 62 = .ok (.aload_n 0, 1) := by decide +kernel
theorem dQ_collect_63 : decode M_Q_collect.2.1 63 = .ok (.getfield 10, 3) := by decide +kernel
theorem dQ_collect_66 : decode M_Q_collect.2.1 66 = .ok (.aload_n 0, 1) := by decide +kernel
theorem dQ_collect_67 : decode M_Q_collect.2.1 67 = .ok (.getfield 39, 3) := by decide +kernel
theorem dQ_collect_70 : decode M_Q_collect.2.1 70 = .ok (.iload 6, 2) := by decide +kernel
theorem dQ_collect_72 : decode M_Q_collect.2.1 72 = .ok (.iaload, 1) := by decide +kernel
theorem dQ_collect_73 : decode M_Q_collect.2.1 73 = .ok (.invokevirtual 222, 3) := by decide +kernel
theorem dQ_collect_76 : decode M_Q_collect.2.1 76 = .ok (.invokestatic 225, 3) := by decide +kernel
theorem dQ_collect_79 : decode M_Q_collect.2.1 79 = .ok (.istore 5, 2) := by decide +kernel
theorem dQ_collect_81 : decode M_Q_collect.2.1 81 = .ok (.iinc 6 1, 3) := by decide +kernel
theorem dQ_collect_84 : decode M_Q_collect.2.1 84 = .ok (.goto (-30), 3) := by decide +kernel
theorem dQ_collect_87 : decode M_Q_collect.2.1 87 = .ok (.aload 4, 2) := by decide +kernel
theorem dQ_collect_89 : decode M_Q_collect.2.1 89 = .ok (.iload 5, 2) := by decide +kernel
theorem dQ_collect_91 : decode M_Q_collect.2.1 91 = .ok (.invokevirtual 230, 3) := by decide +kernel
theorem dQ_collect_94 : decode M_Q_collect.2.1 94 = .ok (.ireturn, 1) := by decide +kernel
theorem dQ_cached_0 : decode M_Q_cached.2.1 0 = .ok (.aload_n 0, 1) := by decide +kernel
theorem dQ_cached_1 : decode M_Q_cached.2.1 1 = .ok (.getfield 35, 3) := by decide +kernel
theorem dQ_cached_4 : decode M_Q_cached.2.1 4 = .ok (.iload_n 1, 1) := by decide +kernel
theorem dQ_cached_5 : decode M_Q_cached.2.1 5 = .ok (.invokevirtual 233, 3) := by decide +kernel
theorem dQ_cached_8 : decode M_Q_cached.2.1 8 = .ok (.ireturn, 1) := by decide +kernel
theorem dQ_isKey_0 : decode M_Q_isKey.2.1 0 = .ok (.iload_n 0, 1) := by decide +kernel
theorem dQ_isKey_1 : decode M_Q_isKey.2.1 1 = .ok (.ifCond .lt 13, 3) := by decide +kernel
theorem dQ_isKey_4 : decode M_Q_isKey.2.1 4 = .ok (.iload_n 0, 1) := by decide +kernel
theorem dQ_isKey_5 : decode M_Q_isKey.2.1 5 = .ok (.bipush 32, 2) := by decide +kernel
theorem dQ_isKey_7 : decode M_Q_isKey.2.1 7 = .ok (.if_icmp .ge 7, 3) := by decide +kernel
theorem dQ_isKey_10 : decode M_Q_isKey.2.1 10 = .ok (.iconst 1, 1) := by decide +kernel
theorem dQ_isKey_11 : decode M_Q_isKey.2.1 11 = .ok (.goto 4, 3) := by decide +kernel
theorem dQ_isKey_14 : decode M_Q_isKey.2.1 14 = .ok (.iconst 0, 1) := by decide +kernel
theorem dQ_isKey_15 : decode M_Q_isKey.2.1 15 = .ok (.ireturn, 1) := by decide +kernel
theorem dQ_isCopy_0 : decode M_Q_isCopy.2.1 0 = .ok (.iload_n 0, 1) := by decide +kernel
theorem dQ_isCopy_1 : decode M_Q_isCopy.2.1 1 = .ok (.ifCond .lt 22, 3) := by decide +kernel
theorem dQ_isCopy_4 : decode M_Q_isCopy.2.1 4 = .ok (.iload_n 0, 1) := by decide +kernel
theorem dQ_isCopy_5 : decode M_Q_isCopy.2.1 5 = .ok (.iconst 2, 1) := by decide +kernel
theorem dQ_isCopy_6 : decode M_Q_isCopy.2.1 6 = .ok (.if_icmp .ge 17, 3) := by decide +kernel
theorem dQ_isCopy_9 : decode M_Q_isCopy.2.1 9 = .ok (.iload_n 1, 1) := by decide +kernel
theorem dQ_isCopy_10 : decode M_Q_isCopy.2.1 10 = .ok (.ifCond .lt 13, 3) := by decide +kernel
theorem dQ_isCopy_13 : decode M_Q_isCopy.2.1 13 = .ok (.iload_n 1, 1) := by decide +kernel
theorem dQ_isCopy_14 : decode M_Q_isCopy.2.1 14 = .ok (.bipush 6, 2) := by decide +kernel
theorem dQ_isCopy_16 : decode M_Q_isCopy.2.1 16 = .ok (.if_icmp .ge 7, 3) := by decide +kernel
theorem dQ_isCopy_19 : decode M_Q_isCopy.2.1 19 = .ok (.iconst 1, 1) := by decide +kernel
theorem dQ_isCopy_20 : decode M_Q_isCopy.2.1 20 = .ok (.goto 4, 3) := by decide +kernel
theorem dQ_isCopy_23 : decode M_Q_isCopy.2.1 23 = .ok (.iconst 0, 1) := by decide +kernel
theorem dQ_isCopy_24 : decode M_Q_isCopy.2.1 24 = .ok (.ireturn, 1) := by decide +kernel
theorem dQ_isReplica_0 : decode M_Q_isReplica.2.1 0 = .ok (.iload_n 0, 1) := by decide +kernel
theorem dQ_isReplica_1 : decode M_Q_isReplica.2.1 1 = .ok (.ifCond .lt 12, 3) := by decide +kernel
theorem dQ_isReplica_4 : decode M_Q_isReplica.2.1 4 = .ok (.iload_n 0, 1) := by decide +kernel
theorem dQ_isReplica_5 : decode M_Q_isReplica.2.1 5 = .ok (.iconst 2, 1) := by decide +kernel
theorem dQ_isReplica_6 : decode M_Q_isReplica.2.1 6 = .ok (.if_icmp .ge 7, 3) := by decide +kernel
theorem dQ_isReplica_9 : decode M_Q_isReplica.2.1 9 = .ok (.iconst 1, 1) := by decide +kernel
theorem dQ_isReplica_10 : decode M_Q_isReplica.2.1 10 = .ok (.goto 4, 3) := by decide +kernel
theorem dQ_isReplica_13 : decode M_Q_isReplica.2.1 13 = .ok (.iconst 0, 1) := by decide +kernel
theorem dQ_isReplica_14 : decode M_Q_isReplica.2.1 14 = .ok (.ireturn, 1) := by decide +kernel
theorem dQ_pageOf_0 : decode M_Q_pageOf.2.1 0 = .ok (.iload_n 0, 1) := by decide +kernel
theorem dQ_pageOf_1 : decode M_Q_pageOf.2.1 1 = .ok (.iconst 4, 1) := by decide +kernel
theorem dQ_pageOf_2 : decode M_Q_pageOf.2.1 2 = .ok (.idiv, 1) := by decide +kernel
theorem dQ_pageOf_3 : decode M_Q_pageOf.2.1 3 = .ok (.ireturn, 1) := by decide +kernel
theorem dQ_groupOfPage_0 : decode M_Q_groupOfPage.2.1 0 = .ok (.iload_n 0, 1) := by decide +kernel
theorem dQ_groupOfPage_1 : decode M_Q_groupOfPage.2.1 1 = .ok (.iconst 2, 1) := by decide +kernel
theorem dQ_groupOfPage_2 : decode M_Q_groupOfPage.2.1 2 = .ok (.irem, 1) := by decide +kernel
theorem dQ_groupOfPage_3 : decode M_Q_groupOfPage.2.1 3 = .ok (.ireturn, 1) := by decide +kernel
theorem dQ_refusalOfTransaction_0 : decode M_Q_refusalOfTransaction.2.1 0 = .ok (.aload_n 0, 1) := by decide +kernel
theorem dQ_refusalOfTransaction_1 : decode M_Q_refusalOfTransaction.2.1 1 = .ok (.getfield 43, 3) := by decide +kernel
theorem dQ_refusalOfTransaction_4 : decode M_Q_refusalOfTransaction.2.1 4 = .ok (.ifCond .ne 6, 3) := by decide +kernel
theorem dQ_refusalOfTransaction_7 : decode M_Q_refusalOfTransaction.2.1 7 = .ok (.bipush (-2), 2) := by decide +kernel
theorem dQ_refusalOfTransaction_9 : decode M_Q_refusalOfTransaction.2.1 9 = .ok (.ireturn, 1) := by decide +kernel
theorem dQ_refusalOfTransaction_10 : decode M_Q_refusalOfTransaction.2.1 10 = .ok (.aload_n 0, 1) := by decide +kernel
theorem dQ_refusalOfTransaction_11 : decode M_Q_refusalOfTransaction.2.1 11 = .ok (.getfield 19, 3) := by decide +kernel
theorem dQ_refusalOfTransaction_14 : decode M_Q_refusalOfTransaction.2.1 14 = .ok (.iload_n 1, 1) := by decide +kernel
theorem dQ_refusalOfTransaction_15 : decode M_Q_refusalOfTransaction.2.1 15 = .ok (.invokevirtual 108, 3) := by decide +kernel
theorem dQ_refusalOfTransaction_18 : decode M_Q_refusalOfTransaction.2.1 18 = .ok (.ifCond .eq 7, 3) := by decide +kernel
theorem dQ_refusalOfTransaction_21 : decode M_Q_refusalOfTransaction.2.1 21 = .ok (.iconst 0, 1) := by decide +kernel
theorem dQ_refusalOfTransaction_22 : decode M_Q_refusalOfTransaction.2.1 22 = .ok (.goto 5, 3) := by decide +kernel
theorem dQ_refusalOfTransaction_25 : decode M_Q_refusalOfTransaction.2.1 25 = .ok (.bipush (-3), 2) := by decide +kernel
theorem dQ_refusalOfTransaction_27 : decode M_Q_refusalOfTransaction.2.1 27 = .ok (.ireturn, 1) := by decide +kernel
theorem dQ_refusalOfKeys_0 : decode M_Q_refusalOfKeys.2.1 0 = .ok (.aload_n 0, 1) := by decide +kernel
theorem dQ_refusalOfKeys_1 : decode M_Q_refusalOfKeys.2.1 1 = .ok (.iload_n 1, 1) := by decide +kernel
theorem dQ_refusalOfKeys_2 : decode M_Q_refusalOfKeys.2.1 2 = .ok (.invokevirtual 92, 3) := by decide +kernel
theorem dQ_refusalOfKeys_5 : decode M_Q_refusalOfKeys.2.1 5 = .ok (.istore 4, 2) := by decide +kernel
theorem dQ_refusalOfKeys_7 : decode M_Q_refusalOfKeys.2.1 7 = .ok (.iload 4, 2) := by decide +kernel
theorem dQ_refusalOfKeys_9 : decode M_Q_refusalOfKeys.2.1 9 = .ok (.ifCond .eq 6, 3) := by decide +kernel
theorem dQ_refusalOfKeys_12 : decode M_Q_refusalOfKeys.2.1 12 = .ok (.iload 4, 2) := by decide +kernel
theorem dQ_refusalOfKeys_14 : decode M_Q_refusalOfKeys.2.1 14 = .ok (.ireturn, 1) := by decide +kernel
theorem dQ_refusalOfKeys_15 : decode M_Q_refusalOfKeys.2.1 15 = .ok (.aload_n 0, 1) := by decide +kernel
theorem dQ_refusalOfKeys_16 : decode M_Q_refusalOfKeys.2.1 16 = .ok (.getfield 19, 3) := by decide +kernel
theorem dQ_refusalOfKeys_19 : decode M_Q_refusalOfKeys.2.1 19 = .ok (.iload_n 1, 1) := by decide +kernel
theorem dQ_refusalOfKeys_20 : decode M_Q_refusalOfKeys.2.1 20 = .ok (.iload_n 2, 1) := by decide +kernel
theorem dQ_refusalOfKeys_21 : decode M_Q_refusalOfKeys.2.1 21 = .ok (.invokevirtual 236, 3) := by decide +kernel
theorem dQ_refusalOfKeys_24 : decode M_Q_refusalOfKeys.2.1 24 = .ok (.ifCond .eq 19, 3) := by decide +kernel
theorem dQ_refusalOfKeys_27 : decode M_Q_refusalOfKeys.2.1 27 = .ok (.aload_n 0, 1) := by decide +kernel
theorem dQ_refusalOfKeys_28 : decode M_Q_refusalOfKeys.2.1 28 = .ok (.getfield 19, 3) := by decide +kernel
theorem dQ_refusalOfKeys_31 : decode M_Q_refusalOfKeys.2.1 31 = .ok (.iload_n 1, 1) := by decide +kernel
theorem dQ_refusalOfKeys_32 : decode M_Q_refusalOfKeys.2.1 32 = .ok (.iload_n 3, 1) := by decide +kernel
theorem dQ_refusalOfKeys_33 : decode M_Q_refusalOfKeys.2.1 33 = .ok (.invokevirtual 236, 3) := by decide +kernel
theorem dQ_refusalOfKeys_36 : decode M_Q_refusalOfKeys.2.1 36 = .ok (.ifCond .eq 7, 3) := by decide +kernel
theorem dQ_refusalOfKeys_39 : decode M_Q_refusalOfKeys.2.1 39 = .ok (.iconst 0, 1) := by decide +kernel
theorem dQ_refusalOfKeys_40 : decode M_Q_refusalOfKeys.2.1 40 = .ok (.goto 5, 3) := by decide +kernel
theorem dQ_refusalOfKeys_43 : decode M_Q_refusalOfKeys.2.1 43 = .ok (.bipush (-4), 2) := by decide +kernel
theorem dQ_refusalOfKeys_45 : decode M_Q_refusalOfKeys.2.1 45 = .ok (.ireturn, 1) := by decide +kernel
theorem dQ_refusalOfChanges_0 : decode M_Q_refusalOfChanges.2.1 0 = .ok (.aload_n 0, 1) := by decide +kernel
theorem dQ_refusalOfChanges_1 : decode M_Q_refusalOfChanges.2.1 1 = .ok (.iload_n 1, 1) := by decide +kernel
theorem dQ_refusalOfChanges_2 : decode M_Q_refusalOfChanges.2.1 2 = .ok (.iload_n 2, 1) := by decide +kernel
theorem dQ_refusalOfChanges_3 : decode M_Q_refusalOfChanges.2.1 3 = .ok (.iload_n 3, 1) := by decide +kernel
theorem dQ_refusalOfChanges_4 : decode M_Q_refusalOfChanges.2.1 4 = .ok (.invokevirtual 66, 3) := by decide +kernel
theorem dQ_refusalOfChanges_7 : decode M_Q_refusalOfChanges.2.1 7 = .ok (.istore 4, 2) := by decide +kernel
theorem dQ_refusalOfChanges_9 : decode M_Q_refusalOfChanges.2.1 9 = .ok (.iload 4, 2) := by decide +kernel
theorem dQ_refusalOfChanges_11 : decode M_Q_refusalOfChanges.2.1 11 = .ok (.ifCond .eq 6, 3) := by decide +kernel
theorem dQ_refusalOfChanges_14 : decode M_Q_refusalOfChanges.2.1 14 = .ok (.iload 4, 2) := by decide +kernel
theorem dQ_refusalOfChanges_16 : decode M_Q_refusalOfChanges.2.1 16 = .ok (.ireturn, 1) := by decide +kernel
theorem dQ_refusalOfChanges_17 : decode M_Q_refusalOfChanges.2.1 17 = .ok (.aload_n 0, 1) := by decide +kernel
theorem dQ_refusalOfChanges_18 : decode M_Q_refusalOfChanges.2.1 18 = .ok (.getfield 10, 3) := by decide +kernel
theorem dQ_refusalOfChanges_21 : decode M_Q_refusalOfChanges.2.1 21 = .ok (.getfield 55, 3) := by decide +kernel
theorem dQ_refusalOfChanges_24 : decode M_Q_refusalOfChanges.2.1 24 = .ok (.sipush 150, 3) := by decide +kernel
theorem dQ_refusalOfChanges_27 : decode M_Q_refusalOfChanges.2.1 27 = .ok (.if_icmp .lt 8, 3) := by decide +kernel
theorem dQ_refusalOfChanges_30 : decode M_Q_refusalOfChanges.2.1 30 = .ok (.bipush (-5), 2) := by decide +kernel
theorem dQ_refusalOfChanges_32 : decode M_Q_refusalOfChanges.2.1 32 = .ok (.goto 4, 3) := by decide +kernel
theorem dQ_refusalOfChanges_35 : decode M_Q_refusalOfChanges.2.1 35 = .ok (.iconst 0, 1) := by decide +kernel
theorem dQ_refusalOfChanges_36 : decode M_Q_refusalOfChanges.2.1 36 = .ok (.ireturn, 1) := by decide +kernel
theorem dQ_refusalOfCopy_0 : decode M_Q_refusalOfCopy.2.1 0 = .ok (.iload_n 1, 1) := by decide +kernel
theorem dQ_refusalOfCopy_1 : decode M_Q_refusalOfCopy.2.1 1 = .ok (.iload_n 2, 1) := by decide +kernel
theorem dQ_refusalOfCopy_2 : decode M_Q_refusalOfCopy.2.1 2 = .ok (.invokestatic 142, 3) := by decide +kernel
theorem dQ_refusalOfCopy_5 : decode M_Q_refusalOfCopy.2.1 5 = .ok (.ifCond .ne 5, 3) := by decide +kernel
theorem dQ_refusalOfCopy_8 : decode M_Q_refusalOfCopy.2.1 8 = .ok (.iconst (-1), 1) := by decide +kernel
theorem dQ_refusalOfCopy_9 : decode M_Q_refusalOfCopy.2.1 9 = .ok (.ireturn, 1) := by decide +kernel
theorem dQ_refusalOfCopy_10 : decode M_Q_refusalOfCopy.2.1 10 = .ok (.aload_n 0, 1) := by decide +kernel
theorem dQ_refusalOfCopy_11 : decode M_Q_refusalOfCopy.2.1 11 = .ok (.getfield 43, 3) := by decide +kernel
theorem dQ_refusalOfCopy_14 : decode M_Q_refusalOfCopy.2.1 14 = .ok (.ifCond .ne 6, 3) := by decide +kernel
theorem dQ_refusalOfCopy_17 : decode M_Q_refusalOfCopy.2.1 17 = .ok (.bipush (-2), 2) := by decide +kernel
theorem dQ_refusalOfCopy_19 : decode M_Q_refusalOfCopy.2.1 19 = .ok (.ireturn, 1) := by decide +kernel
theorem dQ_refusalOfCopy_20 : decode M_Q_refusalOfCopy.2.1 20 = .ok (.aload_n 0, 1) := by decide +kernel
theorem dQ_refusalOfCopy_21 : decode M_Q_refusalOfCopy.2.1 21 = .ok (.getfield 25, 3) := by decide +kernel
theorem dQ_refusalOfCopy_24 : decode M_Q_refusalOfCopy.2.1 24 = .ok (.iload_n 1, 1) := by decide +kernel
theorem dQ_refusalOfCopy_25 : decode M_Q_refusalOfCopy.2.1 25 = .ok (.aaload, 1) := by decide +kernel
theorem dQ_refusalOfCopy_26 : decode M_Q_refusalOfCopy.2.1 26 = .ok (.getfield 123, 3) := by decide +kernel
theorem dQ_refusalOfCopy_29 : decode M_Q_refusalOfCopy.2.1 29 = .ok (.iload_n 2, 1) := by decide +kernel
theorem dQ_refusalOfCopy_30 : decode M_Q_refusalOfCopy.2.1 30 = .ok (.aaload, 1) := by decide +kernel
theorem dQ_refusalOfCopy_31 : decode M_Q_refusalOfCopy.2.1 31 = .ok (.invokevirtual 127, 3) := by decide +kernel
theorem dQ_refusalOfCopy_34 : decode M_Q_refusalOfCopy.2.1 34 = .ok (.ifCond .eq 7, 3) := by decide +kernel
theorem dQ_refusalOfCopy_37 : decode M_Q_refusalOfCopy.2.1 37 = .ok (.iconst 0, 1) := by decide +kernel
theorem dQ_refusalOfCopy_38 : decode M_Q_refusalOfCopy.2.1 38 = .ok (.goto 5, 3) := by decide +kernel
theorem dQ_refusalOfCopy_41 : decode M_Q_refusalOfCopy.2.1 41 = .ok (.bipush (-7), 2) := by decide +kernel
theorem dQ_refusalOfCopy_43 : decode M_Q_refusalOfCopy.2.1 43 = .ok (.ireturn, 1) := by decide +kernel
theorem dQ_touch_0 : decode M_Q_touch.2.1 0 = .ok (.aload_n 0, 1) := by decide +kernel
theorem dQ_touch_1 : decode M_Q_touch.2.1 1 = .ok (.getfield 35, 3) := by decide +kernel
theorem dQ_touch_4 : decode M_Q_touch.2.1 4 = .ok (.iload_n 1, 1) := by decide +kernel
theorem dQ_touch_5 : decode M_Q_touch.2.1 5 = .ok (.invokevirtual 233, 3) := by decide +kernel
theorem dQ_touch_8 : decode M_Q_touch.2.1 8 = .ok (.ifCond .le 21, 3) := by decide +kernel
theorem dQ_touch_11 : decode M_Q_touch.2.1 11 = .ok (.aload_n 0, 1) := by decide +kernel
theorem dQ_touch_12 : decode M_Q_touch.2.1 12 = .ok (.getfield 35, 3) := by decide +kernel
theorem dQ_touch_15 : decode M_Q_touch.2.1 15 = .ok (.iload_n 1, 1) := by decide +kernel
theorem dQ_touch_16 : decode M_Q_touch.2.1 16 = .ok (.invokevirtual 239, 3) := by decide +kernel
theorem dQ_touch_19 : decode M_Q_touch.2.1 19 = .ok (.aload_n 0, 1) := by decide +kernel
theorem dQ_touch_20 : decode M_Q_touch.2.1 20 = .ok (.getfield 35, 3) := by decide +kernel
theorem dQ_touch_23 : decode M_Q_touch.2.1 23 = .ok (.iload_n 1, 1) := by decide +kernel
theorem dQ_touch_24 : decode M_Q_touch.2.1 24 = .ok (.invokevirtual 242, 3) := by decide +kernel
theorem dQ_touch_27 : decode M_Q_touch.2.1 27 = .ok (.iconst 0, 1) := by decide +kernel
theorem dQ_touch_28 : decode M_Q_touch.2.1 28 = .ok (.ireturn, 1) := by decide +kernel
theorem dQ_touch_29 : decode M_Q_touch.2.1 29 = .ok (.aload_n 0, 1) := by decide +kernel
theorem dQ_touch_30 : decode M_Q_touch.2.1 30 = .ok (.iload_n 2, 1) := by decide +kernel
theorem dQ_touch_31 : decode M_Q_touch.2.1 31 = .ok (.invokevirtual 245, 3) := by decide +kernel
theorem dQ_touch_34 : decode M_Q_touch.2.1 34 = .ok (.istore_n 3, 1) := by decide +kernel
theorem dQ_touch_35 : decode M_Q_touch.2.1 35 = .ok (.aload_n 0, 1) := by decide +kernel
theorem dQ_touch_36 : decode M_Q_touch.2.1 36 = .ok (.iload_n 1, 1) := by decide +kernel
theorem dQ_touch_37 : decode M_Q_touch.2.1 37 = .ok (.invokevirtual 248, 3) := by decide +kernel
theorem dQ_touch_40 : decode M_Q_touch.2.1 40 = .ok (.ifCond .ne 18, 3) := by decide +kernel
theorem dQ_touch_43 : decode M_Q_touch.2.1 43 = .ok (.aload_n 0, 1) := by decide +kernel
theorem dQ_touch_44 : decode M_Q_touch.2.1 44 = .ok (.getfield 35, 3) := by decide +kernel
theorem dQ_touch_47 : decode M_Q_touch.2.1 47 = .ok (.invokevirtual 251, 3) := by decide +kernel
theorem dQ_touch_50 : decode M_Q_touch.2.1 50 = .ok (.ifCond .eq 11, 3) := by decide +kernel
theorem dQ_touch_53 : decode M_Q_touch.2.1 53 = .ok (.iload_n 3, 1) := by decide +kernel
theorem dQ_touch_54 : decode M_Q_touch.2.1 54 = .ok (.iconst (-1), 1) := by decide +kernel
theorem dQ_touch_55 : decode M_Q_touch.2.1 55 = .ok (.if_icmp .ne 6, 3) := by decide +kernel
theorem dQ_touch_58 : decode M_Q_touch.2.1 58 = .ok (.bipush (-6), 2) := by decide +kernel
theorem dQ_touch_60 : decode M_Q_touch.2.1 60 = .ok (.ireturn, 1) := by decide +kernel
theorem dQ_touch_61 : decode M_Q_touch.2.1 61 = .ok (.aload_n 0, 1) := by decide +kernel
theorem dQ_touch_62 : decode M_Q_touch.2.1 62 = .ok (.getfield 25, 3) := by decide +kernel
theorem dQ_touch_65 : decode M_Q_touch.2.1 65 = .ok (.iload_n 1, 1) := by decide +kernel
theorem dQ_touch_66 : decode M_Q_touch.2.1 66 = .ok (.invokestatic 212, 3) := by decide +kernel
theorem dQ_touch_69 : decode M_Q_touch.2.1 69 = .ok (.aaload, 1) := by decide +kernel
theorem dQ_touch_70 : decode M_Q_touch.2.1 70 = .ok (.aload_n 0, 1) := by decide +kernel
theorem dQ_touch_71 : decode M_Q_touch.2.1 71 = .ok (.getfield 47, 3) := by decide +kernel
theorem dQ_touch_74 : decode M_Q_touch.2.1 74 = .ok (.aload_n 0, 1) := by decide +kernel
theorem dQ_touch_75 : decode M_Q_touch.2.1 75 = .ok (.getfield 10, 3) := by decide +kernel
theorem dQ_touch_78 : decode M_Q_touch.2.1 78 = .ok (.invokevirtual 215, 3) := by decide +kernel
theorem dQ_touch_81 : decode M_Q_touch.2.1 81 = .ok (.ifCond .ne 6, 3) := by decide +kernel
theorem dQ_touch_84 : decode M_Q_touch.2.1 84 = .ok (.bipush (-7), 2) := by decide +kernel
theorem dQ_touch_86 : decode M_Q_touch.2.1 86 = .ok (.ireturn, 1) := by decide +kernel
theorem dQ_touch_87 : decode M_Q_touch.2.1 87 = .ok (.aload_n 0, 1) := by decide +kernel
theorem dQ_touch_88 : decode M_Q_touch.2.1 88 = .ok (.getfield 35, 3) := by decide +kernel
theorem dQ_touch_91 : decode M_Q_touch.2.1 91 = .ok (.invokevirtual 251, 3) := by decide +kernel
theorem dQ_touch_94 : decode M_Q_touch.2.1 94 = .ok (.ifCond .eq 11, 3) := by decide +kernel
theorem dQ_touch_97 : decode M_Q_touch.2.1 97 = .ok (.aload_n 0, 1) := by decide +kernel
theorem dQ_touch_98 : decode M_Q_touch.2.1 98 = .ok (.getfield 35, 3) := by decide +kernel
theorem dQ_touch_101 : decode M_Q_touch.2.1 101 = .ok (.iload_n 3, 1) := by decide +kernel
theorem dQ_touch_102 : decode M_Q_touch.2.1 102 = .ok (.invokevirtual 239, 3) := by decide +kernel
theorem dQ_touch_105 : decode M_Q_touch.2.1 105 = .ok (.aload_n 0, 1) := by decide +kernel
theorem dQ_touch_106 : decode M_Q_touch.2.1 106 = .ok (.getfield 35, 3) := by decide +kernel
theorem dQ_touch_109 : decode M_Q_touch.2.1 109 = .ok (.iload_n 1, 1) := by decide +kernel
theorem dQ_touch_110 : decode M_Q_touch.2.1 110 = .ok (.invokevirtual 242, 3) := by decide +kernel
theorem dQ_touch_113 : decode M_Q_touch.2.1 113 = .ok (.iconst 0, 1) := by decide +kernel
theorem dQ_touch_114 : decode M_Q_touch.2.1 114 = .ok (.ireturn, 1) := by decide +kernel
theorem dQ_pageThatMayGo_0 : decode M_Q_pageThatMayGo.2.1 0 = .ok (.iconst 0, 1) := by decide +kernel
theorem dQ_pageThatMayGo_1 : decode M_Q_pageThatMayGo.2.1 1 = .ok (.istore_n 2, 1) := by decide +kernel
theorem dQ_pageThatMayGo_2 : decode M_Q_pageThatMayGo.2.1 2 = .ok (.iload_n 2, 1) := by decide +kernel
theorem dQ_pageThatMayGo_3 : decode M_Q_pageThatMayGo.2.1 3 = .ok (.aload_n 0, 1) := by decide +kernel
theorem dQ_pageThatMayGo_4 : decode M_Q_pageThatMayGo.2.1 4 = .ok (.getfield 35, 3) := by decide +kernel
theorem dQ_pageThatMayGo_7 : decode M_Q_pageThatMayGo.2.1 7 = .ok (.getfield 252, 3) := by decide +kernel
theorem dQ_pageThatMayGo_10 : decode M_Q_pageThatMayGo.2.1 10 = .ok (.if_icmp .ge 34, 3) := by decide +kernel
theorem dQ_pageThatMayGo_13 : decode M_Q_pageThatMayGo.2.1 13 = .ok (.aload_n 0, 1) := by decide +kernel
theorem dQ_pageThatMayGo_14 : decode M_Q_pageThatMayGo.2.1 14 = .ok (.getfield 35, 3) := by decide +kernel
theorem dQ_pageThatMayGo_17 : decode M_Q_pageThatMayGo.2.1 17 = .ok (.getfield 255, 3) := by decide +kernel
theorem dQ_pageThatMayGo_20 : decode M_Q_pageThatMayGo.2.1 20 = .ok (.iload_n 2, 1) := by decide +kernel
theorem dQ_pageThatMayGo_21 : decode M_Q_pageThatMayGo.2.1 21 = .ok (.iaload, 1) := by decide +kernel
theorem dQ_pageThatMayGo_22 : decode M_Q_pageThatMayGo.2.1 22 = .ok (.istore_n 3, 1) := by decide +kernel
theorem dQ_pageThatMayGo_23 : decode M_Q_pageThatMayGo.2.1 23 = .ok (.iload_n 3, 1) := by decide +kernel
theorem dQ_pageThatMayGo_24 : decode M_Q_pageThatMayGo.2.1 24 = .ok (.iload_n 1, 1) := by decide +kernel
theorem dQ_pageThatMayGo_25 : decode M_Q_pageThatMayGo.2.1 25 = .ok (.if_icmp .eq 13, 3) := by decide +kernel
theorem dQ_pageThatMayGo_28 : decode M_Q_pageThatMayGo.2.1 28 = .ok (.aload_n 0, 1) := by decide +kernel
theorem dQ_pageThatMayGo_29 : decode M_Q_pageThatMayGo.2.1 29 = .ok (.iload_n 3, 1) := by decide +kernel
theorem dQ_pageThatMayGo_30 : decode M_Q_pageThatMayGo.2.1 30 = .ok (.invokevirtual 248, 3) := by decide +kernel
theorem dQ_pageThatMayGo_33 : decode M_Q_pageThatMayGo.2.1 33 = .ok (.ifCond .ne 5, 3) := by decide +kernel
theorem dQ_pageThatMayGo_36 : decode M_Q_pageThatMayGo.2.1 36 = .ok (.iload_n 3, 1) := by decide +kernel
theorem dQ_pageThatMayGo_37 : decode M_Q_pageThatMayGo.2.1 37 = .ok (.ireturn, 1) := by decide +kernel
theorem dQ_pageThatMayGo_38 : decode M_Q_pageThatMayGo.2.1 38 = .ok (.iinc 2 1, 3) := by decide +kernel
theorem dQ_pageThatMayGo_41 : decode M_Q_pageThatMayGo.2.1 41 = .ok (.goto (-39), 3) := by decide +kernel
theorem dQ_pageThatMayGo_44 : decode M_Q_pageThatMayGo.2.1 44 = .ok (.iconst (-1), 1) := by decide +kernel
theorem dQ_pageThatMayGo_45 : decode M_Q_pageThatMayGo.2.1 45 = .ok (.ireturn, 1) := by decide +kernel
theorem dQ_isAheadOfDurable_0 : decode M_Q_isAheadOfDurable.2.1 0 = .ok (.aload_n 0, 1) := by decide +kernel
theorem dQ_isAheadOfDurable_1 : decode M_Q_isAheadOfDurable.2.1 1 = .ok (.getfield 10, 3) := by decide +kernel
theorem dQ_isAheadOfDurable_4 : decode M_Q_isAheadOfDurable.2.1 4 = .ok (.iload_n 1, 1) := by decide +kernel
theorem dQ_isAheadOfDurable_5 : decode M_Q_isAheadOfDurable.2.1 5 = .ok (.invokevirtual 258, 3) := by decide +kernel
theorem dQ_isAheadOfDurable_8 : decode M_Q_isAheadOfDurable.2.1 8 = .ok (.aload_n 0, 1) := by decide +kernel
theorem dQ_isAheadOfDurable_9 : decode M_Q_isAheadOfDurable.2.1 9 = .ok (.getfield 47, 3) := by decide +kernel
theorem dQ_isAheadOfDurable_12 : decode M_Q_isAheadOfDurable.2.1 12 = .ok (.if_icmp .le 7, 3) := by decide +kernel
theorem dQ_isAheadOfDurable_15 : decode M_Q_isAheadOfDurable.2.1 15 = .ok (.iconst 1, 1) := by decide +kernel
theorem dQ_isAheadOfDurable_16 : decode M_Q_isAheadOfDurable.2.1 16 = .ok (.goto 4, 3) := by decide +kernel
theorem dQ_isAheadOfDurable_19 : decode M_Q_isAheadOfDurable.2.1 19 = .ok (.iconst 0, 1) := by decide +kernel
theorem dQ_isAheadOfDurable_20 : decode M_Q_isAheadOfDurable.2.1 20 = .ok (.ireturn, 1) := by decide +kernel
theorem dQ_completePoint_0 : decode M_Q_completePoint.2.1 0 = .ok (.aload_n 0, 1) := by decide +kernel
theorem dQ_completePoint_1 : decode M_Q_completePoint.2.1 1 = .ok (.getfield 25, 3) := by decide +kernel
theorem dQ_completePoint_4 : decode M_Q_completePoint.2.1 4 = .ok (.iconst 0, 1) := by decide +kernel
theorem dQ_completePoint_5 : decode M_Q_completePoint.2.1 5 = .ok (.aaload, 1) := by decide +kernel
theorem dQ_completePoint_6 : decode M_Q_completePoint.2.1 6 = .ok (.invokevirtual 261, 3) := by decide +kernel
theorem dQ_completePoint_9 : decode M_Q_completePoint.2.1 9 = .ok (.istore_n 1, 1) := by decide +kernel
theorem dQ_completePoint_10 : decode M_Q_completePoint.2.1 10 = .ok (.aload_n 0, 1) := by decide +kernel
theorem dQ_completePoint_11 : decode M_Q_completePoint.2.1 11 = .ok (.getfield 25, 3) := by decide +kernel
theorem dQ_completePoint_14 : decode M_Q_completePoint.2.1 14 = .ok (.iconst 1, 1) := by decide +kernel
theorem dQ_completePoint_15 : decode M_Q_completePoint.2.1 15 = .ok (.aaload, 1) := by decide +kernel
theorem dQ_completePoint_16 : decode M_Q_completePoint.2.1 16 = .ok (.invokevirtual 261, 3) := by decide +kernel
theorem dQ_completePoint_19 : decode M_Q_completePoint.2.1 19 = .ok (.istore_n 2, 1) := by decide +kernel
theorem dQ_completePoint_20 : decode M_Q_completePoint.2.1 20 = .ok (.iconst 0, 1) := by decide +kernel
theorem dQ_completePoint_21 : decode M_Q_completePoint.2.1 21 = .ok (.istore_n 3, 1) := by decide +kernel
theorem dQ_completePoint_22 : decode M_Q_completePoint.2.1 22 = .ok (.iconst 1, 1) := by decide +kernel
theorem dQ_completePoint_23 : decode M_Q_completePoint.2.1 23 = .ok (.istore 4, 2) := by decide +kernel
theorem dQ_completePoint_25 : decode M_Q_completePoint.2.1 25 = .ok (.iload 4, 2) := by decide +kernel
theorem dQ_completePoint_27 : decode M_Q_completePoint.2.1 27 = .ok (.aload_n 0, 1) := by decide +kernel
theorem dQ_completePoint_28 : decode M_Q_completePoint.2.1 28 = .ok (.getfield 10, 3) := by decide +kernel
theorem dQ_completePoint_31 : decode M_Q_completePoint.2.1 31 = .ok (.getfield 55, 3) := by decide +kernel
theorem dQ_completePoint_34 : decode M_Q_completePoint.2.1 34 = .ok (.if_icmp .gt 38, 3) := by decide +kernel
theorem dQ_completePoint_37 : decode M_Q_completePoint.2.1 37 = .ok (.iload 4, 2) := by decide +kernel
theorem dQ_completePoint_39 : decode M_Q_completePoint.2.1 39 = .ok (.aload_n 0, 1) := by decide +kernel
theorem dQ_completePoint_40 : decode M_Q_completePoint.2.1 40 = .ok (.getfield 10, 3) := by decide +kernel
theorem dQ_completePoint_43 : decode M_Q_completePoint.2.1 43 = .ok (.getfield 120, 3) := by decide +kernel
theorem dQ_completePoint_46 : decode M_Q_completePoint.2.1 46 = .ok (.iload 4, 2) := by decide +kernel
theorem dQ_completePoint_48 : decode M_Q_completePoint.2.1 48 = .ok (.iaload, 1) := by decide +kernel
theorem dQ_completePoint_49 : decode M_Q_completePoint.2.1 49 = .ok (.ifCond .ne 7, 3) := by decide +kernel
theorem dQ_completePoint_52 : decode M_Q_completePoint.2.1 52 = .ok (.iload_n 1, 1) := by decide +kernel
theorem dQ_completePoint_53 : decode M_Q_completePoint.2.1 53 = .ok (.goto 4, 3) := by decide +kernel
theorem dQ_completePoint_56 : decode M_Q_completePoint.2.1 56 = .ok (.iload_n 2, 1) := by decide +kernel
theorem dQ_completePoint_57 : decode M_Q_completePoint.2.1 57 = .ok (.if_icmp .le 6, 3) := by decide +kernel
theorem dQ_completePoint_60 : decode M_Q_completePoint.2.1 60 = .ok (.goto 12, 3) := by decide +kernel
theorem dQ_completePoint_63 : decode M_Q_completePoint.2.1 63 = .ok (.iload 4, 2) := by decide +kernel
theorem dQ_completePoint_65 : decode M_Q_completePoint.2.1 65 = .ok (.istore_n 3, 1) := by decide +kernel
theorem dQ_completePoint_66 : decode M_Q_completePoint.2.1 66 = .ok (.iinc 4 1, 3) := by decide +kernel
theorem dQ_completePoint_69 : decode M_Q_completePoint.2.1 69 = .ok (.goto (-44), 3) := by decide +kernel
theorem dQ_completePoint_72 : decode M_Q_completePoint.2.1 72 = .ok (.iload_n 3, 1) := by decide +kernel
theorem dQ_completePoint_73 : decode M_Q_completePoint.2.1 73 = .ok (.ireturn, 1) := by decide +kernel
theorem dQ_raiseDurable_0 : decode M_Q_raiseDurable.2.1 0 = .ok (.aload_n 0, 1) := by decide +kernel
theorem dQ_raiseDurable_1 : decode M_Q_raiseDurable.2.1 1 = .ok (.aload_n 0, 1) := by decide +kernel
theorem dQ_raiseDurable_2 : decode M_Q_raiseDurable.2.1 2 = .ok (.getfield 47, 3) := by decide +kernel
theorem dQ_raiseDurable_5 : decode M_Q_raiseDurable.2.1 5 = .ok (.aload_n 0, 1) := by decide +kernel
theorem dQ_raiseDurable_6 : decode M_Q_raiseDurable.2.1 6 = .ok (.getfield 10, 3) := by decide +kernel
theorem dQ_raiseDurable_9 : decode M_Q_raiseDurable.2.1 9 = .ok (.aload_n 0, 1) := by decide +kernel
theorem dQ_raiseDurable_10 : decode M_Q_raiseDurable.2.1 10 = .ok (.invokevirtual 196, 3) := by decide +kernel
theorem dQ_raiseDurable_13 : decode M_Q_raiseDurable.2.1 13 = .ok (.invokevirtual 178, 3) := by decide +kernel
theorem dQ_raiseDurable_16 : decode M_Q_raiseDurable.2.1 16 = .ok (.invokestatic 264, 3) := by decide +kernel
theorem dQ_raiseDurable_19 : decode M_Q_raiseDurable.2.1 19 = .ok (.putfield 47, 3) := by decide +kernel
theorem dQ_raiseDurable_22 : decode M_Q_raiseDurable.2.1 22 = .ok (.return_, 1) := by decide +kernel
theorem dQ_reachOfLiveCopies_0 : decode M_Q_reachOfLiveCopies.2.1 0 = .ok (.iconst 0, 1) := by decide +kernel
theorem dQ_reachOfLiveCopies_1 : decode M_Q_reachOfLiveCopies.2.1 1 = .ok (.istore_n 1, 1) := by decide +kernel
theorem dQ_reachOfLiveCopies_2 : decode M_Q_reachOfLiveCopies.2.1 2 = .ok (.iconst 1, 1) := by decide +kernel
theorem dQ_reachOfLiveCopies_3 : decode M_Q_reachOfLiveCopies.2.1 3 = .ok (.istore_n 2, 1) := by decide +kernel
theorem dQ_reachOfLiveCopies_4 : decode M_Q_reachOfLiveCopies.2.1 4 = .ok (.iload_n 2, 1) := by decide +kernel
theorem dQ_reachOfLiveCopies_5 : decode M_Q_reachOfLiveCopies.2.1 5 = .ok (.aload_n 0, 1) := by decide +kernel
theorem dQ_reachOfLiveCopies_6 : decode M_Q_reachOfLiveCopies.2.1 6 = .ok (.getfield 10, 3) := by decide +kernel
theorem dQ_reachOfLiveCopies_9 : decode M_Q_reachOfLiveCopies.2.1 9 = .ok (.getfield 55, 3) := by decide +kernel
theorem dQ_reachOfLiveCopies_12 : decode M_Q_reachOfLiveCopies.2.1 12 = .ok (.if_icmp .gt 35, 3) := by decide +kernel
theorem dQ_reachOfLiveCopies_15 : decode M_Q_reachOfLiveCopies.2.1 15 = .ok (.aload_n 0, 1) := by decide +kernel
theorem dQ_reachOfLiveCopies_16 : decode M_Q_reachOfLiveCopies.2.1 16 = .ok (.getfield 25, 3) := by decide +kernel
theorem dQ_reachOfLiveCopies_19 : decode M_Q_reachOfLiveCopies.2.1 19 = .ok (.aload_n 0, 1) := by decide +kernel
theorem dQ_reachOfLiveCopies_20 : decode M_Q_reachOfLiveCopies.2.1 20 = .ok (.getfield 10, 3) := by decide +kernel
theorem dQ_reachOfLiveCopies_23 : decode M_Q_reachOfLiveCopies.2.1 23 = .ok (.getfield 120, 3) := by decide +kernel
theorem dQ_reachOfLiveCopies_26 : decode M_Q_reachOfLiveCopies.2.1 26 = .ok (.iload_n 2, 1) := by decide +kernel
theorem dQ_reachOfLiveCopies_27 : decode M_Q_reachOfLiveCopies.2.1 27 = .ok (.iaload, 1) := by decide +kernel
theorem dQ_reachOfLiveCopies_28 : decode M_Q_reachOfLiveCopies.2.1 28 = .ok (.aaload, 1) := by decide +kernel
theorem dQ_reachOfLiveCopies_29 : decode M_Q_reachOfLiveCopies.2.1 29 = .ok (.iload_n 2, 1) := by decide +kernel
theorem dQ_reachOfLiveCopies_30 : decode M_Q_reachOfLiveCopies.2.1 30 = .ok (.invokevirtual 267, 3) := by decide +kernel
theorem dQ_reachOfLiveCopies_33 : decode M_Q_reachOfLiveCopies.2.1 33 = .ok (.ifCond .ne 6, 3) := by decide +kernel
theorem dQ_reachOfLiveCopies_36 : decode M_Q_reachOfLiveCopies.2.1 36 = .ok (.goto 11, 3) := by decide +kernel
theorem dQ_reachOfLiveCopies_39 : decode M_Q_reachOfLiveCopies.2.1 39 = .ok (.iload_n 2, 1) := by decide +kernel
theorem dQ_reachOfLiveCopies_40 : decode M_Q_reachOfLiveCopies.2.1 40 = .ok (.istore_n 1, 1) := by decide +kernel
theorem dQ_reachOfLiveCopies_41 : decode M_Q_reachOfLiveCopies.2.1 41 = .ok (.iinc 2 1, 3) := by decide +kernel
theorem dQ_reachOfLiveCopies_44 : decode M_Q_reachOfLiveCopies.2.1 44 = .ok (.goto (-40), 3) := by decide +kernel
theorem dQ_reachOfLiveCopies_47 : decode M_Q_reachOfLiveCopies.2.1 47 = .ok (.iload_n 1, 1) := by decide +kernel
theorem dQ_reachOfLiveCopies_48 : decode M_Q_reachOfLiveCopies.2.1 48 = .ok (.ireturn, 1) := by decide +kernel
theorem dQ_rollBackUnended_0 : decode M_Q_rollBackUnended.2.1 0 = .ok (.iconst 1, 1) := by decide +kernel
theorem dQ_rollBackUnended_1 : decode M_Q_rollBackUnended.2.1 1 = .ok (.istore_n 1, 1) := by decide +kernel
theorem dQ_rollBackUnended_2 : decode M_Q_rollBackUnended.2.1 2 = .ok (.iload_n 1, 1) := by decide +kernel
theorem dQ_rollBackUnended_3 : decode M_Q_rollBackUnended.2.1 3 = .ok (.aload_n 0, 1) := by decide +kernel
theorem dQ_rollBackUnended_4 : decode M_Q_rollBackUnended.2.1 4 = .ok (.getfield 19, 3) := by decide +kernel
theorem dQ_rollBackUnended_7 : decode M_Q_rollBackUnended.2.1 7 = .ok (.getfield 105, 3) := by decide +kernel
theorem dQ_rollBackUnended_10 : decode M_Q_rollBackUnended.2.1 10 = .ok (.if_icmp .gt 41, 3) := by decide +kernel
theorem dQ_rollBackUnended_13 : decode M_Q_rollBackUnended.2.1 13 = .ok (.aload_n 0, 1) := by decide +kernel
theorem dQ_rollBackUnended_14 : decode M_Q_rollBackUnended.2.1 14 = .ok (.getfield 10, 3) := by decide +kernel
theorem dQ_rollBackUnended_17 : decode M_Q_rollBackUnended.2.1 17 = .ok (.getfield 111, 3) := by decide +kernel
theorem dQ_rollBackUnended_20 : decode M_Q_rollBackUnended.2.1 20 = .ok (.iload_n 1, 1) := by decide +kernel
theorem dQ_rollBackUnended_21 : decode M_Q_rollBackUnended.2.1 21 = .ok (.iaload, 1) := by decide +kernel
theorem dQ_rollBackUnended_22 : decode M_Q_rollBackUnended.2.1 22 = .ok (.ifCond .ne 23, 3) := by decide +kernel
theorem dQ_rollBackUnended_25 : decode M_Q_rollBackUnended.2.1 25 = .ok (.aload_n 0, 1) := by decide +kernel
theorem dQ_rollBackUnended_26 : decode M_Q_rollBackUnended.2.1 26 = .ok (.getfield 10, 3) := by decide +kernel
theorem dQ_rollBackUnended_29 : decode M_Q_rollBackUnended.2.1 29 = .ok (.iload_n 1, 1) := by decide +kernel
theorem dQ_rollBackUnended_30 : decode M_Q_rollBackUnended.2.1 30 = .ok (.invokevirtual 270, 3) := by decide +kernel
theorem dQ_rollBackUnended_33 : decode M_Q_rollBackUnended.2.1 33 = .ok (.ifCond .eq 12, 3) := by decide +kernel
theorem dQ_rollBackUnended_36 : decode M_Q_rollBackUnended.2.1 36 = .ok (.aload_n 0, 1) := by decide +kernel
theorem dQ_rollBackUnended_37 : decode M_Q_rollBackUnended.2.1 37 = .ok (.getfield 10, 3) := by decide +kernel
theorem dQ_rollBackUnended_40 : decode M_Q_rollBackUnended.2.1 40 = .ok (.iload_n 1, 1) := by decide +kernel
theorem dQ_rollBackUnended_41 : decode M_Q_rollBackUnended.2.1 41 = .ok (.invokevirtual 102, 3) := by decide +kernel
theorem dQ_rollBackUnended_44 : decode M_Q_rollBackUnended.2.1 44 = .ok (.pop, 1) := by decide +kernel
theorem dQ_rollBackUnended_45 : decode M_Q_rollBackUnended.2.1 45 = .ok (.iinc 1 1, 3) := by decide +kernel
theorem dQ_rollBackUnended_48 : decode M_Q_rollBackUnended.2.1 48 = .ok (.goto (-46), 3) := by decide +kernel
theorem dQ_rollBackUnended_51 : decode M_Q_rollBackUnended.2.1 51 = .ok (.return_, 1) := by decide +kernel
end
section
/-! Decode rows (by program, wip/whole/gen.py). -/
theorem dM_init_0 : decode M_M_init.2.1 0 = .ok (.aload_n 0, 1) := by decide +kernel
theorem dM_init_1 : decode M_M_init.2.1 1 = .ok (.invokespecial 1, 3) := by decide +kernel
theorem dM_init_4 : decode M_M_init.2.1 4 = .ok (.aload_n 0, 1) := by decide +kernel
theorem dM_init_5 : decode M_M_init.2.1 5 = .ok (.sipush 200, 3) := by decide +kernel
theorem dM_init_8 : decode M_M_init.2.1 8 = .ok (.newarray .int, 2) := by decide +kernel
theorem dM_init_10 : decode M_M_init.2.1 10 = .ok (.putfield 7, 3) := by decide +kernel
theorem dM_init_13 : decode M_M_init.2.1 13 = .ok (.aload_n 0, 1) := by decide +kernel
theorem dM_init_14 : decode M_M_init.2.1 14 = .ok (.sipush 200, 3) := by decide +kernel
theorem dM_init_17 : decode M_M_init.2.1 17 = .ok (.newarray .int, 2) := by decide +kernel
theorem dM_init_19 : decode M_M_init.2.1 19 = .ok (.putfield 13, 3) := by decide +kernel
theorem dM_init_22 : decode M_M_init.2.1 22 = .ok (.aload_n 0, 1) := by decide +kernel
theorem dM_init_23 : decode M_M_init.2.1 23 = .ok (.sipush 200, 3) := by decide +kernel
theorem dM_init_26 : decode M_M_init.2.1 26 = .ok (.newarray .int, 2) := by decide +kernel
theorem dM_init_28 : decode M_M_init.2.1 28 = .ok (.putfield 16, 3) := by decide +kernel
theorem dM_init_31 : decode M_M_init.2.1 31 = .ok (.aload_n 0, 1) := by decide +kernel
theorem dM_init_32 : decode M_M_init.2.1 32 = .ok (.sipush 200, 3) := by decide +kernel
theorem dM_init_35 : decode M_M_init.2.1 35 = .ok (.newarray .int, 2) := by decide +kernel
theorem dM_init_37 : decode M_M_init.2.1 37 = .ok (.putfield 19, 3) := by decide +kernel
theorem dM_init_40 : decode M_M_init.2.1 40 = .ok (.aload_n 0, 1) := by decide +kernel
theorem dM_init_41 : decode M_M_init.2.1 41 = .ok (.sipush 200, 3) := by decide +kernel
theorem dM_init_44 : decode M_M_init.2.1 44 = .ok (.newarray .boolean, 2) := by decide +kernel
theorem dM_init_46 : decode M_M_init.2.1 46 = .ok (.putfield 22, 3) := by decide +kernel
theorem dM_init_49 : decode M_M_init.2.1 49 = .ok (.aload_n 0, 1) := by decide +kernel
theorem dM_init_50 : decode M_M_init.2.1 50 = .ok (.sipush 2400, 3) := by decide +kernel
theorem dM_init_53 : decode M_M_init.2.1 53 = .ok (.newarray .boolean, 2) := by decide +kernel
theorem dM_init_55 : decode M_M_init.2.1 55 = .ok (.putfield 26, 3) := by decide +kernel
theorem dM_init_58 : decode M_M_init.2.1 58 = .ok (.aload_n 0, 1) := by decide +kernel
theorem dM_init_59 : decode M_M_init.2.1 59 = .ok (.bipush 12, 2) := by decide +kernel
theorem dM_init_61 : decode M_M_init.2.1 61 = .ok (.newarray .int, 2) := by decide +kernel
theorem dM_init_63 : decode M_M_init.2.1 63 = .ok (.putfield 29, 3) := by decide +kernel
theorem dM_init_66 : decode M_M_init.2.1 66 = .ok (.aload_n 0, 1) := by decide +kernel
theorem dM_init_67 : decode M_M_init.2.1 67 = .ok (.bipush 12, 2) := by decide +kernel
theorem dM_init_69 : decode M_M_init.2.1 69 = .ok (.newarray .int, 2) := by decide +kernel
theorem dM_init_71 : decode M_M_init.2.1 71 = .ok (.putfield 32, 3) := by decide +kernel
theorem dM_init_74 : decode M_M_init.2.1 74 = .ok (.aload_n 0, 1) := by decide +kernel
theorem dM_init_75 : decode M_M_init.2.1 75 = .ok (.bipush 12, 2) := by decide +kernel
theorem dM_init_77 : decode M_M_init.2.1 77 = .ok (.newarray .int, 2) := by decide +kernel
theorem dM_init_79 : decode M_M_init.2.1 79 = .ok (.putfield 35, 3) := by decide +kernel
theorem dM_init_82 : decode M_M_init.2.1 82 = .ok (.aload_n 0, 1) := by decide +kernel
theorem dM_init_83 : decode M_M_init.2.1 83 = .ok (.bipush 61, 2) := by decide +kernel
theorem dM_init_85 : decode M_M_init.2.1 85 = .ok (.newarray .boolean, 2) := by decide +kernel
theorem dM_init_87 : decode M_M_init.2.1 87 = .ok (.putfield 38, 3) := by decide +kernel
theorem dM_init_90 : decode M_M_init.2.1 90 = .ok (.aload_n 0, 1) := by decide +kernel
theorem dM_init_91 : decode M_M_init.2.1 91 = .ok (.bipush 32, 2) := by decide +kernel
theorem dM_init_93 : decode M_M_init.2.1 93 = .ok (.newarray .int, 2) := by decide +kernel
theorem dM_init_95 : decode M_M_init.2.1 95 = .ok (.putfield 41, 3) := by decide +kernel
theorem dM_init_98 : decode M_M_init.2.1 98 = .ok (.aload_n 0, 1) := by decide +kernel
theorem dM_init_99 : decode M_M_init.2.1 99 = .ok (.iconst 4, 1) := by decide +kernel
theorem dM_init_100 : decode M_M_init.2.1 100 = .ok (.newarray .int, 2) := by decide +kernel
theorem dM_init_102 : decode M_M_init.2.1 102 = .ok (.putfield 44, 3) := by decide +kernel
theorem dM_init_105 : decode M_M_init.2.1 105 = .ok (.aload_n 0, 1) := by decide +kernel
theorem dM_init_106 : decode M_M_init.2.1 106 = .ok (.iconst 2, 1) := by decide +kernel
theorem dM_init_107 : decode M_M_init.2.1 107 = .ok (.newarray .int, 2) := by decide +kernel
theorem dM_init_109 : decode M_M_init.2.1 109 = .ok (.putfield 47, 3) := by decide +kernel
theorem dM_init_112 : decode M_M_init.2.1 112 = .ok (.return_, 1) := by decide +kernel
theorem dM_isKey_0 : decode M_M_isKey.2.1 0 = .ok (.iload_n 0, 1) := by decide +kernel
theorem dM_isKey_1 : decode M_M_isKey.2.1 1 = .ok (.ifCond .lt 13, 3) := by decide +kernel
theorem dM_isKey_4 : decode M_M_isKey.2.1 4 = .ok (.iload_n 0, 1) := by decide +kernel
theorem dM_isKey_5 : decode M_M_isKey.2.1 5 = .ok (.bipush 31, 2) := by decide +kernel
theorem dM_isKey_7 : decode M_M_isKey.2.1 7 = .ok (.if_icmp .gt 7, 3) := by decide +kernel
theorem dM_isKey_10 : decode M_M_isKey.2.1 10 = .ok (.iconst 1, 1) := by decide +kernel
theorem dM_isKey_11 : decode M_M_isKey.2.1 11 = .ok (.goto 4, 3) := by decide +kernel
theorem dM_isKey_14 : decode M_M_isKey.2.1 14 = .ok (.iconst 0, 1) := by decide +kernel
theorem dM_isKey_15 : decode M_M_isKey.2.1 15 = .ok (.ireturn, 1) := by decide +kernel
theorem dM_isCopy_0 : decode M_M_isCopy.2.1 0 = .ok (.iload_n 0, 1) := by decide +kernel
theorem dM_isCopy_1 : decode M_M_isCopy.2.1 1 = .ok (.ifCond .eq 8, 3) := by decide +kernel
theorem dM_isCopy_4 : decode M_M_isCopy.2.1 4 = .ok (.iload_n 0, 1) := by decide +kernel
theorem dM_isCopy_5 : decode M_M_isCopy.2.1 5 = .ok (.iconst 1, 1) := by decide +kernel
theorem dM_isCopy_6 : decode M_M_isCopy.2.1 6 = .ok (.if_icmp .ne 16, 3) := by decide +kernel
theorem dM_isCopy_9 : decode M_M_isCopy.2.1 9 = .ok (.iload_n 1, 1) := by decide +kernel
theorem dM_isCopy_10 : decode M_M_isCopy.2.1 10 = .ok (.ifCond .lt 12, 3) := by decide +kernel
theorem dM_isCopy_13 : decode M_M_isCopy.2.1 13 = .ok (.iload_n 1, 1) := by decide +kernel
theorem dM_isCopy_14 : decode M_M_isCopy.2.1 14 = .ok (.iconst 5, 1) := by decide +kernel
theorem dM_isCopy_15 : decode M_M_isCopy.2.1 15 = .ok (.if_icmp .gt 7, 3) := by decide +kernel
theorem dM_isCopy_18 : decode M_M_isCopy.2.1 18 = .ok (.iconst 1, 1) := by decide +kernel
theorem dM_isCopy_19 : decode M_M_isCopy.2.1 19 = .ok (.goto 4, 3) := by decide +kernel
theorem dM_isCopy_22 : decode M_M_isCopy.2.1 22 = .ok (.iconst 0, 1) := by decide +kernel
theorem dM_isCopy_23 : decode M_M_isCopy.2.1 23 = .ok (.ireturn, 1) := by decide +kernel
theorem dM_groupOf_0 : decode M_M_groupOf.2.1 0 = .ok (.aload_n 0, 1) := by decide +kernel
theorem dM_groupOf_1 : decode M_M_groupOf.2.1 1 = .ok (.getfield 19, 3) := by decide +kernel
theorem dM_groupOf_4 : decode M_M_groupOf.2.1 4 = .ok (.iload_n 1, 1) := by decide +kernel
theorem dM_groupOf_5 : decode M_M_groupOf.2.1 5 = .ok (.iaload, 1) := by decide +kernel
theorem dM_groupOf_6 : decode M_M_groupOf.2.1 6 = .ok (.ifCond .le 14, 3) := by decide +kernel
theorem dM_groupOf_9 : decode M_M_groupOf.2.1 9 = .ok (.aload_n 0, 1) := by decide +kernel
theorem dM_groupOf_10 : decode M_M_groupOf.2.1 10 = .ok (.getfield 7, 3) := by decide +kernel
theorem dM_groupOf_13 : decode M_M_groupOf.2.1 13 = .ok (.iload_n 1, 1) := by decide +kernel
theorem dM_groupOf_14 : decode M_M_groupOf.2.1 14 = .ok (.iaload, 1) := by decide +kernel
theorem dM_groupOf_15 : decode M_M_groupOf.2.1 15 = .ok (.iconst 2, 1) := by decide +kernel
theorem dM_groupOf_16 : decode M_M_groupOf.2.1 16 = .ok (.irem, 1) := by decide +kernel
theorem dM_groupOf_17 : decode M_M_groupOf.2.1 17 = .ok (.goto 13, 3) := by decide +kernel
theorem dM_groupOf_20 : decode M_M_groupOf.2.1 20 = .ok (.aload_n 0, 1) := by decide +kernel
theorem dM_groupOf_21 : decode M_M_groupOf.2.1 21 = .ok (.getfield 13, 3) := by decide +kernel
theorem dM_groupOf_24 : decode M_M_groupOf.2.1 24 = .ok (.iload_n 1, 1) := by decide +kernel
theorem dM_groupOf_25 : decode M_M_groupOf.2.1 25 = .ok (.iaload, 1) := by decide +kernel
theorem dM_groupOf_26 : decode M_M_groupOf.2.1 26 = .ok (.iconst 4, 1) := by decide +kernel
theorem dM_groupOf_27 : decode M_M_groupOf.2.1 27 = .ok (.idiv, 1) := by decide +kernel
theorem dM_groupOf_28 : decode M_M_groupOf.2.1 28 = .ok (.iconst 2, 1) := by decide +kernel
theorem dM_groupOf_29 : decode M_M_groupOf.2.1 29 = .ok (.irem, 1) := by decide +kernel
theorem dM_groupOf_30 : decode M_M_groupOf.2.1 30 = .ok (.ireturn, 1) := by decide +kernel
theorem dM_isActive_0 : decode M_M_isActive.2.1 0 = .ok (.iload_n 1, 1) := by decide +kernel
theorem dM_isActive_1 : decode M_M_isActive.2.1 1 = .ok (.iconst 1, 1) := by decide +kernel
theorem dM_isActive_2 : decode M_M_isActive.2.1 2 = .ok (.if_icmp .lt 24, 3) := by decide +kernel
theorem dM_isActive_5 : decode M_M_isActive.2.1 5 = .ok (.iload_n 1, 1) := by decide +kernel
theorem dM_isActive_6 : decode M_M_isActive.2.1 6 = .ok (.aload_n 0, 1) := by decide +kernel
theorem dM_isActive_7 : decode M_M_isActive.2.1 7 = .ok (.getfield 50, 3) := by decide +kernel
theorem dM_isActive_10 : decode M_M_isActive.2.1 10 = .ok (.if_icmp .gt 16, 3) := by decide +kernel
theorem dM_isActive_13 : decode M_M_isActive.2.1 13 = .ok (.aload_n 0, 1) := by decide +kernel
theorem dM_isActive_14 : decode M_M_isActive.2.1 14 = .ok (.getfield 38, 3) := by decide +kernel
theorem dM_isActive_17 : decode M_M_isActive.2.1 17 = .ok (.iload_n 1, 1) := by decide +kernel
theorem dM_isActive_18 : decode M_M_isActive.2.1 18 = .ok (.baload, 1) := by decide +kernel
theorem dM_isActive_19 : decode M_M_isActive.2.1 19 = .ok (.ifCond .eq 7, 3) := by decide +kernel
theorem dM_isActive_22 : decode M_M_isActive.2.1 22 = .ok (.iconst 1, 1) := by decide +kernel
theorem dM_isActive_23 : decode M_M_isActive.2.1 23 = .ok (.goto 4, 3) := by decide +kernel
theorem dM_isActive_26 : decode M_M_isActive.2.1 26 = .ok (.iconst 0, 1) := by decide +kernel
theorem dM_isActive_27 : decode M_M_isActive.2.1 27 = .ok (.ireturn, 1) := by decide +kernel
theorem dM_changeUpTo_0 : decode M_M_changeUpTo.2.1 0 = .ok (.iconst 0, 1) := by decide +kernel
theorem dM_changeUpTo_1 : decode M_M_changeUpTo.2.1 1 = .ok (.istore_n 3, 1) := by decide +kernel
theorem dM_changeUpTo_2 : decode M_M_changeUpTo.2.1 2 = .ok (.iconst 1, 1) := by decide +kernel
theorem dM_changeUpTo_3 : decode M_M_changeUpTo.2.1 3 = .ok (.istore 4, 2) := by decide +kernel
theorem dM_changeUpTo_5 : decode M_M_changeUpTo.2.1 5 = .ok (.iload 4, 2) := by decide +kernel
theorem dM_changeUpTo_7 : decode M_M_changeUpTo.2.1 7 = .ok (.iload_n 2, 1) := by decide +kernel
theorem dM_changeUpTo_8 : decode M_M_changeUpTo.2.1 8 = .ok (.if_icmp .gt 46, 3) := by decide +kernel
theorem dM_changeUpTo_11 : decode M_M_changeUpTo.2.1 11 = .ok (.iload 4, 2) := by decide +kernel
theorem dM_changeUpTo_13 : decode M_M_changeUpTo.2.1 13 = .ok (.aload_n 0, 1) := by decide +kernel
theorem dM_changeUpTo_14 : decode M_M_changeUpTo.2.1 14 = .ok (.getfield 54, 3) := by decide +kernel
theorem dM_changeUpTo_17 : decode M_M_changeUpTo.2.1 17 = .ok (.if_icmp .gt 37, 3) := by decide +kernel
theorem dM_changeUpTo_20 : decode M_M_changeUpTo.2.1 20 = .ok (.aload_n 0, 1) := by decide +kernel
theorem dM_changeUpTo_21 : decode M_M_changeUpTo.2.1 21 = .ok (.getfield 19, 3) := by decide +kernel
theorem dM_changeUpTo_24 : decode M_M_changeUpTo.2.1 24 = .ok (.iload 4, 2) := by decide +kernel
theorem dM_changeUpTo_26 : decode M_M_changeUpTo.2.1 26 = .ok (.iaload, 1) := by decide +kernel
theorem dM_changeUpTo_27 : decode M_M_changeUpTo.2.1 27 = .ok (.ifCond .ne 19, 3) := by decide +kernel
theorem dM_changeUpTo_30 : decode M_M_changeUpTo.2.1 30 = .ok (.aload_n 0, 1) := by decide +kernel
theorem dM_changeUpTo_31 : decode M_M_changeUpTo.2.1 31 = .ok (.getfield 13, 3) := by decide +kernel
theorem dM_changeUpTo_34 : decode M_M_changeUpTo.2.1 34 = .ok (.iload 4, 2) := by decide +kernel
theorem dM_changeUpTo_36 : decode M_M_changeUpTo.2.1 36 = .ok (.iaload, 1) := by decide +kernel
theorem dM_changeUpTo_37 : decode M_M_changeUpTo.2.1 37 = .ok (.iload_n 1, 1) := by decide +kernel
theorem dM_changeUpTo_38 : decode M_M_changeUpTo.2.1 38 = .ok (.if_icmp .ne 8, 3) := by decide +kernel
theorem dM_changeUpTo_41 : decode M_M_changeUpTo.2.1 41 = .ok (.iload 4, 2) := by decide +kernel
theorem dM_changeUpTo_43 : decode M_M_changeUpTo.2.1 43 = .ok (.goto 4, 3) := by decide +kernel
theorem dM_changeUpTo_46 : decode M_M_changeUpTo.2.1 46 = .ok (.iload_n 3, 1) := by decide +kernel
theorem dM_changeUpTo_47 : decode M_M_changeUpTo.2.1 47 = .ok (.istore_n 3, 1) := by decide +kernel
theorem dM_changeUpTo_48 : decode M_M_changeUpTo.2.1 48 = .ok (.iinc 4 1, 3) := by decide +kernel
theorem dM_changeUpTo_51 : decode M_M_changeUpTo.2.1 51 = .ok (.goto (-46), 3) := by decide +kernel
theorem dM_changeUpTo_54 : decode M_M_changeUpTo.2.1 54 = .ok (.iload_n 3, 1) := by decide +kernel
theorem dM_changeUpTo_55 : decode M_M_changeUpTo.2.1 55 = .ok (.ireturn, 1) := by decide +kernel
theorem dM_valueUpTo_0 : decode M_M_valueUpTo.2.1 0 = .ok (.aload_n 0, 1) := by decide +kernel
theorem dM_valueUpTo_1 : decode M_M_valueUpTo.2.1 1 = .ok (.iload_n 1, 1) := by decide +kernel
theorem dM_valueUpTo_2 : decode M_M_valueUpTo.2.1 2 = .ok (.iload_n 2, 1) := by decide +kernel
theorem dM_valueUpTo_3 : decode M_M_valueUpTo.2.1 3 = .ok (.invokevirtual 57, 3) := by decide +kernel
theorem dM_valueUpTo_6 : decode M_M_valueUpTo.2.1 6 = .ok (.istore_n 3, 1) := by decide +kernel
theorem dM_valueUpTo_7 : decode M_M_valueUpTo.2.1 7 = .ok (.iload_n 3, 1) := by decide +kernel
theorem dM_valueUpTo_8 : decode M_M_valueUpTo.2.1 8 = .ok (.ifCond .ne 7, 3) := by decide +kernel
theorem dM_valueUpTo_11 : decode M_M_valueUpTo.2.1 11 = .ok (.iconst 0, 1) := by decide +kernel
theorem dM_valueUpTo_12 : decode M_M_valueUpTo.2.1 12 = .ok (.goto 9, 3) := by decide +kernel
theorem dM_valueUpTo_15 : decode M_M_valueUpTo.2.1 15 = .ok (.aload_n 0, 1) := by decide +kernel
theorem dM_valueUpTo_16 : decode M_M_valueUpTo.2.1 16 = .ok (.getfield 16, 3) := by decide +kernel
theorem dM_valueUpTo_19 : decode M_M_valueUpTo.2.1 19 = .ok (.iload_n 3, 1) := by decide +kernel
theorem dM_valueUpTo_20 : decode M_M_valueUpTo.2.1 20 = .ok (.iaload, 1) := by decide +kernel
theorem dM_valueUpTo_21 : decode M_M_valueUpTo.2.1 21 = .ok (.ireturn, 1) := by decide +kernel
theorem dM_latest_0 : decode M_M_latest.2.1 0 = .ok (.iconst 0, 1) := by decide +kernel
theorem dM_latest_1 : decode M_M_latest.2.1 1 = .ok (.istore_n 2, 1) := by decide +kernel
theorem dM_latest_2 : decode M_M_latest.2.1 2 = .ok (.iconst 4, 1) := by decide +kernel
theorem dM_latest_3 : decode M_M_latest.2.1 3 = .ok (.iload_n 1, 1) := by decide +kernel
theorem dM_latest_4 : decode M_M_latest.2.1 4 = .ok (.imul, 1) := by decide +kernel
theorem dM_latest_5 : decode M_M_latest.2.1 5 = .ok (.istore_n 3, 1) := by decide +kernel
theorem dM_latest_6 : decode M_M_latest.2.1 6 = .ok (.iload_n 3, 1) := by decide +kernel
theorem dM_latest_7 : decode M_M_latest.2.1 7 = .ok (.iconst 4, 1) := by decide +kernel
theorem dM_latest_8 : decode M_M_latest.2.1 8 = .ok (.iload_n 1, 1) := by decide +kernel
theorem dM_latest_9 : decode M_M_latest.2.1 9 = .ok (.imul, 1) := by decide +kernel
theorem dM_latest_10 : decode M_M_latest.2.1 10 = .ok (.iconst 4, 1) := by decide +kernel
theorem dM_latest_11 : decode M_M_latest.2.1 11 = .ok (.iadd, 1) := by decide +kernel
theorem dM_latest_12 : decode M_M_latest.2.1 12 = .ok (.if_icmp .ge 33, 3) := by decide +kernel
theorem dM_latest_15 : decode M_M_latest.2.1 15 = .ok (.aload_n 0, 1) := by decide +kernel
theorem dM_latest_16 : decode M_M_latest.2.1 16 = .ok (.iload_n 3, 1) := by decide +kernel
theorem dM_latest_17 : decode M_M_latest.2.1 17 = .ok (.aload_n 0, 1) := by decide +kernel
theorem dM_latest_18 : decode M_M_latest.2.1 18 = .ok (.getfield 54, 3) := by decide +kernel
theorem dM_latest_21 : decode M_M_latest.2.1 21 = .ok (.invokevirtual 57, 3) := by decide +kernel
theorem dM_latest_24 : decode M_M_latest.2.1 24 = .ok (.istore 4, 2) := by decide +kernel
theorem dM_latest_26 : decode M_M_latest.2.1 26 = .ok (.iload 4, 2) := by decide +kernel
theorem dM_latest_28 : decode M_M_latest.2.1 28 = .ok (.iload_n 2, 1) := by decide +kernel
theorem dM_latest_29 : decode M_M_latest.2.1 29 = .ok (.if_icmp .le 8, 3) := by decide +kernel
theorem dM_latest_32 : decode M_M_latest.2.1 32 = .ok (.iload 4, 2) := by decide +kernel
theorem dM_latest_34 : decode M_M_latest.2.1 34 = .ok (.goto 4, 3) := by decide +kernel
theorem dM_latest_37 : decode M_M_latest.2.1 37 = .ok (.iload_n 2, 1) := by decide +kernel
theorem dM_latest_38 : decode M_M_latest.2.1 38 = .ok (.istore_n 2, 1) := by decide +kernel
theorem dM_latest_39 : decode M_M_latest.2.1 39 = .ok (.iinc 3 1, 3) := by decide +kernel
theorem dM_latest_42 : decode M_M_latest.2.1 42 = .ok (.goto (-36), 3) := by decide +kernel
theorem dM_latest_45 : decode M_M_latest.2.1 45 = .ok (.iload_n 2, 1) := by decide +kernel
theorem dM_latest_46 : decode M_M_latest.2.1 46 = .ok (.ireturn, 1) := by decide +kernel
theorem dM_add_0 : decode M_M_add.2.1 0 = .ok (.aload_n 0, 1) := by decide +kernel
theorem dM_add_1 : decode M_M_add.2.1 1 = .ok (.dup, 1) := by decide +kernel
theorem dM_add_2 : decode M_M_add.2.1 2 = .ok (.getfield 54, 3) := by decide +kernel
theorem dM_add_5 : decode M_M_add.2.1 5 = .ok (.iconst 1, 1) := by decide +kernel
theorem dM_add_6 : decode M_M_add.2.1 6 = .ok (.iadd, 1) := by decide +kernel
theorem dM_add_7 : decode M_M_add.2.1 7 = .ok (.putfield 54, 3) := by decide +kernel
theorem dM_add_10 : decode M_M_add.2.1 10 = .ok (.aload_n 0, 1) := by decide +kernel
theorem dM_add_11 : decode M_M_add.2.1 11 = .ok (.getfield 7, 3) := by decide +kernel
theorem dM_add_14 : decode M_M_add.2.1 14 = .ok (.aload_n 0, 1) := by decide +kernel
theorem dM_add_15 : decode M_M_add.2.1 15 = .ok (.getfield 54, 3) := by decide +kernel
theorem dM_add_18 : decode M_M_add.2.1 18 = .ok (.iload_n 1, 1) := by decide +kernel
theorem dM_add_19 : decode M_M_add.2.1 19 = .ok (.iastore, 1) := by decide +kernel
theorem dM_add_20 : decode M_M_add.2.1 20 = .ok (.aload_n 0, 1) := by decide +kernel
theorem dM_add_21 : decode M_M_add.2.1 21 = .ok (.getfield 13, 3) := by decide +kernel
theorem dM_add_24 : decode M_M_add.2.1 24 = .ok (.aload_n 0, 1) := by decide +kernel
theorem dM_add_25 : decode M_M_add.2.1 25 = .ok (.getfield 54, 3) := by decide +kernel
theorem dM_add_28 : decode M_M_add.2.1 28 = .ok (.iload_n 2, 1) := by decide +kernel
theorem dM_add_29 : decode M_M_add.2.1 29 = .ok (.iastore, 1) := by decide +kernel
theorem dM_add_30 : decode M_M_add.2.1 30 = .ok (.aload_n 0, 1) := by decide +kernel
theorem dM_add_31 : decode M_M_add.2.1 31 = .ok (.getfield 16, 3) := by decide +kernel
theorem dM_add_34 : decode M_M_add.2.1 34 = .ok (.aload_n 0, 1) := by decide +kernel
theorem dM_add_35 : decode M_M_add.2.1 35 = .ok (.getfield 54, 3) := by decide +kernel
theorem dM_add_38 : decode M_M_add.2.1 38 = .ok (.iload_n 3, 1) := by decide +kernel
theorem dM_add_39 : decode M_M_add.2.1 39 = .ok (.iastore, 1) := by decide +kernel
theorem dM_add_40 : decode M_M_add.2.1 40 = .ok (.aload_n 0, 1) := by decide +kernel
theorem dM_add_41 : decode M_M_add.2.1 41 = .ok (.getfield 19, 3) := by decide +kernel
theorem dM_add_44 : decode M_M_add.2.1 44 = .ok (.aload_n 0, 1) := by decide +kernel
theorem dM_add_45 : decode M_M_add.2.1 45 = .ok (.getfield 54, 3) := by decide +kernel
theorem dM_add_48 : decode M_M_add.2.1 48 = .ok (.iload 4, 2) := by decide +kernel
theorem dM_add_50 : decode M_M_add.2.1 50 = .ok (.iastore, 1) := by decide +kernel
theorem dM_add_51 : decode M_M_add.2.1 51 = .ok (.aload_n 0, 1) := by decide +kernel
theorem dM_add_52 : decode M_M_add.2.1 52 = .ok (.getfield 22, 3) := by decide +kernel
theorem dM_add_55 : decode M_M_add.2.1 55 = .ok (.aload_n 0, 1) := by decide +kernel
theorem dM_add_56 : decode M_M_add.2.1 56 = .ok (.getfield 54, 3) := by decide +kernel
theorem dM_add_59 : decode M_M_add.2.1 59 = .ok (.iload 5, 2) := by decide +kernel
theorem dM_add_61 : decode M_M_add.2.1 61 = .ok (.bastore, 1) := by decide +kernel
theorem dM_add_62 : decode M_M_add.2.1 62 = .ok (.iconst 0, 1) := by decide +kernel
theorem dM_add_63 : decode M_M_add.2.1 63 = .ok (.istore 6, 2) := by decide +kernel
theorem dM_add_65 : decode M_M_add.2.1 65 = .ok (.iload 6, 2) := by decide +kernel
theorem dM_add_67 : decode M_M_add.2.1 67 = .ok (.bipush 12, 2) := by decide +kernel
theorem dM_add_69 : decode M_M_add.2.1 69 = .ok (.if_icmp .ge 26, 3) := by decide +kernel
theorem dM_add_72 : decode M_M_add.2.1 72 = .ok (.aload_n 0, 1) := by decide +kernel
theorem dM_add_73 : decode M_M_add.2.1 73 = .ok (.getfield 26, 3) := by decide +kernel
theorem dM_add_76 : decode M_M_add.2.1 76 = .ok (.sipush 200, 3) := by decide +kernel
theorem dM_add_79 : decode M_M_add.2.1 79 = .ok (.iload 6, 2) := by decide +kernel
theorem dM_add_81 : decode M_M_add.2.1 81 = .ok (.imul, 1) := by decide +kernel
theorem dM_add_82 : decode M_M_add.2.1 82 = .ok (.aload_n 0, 1) := by decide +kernel
theorem dM_add_83 : decode M_M_add.2.1 83 = .ok (.getfield 54, 3) := by decide +kernel
theorem dM_add_86 : decode M_M_add.2.1 86 = .ok (.iadd, 1) := by decide +kernel
theorem dM_add_87 : decode M_M_add.2.1 87 = .ok (.iconst 0, 1) := by decide +kernel
theorem dM_add_88 : decode M_M_add.2.1 88 = .ok (.bastore, 1) := by decide +kernel
theorem dM_add_89 : decode M_M_add.2.1 89 = .ok (.iinc 6 1, 3) := by decide +kernel
theorem dM_add_92 : decode M_M_add.2.1 92 = .ok (.goto (-27), 3) := by decide +kernel
theorem dM_add_95 : decode M_M_add.2.1 95 = .ok (.aload_n 0, 1) := by decide +kernel
theorem dM_add_96 : decode M_M_add.2.1 96 = .ok (.getfield 54, 3) := by decide +kernel
theorem dM_add_99 : decode M_M_add.2.1 99 = .ok (.ireturn, 1) := by decide +kernel
theorem dM_finish_0 : decode M_M_finish.2.1 0 = .ok (.aload_n 0, 1) := by decide +kernel
theorem dM_finish_1 : decode M_M_finish.2.1 1 = .ok (.getfield 38, 3) := by decide +kernel
theorem dM_finish_4 : decode M_M_finish.2.1 4 = .ok (.iload_n 1, 1) := by decide +kernel
theorem dM_finish_5 : decode M_M_finish.2.1 5 = .ok (.iconst 0, 1) := by decide +kernel
theorem dM_finish_6 : decode M_M_finish.2.1 6 = .ok (.bastore, 1) := by decide +kernel
theorem dM_finish_7 : decode M_M_finish.2.1 7 = .ok (.iconst 0, 1) := by decide +kernel
theorem dM_finish_8 : decode M_M_finish.2.1 8 = .ok (.istore_n 3, 1) := by decide +kernel
theorem dM_finish_9 : decode M_M_finish.2.1 9 = .ok (.iload_n 3, 1) := by decide +kernel
theorem dM_finish_10 : decode M_M_finish.2.1 10 = .ok (.bipush 32, 2) := by decide +kernel
theorem dM_finish_12 : decode M_M_finish.2.1 12 = .ok (.if_icmp .ge 35, 3) := by decide +kernel
theorem dM_finish_15 : decode M_M_finish.2.1 15 = .ok (.aload_n 0, 1) := by decide +kernel
theorem dM_finish_16 : decode M_M_finish.2.1 16 = .ok (.getfield 41, 3) := by decide +kernel
theorem dM_finish_19 : decode M_M_finish.2.1 19 = .ok (.iload_n 3, 1) := by decide +kernel
theorem dM_finish_20 : decode M_M_finish.2.1 20 = .ok (.aload_n 0, 1) := by decide +kernel
theorem dM_finish_21 : decode M_M_finish.2.1 21 = .ok (.getfield 41, 3) := by decide +kernel
theorem dM_finish_24 : decode M_M_finish.2.1 24 = .ok (.iload_n 3, 1) := by decide +kernel
theorem dM_finish_25 : decode M_M_finish.2.1 25 = .ok (.iaload, 1) := by decide +kernel
theorem dM_finish_26 : decode M_M_finish.2.1 26 = .ok (.iload_n 1, 1) := by decide +kernel
theorem dM_finish_27 : decode M_M_finish.2.1 27 = .ok (.if_icmp .ne 7, 3) := by decide +kernel
theorem dM_finish_30 : decode M_M_finish.2.1 30 = .ok (.iconst 0, 1) := by decide +kernel
theorem dM_finish_31 : decode M_M_finish.2.1 31 = .ok (.goto 9, 3) := by decide +kernel
theorem dM_finish_34 : decode M_M_finish.2.1 34 = .ok (.aload_n 0, 1) := by decide +kernel
theorem dM_finish_35 : decode M_M_finish.2.1 35 = .ok (.getfield 41, 3) := by decide +kernel
theorem dM_finish_38 : decode M_M_finish.2.1 38 = .ok (.iload_n 3, 1) := by decide +kernel
theorem dM_finish_39 : decode M_M_finish.2.1 39 = .ok (.iaload, 1) := by decide +kernel
theorem dM_finish_40 : decode M_M_finish.2.1 40 = .ok (.iastore, 1) := by decide +kernel
theorem dM_finish_41 : decode M_M_finish.2.1 41 = .ok (.iinc 3 1, 3) := by decide +kernel
theorem dM_finish_44 : decode M_M_finish.2.1 44 = .ok (.goto (-35), 3) := by decide +kernel
theorem dM_finish_47 : decode M_M_finish.2.1 47 = .ok (.aload_n 0, 1) := by decide +kernel
theorem dM_finish_48 : decode M_M_finish.2.1 48 = .ok (.iload_n 1, 1) := by decide +kernel
theorem dM_finish_49 : decode M_M_finish.2.1 49 = .ok (.iconst 0, 1) := by decide +kernel
theorem dM_finish_50 : decode M_M_finish.2.1 50 = .ok (.iconst 0, 1) := by decide +kernel
theorem dM_finish_51 : decode M_M_finish.2.1 51 = .ok (.iload_n 2, 1) := by decide +kernel
theorem dM_finish_52 : decode M_M_finish.2.1 52 = .ok (.iconst 1, 1) := by decide +kernel
theorem dM_finish_53 : decode M_M_finish.2.1 53 = .ok (.invokevirtual 61, 3) := by decide +kernel
theorem dM_finish_56 : decode M_M_finish.2.1 56 = .ok (.ireturn, 1) := by decide +kernel
theorem dM_firstChange_0 : decode M_M_firstChange.2.1 0 = .ok (.iconst 1, 1) := by decide +kernel
theorem dM_firstChange_1 : decode M_M_firstChange.2.1 1 = .ok (.istore_n 3, 1) := by decide +kernel
theorem dM_firstChange_2 : decode M_M_firstChange.2.1 2 = .ok (.iload_n 3, 1) := by decide +kernel
theorem dM_firstChange_3 : decode M_M_firstChange.2.1 3 = .ok (.aload_n 0, 1) := by decide +kernel
theorem dM_firstChange_4 : decode M_M_firstChange.2.1 4 = .ok (.getfield 54, 3) := by decide +kernel
theorem dM_firstChange_7 : decode M_M_firstChange.2.1 7 = .ok (.if_icmp .gt 40, 3) := by decide +kernel
theorem dM_firstChange_10 : decode M_M_firstChange.2.1 10 = .ok (.aload_n 0, 1) := by decide +kernel
theorem dM_firstChange_11 : decode M_M_firstChange.2.1 11 = .ok (.getfield 7, 3) := by decide +kernel
theorem dM_firstChange_14 : decode M_M_firstChange.2.1 14 = .ok (.iload_n 3, 1) := by decide +kernel
theorem dM_firstChange_15 : decode M_M_firstChange.2.1 15 = .ok (.iaload, 1) := by decide +kernel
theorem dM_firstChange_16 : decode M_M_firstChange.2.1 16 = .ok (.iload_n 1, 1) := by decide +kernel
theorem dM_firstChange_17 : decode M_M_firstChange.2.1 17 = .ok (.if_icmp .ne 24, 3) := by decide +kernel
theorem dM_firstChange_20 : decode M_M_firstChange.2.1 20 = .ok (.aload_n 0, 1) := by decide +kernel
theorem dM_firstChange_21 : decode M_M_firstChange.2.1 21 = .ok (.getfield 19, 3) := by decide +kernel
theorem dM_firstChange_24 : decode M_M_firstChange.2.1 24 = .ok (.iload_n 3, 1) := by decide +kernel
theorem dM_firstChange_25 : decode M_M_firstChange.2.1 25 = .ok (.iaload, 1) := by decide +kernel
theorem dM_firstChange_26 : decode M_M_firstChange.2.1 26 = .ok (.ifCond .ne 15, 3) := by decide +kernel
theorem dM_firstChange_29 : decode M_M_firstChange.2.1 29 = .ok (.aload_n 0, 1) := by decide +kernel
theorem dM_firstChange_30 : decode M_M_firstChange.2.1 30 = .ok (.getfield 13, 3) := by decide +kernel
theorem dM_firstChange_33 : decode M_M_firstChange.2.1 33 = .ok (.iload_n 3, 1) := by decide +kernel
theorem dM_firstChange_34 : decode M_M_firstChange.2.1 34 = .ok (.iaload, 1) := by decide +kernel
theorem dM_firstChange_35 : decode M_M_firstChange.2.1 35 = .ok (.iload_n 2, 1) := by decide +kernel
theorem dM_firstChange_36 : decode M_M_firstChange.2.1 36 = .ok (.if_icmp .ne 5, 3) := by decide +kernel
theorem dM_firstChange_39 : decode M_M_firstChange.2.1 39 = .ok (.iload_n 3, 1) := by decide +kernel
theorem dM_firstChange_40 : decode M_M_firstChange.2.1 40 = .ok (.ireturn, 1) := by decide +kernel
theorem dM_firstChange_41 : decode M_M_firstChange.2.1 41 = .ok (.iinc 3 1, 3) := by decide +kernel
theorem dM_firstChange_44 : decode M_M_firstChange.2.1 44 = .ok (.goto (-42), 3) := by decide +kernel
theorem dM_firstChange_47 : decode M_M_firstChange.2.1 47 = .ok (.iconst 0, 1) := by decide +kernel
theorem dM_firstChange_48 : decode M_M_firstChange.2.1 48 = .ok (.ireturn, 1) := by decide +kernel
theorem dM_rollBack_0 : decode M_M_rollBack.2.1 0 = .ok (.aload_n 0, 1) := by decide +kernel
theorem dM_rollBack_1 : decode M_M_rollBack.2.1 1 = .ok (.getfield 54, 3) := by decide +kernel
theorem dM_rollBack_4 : decode M_M_rollBack.2.1 4 = .ok (.istore_n 2, 1) := by decide +kernel
theorem dM_rollBack_5 : decode M_M_rollBack.2.1 5 = .ok (.iconst 0, 1) := by decide +kernel
theorem dM_rollBack_6 : decode M_M_rollBack.2.1 6 = .ok (.istore_n 3, 1) := by decide +kernel
theorem dM_rollBack_7 : decode M_M_rollBack.2.1 7 = .ok (.iload_n 3, 1) := by decide +kernel
theorem dM_rollBack_8 : decode M_M_rollBack.2.1 8 = .ok (.bipush 32, 2) := by decide +kernel
theorem dM_rollBack_10 : decode M_M_rollBack.2.1 10 = .ok (.if_icmp .ge 50, 3) := by decide +kernel
theorem dM_rollBack_13 : decode M_M_rollBack.2.1 13 = .ok (.aload_n 0, 1) := by decide +kernel
theorem dM_rollBack_14 : decode M_M_rollBack.2.1 14 = .ok (.iload_n 1, 1) := by decide +kernel
theorem dM_rollBack_15 : decode M_M_rollBack.2.1 15 = .ok (.iload_n 3, 1) := by decide +kernel
theorem dM_rollBack_16 : decode M_M_rollBack.2.1 16 = .ok (.invokevirtual 65, 3) := by decide +kernel
theorem dM_rollBack_19 : decode M_M_rollBack.2.1 19 = .ok (.istore 4, 2) := by decide +kernel
theorem dM_rollBack_21 : decode M_M_rollBack.2.1 21 = .ok (.iload 4, 2) := by decide +kernel
theorem dM_rollBack_23 : decode M_M_rollBack.2.1 23 = .ok (.ifCond .le 31, 3) := by decide +kernel
theorem dM_rollBack_26 : decode M_M_rollBack.2.1 26 = .ok (.iload 4, 2) := by decide +kernel
theorem dM_rollBack_28 : decode M_M_rollBack.2.1 28 = .ok (.iload_n 2, 1) := by decide +kernel
theorem dM_rollBack_29 : decode M_M_rollBack.2.1 29 = .ok (.if_icmp .gt 25, 3) := by decide +kernel
theorem dM_rollBack_32 : decode M_M_rollBack.2.1 32 = .ok (.aload_n 0, 1) := by decide +kernel
theorem dM_rollBack_33 : decode M_M_rollBack.2.1 33 = .ok (.iload_n 3, 1) := by decide +kernel
theorem dM_rollBack_34 : decode M_M_rollBack.2.1 34 = .ok (.iload 4, 2) := by decide +kernel
theorem dM_rollBack_36 : decode M_M_rollBack.2.1 36 = .ok (.iconst 1, 1) := by decide +kernel
theorem dM_rollBack_37 : decode M_M_rollBack.2.1 37 = .ok (.isub, 1) := by decide +kernel
theorem dM_rollBack_38 : decode M_M_rollBack.2.1 38 = .ok (.invokevirtual 68, 3) := by decide +kernel
theorem dM_rollBack_41 : decode M_M_rollBack.2.1 41 = .ok (.istore 5, 2) := by decide +kernel
theorem dM_rollBack_43 : decode M_M_rollBack.2.1 43 = .ok (.aload_n 0, 1) := by decide +kernel
theorem dM_rollBack_44 : decode M_M_rollBack.2.1 44 = .ok (.iload_n 1, 1) := by decide +kernel
theorem dM_rollBack_45 : decode M_M_rollBack.2.1 45 = .ok (.iload_n 3, 1) := by decide +kernel
theorem dM_rollBack_46 : decode M_M_rollBack.2.1 46 = .ok (.iload 5, 2) := by decide +kernel
theorem dM_rollBack_48 : decode M_M_rollBack.2.1 48 = .ok (.iconst 0, 1) := by decide +kernel
theorem dM_rollBack_49 : decode M_M_rollBack.2.1 49 = .ok (.iconst 0, 1) := by decide +kernel
theorem dM_rollBack_50 : decode M_M_rollBack.2.1 50 = .ok (.invokevirtual 61, 3) := by decide +kernel
theorem dM_rollBack_53 : decode M_M_rollBack.2.1 53 = .ok (.pop, 1) := by decide +kernel
theorem dM_rollBack_54 : decode M_M_rollBack.2.1 54 = .ok (.iinc 3 1, 3) := by decide +kernel
theorem dM_rollBack_57 : decode M_M_rollBack.2.1 57 = .ok (.goto (-50), 3) := by decide +kernel
theorem dM_rollBack_60 : decode M_M_rollBack.2.1 60 = .ok (.aload_n 0, 1) := by decide +kernel
theorem dM_rollBack_61 : decode M_M_rollBack.2.1 61 = .ok (.iload_n 1, 1) := by decide +kernel
theorem dM_rollBack_62 : decode M_M_rollBack.2.1 62 = .ok (.iconst 2, 1) := by decide +kernel
theorem dM_rollBack_63 : decode M_M_rollBack.2.1 63 = .ok (.invokevirtual 71, 3) := by decide +kernel
theorem dM_rollBack_66 : decode M_M_rollBack.2.1 66 = .ok (.ireturn, 1) := by decide +kernel
theorem dM_endOf_0 : decode M_M_endOf.2.1 0 = .ok (.iconst 1, 1) := by decide +kernel
theorem dM_endOf_1 : decode M_M_endOf.2.1 1 = .ok (.istore_n 3, 1) := by decide +kernel
theorem dM_endOf_2 : decode M_M_endOf.2.1 2 = .ok (.iload_n 3, 1) := by decide +kernel
theorem dM_endOf_3 : decode M_M_endOf.2.1 3 = .ok (.iload_n 2, 1) := by decide +kernel
theorem dM_endOf_4 : decode M_M_endOf.2.1 4 = .ok (.if_icmp .gt 38, 3) := by decide +kernel
theorem dM_endOf_7 : decode M_M_endOf.2.1 7 = .ok (.iload_n 3, 1) := by decide +kernel
theorem dM_endOf_8 : decode M_M_endOf.2.1 8 = .ok (.aload_n 0, 1) := by decide +kernel
theorem dM_endOf_9 : decode M_M_endOf.2.1 9 = .ok (.getfield 54, 3) := by decide +kernel
theorem dM_endOf_12 : decode M_M_endOf.2.1 12 = .ok (.if_icmp .gt 30, 3) := by decide +kernel
theorem dM_endOf_15 : decode M_M_endOf.2.1 15 = .ok (.aload_n 0, 1) := by decide +kernel
theorem dM_endOf_16 : decode M_M_endOf.2.1 16 = .ok (.getfield 7, 3) := by decide +kernel
theorem dM_endOf_19 : decode M_M_endOf.2.1 19 = .ok (.iload_n 3, 1) := by decide +kernel
theorem dM_endOf_20 : decode M_M_endOf.2.1 20 = .ok (.iaload, 1) := by decide +kernel
theorem dM_endOf_21 : decode M_M_endOf.2.1 21 = .ok (.iload_n 1, 1) := by decide +kernel
theorem dM_endOf_22 : decode M_M_endOf.2.1 22 = .ok (.if_icmp .ne 14, 3) := by decide +kernel
theorem dM_endOf_25 : decode M_M_endOf.2.1 25 = .ok (.aload_n 0, 1) := by decide +kernel
theorem dM_endOf_26 : decode M_M_endOf.2.1 26 = .ok (.getfield 19, 3) := by decide +kernel
theorem dM_endOf_29 : decode M_M_endOf.2.1 29 = .ok (.iload_n 3, 1) := by decide +kernel
theorem dM_endOf_30 : decode M_M_endOf.2.1 30 = .ok (.iaload, 1) := by decide +kernel
theorem dM_endOf_31 : decode M_M_endOf.2.1 31 = .ok (.ifCond .le 5, 3) := by decide +kernel
theorem dM_endOf_34 : decode M_M_endOf.2.1 34 = .ok (.iload_n 3, 1) := by decide +kernel
theorem dM_endOf_35 : decode M_M_endOf.2.1 35 = .ok (.ireturn, 1) := by decide +kernel
theorem dM_endOf_36 : decode M_M_endOf.2.1 36 = .ok (.iinc 3 1, 3) := by decide +kernel
theorem dM_endOf_39 : decode M_M_endOf.2.1 39 = .ok (.goto (-37), 3) := by decide +kernel
theorem dM_endOf_42 : decode M_M_endOf.2.1 42 = .ok (.iconst 0, 1) := by decide +kernel
theorem dM_endOf_43 : decode M_M_endOf.2.1 43 = .ok (.ireturn, 1) := by decide +kernel
theorem dM_pointOf_0 : decode M_M_pointOf.2.1 0 = .ok (.iconst 0, 1) := by decide +kernel
theorem dM_pointOf_1 : decode M_M_pointOf.2.1 1 = .ok (.istore_n 2, 1) := by decide +kernel
theorem dM_pointOf_2 : decode M_M_pointOf.2.1 2 = .ok (.iconst 1, 1) := by decide +kernel
theorem dM_pointOf_3 : decode M_M_pointOf.2.1 3 = .ok (.istore_n 3, 1) := by decide +kernel
theorem dM_pointOf_4 : decode M_M_pointOf.2.1 4 = .ok (.iconst 1, 1) := by decide +kernel
theorem dM_pointOf_5 : decode M_M_pointOf.2.1 5 = .ok (.istore 4, 2) := by decide +kernel
theorem dM_pointOf_7 : decode M_M_pointOf.2.1 7 = .ok (.iload 4, 2) := by decide +kernel
theorem dM_pointOf_9 : decode M_M_pointOf.2.1 9 = .ok (.aload_n 0, 1) := by decide +kernel
theorem dM_pointOf_10 : decode M_M_pointOf.2.1 10 = .ok (.getfield 54, 3) := by decide +kernel
theorem dM_pointOf_13 : decode M_M_pointOf.2.1 13 = .ok (.if_icmp .gt 51, 3) := by decide +kernel
theorem dM_pointOf_16 : decode M_M_pointOf.2.1 16 = .ok (.iload_n 3, 1) := by decide +kernel
theorem dM_pointOf_17 : decode M_M_pointOf.2.1 17 = .ok (.ifCond .eq 47, 3) := by decide +kernel
theorem dM_pointOf_20 : decode M_M_pointOf.2.1 20 = .ok (.aload_n 0, 1) := by decide +kernel
theorem dM_pointOf_21 : decode M_M_pointOf.2.1 21 = .ok (.iload 4, 2) := by decide +kernel
theorem dM_pointOf_23 : decode M_M_pointOf.2.1 23 = .ok (.invokevirtual 74, 3) := by decide +kernel
theorem dM_pointOf_26 : decode M_M_pointOf.2.1 26 = .ok (.iload_n 1, 1) := by decide +kernel
theorem dM_pointOf_27 : decode M_M_pointOf.2.1 27 = .ok (.bipush 6, 2) := by decide +kernel
theorem dM_pointOf_29 : decode M_M_pointOf.2.1 29 = .ok (.idiv, 1) := by decide +kernel
theorem dM_pointOf_30 : decode M_M_pointOf.2.1 30 = .ok (.if_icmp .ne 28, 3) := by decide +kernel
theorem dM_pointOf_33 : decode M_M_pointOf.2.1 33 = .ok (.aload_n 0, 1) := by decide +kernel
theorem dM_pointOf_34 : decode M_M_pointOf.2.1 34 = .ok (.getfield 26, 3) := by decide +kernel
theorem dM_pointOf_37 : decode M_M_pointOf.2.1 37 = .ok (.sipush 200, 3) := by decide +kernel
theorem dM_pointOf_40 : decode M_M_pointOf.2.1 40 = .ok (.iload_n 1, 1) := by decide +kernel
theorem dM_pointOf_41 : decode M_M_pointOf.2.1 41 = .ok (.imul, 1) := by decide +kernel
theorem dM_pointOf_42 : decode M_M_pointOf.2.1 42 = .ok (.iload 4, 2) := by decide +kernel
theorem dM_pointOf_44 : decode M_M_pointOf.2.1 44 = .ok (.iadd, 1) := by decide +kernel
theorem dM_pointOf_45 : decode M_M_pointOf.2.1 45 = .ok (.baload, 1) := by decide +kernel
theorem dM_pointOf_46 : decode M_M_pointOf.2.1 46 = .ok (.istore_n 3, 1) := by decide +kernel
theorem dM_pointOf_47 : decode M_M_pointOf.2.1 47 = .ok (.iload_n 3, 1) := by decide +kernel
theorem dM_pointOf_48 : decode M_M_pointOf.2.1 48 = .ok (.ifCond .eq 8, 3) := by decide +kernel
theorem dM_pointOf_51 : decode M_M_pointOf.2.1 51 = .ok (.iload 4, 2) := by decide +kernel
theorem dM_pointOf_53 : decode M_M_pointOf.2.1 53 = .ok (.goto 4, 3) := by decide +kernel
theorem dM_pointOf_56 : decode M_M_pointOf.2.1 56 = .ok (.iload_n 2, 1) := by decide +kernel
theorem dM_pointOf_57 : decode M_M_pointOf.2.1 57 = .ok (.istore_n 2, 1) := by decide +kernel
theorem dM_pointOf_58 : decode M_M_pointOf.2.1 58 = .ok (.iinc 4 1, 3) := by decide +kernel
theorem dM_pointOf_61 : decode M_M_pointOf.2.1 61 = .ok (.goto (-54), 3) := by decide +kernel
theorem dM_pointOf_64 : decode M_M_pointOf.2.1 64 = .ok (.iload_n 2, 1) := by decide +kernel
theorem dM_pointOf_65 : decode M_M_pointOf.2.1 65 = .ok (.ireturn, 1) := by decide +kernel
theorem dM_groupPoint_0 : decode M_M_groupPoint.2.1 0 = .ok (.iconst 0, 1) := by decide +kernel
theorem dM_groupPoint_1 : decode M_M_groupPoint.2.1 1 = .ok (.istore_n 2, 1) := by decide +kernel
theorem dM_groupPoint_2 : decode M_M_groupPoint.2.1 2 = .ok (.bipush 6, 2) := by decide +kernel
theorem dM_groupPoint_4 : decode M_M_groupPoint.2.1 4 = .ok (.iload_n 1, 1) := by decide +kernel
theorem dM_groupPoint_5 : decode M_M_groupPoint.2.1 5 = .ok (.imul, 1) := by decide +kernel
theorem dM_groupPoint_6 : decode M_M_groupPoint.2.1 6 = .ok (.istore_n 3, 1) := by decide +kernel
theorem dM_groupPoint_7 : decode M_M_groupPoint.2.1 7 = .ok (.iload_n 3, 1) := by decide +kernel
theorem dM_groupPoint_8 : decode M_M_groupPoint.2.1 8 = .ok (.bipush 6, 2) := by decide +kernel
theorem dM_groupPoint_10 : decode M_M_groupPoint.2.1 10 = .ok (.iload_n 1, 1) := by decide +kernel
theorem dM_groupPoint_11 : decode M_M_groupPoint.2.1 11 = .ok (.imul, 1) := by decide +kernel
theorem dM_groupPoint_12 : decode M_M_groupPoint.2.1 12 = .ok (.bipush 6, 2) := by decide +kernel
theorem dM_groupPoint_14 : decode M_M_groupPoint.2.1 14 = .ok (.iadd, 1) := by decide +kernel
theorem dM_groupPoint_15 : decode M_M_groupPoint.2.1 15 = .ok (.if_icmp .ge 89, 3) := by decide +kernel
theorem dM_groupPoint_18 : decode M_M_groupPoint.2.1 18 = .ok (.iconst 0, 1) := by decide +kernel
theorem dM_groupPoint_19 : decode M_M_groupPoint.2.1 19 = .ok (.istore 4, 2) := by decide +kernel
theorem dM_groupPoint_21 : decode M_M_groupPoint.2.1 21 = .ok (.bipush 6, 2) := by decide +kernel
theorem dM_groupPoint_23 : decode M_M_groupPoint.2.1 23 = .ok (.iload_n 1, 1) := by decide +kernel
theorem dM_groupPoint_24 : decode M_M_groupPoint.2.1 24 = .ok (.imul, 1) := by decide +kernel
theorem dM_groupPoint_25 : decode M_M_groupPoint.2.1 25 = .ok (.istore 5, 2) := by decide +kernel
theorem dM_groupPoint_27 : decode M_M_groupPoint.2.1 27 = .ok (.iload 5, 2) := by decide +kernel
theorem dM_groupPoint_29 : decode M_M_groupPoint.2.1 29 = .ok (.bipush 6, 2) := by decide +kernel
theorem dM_groupPoint_31 : decode M_M_groupPoint.2.1 31 = .ok (.iload_n 1, 1) := by decide +kernel
theorem dM_groupPoint_32 : decode M_M_groupPoint.2.1 32 = .ok (.imul, 1) := by decide +kernel
theorem dM_groupPoint_33 : decode M_M_groupPoint.2.1 33 = .ok (.bipush 6, 2) := by decide +kernel
theorem dM_groupPoint_35 : decode M_M_groupPoint.2.1 35 = .ok (.iadd, 1) := by decide +kernel
theorem dM_groupPoint_36 : decode M_M_groupPoint.2.1 36 = .ok (.if_icmp .ge 35, 3) := by decide +kernel
theorem dM_groupPoint_39 : decode M_M_groupPoint.2.1 39 = .ok (.iload 4, 2) := by decide +kernel
theorem dM_groupPoint_41 : decode M_M_groupPoint.2.1 41 = .ok (.aload_n 0, 1) := by decide +kernel
theorem dM_groupPoint_42 : decode M_M_groupPoint.2.1 42 = .ok (.getfield 35, 3) := by decide +kernel
theorem dM_groupPoint_45 : decode M_M_groupPoint.2.1 45 = .ok (.iload 5, 2) := by decide +kernel
theorem dM_groupPoint_47 : decode M_M_groupPoint.2.1 47 = .ok (.iaload, 1) := by decide +kernel
theorem dM_groupPoint_48 : decode M_M_groupPoint.2.1 48 = .ok (.aload_n 0, 1) := by decide +kernel
theorem dM_groupPoint_49 : decode M_M_groupPoint.2.1 49 = .ok (.getfield 35, 3) := by decide +kernel
theorem dM_groupPoint_52 : decode M_M_groupPoint.2.1 52 = .ok (.iload_n 3, 1) := by decide +kernel
theorem dM_groupPoint_53 : decode M_M_groupPoint.2.1 53 = .ok (.iaload, 1) := by decide +kernel
theorem dM_groupPoint_54 : decode M_M_groupPoint.2.1 54 = .ok (.if_icmp .lt 7, 3) := by decide +kernel
theorem dM_groupPoint_57 : decode M_M_groupPoint.2.1 57 = .ok (.iconst 1, 1) := by decide +kernel
theorem dM_groupPoint_58 : decode M_M_groupPoint.2.1 58 = .ok (.goto 4, 3) := by decide +kernel
theorem dM_groupPoint_61 : decode M_M_groupPoint.2.1 61 = .ok (.iconst 0, 1) := by decide +kernel
theorem dM_groupPoint_62 : decode M_M_groupPoint.2.1 62 = .ok (.iadd, 1) := by decide +kernel
theorem dM_groupPoint_63 : decode M_M_groupPoint.2.1 63 = .ok (.istore 4, 2) := by decide +kernel
theorem dM_groupPoint_65 : decode M_M_groupPoint.2.1 65 = .ok (.iinc 5 1, 3) := by decide +kernel
theorem dM_groupPoint_68 : decode M_M_groupPoint.2.1 68 = .ok (.goto (-41), 3) := by decide +kernel
theorem dM_groupPoint_71 : decode M_M_groupPoint.2.1 71 = .ok (.iload 4, 2) := by decide +kernel
theorem dM_groupPoint_73 : decode M_M_groupPoint.2.1 73 = .ok (.iconst 4, 1) := by decide +kernel
theorem dM_groupPoint_74 : decode M_M_groupPoint.2.1 74 = .ok (.if_icmp .lt 22, 3) := by decide +kernel
theorem dM_groupPoint_77 : decode M_M_groupPoint.2.1 77 = .ok (.aload_n 0, 1) := by decide +kernel
theorem dM_groupPoint_78 : decode M_M_groupPoint.2.1 78 = .ok (.getfield 35, 3) := by decide +kernel
theorem dM_groupPoint_81 : decode M_M_groupPoint.2.1 81 = .ok (.iload_n 3, 1) := by decide +kernel
theorem dM_groupPoint_82 : decode M_M_groupPoint.2.1 82 = .ok (.iaload, 1) := by decide +kernel
theorem dM_groupPoint_83 : decode M_M_groupPoint.2.1 83 = .ok (.iload_n 2, 1) := by decide +kernel
theorem dM_groupPoint_84 : decode M_M_groupPoint.2.1 84 = .ok (.if_icmp .le 12, 3) := by decide +kernel
theorem dM_groupPoint_87 : decode M_M_groupPoint.2.1 87 = .ok (.aload_n 0, 1) := by decide +kernel
theorem dM_groupPoint_88 : decode M_M_groupPoint.2.1 88 = .ok (.getfield 35, 3) := by decide +kernel
theorem dM_groupPoint_91 : decode M_M_groupPoint.2.1 91 = .ok (.iload_n 3, 1) := by decide +kernel
theorem dM_groupPoint_92 : decode M_M_groupPoint.2.1 92 = .ok (.iaload, 1) := by decide +kernel
theorem dM_groupPoint_93 : decode M_M_groupPoint.2.1 93 = .ok (.goto 4, 3) := by decide +kernel
theorem dM_groupPoint_96 : decode M_M_groupPoint.2.1 96 = .ok (.iload_n 2, 1) := by decide +kernel
theorem dM_groupPoint_97 : decode M_M_groupPoint.2.1 97 = .ok (.istore_n 2, 1) := by decide +kernel
theorem dM_groupPoint_98 : decode M_M_groupPoint.2.1 98 = .ok (.iinc 3 1, 3) := by decide +kernel
theorem dM_groupPoint_101 : decode M_M_groupPoint.2.1 101 = .ok (.goto (-94), 3) := by decide +kernel
theorem dM_groupPoint_104 : decode M_M_groupPoint.2.1 104 = .ok (.iload_n 2, 1) := by decide +kernel
theorem dM_groupPoint_105 : decode M_M_groupPoint.2.1 105 = .ok (.ireturn, 1) := by decide +kernel
theorem dM_complete_0 : decode M_M_complete.2.1 0 = .ok (.aload_n 0, 1) := by decide +kernel
theorem dM_complete_1 : decode M_M_complete.2.1 1 = .ok (.iconst 0, 1) := by decide +kernel
theorem dM_complete_2 : decode M_M_complete.2.1 2 = .ok (.invokevirtual 78, 3) := by decide +kernel
theorem dM_complete_5 : decode M_M_complete.2.1 5 = .ok (.istore_n 1, 1) := by decide +kernel
theorem dM_complete_6 : decode M_M_complete.2.1 6 = .ok (.aload_n 0, 1) := by decide +kernel
theorem dM_complete_7 : decode M_M_complete.2.1 7 = .ok (.iconst 1, 1) := by decide +kernel
theorem dM_complete_8 : decode M_M_complete.2.1 8 = .ok (.invokevirtual 78, 3) := by decide +kernel
theorem dM_complete_11 : decode M_M_complete.2.1 11 = .ok (.istore_n 2, 1) := by decide +kernel
theorem dM_complete_12 : decode M_M_complete.2.1 12 = .ok (.iconst 0, 1) := by decide +kernel
theorem dM_complete_13 : decode M_M_complete.2.1 13 = .ok (.istore_n 3, 1) := by decide +kernel
theorem dM_complete_14 : decode M_M_complete.2.1 14 = .ok (.iload_n 3, 1) := by decide +kernel
theorem dM_complete_15 : decode M_M_complete.2.1 15 = .ok (.aload_n 0, 1) := by decide +kernel
theorem dM_complete_16 : decode M_M_complete.2.1 16 = .ok (.getfield 54, 3) := by decide +kernel
theorem dM_complete_19 : decode M_M_complete.2.1 19 = .ok (.if_icmp .ge 30, 3) := by decide +kernel
theorem dM_complete_22 : decode M_M_complete.2.1 22 = .ok (.iload_n 3, 1) := by decide +kernel
theorem dM_complete_23 : decode M_M_complete.2.1 23 = .ok (.iconst 1, 1) := by decide +kernel
theorem dM_complete_24 : decode M_M_complete.2.1 24 = .ok (.iadd, 1) := by decide +kernel
theorem dM_complete_25 : decode M_M_complete.2.1 25 = .ok (.aload_n 0, 1) := by decide +kernel
theorem dM_complete_26 : decode M_M_complete.2.1 26 = .ok (.iload_n 3, 1) := by decide +kernel
theorem dM_complete_27 : decode M_M_complete.2.1 27 = .ok (.iconst 1, 1) := by decide +kernel
theorem dM_complete_28 : decode M_M_complete.2.1 28 = .ok (.iadd, 1) := by decide +kernel
theorem dM_complete_29 : decode M_M_complete.2.1 29 = .ok (.invokevirtual 74, 3) := by decide +kernel
theorem dM_complete_32 : decode M_M_complete.2.1 32 = .ok (.ifCond .ne 7, 3) := by decide +kernel
theorem dM_complete_35 : decode M_M_complete.2.1 35 = .ok (.iload_n 1, 1) := by decide +kernel
theorem dM_complete_36 : decode M_M_complete.2.1 36 = .ok (.goto 4, 3) := by decide +kernel
theorem dM_complete_39 : decode M_M_complete.2.1 39 = .ok (.iload_n 2, 1) := by decide +kernel
theorem dM_complete_40 : decode M_M_complete.2.1 40 = .ok (.if_icmp .gt 9, 3) := by decide +kernel
theorem dM_complete_43 : decode M_M_complete.2.1 43 = .ok (.iinc 3 1, 3) := by decide +kernel
theorem dM_complete_46 : decode M_M_complete.2.1 46 = .ok (.goto (-32), 3) := by decide +kernel
theorem dM_complete_49 : decode M_M_complete.2.1 49 = .ok (.iload_n 3, 1) := by decide +kernel
theorem dM_complete_50 : decode M_M_complete.2.1 50 = .ok (.ireturn, 1) := by decide +kernel
theorem dM_closeUpTo_0 : decode M_M_closeUpTo.2.1 0 = .ok (.iconst 0, 1) := by decide +kernel
theorem dM_closeUpTo_1 : decode M_M_closeUpTo.2.1 1 = .ok (.istore_n 2, 1) := by decide +kernel
theorem dM_closeUpTo_2 : decode M_M_closeUpTo.2.1 2 = .ok (.iconst 1, 1) := by decide +kernel
theorem dM_closeUpTo_3 : decode M_M_closeUpTo.2.1 3 = .ok (.istore_n 3, 1) := by decide +kernel
theorem dM_closeUpTo_4 : decode M_M_closeUpTo.2.1 4 = .ok (.iload_n 3, 1) := by decide +kernel
theorem dM_closeUpTo_5 : decode M_M_closeUpTo.2.1 5 = .ok (.iload_n 1, 1) := by decide +kernel
theorem dM_closeUpTo_6 : decode M_M_closeUpTo.2.1 6 = .ok (.if_icmp .gt 24, 3) := by decide +kernel
theorem dM_closeUpTo_9 : decode M_M_closeUpTo.2.1 9 = .ok (.aload_n 0, 1) := by decide +kernel
theorem dM_closeUpTo_10 : decode M_M_closeUpTo.2.1 10 = .ok (.getfield 22, 3) := by decide +kernel
theorem dM_closeUpTo_13 : decode M_M_closeUpTo.2.1 13 = .ok (.iload_n 3, 1) := by decide +kernel
theorem dM_closeUpTo_14 : decode M_M_closeUpTo.2.1 14 = .ok (.baload, 1) := by decide +kernel
theorem dM_closeUpTo_15 : decode M_M_closeUpTo.2.1 15 = .ok (.ifCond .eq 7, 3) := by decide +kernel
theorem dM_closeUpTo_18 : decode M_M_closeUpTo.2.1 18 = .ok (.iload_n 3, 1) := by decide +kernel
theorem dM_closeUpTo_19 : decode M_M_closeUpTo.2.1 19 = .ok (.goto 4, 3) := by decide +kernel
theorem dM_closeUpTo_22 : decode M_M_closeUpTo.2.1 22 = .ok (.iload_n 2, 1) := by decide +kernel
theorem dM_closeUpTo_23 : decode M_M_closeUpTo.2.1 23 = .ok (.istore_n 2, 1) := by decide +kernel
theorem dM_closeUpTo_24 : decode M_M_closeUpTo.2.1 24 = .ok (.iinc 3 1, 3) := by decide +kernel
theorem dM_closeUpTo_27 : decode M_M_closeUpTo.2.1 27 = .ok (.goto (-23), 3) := by decide +kernel
theorem dM_closeUpTo_30 : decode M_M_closeUpTo.2.1 30 = .ok (.iload_n 2, 1) := by decide +kernel
theorem dM_closeUpTo_31 : decode M_M_closeUpTo.2.1 31 = .ok (.ireturn, 1) := by decide +kernel
theorem dM_reportPoint_0 : decode M_M_reportPoint.2.1 0 = .ok (.aload_n 0, 1) := by decide +kernel
theorem dM_reportPoint_1 : decode M_M_reportPoint.2.1 1 = .ok (.getfield 35, 3) := by decide +kernel
theorem dM_reportPoint_4 : decode M_M_reportPoint.2.1 4 = .ok (.iload_n 1, 1) := by decide +kernel
theorem dM_reportPoint_5 : decode M_M_reportPoint.2.1 5 = .ok (.aload_n 0, 1) := by decide +kernel
theorem dM_reportPoint_6 : decode M_M_reportPoint.2.1 6 = .ok (.iload_n 1, 1) := by decide +kernel
theorem dM_reportPoint_7 : decode M_M_reportPoint.2.1 7 = .ok (.invokevirtual 81, 3) := by decide +kernel
theorem dM_reportPoint_10 : decode M_M_reportPoint.2.1 10 = .ok (.iastore, 1) := by decide +kernel
theorem dM_reportPoint_11 : decode M_M_reportPoint.2.1 11 = .ok (.aload_n 0, 1) := by decide +kernel
theorem dM_reportPoint_12 : decode M_M_reportPoint.2.1 12 = .ok (.invokevirtual 84, 3) := by decide +kernel
theorem dM_reportPoint_15 : decode M_M_reportPoint.2.1 15 = .ok (.return_, 1) := by decide +kernel
theorem dM_advance_0 : decode M_M_advance.2.1 0 = .ok (.aload_n 0, 1) := by decide +kernel
theorem dM_advance_1 : decode M_M_advance.2.1 1 = .ok (.aload_n 0, 1) := by decide +kernel
theorem dM_advance_2 : decode M_M_advance.2.1 2 = .ok (.invokevirtual 87, 3) := by decide +kernel
theorem dM_advance_5 : decode M_M_advance.2.1 5 = .ok (.invokevirtual 91, 3) := by decide +kernel
theorem dM_advance_8 : decode M_M_advance.2.1 8 = .ok (.istore_n 1, 1) := by decide +kernel
theorem dM_advance_9 : decode M_M_advance.2.1 9 = .ok (.aload_n 0, 1) := by decide +kernel
theorem dM_advance_10 : decode M_M_advance.2.1 10 = .ok (.iload_n 1, 1) := by decide +kernel
theorem dM_advance_11 : decode M_M_advance.2.1 11 = .ok (.aload_n 0, 1) := by decide +kernel
theorem dM_advance_12 : decode M_M_advance.2.1 12 = .ok (.getfield 94, 3) := by decide +kernel
theorem dM_advance_15 : decode M_M_advance.2.1 15 = .ok (.if_icmp .le 7, 3) := by decide +kernel
theorem dM_advance_18 : decode M_M_advance.2.1 18 = .ok (.iload_n 1, 1) := by decide +kernel
theorem dM_advance_19 : decode M_M_advance.2.1 19 = .ok (.goto 7, 3) := by decide +kernel
theorem dM_advance_22 : decode M_M_advance.2.1 22 = .ok (.aload_n 0, 1) := by decide +kernel
theorem dM_advance_23 : decode M_M_advance.2.1 23 = .ok (.getfield 94, 3) := by decide +kernel
theorem dM_advance_26 : decode M_M_advance.2.1 26 = .ok (.putfield 94, 3) := by decide +kernel
theorem dM_advance_29 : decode M_M_advance.2.1 29 = .ok (.return_, 1) := by decide +kernel
theorem dM_served_0 : decode M_M_served.2.1 0 = .ok (.bipush 6, 2) := by decide +kernel
theorem dM_served_2 : decode M_M_served.2.1 2 = .ok (.iload_n 1, 1) := by decide +kernel
theorem dM_served_3 : decode M_M_served.2.1 3 = .ok (.imul, 1) := by decide +kernel
theorem dM_served_4 : decode M_M_served.2.1 4 = .ok (.istore_n 3, 1) := by decide +kernel
theorem dM_served_5 : decode M_M_served.2.1 5 = .ok (.iload_n 3, 1) := by decide +kernel
theorem dM_served_6 : decode M_M_served.2.1 6 = .ok (.bipush 6, 2) := by decide +kernel
theorem dM_served_8 : decode M_M_served.2.1 8 = .ok (.iload_n 1, 1) := by decide +kernel
theorem dM_served_9 : decode M_M_served.2.1 9 = .ok (.imul, 1) := by decide +kernel
theorem dM_served_10 : decode M_M_served.2.1 10 = .ok (.bipush 6, 2) := by decide +kernel
theorem dM_served_12 : decode M_M_served.2.1 12 = .ok (.iadd, 1) := by decide +kernel
theorem dM_served_13 : decode M_M_served.2.1 13 = .ok (.if_icmp .ge 94, 3) := by decide +kernel
theorem dM_served_16 : decode M_M_served.2.1 16 = .ok (.aload_n 0, 1) := by decide +kernel
theorem dM_served_17 : decode M_M_served.2.1 17 = .ok (.getfield 29, 3) := by decide +kernel
theorem dM_served_20 : decode M_M_served.2.1 20 = .ok (.iload_n 3, 1) := by decide +kernel
theorem dM_served_21 : decode M_M_served.2.1 21 = .ok (.iaload, 1) := by decide +kernel
theorem dM_served_22 : decode M_M_served.2.1 22 = .ok (.ifCond .ne 7, 3) := by decide +kernel
theorem dM_served_25 : decode M_M_served.2.1 25 = .ok (.iconst 1, 1) := by decide +kernel
theorem dM_served_26 : decode M_M_served.2.1 26 = .ok (.goto 4, 3) := by decide +kernel
theorem dM_served_29 : decode M_M_served.2.1 29 = .ok (.iconst 0, 1) := by decide +kernel
theorem dM_served_30 : decode M_M_served.2.1 30 = .ok (.istore 4, 2) := by decide +kernel
theorem dM_served_32 : decode M_M_served.2.1 32 = .ok (.iconst 1, 1) := by decide +kernel
theorem dM_served_33 : decode M_M_served.2.1 33 = .ok (.istore 5, 2) := by decide +kernel
theorem dM_served_35 : decode M_M_served.2.1 35 = .ok (.iload 5, 2) := by decide +kernel
theorem dM_served_37 : decode M_M_served.2.1 37 = .ok (.iload_n 2, 1) := by decide +kernel
theorem dM_served_38 : decode M_M_served.2.1 38 = .ok (.if_icmp .gt 56, 3) := by decide +kernel
theorem dM_served_41 : decode M_M_served.2.1 41 = .ok (.iload 5, 2) := by decide +kernel
theorem dM_served_43 : decode M_M_served.2.1 43 = .ok (.aload_n 0, 1) := by decide +kernel
theorem dM_served_44 : decode M_M_served.2.1 44 = .ok (.getfield 54, 3) := by decide +kernel
theorem dM_served_47 : decode M_M_served.2.1 47 = .ok (.if_icmp .gt 47, 3) := by decide +kernel
theorem dM_served_50 : decode M_M_served.2.1 50 = .ok (.iload 4, 2) := by decide +kernel
theorem dM_served_52 : decode M_M_served.2.1 52 = .ok (.ifCond .eq 33, 3) := by decide +kernel
theorem dM_served_55 : decode M_M_served.2.1 55 = .ok (.aload_n 0, 1) := by decide +kernel
theorem dM_served_56 : decode M_M_served.2.1 56 = .ok (.iload 5, 2) := by decide +kernel
theorem dM_served_58 : decode M_M_served.2.1 58 = .ok (.invokevirtual 74, 3) := by decide +kernel
theorem dM_served_61 : decode M_M_served.2.1 61 = .ok (.iload_n 1, 1) := by decide +kernel
theorem dM_served_62 : decode M_M_served.2.1 62 = .ok (.if_icmp .ne 19, 3) := by decide +kernel
theorem dM_served_65 : decode M_M_served.2.1 65 = .ok (.aload_n 0, 1) := by decide +kernel
theorem dM_served_66 : decode M_M_served.2.1 66 = .ok (.getfield 26, 3) := by decide +kernel
theorem dM_served_69 : decode M_M_served.2.1 69 = .ok (.sipush 200, 3) := by decide +kernel
theorem dM_served_72 : decode M_M_served.2.1 72 = .ok (.iload_n 3, 1) := by decide +kernel
theorem dM_served_73 : decode M_M_served.2.1 73 = .ok (.imul, 1) := by decide +kernel
theorem dM_served_74 : decode M_M_served.2.1 74 = .ok (.iload 5, 2) := by decide +kernel
theorem dM_served_76 : decode M_M_served.2.1 76 = .ok (.iadd, 1) := by decide +kernel
theorem dM_served_77 : decode M_M_served.2.1 77 = .ok (.baload, 1) := by decide +kernel
theorem dM_served_78 : decode M_M_served.2.1 78 = .ok (.ifCond .eq 7, 3) := by decide +kernel
theorem dM_served_81 : decode M_M_served.2.1 81 = .ok (.iconst 1, 1) := by decide +kernel
theorem dM_served_82 : decode M_M_served.2.1 82 = .ok (.goto 4, 3) := by decide +kernel
theorem dM_served_85 : decode M_M_served.2.1 85 = .ok (.iconst 0, 1) := by decide +kernel
theorem dM_served_86 : decode M_M_served.2.1 86 = .ok (.istore 4, 2) := by decide +kernel
theorem dM_served_88 : decode M_M_served.2.1 88 = .ok (.iinc 5 1, 3) := by decide +kernel
theorem dM_served_91 : decode M_M_served.2.1 91 = .ok (.goto (-56), 3) := by decide +kernel
theorem dM_served_94 : decode M_M_served.2.1 94 = .ok (.iload 4, 2) := by decide +kernel
theorem dM_served_96 : decode M_M_served.2.1 96 = .ok (.ifCond .eq 5, 3) := by decide +kernel
theorem dM_served_99 : decode M_M_served.2.1 99 = .ok (.iconst 1, 1) := by decide +kernel
theorem dM_served_100 : decode M_M_served.2.1 100 = .ok (.ireturn, 1) := by decide +kernel
theorem dM_served_101 : decode M_M_served.2.1 101 = .ok (.iinc 3 1, 3) := by decide +kernel
theorem dM_served_104 : decode M_M_served.2.1 104 = .ok (.goto (-99), 3) := by decide +kernel
theorem dM_served_107 : decode M_M_served.2.1 107 = .ok (.iconst 0, 1) := by decide +kernel
theorem dM_served_108 : decode M_M_served.2.1 108 = .ok (.ireturn, 1) := by decide +kernel
theorem dM_placeOf_0 : decode M_M_placeOf.2.1 0 = .ok (.iconst 0, 1) := by decide +kernel
theorem dM_placeOf_1 : decode M_M_placeOf.2.1 1 = .ok (.istore_n 2, 1) := by decide +kernel
theorem dM_placeOf_2 : decode M_M_placeOf.2.1 2 = .ok (.iload_n 2, 1) := by decide +kernel
theorem dM_placeOf_3 : decode M_M_placeOf.2.1 3 = .ok (.aload_n 0, 1) := by decide +kernel
theorem dM_placeOf_4 : decode M_M_placeOf.2.1 4 = .ok (.getfield 97, 3) := by decide +kernel
theorem dM_placeOf_7 : decode M_M_placeOf.2.1 7 = .ok (.if_icmp .ge 21, 3) := by decide +kernel
theorem dM_placeOf_10 : decode M_M_placeOf.2.1 10 = .ok (.aload_n 0, 1) := by decide +kernel
theorem dM_placeOf_11 : decode M_M_placeOf.2.1 11 = .ok (.getfield 44, 3) := by decide +kernel
theorem dM_placeOf_14 : decode M_M_placeOf.2.1 14 = .ok (.iload_n 2, 1) := by decide +kernel
theorem dM_placeOf_15 : decode M_M_placeOf.2.1 15 = .ok (.iaload, 1) := by decide +kernel
theorem dM_placeOf_16 : decode M_M_placeOf.2.1 16 = .ok (.iload_n 1, 1) := by decide +kernel
theorem dM_placeOf_17 : decode M_M_placeOf.2.1 17 = .ok (.if_icmp .ne 5, 3) := by decide +kernel
theorem dM_placeOf_20 : decode M_M_placeOf.2.1 20 = .ok (.iload_n 2, 1) := by decide +kernel
theorem dM_placeOf_21 : decode M_M_placeOf.2.1 21 = .ok (.ireturn, 1) := by decide +kernel
theorem dM_placeOf_22 : decode M_M_placeOf.2.1 22 = .ok (.iinc 2 1, 3) := by decide +kernel
theorem dM_placeOf_25 : decode M_M_placeOf.2.1 25 = .ok (.goto (-23), 3) := by decide +kernel
theorem dM_placeOf_28 : decode M_M_placeOf.2.1 28 = .ok (.iconst (-1), 1) := by decide +kernel
theorem dM_placeOf_29 : decode M_M_placeOf.2.1 29 = .ok (.ireturn, 1) := by decide +kernel
theorem dM_drop_0 : decode M_M_drop.2.1 0 = .ok (.aload_n 0, 1) := by decide +kernel
theorem dM_drop_1 : decode M_M_drop.2.1 1 = .ok (.dup, 1) := by decide +kernel
theorem dM_drop_2 : decode M_M_drop.2.1 2 = .ok (.getfield 97, 3) := by decide +kernel
theorem dM_drop_5 : decode M_M_drop.2.1 5 = .ok (.iconst 1, 1) := by decide +kernel
theorem dM_drop_6 : decode M_M_drop.2.1 6 = .ok (.isub, 1) := by decide +kernel
theorem dM_drop_7 : decode M_M_drop.2.1 7 = .ok (.putfield 97, 3) := by decide +kernel
theorem dM_drop_10 : decode M_M_drop.2.1 10 = .ok (.iload_n 1, 1) := by decide +kernel
theorem dM_drop_11 : decode M_M_drop.2.1 11 = .ok (.istore_n 2, 1) := by decide +kernel
theorem dM_drop_12 : decode M_M_drop.2.1 12 = .ok (.iload_n 2, 1) := by decide +kernel
theorem dM_drop_13 : decode M_M_drop.2.1 13 = .ok (.aload_n 0, 1) := by decide +kernel
theorem dM_drop_14 : decode M_M_drop.2.1 14 = .ok (.getfield 97, 3) := by decide +kernel
theorem dM_drop_17 : decode M_M_drop.2.1 17 = .ok (.if_icmp .ge 23, 3) := by decide +kernel
theorem dM_drop_20 : decode M_M_drop.2.1 20 = .ok (.aload_n 0, 1) := by decide +kernel
theorem dM_drop_21 : decode M_M_drop.2.1 21 = .ok (.getfield 44, 3) := by decide +kernel
theorem dM_drop_24 : decode M_M_drop.2.1 24 = .ok (.iload_n 2, 1) := by decide +kernel
theorem dM_drop_25 : decode M_M_drop.2.1 25 = .ok (.aload_n 0, 1) := by decide +kernel
theorem dM_drop_26 : decode M_M_drop.2.1 26 = .ok (.getfield 44, 3) := by decide +kernel
theorem dM_drop_29 : decode M_M_drop.2.1 29 = .ok (.iload_n 2, 1) := by decide +kernel
theorem dM_drop_30 : decode M_M_drop.2.1 30 = .ok (.iconst 1, 1) := by decide +kernel
theorem dM_drop_31 : decode M_M_drop.2.1 31 = .ok (.iadd, 1) := by decide +kernel
theorem dM_drop_32 : decode M_M_drop.2.1 32 = .ok (.iaload, 1) := by decide +kernel
theorem dM_drop_33 : decode M_M_drop.2.1 33 = .ok (.iastore, 1) := by decide +kernel
theorem dM_drop_34 : decode M_M_drop.2.1 34 = .ok (.iinc 2 1, 3) := by decide +kernel
theorem dM_drop_37 : decode M_M_drop.2.1 37 = .ok (.goto (-25), 3) := by decide +kernel
theorem dM_drop_40 : decode M_M_drop.2.1 40 = .ok (.return_, 1) := by decide +kernel
theorem dM_goes_0 : decode M_M_goes.2.1 0 = .ok (.iconst 0, 1) := by decide +kernel
theorem dM_goes_1 : decode M_M_goes.2.1 1 = .ok (.istore_n 2, 1) := by decide +kernel
theorem dM_goes_2 : decode M_M_goes.2.1 2 = .ok (.iload_n 2, 1) := by decide +kernel
theorem dM_goes_3 : decode M_M_goes.2.1 3 = .ok (.aload_n 0, 1) := by decide +kernel
theorem dM_goes_4 : decode M_M_goes.2.1 4 = .ok (.getfield 97, 3) := by decide +kernel
theorem dM_goes_7 : decode M_M_goes.2.1 7 = .ok (.if_icmp .ge 38, 3) := by decide +kernel
theorem dM_goes_10 : decode M_M_goes.2.1 10 = .ok (.aload_n 0, 1) := by decide +kernel
theorem dM_goes_11 : decode M_M_goes.2.1 11 = .ok (.getfield 44, 3) := by decide +kernel
theorem dM_goes_14 : decode M_M_goes.2.1 14 = .ok (.iload_n 2, 1) := by decide +kernel
theorem dM_goes_15 : decode M_M_goes.2.1 15 = .ok (.iaload, 1) := by decide +kernel
theorem dM_goes_16 : decode M_M_goes.2.1 16 = .ok (.iload_n 1, 1) := by decide +kernel
theorem dM_goes_17 : decode M_M_goes.2.1 17 = .ok (.if_icmp .eq 22, 3) := by decide +kernel
theorem dM_goes_20 : decode M_M_goes.2.1 20 = .ok (.aload_n 0, 1) := by decide +kernel
theorem dM_goes_21 : decode M_M_goes.2.1 21 = .ok (.aload_n 0, 1) := by decide +kernel
theorem dM_goes_22 : decode M_M_goes.2.1 22 = .ok (.getfield 44, 3) := by decide +kernel
theorem dM_goes_25 : decode M_M_goes.2.1 25 = .ok (.iload_n 2, 1) := by decide +kernel
theorem dM_goes_26 : decode M_M_goes.2.1 26 = .ok (.iaload, 1) := by decide +kernel
theorem dM_goes_27 : decode M_M_goes.2.1 27 = .ok (.invokevirtual 100, 3) := by decide +kernel
theorem dM_goes_30 : decode M_M_goes.2.1 30 = .ok (.aload_n 0, 1) := by decide +kernel
theorem dM_goes_31 : decode M_M_goes.2.1 31 = .ok (.getfield 94, 3) := by decide +kernel
theorem dM_goes_34 : decode M_M_goes.2.1 34 = .ok (.if_icmp .gt 5, 3) := by decide +kernel
theorem dM_goes_37 : decode M_M_goes.2.1 37 = .ok (.iload_n 2, 1) := by decide +kernel
theorem dM_goes_38 : decode M_M_goes.2.1 38 = .ok (.ireturn, 1) := by decide +kernel
theorem dM_goes_39 : decode M_M_goes.2.1 39 = .ok (.iinc 2 1, 3) := by decide +kernel
theorem dM_goes_42 : decode M_M_goes.2.1 42 = .ok (.goto (-40), 3) := by decide +kernel
theorem dM_goes_45 : decode M_M_goes.2.1 45 = .ok (.iconst (-1), 1) := by decide +kernel
theorem dM_goes_46 : decode M_M_goes.2.1 46 = .ok (.ireturn, 1) := by decide +kernel
theorem dM_touch_0 : decode M_M_touch.2.1 0 = .ok (.aload_n 0, 1) := by decide +kernel
theorem dM_touch_1 : decode M_M_touch.2.1 1 = .ok (.iload_n 1, 1) := by decide +kernel
theorem dM_touch_2 : decode M_M_touch.2.1 2 = .ok (.invokevirtual 103, 3) := by decide +kernel
theorem dM_touch_5 : decode M_M_touch.2.1 5 = .ok (.istore_n 3, 1) := by decide +kernel
theorem dM_touch_6 : decode M_M_touch.2.1 6 = .ok (.iload_n 3, 1) := by decide +kernel
theorem dM_touch_7 : decode M_M_touch.2.1 7 = .ok (.ifCond .ge 76, 3) := by decide +kernel
theorem dM_touch_10 : decode M_M_touch.2.1 10 = .ok (.aload_n 0, 1) := by decide +kernel
theorem dM_touch_11 : decode M_M_touch.2.1 11 = .ok (.getfield 97, 3) := by decide +kernel
theorem dM_touch_14 : decode M_M_touch.2.1 14 = .ok (.iconst 4, 1) := by decide +kernel
theorem dM_touch_15 : decode M_M_touch.2.1 15 = .ok (.if_icmp .ne 11, 3) := by decide +kernel
theorem dM_touch_18 : decode M_M_touch.2.1 18 = .ok (.aload_n 0, 1) := by decide +kernel
theorem dM_touch_19 : decode M_M_touch.2.1 19 = .ok (.iload_n 2, 1) := by decide +kernel
theorem dM_touch_20 : decode M_M_touch.2.1 20 = .ok (.invokevirtual 106, 3) := by decide +kernel
theorem dM_touch_23 : decode M_M_touch.2.1 23 = .ok (.goto 4, 3) := by decide +kernel
theorem dM_touch_26 : decode M_M_touch.2.1 26 = .ok (.iconst 4, 1) := by decide +kernel
theorem dM_touch_27 : decode M_M_touch.2.1 27 = .ok (.istore 4, 2) := by decide +kernel
theorem dM_touch_29 : decode M_M_touch.2.1 29 = .ok (.aload_n 0, 1) := by decide +kernel
theorem dM_touch_30 : decode M_M_touch.2.1 30 = .ok (.iload_n 1, 1) := by decide +kernel
theorem dM_touch_31 : decode M_M_touch.2.1 31 = .ok (.invokevirtual 100, 3) := by decide +kernel
theorem dM_touch_34 : decode M_M_touch.2.1 34 = .ok (.aload_n 0, 1) := by decide +kernel
theorem dM_touch_35 : decode M_M_touch.2.1 35 = .ok (.getfield 94, 3) := by decide +kernel
theorem dM_touch_38 : decode M_M_touch.2.1 38 = .ok (.if_icmp .gt 8, 3) := by decide +kernel
theorem dM_touch_41 : decode M_M_touch.2.1 41 = .ok (.iload 4, 2) := by decide +kernel
theorem dM_touch_43 : decode M_M_touch.2.1 43 = .ok (.ifCond .ge 6, 3) := by decide +kernel
theorem dM_touch_46 : decode M_M_touch.2.1 46 = .ok (.bipush (-6), 2) := by decide +kernel
theorem dM_touch_48 : decode M_M_touch.2.1 48 = .ok (.ireturn, 1) := by decide +kernel
theorem dM_touch_49 : decode M_M_touch.2.1 49 = .ok (.aload_n 0, 1) := by decide +kernel
theorem dM_touch_50 : decode M_M_touch.2.1 50 = .ok (.iload_n 1, 1) := by decide +kernel
theorem dM_touch_51 : decode M_M_touch.2.1 51 = .ok (.iconst 2, 1) := by decide +kernel
theorem dM_touch_52 : decode M_M_touch.2.1 52 = .ok (.irem, 1) := by decide +kernel
theorem dM_touch_53 : decode M_M_touch.2.1 53 = .ok (.aload_n 0, 1) := by decide +kernel
theorem dM_touch_54 : decode M_M_touch.2.1 54 = .ok (.getfield 94, 3) := by decide +kernel
theorem dM_touch_57 : decode M_M_touch.2.1 57 = .ok (.invokevirtual 109, 3) := by decide +kernel
theorem dM_touch_60 : decode M_M_touch.2.1 60 = .ok (.ifCond .ne 6, 3) := by decide +kernel
theorem dM_touch_63 : decode M_M_touch.2.1 63 = .ok (.bipush (-7), 2) := by decide +kernel
theorem dM_touch_65 : decode M_M_touch.2.1 65 = .ok (.ireturn, 1) := by decide +kernel
theorem dM_touch_66 : decode M_M_touch.2.1 66 = .ok (.aload_n 0, 1) := by decide +kernel
theorem dM_touch_67 : decode M_M_touch.2.1 67 = .ok (.getfield 97, 3) := by decide +kernel
theorem dM_touch_70 : decode M_M_touch.2.1 70 = .ok (.iconst 4, 1) := by decide +kernel
theorem dM_touch_71 : decode M_M_touch.2.1 71 = .ok (.if_icmp .ne 9, 3) := by decide +kernel
theorem dM_touch_74 : decode M_M_touch.2.1 74 = .ok (.aload_n 0, 1) := by decide +kernel
theorem dM_touch_75 : decode M_M_touch.2.1 75 = .ok (.iload 4, 2) := by decide +kernel
theorem dM_touch_77 : decode M_M_touch.2.1 77 = .ok (.invokevirtual 113, 3) := by decide +kernel
theorem dM_touch_80 : decode M_M_touch.2.1 80 = .ok (.goto 8, 3) := by decide +kernel
theorem dM_touch_83 : decode M_M_touch.2.1 83 = .ok (.aload_n 0, 1) := by decide +kernel
theorem dM_touch_84 : decode M_M_touch.2.1 84 = .ok (.iload_n 3, 1) := by decide +kernel
theorem dM_touch_85 : decode M_M_touch.2.1 85 = .ok (.invokevirtual 113, 3) := by decide +kernel
theorem dM_touch_88 : decode M_M_touch.2.1 88 = .ok (.aload_n 0, 1) := by decide +kernel
theorem dM_touch_89 : decode M_M_touch.2.1 89 = .ok (.getfield 44, 3) := by decide +kernel
theorem dM_touch_92 : decode M_M_touch.2.1 92 = .ok (.aload_n 0, 1) := by decide +kernel
theorem dM_touch_93 : decode M_M_touch.2.1 93 = .ok (.getfield 97, 3) := by decide +kernel
theorem dM_touch_96 : decode M_M_touch.2.1 96 = .ok (.iload_n 1, 1) := by decide +kernel
theorem dM_touch_97 : decode M_M_touch.2.1 97 = .ok (.iastore, 1) := by decide +kernel
theorem dM_touch_98 : decode M_M_touch.2.1 98 = .ok (.aload_n 0, 1) := by decide +kernel
theorem dM_touch_99 : decode M_M_touch.2.1 99 = .ok (.dup, 1) := by decide +kernel
theorem dM_touch_100 : decode M_M_touch.2.1 100 = .ok (.getfield 97, 3) := by decide +kernel
theorem dM_touch_103 : decode M_M_touch.2.1 103 = .ok (.iconst 1, 1) := by decide +kernel
theorem dM_touch_104 : decode M_M_touch.2.1 104 = .ok (.iadd, 1) := by decide +kernel
theorem dM_touch_105 : decode M_M_touch.2.1 105 = .ok (.putfield 97, 3) := by decide +kernel
theorem dM_touch_108 : decode M_M_touch.2.1 108 = .ok (.iconst 0, 1) := by decide +kernel
theorem dM_touch_109 : decode M_M_touch.2.1 109 = .ok (.ireturn, 1) := by decide +kernel
theorem dM_cached_0 : decode M_M_cached.2.1 0 = .ok (.aload_n 0, 1) := by decide +kernel
theorem dM_cached_1 : decode M_M_cached.2.1 1 = .ok (.iload_n 1, 1) := by decide +kernel
theorem dM_cached_2 : decode M_M_cached.2.1 2 = .ok (.invokevirtual 103, 3) := by decide +kernel
theorem dM_cached_5 : decode M_M_cached.2.1 5 = .ok (.istore_n 2, 1) := by decide +kernel
theorem dM_cached_6 : decode M_M_cached.2.1 6 = .ok (.iload_n 2, 1) := by decide +kernel
theorem dM_cached_7 : decode M_M_cached.2.1 7 = .ok (.ifCond .ge 7, 3) := by decide +kernel
theorem dM_cached_10 : decode M_M_cached.2.1 10 = .ok (.iconst 0, 1) := by decide +kernel
theorem dM_cached_11 : decode M_M_cached.2.1 11 = .ok (.goto 9, 3) := by decide +kernel
theorem dM_cached_14 : decode M_M_cached.2.1 14 = .ok (.aload_n 0, 1) := by decide +kernel
theorem dM_cached_15 : decode M_M_cached.2.1 15 = .ok (.getfield 97, 3) := by decide +kernel
theorem dM_cached_18 : decode M_M_cached.2.1 18 = .ok (.iload_n 2, 1) := by decide +kernel
theorem dM_cached_19 : decode M_M_cached.2.1 19 = .ok (.isub, 1) := by decide +kernel
theorem dM_cached_20 : decode M_M_cached.2.1 20 = .ok (.ireturn, 1) := by decide +kernel
theorem dM_begin_0 : decode M_M_begin.2.1 0 = .ok (.aload_n 0, 1) := by decide +kernel
theorem dM_begin_1 : decode M_M_begin.2.1 1 = .ok (.getfield 117, 3) := by decide +kernel
theorem dM_begin_4 : decode M_M_begin.2.1 4 = .ok (.ifCond .eq 6, 3) := by decide +kernel
theorem dM_begin_7 : decode M_M_begin.2.1 7 = .ok (.bipush (-2), 2) := by decide +kernel
theorem dM_begin_9 : decode M_M_begin.2.1 9 = .ok (.ireturn, 1) := by decide +kernel
theorem dM_begin_10 : decode M_M_begin.2.1 10 = .ok (.iconst 0, 1) := by decide +kernel
theorem dM_begin_11 : decode M_M_begin.2.1 11 = .ok (.istore_n 1, 1) := by decide +kernel
theorem dM_begin_12 : decode M_M_begin.2.1 12 = .ok (.iconst 1, 1) := by decide +kernel
theorem dM_begin_13 : decode M_M_begin.2.1 13 = .ok (.istore_n 2, 1) := by decide +kernel
theorem dM_begin_14 : decode M_M_begin.2.1 14 = .ok (.iload_n 2, 1) := by decide +kernel
theorem dM_begin_15 : decode M_M_begin.2.1 15 = .ok (.aload_n 0, 1) := by decide +kernel
theorem dM_begin_16 : decode M_M_begin.2.1 16 = .ok (.getfield 50, 3) := by decide +kernel
theorem dM_begin_19 : decode M_M_begin.2.1 19 = .ok (.if_icmp .gt 26, 3) := by decide +kernel
theorem dM_begin_22 : decode M_M_begin.2.1 22 = .ok (.iload_n 1, 1) := by decide +kernel
theorem dM_begin_23 : decode M_M_begin.2.1 23 = .ok (.aload_n 0, 1) := by decide +kernel
theorem dM_begin_24 : decode M_M_begin.2.1 24 = .ok (.getfield 38, 3) := by decide +kernel
theorem dM_begin_27 : decode M_M_begin.2.1 27 = .ok (.iload_n 2, 1) := by decide +kernel
theorem dM_begin_28 : decode M_M_begin.2.1 28 = .ok (.baload, 1) := by decide +kernel
theorem dM_begin_29 : decode M_M_begin.2.1 29 = .ok (.ifCond .eq 7, 3) := by decide +kernel
theorem dM_begin_32 : decode M_M_begin.2.1 32 = .ok (.iconst 1, 1) := by decide +kernel
theorem dM_begin_33 : decode M_M_begin.2.1 33 = .ok (.goto 4, 3) := by decide +kernel
theorem dM_begin_36 : decode M_M_begin.2.1 36 = .ok (.iconst 0, 1) := by decide +kernel
theorem dM_begin_37 : decode M_M_begin.2.1 37 = .ok (.iadd, 1) := by decide +kernel
theorem dM_begin_38 : decode M_M_begin.2.1 38 = .ok (.istore_n 1, 1) := by decide +kernel
theorem dM_begin_39 : decode M_M_begin.2.1 39 = .ok (.iinc 2 1, 3) := by decide +kernel
theorem dM_begin_42 : decode M_M_begin.2.1 42 = .ok (.goto (-28), 3) := by decide +kernel
theorem dM_begin_45 : decode M_M_begin.2.1 45 = .ok (.iload_n 1, 1) := by decide +kernel
theorem dM_begin_46 : decode M_M_begin.2.1 46 = .ok (.iconst 4, 1) := by decide +kernel
theorem dM_begin_47 : decode M_M_begin.2.1 47 = .ok (.if_icmp .eq 22, 3) := by decide +kernel
theorem dM_begin_50 : decode M_M_begin.2.1 50 = .ok (.aload_n 0, 1) := by decide +kernel
theorem dM_begin_51 : decode M_M_begin.2.1 51 = .ok (.getfield 50, 3) := by decide +kernel
theorem dM_begin_54 : decode M_M_begin.2.1 54 = .ok (.bipush 60, 2) := by decide +kernel
theorem dM_begin_56 : decode M_M_begin.2.1 56 = .ok (.if_icmp .eq 13, 3) := by decide +kernel
theorem dM_begin_59 : decode M_M_begin.2.1 59 = .ok (.aload_n 0, 1) := by decide +kernel
theorem dM_begin_60 : decode M_M_begin.2.1 60 = .ok (.getfield 54, 3) := by decide +kernel
theorem dM_begin_63 : decode M_M_begin.2.1 63 = .ok (.sipush 150, 3) := by decide +kernel
theorem dM_begin_66 : decode M_M_begin.2.1 66 = .ok (.if_icmp .lt 6, 3) := by decide +kernel
theorem dM_begin_69 : decode M_M_begin.2.1 69 = .ok (.bipush (-5), 2) := by decide +kernel
theorem dM_begin_71 : decode M_M_begin.2.1 71 = .ok (.ireturn, 1) := by decide +kernel
theorem dM_begin_72 : decode M_M_begin.2.1 72 = .ok (.aload_n 0, 1) := by decide +kernel
theorem dM_begin_73 : decode M_M_begin.2.1 73 = .ok (.dup, 1) := by decide +kernel
theorem dM_begin_74 : decode M_M_begin.2.1 74 = .ok (.getfield 50, 3) := by decide +kernel
theorem dM_begin_77 : decode M_M_begin.2.1 77 = .ok (.iconst 1, 1) := by decide +kernel
theorem dM_begin_78 : decode M_M_begin.2.1 78 = .ok (.iadd, 1) := by decide +kernel
theorem dM_begin_79 : decode M_M_begin.2.1 79 = .ok (.putfield 50, 3) := by decide +kernel
theorem dM_begin_82 : decode M_M_begin.2.1 82 = .ok (.aload_n 0, 1) := by decide +kernel
theorem dM_begin_83 : decode M_M_begin.2.1 83 = .ok (.getfield 38, 3) := by decide +kernel
theorem dM_begin_86 : decode M_M_begin.2.1 86 = .ok (.aload_n 0, 1) := by decide +kernel
theorem dM_begin_87 : decode M_M_begin.2.1 87 = .ok (.getfield 50, 3) := by decide +kernel
theorem dM_begin_90 : decode M_M_begin.2.1 90 = .ok (.iconst 1, 1) := by decide +kernel
theorem dM_begin_91 : decode M_M_begin.2.1 91 = .ok (.bastore, 1) := by decide +kernel
theorem dM_begin_92 : decode M_M_begin.2.1 92 = .ok (.aload_n 0, 1) := by decide +kernel
theorem dM_begin_93 : decode M_M_begin.2.1 93 = .ok (.getfield 50, 3) := by decide +kernel
theorem dM_begin_96 : decode M_M_begin.2.1 96 = .ok (.ireturn, 1) := by decide +kernel
end
section
/-! Decode rows (by program, wip/whole/gen.py). -/
theorem dM_locked_0 : decode M_M_locked.2.1 0 = .ok (.aload_n 0, 1) := by decide +kernel
theorem dM_locked_1 : decode M_M_locked.2.1 1 = .ok (.getfield 41, 3) := by decide +kernel
theorem dM_locked_4 : decode M_M_locked.2.1 4 = .ok (.iload_n 2, 1) := by decide +kernel
theorem dM_locked_5 : decode M_M_locked.2.1 5 = .ok (.iaload, 1) := by decide +kernel
theorem dM_locked_6 : decode M_M_locked.2.1 6 = .ok (.ifCond .eq 17, 3) := by decide +kernel
theorem dM_locked_9 : decode M_M_locked.2.1 9 = .ok (.aload_n 0, 1) := by decide +kernel
theorem dM_locked_10 : decode M_M_locked.2.1 10 = .ok (.getfield 41, 3) := by decide +kernel
theorem dM_locked_13 : decode M_M_locked.2.1 13 = .ok (.iload_n 2, 1) := by decide +kernel
theorem dM_locked_14 : decode M_M_locked.2.1 14 = .ok (.iaload, 1) := by decide +kernel
theorem dM_locked_15 : decode M_M_locked.2.1 15 = .ok (.iload_n 1, 1) := by decide +kernel
theorem dM_locked_16 : decode M_M_locked.2.1 16 = .ok (.if_icmp .eq 7, 3) := by decide +kernel
theorem dM_locked_19 : decode M_M_locked.2.1 19 = .ok (.iconst 1, 1) := by decide +kernel
theorem dM_locked_20 : decode M_M_locked.2.1 20 = .ok (.goto 4, 3) := by decide +kernel
theorem dM_locked_23 : decode M_M_locked.2.1 23 = .ok (.iconst 0, 1) := by decide +kernel
theorem dM_locked_24 : decode M_M_locked.2.1 24 = .ok (.ireturn, 1) := by decide +kernel
theorem dM_read_0 : decode M_M_read.2.1 0 = .ok (.iload_n 2, 1) := by decide +kernel
theorem dM_read_1 : decode M_M_read.2.1 1 = .ok (.invokestatic 121, 3) := by decide +kernel
theorem dM_read_4 : decode M_M_read.2.1 4 = .ok (.ifCond .ne 5, 3) := by decide +kernel
theorem dM_read_7 : decode M_M_read.2.1 7 = .ok (.iconst (-1), 1) := by decide +kernel
theorem dM_read_8 : decode M_M_read.2.1 8 = .ok (.ireturn, 1) := by decide +kernel
theorem dM_read_9 : decode M_M_read.2.1 9 = .ok (.aload_n 0, 1) := by decide +kernel
theorem dM_read_10 : decode M_M_read.2.1 10 = .ok (.getfield 117, 3) := by decide +kernel
theorem dM_read_13 : decode M_M_read.2.1 13 = .ok (.ifCond .eq 6, 3) := by decide +kernel
theorem dM_read_16 : decode M_M_read.2.1 16 = .ok (.bipush (-2), 2) := by decide +kernel
theorem dM_read_18 : decode M_M_read.2.1 18 = .ok (.ireturn, 1) := by decide +kernel
theorem dM_read_19 : decode M_M_read.2.1 19 = .ok (.aload_n 0, 1) := by decide +kernel
theorem dM_read_20 : decode M_M_read.2.1 20 = .ok (.iload_n 1, 1) := by decide +kernel
theorem dM_read_21 : decode M_M_read.2.1 21 = .ok (.invokevirtual 125, 3) := by decide +kernel
theorem dM_read_24 : decode M_M_read.2.1 24 = .ok (.ifCond .ne 6, 3) := by decide +kernel
theorem dM_read_27 : decode M_M_read.2.1 27 = .ok (.bipush (-3), 2) := by decide +kernel
theorem dM_read_29 : decode M_M_read.2.1 29 = .ok (.ireturn, 1) := by decide +kernel
theorem dM_read_30 : decode M_M_read.2.1 30 = .ok (.aload_n 0, 1) := by decide +kernel
theorem dM_read_31 : decode M_M_read.2.1 31 = .ok (.iload_n 1, 1) := by decide +kernel
theorem dM_read_32 : decode M_M_read.2.1 32 = .ok (.iload_n 2, 1) := by decide +kernel
theorem dM_read_33 : decode M_M_read.2.1 33 = .ok (.invokevirtual 128, 3) := by decide +kernel
theorem dM_read_36 : decode M_M_read.2.1 36 = .ok (.ifCond .eq 6, 3) := by decide +kernel
theorem dM_read_39 : decode M_M_read.2.1 39 = .ok (.bipush (-4), 2) := by decide +kernel
theorem dM_read_41 : decode M_M_read.2.1 41 = .ok (.ireturn, 1) := by decide +kernel
theorem dM_read_42 : decode M_M_read.2.1 42 = .ok (.aload_n 0, 1) := by decide +kernel
theorem dM_read_43 : decode M_M_read.2.1 43 = .ok (.iload_n 2, 1) := by decide +kernel
theorem dM_read_44 : decode M_M_read.2.1 44 = .ok (.iconst 4, 1) := by decide +kernel
theorem dM_read_45 : decode M_M_read.2.1 45 = .ok (.idiv, 1) := by decide +kernel
theorem dM_read_46 : decode M_M_read.2.1 46 = .ok (.iconst (-1), 1) := by decide +kernel
theorem dM_read_47 : decode M_M_read.2.1 47 = .ok (.invokevirtual 131, 3) := by decide +kernel
theorem dM_read_50 : decode M_M_read.2.1 50 = .ok (.istore_n 3, 1) := by decide +kernel
theorem dM_read_51 : decode M_M_read.2.1 51 = .ok (.iload_n 3, 1) := by decide +kernel
theorem dM_read_52 : decode M_M_read.2.1 52 = .ok (.ifCond .ge 5, 3) := by decide +kernel
theorem dM_read_55 : decode M_M_read.2.1 55 = .ok (.iload_n 3, 1) := by decide +kernel
theorem dM_read_56 : decode M_M_read.2.1 56 = .ok (.ireturn, 1) := by decide +kernel
theorem dM_read_57 : decode M_M_read.2.1 57 = .ok (.aload_n 0, 1) := by decide +kernel
theorem dM_read_58 : decode M_M_read.2.1 58 = .ok (.getfield 41, 3) := by decide +kernel
theorem dM_read_61 : decode M_M_read.2.1 61 = .ok (.iload_n 2, 1) := by decide +kernel
theorem dM_read_62 : decode M_M_read.2.1 62 = .ok (.iload_n 1, 1) := by decide +kernel
theorem dM_read_63 : decode M_M_read.2.1 63 = .ok (.iastore, 1) := by decide +kernel
theorem dM_read_64 : decode M_M_read.2.1 64 = .ok (.aload_n 0, 1) := by decide +kernel
theorem dM_read_65 : decode M_M_read.2.1 65 = .ok (.iload_n 2, 1) := by decide +kernel
theorem dM_read_66 : decode M_M_read.2.1 66 = .ok (.aload_n 0, 1) := by decide +kernel
theorem dM_read_67 : decode M_M_read.2.1 67 = .ok (.getfield 54, 3) := by decide +kernel
theorem dM_read_70 : decode M_M_read.2.1 70 = .ok (.invokevirtual 68, 3) := by decide +kernel
theorem dM_read_73 : decode M_M_read.2.1 73 = .ok (.ireturn, 1) := by decide +kernel
theorem dM_write_0 : decode M_M_write.2.1 0 = .ok (.iload_n 2, 1) := by decide +kernel
theorem dM_write_1 : decode M_M_write.2.1 1 = .ok (.invokestatic 121, 3) := by decide +kernel
theorem dM_write_4 : decode M_M_write.2.1 4 = .ok (.ifCond .eq 14, 3) := by decide +kernel
theorem dM_write_7 : decode M_M_write.2.1 7 = .ok (.iload_n 3, 1) := by decide +kernel
theorem dM_write_8 : decode M_M_write.2.1 8 = .ok (.ifCond .lt 10, 3) := by decide +kernel
theorem dM_write_11 : decode M_M_write.2.1 11 = .ok (.iload_n 3, 1) := by decide +kernel
theorem dM_write_12 : decode M_M_write.2.1 12 = .ok (.sipush 9999, 3) := by decide +kernel
theorem dM_write_15 : decode M_M_write.2.1 15 = .ok (.if_icmp .le 5, 3) := by decide +kernel
theorem dM_write_18 : decode M_M_write.2.1 18 = .ok (.iconst (-1), 1) := by decide +kernel
theorem dM_write_19 : decode M_M_write.2.1 19 = .ok (.ireturn, 1) := by decide +kernel
theorem dM_write_20 : decode M_M_write.2.1 20 = .ok (.aload_n 0, 1) := by decide +kernel
theorem dM_write_21 : decode M_M_write.2.1 21 = .ok (.getfield 117, 3) := by decide +kernel
theorem dM_write_24 : decode M_M_write.2.1 24 = .ok (.ifCond .eq 6, 3) := by decide +kernel
theorem dM_write_27 : decode M_M_write.2.1 27 = .ok (.bipush (-2), 2) := by decide +kernel
theorem dM_write_29 : decode M_M_write.2.1 29 = .ok (.ireturn, 1) := by decide +kernel
theorem dM_write_30 : decode M_M_write.2.1 30 = .ok (.aload_n 0, 1) := by decide +kernel
theorem dM_write_31 : decode M_M_write.2.1 31 = .ok (.iload_n 1, 1) := by decide +kernel
theorem dM_write_32 : decode M_M_write.2.1 32 = .ok (.invokevirtual 125, 3) := by decide +kernel
theorem dM_write_35 : decode M_M_write.2.1 35 = .ok (.ifCond .ne 6, 3) := by decide +kernel
theorem dM_write_38 : decode M_M_write.2.1 38 = .ok (.bipush (-3), 2) := by decide +kernel
theorem dM_write_40 : decode M_M_write.2.1 40 = .ok (.ireturn, 1) := by decide +kernel
theorem dM_write_41 : decode M_M_write.2.1 41 = .ok (.aload_n 0, 1) := by decide +kernel
theorem dM_write_42 : decode M_M_write.2.1 42 = .ok (.iload_n 1, 1) := by decide +kernel
theorem dM_write_43 : decode M_M_write.2.1 43 = .ok (.iload_n 2, 1) := by decide +kernel
theorem dM_write_44 : decode M_M_write.2.1 44 = .ok (.invokevirtual 128, 3) := by decide +kernel
theorem dM_write_47 : decode M_M_write.2.1 47 = .ok (.ifCond .eq 6, 3) := by decide +kernel
theorem dM_write_50 : decode M_M_write.2.1 50 = .ok (.bipush (-4), 2) := by decide +kernel
theorem dM_write_52 : decode M_M_write.2.1 52 = .ok (.ireturn, 1) := by decide +kernel
theorem dM_write_53 : decode M_M_write.2.1 53 = .ok (.aload_n 0, 1) := by decide +kernel
theorem dM_write_54 : decode M_M_write.2.1 54 = .ok (.getfield 54, 3) := by decide +kernel
theorem dM_write_57 : decode M_M_write.2.1 57 = .ok (.sipush 150, 3) := by decide +kernel
theorem dM_write_60 : decode M_M_write.2.1 60 = .ok (.if_icmp .lt 6, 3) := by decide +kernel
theorem dM_write_63 : decode M_M_write.2.1 63 = .ok (.bipush (-5), 2) := by decide +kernel
theorem dM_write_65 : decode M_M_write.2.1 65 = .ok (.ireturn, 1) := by decide +kernel
theorem dM_write_66 : decode M_M_write.2.1 66 = .ok (.aload_n 0, 1) := by decide +kernel
theorem dM_write_67 : decode M_M_write.2.1 67 = .ok (.iload_n 2, 1) := by decide +kernel
theorem dM_write_68 : decode M_M_write.2.1 68 = .ok (.iconst 4, 1) := by decide +kernel
theorem dM_write_69 : decode M_M_write.2.1 69 = .ok (.idiv, 1) := by decide +kernel
theorem dM_write_70 : decode M_M_write.2.1 70 = .ok (.iconst (-1), 1) := by decide +kernel
theorem dM_write_71 : decode M_M_write.2.1 71 = .ok (.invokevirtual 131, 3) := by decide +kernel
theorem dM_write_74 : decode M_M_write.2.1 74 = .ok (.istore 4, 2) := by decide +kernel
theorem dM_write_76 : decode M_M_write.2.1 76 = .ok (.iload 4, 2) := by decide +kernel
theorem dM_write_78 : decode M_M_write.2.1 78 = .ok (.ifCond .ge 6, 3) := by decide +kernel
theorem dM_write_81 : decode M_M_write.2.1 81 = .ok (.iload 4, 2) := by decide +kernel
theorem dM_write_83 : decode M_M_write.2.1 83 = .ok (.ireturn, 1) := by decide +kernel
theorem dM_write_84 : decode M_M_write.2.1 84 = .ok (.aload_n 0, 1) := by decide +kernel
theorem dM_write_85 : decode M_M_write.2.1 85 = .ok (.getfield 41, 3) := by decide +kernel
theorem dM_write_88 : decode M_M_write.2.1 88 = .ok (.iload_n 2, 1) := by decide +kernel
theorem dM_write_89 : decode M_M_write.2.1 89 = .ok (.iload_n 1, 1) := by decide +kernel
theorem dM_write_90 : decode M_M_write.2.1 90 = .ok (.iastore, 1) := by decide +kernel
theorem dM_write_91 : decode M_M_write.2.1 91 = .ok (.aload_n 0, 1) := by decide +kernel
theorem dM_write_92 : decode M_M_write.2.1 92 = .ok (.iload_n 1, 1) := by decide +kernel
theorem dM_write_93 : decode M_M_write.2.1 93 = .ok (.iload_n 2, 1) := by decide +kernel
theorem dM_write_94 : decode M_M_write.2.1 94 = .ok (.iload_n 3, 1) := by decide +kernel
theorem dM_write_95 : decode M_M_write.2.1 95 = .ok (.iconst 0, 1) := by decide +kernel
theorem dM_write_96 : decode M_M_write.2.1 96 = .ok (.iconst 1, 1) := by decide +kernel
theorem dM_write_97 : decode M_M_write.2.1 97 = .ok (.invokevirtual 61, 3) := by decide +kernel
theorem dM_write_100 : decode M_M_write.2.1 100 = .ok (.ireturn, 1) := by decide +kernel
theorem dM_shift_0 : decode M_M_shift.2.1 0 = .ok (.iload_n 2, 1) := by decide +kernel
theorem dM_shift_1 : decode M_M_shift.2.1 1 = .ok (.invokestatic 121, 3) := by decide +kernel
theorem dM_shift_4 : decode M_M_shift.2.1 4 = .ok (.ifCond .eq 29, 3) := by decide +kernel
theorem dM_shift_7 : decode M_M_shift.2.1 7 = .ok (.iload_n 3, 1) := by decide +kernel
theorem dM_shift_8 : decode M_M_shift.2.1 8 = .ok (.invokestatic 121, 3) := by decide +kernel
theorem dM_shift_11 : decode M_M_shift.2.1 11 = .ok (.ifCond .eq 22, 3) := by decide +kernel
theorem dM_shift_14 : decode M_M_shift.2.1 14 = .ok (.iload_n 2, 1) := by decide +kernel
theorem dM_shift_15 : decode M_M_shift.2.1 15 = .ok (.iload_n 3, 1) := by decide +kernel
theorem dM_shift_16 : decode M_M_shift.2.1 16 = .ok (.if_icmp .eq 17, 3) := by decide +kernel
theorem dM_shift_19 : decode M_M_shift.2.1 19 = .ok (.iload 4, 2) := by decide +kernel
theorem dM_shift_21 : decode M_M_shift.2.1 21 = .ok (.iconst 1, 1) := by decide +kernel
theorem dM_shift_22 : decode M_M_shift.2.1 22 = .ok (.if_icmp .lt 11, 3) := by decide +kernel
theorem dM_shift_25 : decode M_M_shift.2.1 25 = .ok (.iload 4, 2) := by decide +kernel
theorem dM_shift_27 : decode M_M_shift.2.1 27 = .ok (.sipush 9999, 3) := by decide +kernel
theorem dM_shift_30 : decode M_M_shift.2.1 30 = .ok (.if_icmp .le 5, 3) := by decide +kernel
theorem dM_shift_33 : decode M_M_shift.2.1 33 = .ok (.iconst (-1), 1) := by decide +kernel
theorem dM_shift_34 : decode M_M_shift.2.1 34 = .ok (.ireturn, 1) := by decide +kernel
theorem dM_shift_35 : decode M_M_shift.2.1 35 = .ok (.aload_n 0, 1) := by decide +kernel
theorem dM_shift_36 : decode M_M_shift.2.1 36 = .ok (.getfield 117, 3) := by decide +kernel
theorem dM_shift_39 : decode M_M_shift.2.1 39 = .ok (.ifCond .eq 6, 3) := by decide +kernel
theorem dM_shift_42 : decode M_M_shift.2.1 42 = .ok (.bipush (-2), 2) := by decide +kernel
theorem dM_shift_44 : decode M_M_shift.2.1 44 = .ok (.ireturn, 1) := by decide +kernel
theorem dM_shift_45 : decode M_M_shift.2.1 45 = .ok (.aload_n 0, 1) := by decide +kernel
theorem dM_shift_46 : decode M_M_shift.2.1 46 = .ok (.iload_n 1, 1) := by decide +kernel
theorem dM_shift_47 : decode M_M_shift.2.1 47 = .ok (.invokevirtual 125, 3) := by decide +kernel
theorem dM_shift_50 : decode M_M_shift.2.1 50 = .ok (.ifCond .ne 6, 3) := by decide +kernel
theorem dM_shift_53 : decode M_M_shift.2.1 53 = .ok (.bipush (-3), 2) := by decide +kernel
theorem dM_shift_55 : decode M_M_shift.2.1 55 = .ok (.ireturn, 1) := by decide +kernel
theorem dM_shift_56 : decode M_M_shift.2.1 56 = .ok (.aload_n 0, 1) := by decide +kernel
theorem dM_shift_57 : decode M_M_shift.2.1 57 = .ok (.iload_n 1, 1) := by decide +kernel
theorem dM_shift_58 : decode M_M_shift.2.1 58 = .ok (.iload_n 2, 1) := by decide +kernel
theorem dM_shift_59 : decode M_M_shift.2.1 59 = .ok (.invokevirtual 128, 3) := by decide +kernel
theorem dM_shift_62 : decode M_M_shift.2.1 62 = .ok (.ifCond .ne 12, 3) := by decide +kernel
theorem dM_shift_65 : decode M_M_shift.2.1 65 = .ok (.aload_n 0, 1) := by decide +kernel
theorem dM_shift_66 : decode M_M_shift.2.1 66 = .ok (.iload_n 1, 1) := by decide +kernel
theorem dM_shift_67 : decode M_M_shift.2.1 67 = .ok (.iload_n 3, 1) := by decide +kernel
theorem dM_shift_68 : decode M_M_shift.2.1 68 = .ok (.invokevirtual 128, 3) := by decide +kernel
theorem dM_shift_71 : decode M_M_shift.2.1 71 = .ok (.ifCond .eq 6, 3) := by decide +kernel
theorem dM_shift_74 : decode M_M_shift.2.1 74 = .ok (.bipush (-4), 2) := by decide +kernel
theorem dM_shift_76 : decode M_M_shift.2.1 76 = .ok (.ireturn, 1) := by decide +kernel
theorem dM_shift_77 : decode M_M_shift.2.1 77 = .ok (.aload_n 0, 1) := by decide +kernel
theorem dM_shift_78 : decode M_M_shift.2.1 78 = .ok (.getfield 54, 3) := by decide +kernel
theorem dM_shift_81 : decode M_M_shift.2.1 81 = .ok (.sipush 150, 3) := by decide +kernel
theorem dM_shift_84 : decode M_M_shift.2.1 84 = .ok (.if_icmp .lt 6, 3) := by decide +kernel
theorem dM_shift_87 : decode M_M_shift.2.1 87 = .ok (.bipush (-5), 2) := by decide +kernel
theorem dM_shift_89 : decode M_M_shift.2.1 89 = .ok (.ireturn, 1) := by decide +kernel
theorem dM_shift_90 : decode M_M_shift.2.1 90 = .ok (.aload_n 0, 1) := by decide +kernel
theorem dM_shift_91 : decode M_M_shift.2.1 91 = .ok (.iload_n 2, 1) := by decide +kernel
theorem dM_shift_92 : decode M_M_shift.2.1 92 = .ok (.iconst 4, 1) := by decide +kernel
theorem dM_shift_93 : decode M_M_shift.2.1 93 = .ok (.idiv, 1) := by decide +kernel
theorem dM_shift_94 : decode M_M_shift.2.1 94 = .ok (.iload_n 3, 1) := by decide +kernel
theorem dM_shift_95 : decode M_M_shift.2.1 95 = .ok (.iconst 4, 1) := by decide +kernel
theorem dM_shift_96 : decode M_M_shift.2.1 96 = .ok (.idiv, 1) := by decide +kernel
theorem dM_shift_97 : decode M_M_shift.2.1 97 = .ok (.invokevirtual 131, 3) := by decide +kernel
theorem dM_shift_100 : decode M_M_shift.2.1 100 = .ok (.istore 5, 2) := by decide +kernel
theorem dM_shift_102 : decode M_M_shift.2.1 102 = .ok (.iload 5, 2) := by decide +kernel
theorem dM_shift_104 : decode M_M_shift.2.1 104 = .ok (.ifCond .ne 15, 3) := by decide +kernel
theorem dM_shift_107 : decode M_M_shift.2.1 107 = .ok (.aload_n 0, 1) := by decide +kernel
theorem dM_shift_108 : decode M_M_shift.2.1 108 = .ok (.iload_n 3, 1) := by decide +kernel
theorem dM_shift_109 : decode M_M_shift.2.1 109 = .ok (.iconst 4, 1) := by decide +kernel
theorem dM_shift_110 : decode M_M_shift.2.1 110 = .ok (.idiv, 1) := by decide +kernel
theorem dM_shift_111 : decode M_M_shift.2.1 111 = .ok (.iload_n 2, 1) := by decide +kernel
theorem dM_shift_112 : decode M_M_shift.2.1 112 = .ok (.iconst 4, 1) := by decide +kernel
theorem dM_shift_113 : decode M_M_shift.2.1 113 = .ok (.idiv, 1) := by decide +kernel
theorem dM_shift_114 : decode M_M_shift.2.1 114 = .ok (.invokevirtual 131, 3) := by decide +kernel
theorem dM_shift_117 : decode M_M_shift.2.1 117 = .ok (.istore 5, 2) := by decide +kernel
theorem dM_shift_119 : decode M_M_shift.2.1 119 = .ok (.iload 5, 2) := by decide +kernel
theorem dM_shift_121 : decode M_M_shift.2.1 121 = .ok (.ifCond .ge 6, 3) := by decide +kernel
theorem dM_shift_124 : decode M_M_shift.2.1 124 = .ok (.iload 5, 2) := by decide +kernel
theorem dM_shift_126 : decode M_M_shift.2.1 126 = .ok (.ireturn, 1) := by decide +kernel
theorem dM_shift_127 : decode M_M_shift.2.1 127 = .ok (.aload_n 0, 1) := by decide +kernel
theorem dM_shift_128 : decode M_M_shift.2.1 128 = .ok (.iload_n 2, 1) := by decide +kernel
theorem dM_shift_129 : decode M_M_shift.2.1 129 = .ok (.aload_n 0, 1) := by decide +kernel
theorem dM_shift_130 : decode M_M_shift.2.1 130 = .ok (.getfield 54, 3) := by decide +kernel
theorem dM_shift_133 : decode M_M_shift.2.1 133 = .ok (.invokevirtual 68, 3) := by decide +kernel
theorem dM_shift_136 : decode M_M_shift.2.1 136 = .ok (.istore 6, 2) := by decide +kernel
theorem dM_shift_138 : decode M_M_shift.2.1 138 = .ok (.aload_n 0, 1) := by decide +kernel
theorem dM_shift_139 : decode M_M_shift.2.1 139 = .ok (.iload_n 3, 1) := by decide +kernel
theorem dM_shift_140 : decode M_M_shift.2.1 140 = .ok (.aload_n 0, 1) := by decide +kernel
theorem dM_shift_141 : decode M_M_shift.2.1 141 = .ok (.getfield 54, 3) := by decide +kernel
theorem dM_shift_144 : decode M_M_shift.2.1 144 = .ok (.invokevirtual 68, 3) := by decide +kernel
theorem dM_shift_147 : decode M_M_shift.2.1 147 = .ok (.istore 7, 2) := by decide +kernel
theorem dM_shift_149 : decode M_M_shift.2.1 149 = .ok (.iload 6, 2) := by decide +kernel
theorem dM_shift_151 : decode M_M_shift.2.1 151 = .ok (.iload 4, 2) := by decide +kernel
theorem dM_shift_153 : decode M_M_shift.2.1 153 = .ok (.if_icmp .lt 14, 3) := by decide +kernel
theorem dM_shift_156 : decode M_M_shift.2.1 156 = .ok (.iload 7, 2) := by decide +kernel
theorem dM_shift_158 : decode M_M_shift.2.1 158 = .ok (.sipush 9999, 3) := by decide +kernel
theorem dM_shift_161 : decode M_M_shift.2.1 161 = .ok (.iload 4, 2) := by decide +kernel
theorem dM_shift_163 : decode M_M_shift.2.1 163 = .ok (.isub, 1) := by decide +kernel
theorem dM_shift_164 : decode M_M_shift.2.1 164 = .ok (.if_icmp .le 6, 3) := by decide +kernel
theorem dM_shift_167 : decode M_M_shift.2.1 167 = .ok (.bipush (-8), 2) := by decide +kernel
theorem dM_shift_169 : decode M_M_shift.2.1 169 = .ok (.ireturn, 1) := by decide +kernel
theorem dM_shift_170 : decode M_M_shift.2.1 170 = .ok (.aload_n 0, 1) := by decide +kernel
theorem dM_shift_171 : decode M_M_shift.2.1 171 = .ok (.getfield 41, 3) := by decide +kernel
theorem dM_shift_174 : decode M_M_shift.2.1 174 = .ok (.iload_n 2, 1) := by decide +kernel
theorem dM_shift_175 : decode M_M_shift.2.1 175 = .ok (.iload_n 1, 1) := by decide +kernel
theorem dM_shift_176 : decode M_M_shift.2.1 176 = .ok (.iastore, 1) := by decide +kernel
theorem dM_shift_177 : decode M_M_shift.2.1 177 = .ok (.aload_n 0, 1) := by decide +kernel
theorem dM_shift_178 : decode M_M_shift.2.1 178 = .ok (.getfield 41, 3) := by decide +kernel
theorem dM_shift_181 : decode M_M_shift.2.1 181 = .ok (.iload_n 3, 1) := by decide +kernel
theorem dM_shift_182 : decode M_M_shift.2.1 182 = .ok (.iload_n 1, 1) := by decide +kernel
theorem dM_shift_183 : decode M_M_shift.2.1 183 = .ok (.iastore, 1) := by decide +kernel
theorem dM_shift_184 : decode M_M_shift.2.1 184 = .ok (.aload_n 0, 1) := by decide +kernel
theorem dM_shift_185 : decode M_M_shift.2.1 185 = .ok (.iload_n 1, 1) := by decide +kernel
theorem dM_shift_186 : decode M_M_shift.2.1 186 = .ok (.iload_n 2, 1) := by decide +kernel
theorem dM_shift_187 : decode M_M_shift.2.1 187 = .ok (.iload 6, 2) := by decide +kernel
theorem dM_shift_189 : decode M_M_shift.2.1 189 = .ok (.iload 4, 2) := by decide +kernel
theorem dM_shift_191 : decode M_M_shift.2.1 191 = .ok (.isub, 1) := by decide +kernel
theorem dM_shift_192 : decode M_M_shift.2.1 192 = .ok (.iconst 0, 1) := by decide +kernel
theorem dM_shift_193 : decode M_M_shift.2.1 193 = .ok (.iconst 0, 1) := by decide +kernel
theorem dM_shift_194 : decode M_M_shift.2.1 194 = .ok (.invokevirtual 61, 3) := by decide +kernel
theorem dM_shift_197 : decode M_M_shift.2.1 197 = .ok (.pop, 1) := by decide +kernel
theorem dM_shift_198 : decode M_M_shift.2.1 198 = .ok (.aload_n 0, 1) := by decide +kernel
theorem dM_shift_199 : decode M_M_shift.2.1 199 = .ok (.iload_n 1, 1) := by decide +kernel
theorem dM_shift_200 : decode M_M_shift.2.1 200 = .ok (.iload_n 3, 1) := by decide +kernel
theorem dM_shift_201 : decode M_M_shift.2.1 201 = .ok (.iload 7, 2) := by decide +kernel
theorem dM_shift_203 : decode M_M_shift.2.1 203 = .ok (.iload 4, 2) := by decide +kernel
theorem dM_shift_205 : decode M_M_shift.2.1 205 = .ok (.iadd, 1) := by decide +kernel
theorem dM_shift_206 : decode M_M_shift.2.1 206 = .ok (.iconst 0, 1) := by decide +kernel
theorem dM_shift_207 : decode M_M_shift.2.1 207 = .ok (.iconst 1, 1) := by decide +kernel
theorem dM_shift_208 : decode M_M_shift.2.1 208 = .ok (.invokevirtual 61, 3) := by decide +kernel
theorem dM_shift_211 : decode M_M_shift.2.1 211 = .ok (.ireturn, 1) := by decide +kernel
theorem dM_commit_0 : decode M_M_commit.2.1 0 = .ok (.aload_n 0, 1) := by decide +kernel
theorem dM_commit_1 : decode M_M_commit.2.1 1 = .ok (.getfield 117, 3) := by decide +kernel
theorem dM_commit_4 : decode M_M_commit.2.1 4 = .ok (.ifCond .eq 6, 3) := by decide +kernel
theorem dM_commit_7 : decode M_M_commit.2.1 7 = .ok (.bipush (-2), 2) := by decide +kernel
theorem dM_commit_9 : decode M_M_commit.2.1 9 = .ok (.ireturn, 1) := by decide +kernel
theorem dM_commit_10 : decode M_M_commit.2.1 10 = .ok (.aload_n 0, 1) := by decide +kernel
theorem dM_commit_11 : decode M_M_commit.2.1 11 = .ok (.iload_n 1, 1) := by decide +kernel
theorem dM_commit_12 : decode M_M_commit.2.1 12 = .ok (.invokevirtual 125, 3) := by decide +kernel
theorem dM_commit_15 : decode M_M_commit.2.1 15 = .ok (.ifCond .eq 12, 3) := by decide +kernel
theorem dM_commit_18 : decode M_M_commit.2.1 18 = .ok (.aload_n 0, 1) := by decide +kernel
theorem dM_commit_19 : decode M_M_commit.2.1 19 = .ok (.iload_n 1, 1) := by decide +kernel
theorem dM_commit_20 : decode M_M_commit.2.1 20 = .ok (.iconst 1, 1) := by decide +kernel
theorem dM_commit_21 : decode M_M_commit.2.1 21 = .ok (.invokevirtual 71, 3) := by decide +kernel
theorem dM_commit_24 : decode M_M_commit.2.1 24 = .ok (.goto 5, 3) := by decide +kernel
theorem dM_commit_27 : decode M_M_commit.2.1 27 = .ok (.bipush (-3), 2) := by decide +kernel
theorem dM_commit_29 : decode M_M_commit.2.1 29 = .ok (.ireturn, 1) := by decide +kernel
theorem dM_abort_0 : decode M_M_abort.2.1 0 = .ok (.aload_n 0, 1) := by decide +kernel
theorem dM_abort_1 : decode M_M_abort.2.1 1 = .ok (.getfield 117, 3) := by decide +kernel
theorem dM_abort_4 : decode M_M_abort.2.1 4 = .ok (.ifCond .eq 6, 3) := by decide +kernel
theorem dM_abort_7 : decode M_M_abort.2.1 7 = .ok (.bipush (-2), 2) := by decide +kernel
theorem dM_abort_9 : decode M_M_abort.2.1 9 = .ok (.ireturn, 1) := by decide +kernel
theorem dM_abort_10 : decode M_M_abort.2.1 10 = .ok (.aload_n 0, 1) := by decide +kernel
theorem dM_abort_11 : decode M_M_abort.2.1 11 = .ok (.iload_n 1, 1) := by decide +kernel
theorem dM_abort_12 : decode M_M_abort.2.1 12 = .ok (.invokevirtual 125, 3) := by decide +kernel
theorem dM_abort_15 : decode M_M_abort.2.1 15 = .ok (.ifCond .eq 11, 3) := by decide +kernel
theorem dM_abort_18 : decode M_M_abort.2.1 18 = .ok (.aload_n 0, 1) := by decide +kernel
theorem dM_abort_19 : decode M_M_abort.2.1 19 = .ok (.iload_n 1, 1) := by decide +kernel
theorem dM_abort_20 : decode M_M_abort.2.1 20 = .ok (.invokevirtual 134, 3) := by decide +kernel
theorem dM_abort_23 : decode M_M_abort.2.1 23 = .ok (.goto 5, 3) := by decide +kernel
theorem dM_abort_26 : decode M_M_abort.2.1 26 = .ok (.bipush (-3), 2) := by decide +kernel
theorem dM_abort_28 : decode M_M_abort.2.1 28 = .ok (.ireturn, 1) := by decide +kernel
theorem dM_status_0 : decode M_M_status.2.1 0 = .ok (.iload_n 1, 1) := by decide +kernel
theorem dM_status_1 : decode M_M_status.2.1 1 = .ok (.iconst 1, 1) := by decide +kernel
theorem dM_status_2 : decode M_M_status.2.1 2 = .ok (.if_icmp .lt 11, 3) := by decide +kernel
theorem dM_status_5 : decode M_M_status.2.1 5 = .ok (.iload_n 1, 1) := by decide +kernel
theorem dM_status_6 : decode M_M_status.2.1 6 = .ok (.aload_n 0, 1) := by decide +kernel
theorem dM_status_7 : decode M_M_status.2.1 7 = .ok (.getfield 50, 3) := by decide +kernel
theorem dM_status_10 : decode M_M_status.2.1 10 = .ok (.if_icmp .le 5, 3) := by decide +kernel
theorem dM_status_13 : decode M_M_status.2.1 13 = .ok (.iconst 0, 1) := by decide +kernel
theorem dM_status_14 : decode M_M_status.2.1 14 = .ok (.ireturn, 1) := by decide +kernel
theorem dM_status_15 : decode M_M_status.2.1 15 = .ok (.aload_n 0, 1) := by decide +kernel
theorem dM_status_16 : decode M_M_status.2.1 16 = .ok (.getfield 38, 3) := by decide +kernel
theorem dM_status_19 : decode M_M_status.2.1 19 = .ok (.iload_n 1, 1) := by decide +kernel
theorem dM_status_20 : decode M_M_status.2.1 20 = .ok (.baload, 1) := by decide +kernel
theorem dM_status_21 : decode M_M_status.2.1 21 = .ok (.ifCond .eq 5, 3) := by decide +kernel
theorem dM_status_24 : decode M_M_status.2.1 24 = .ok (.iconst 1, 1) := by decide +kernel
theorem dM_status_25 : decode M_M_status.2.1 25 = .ok (.ireturn, 1) := by decide +kernel
theorem dM_status_26 : decode M_M_status.2.1 26 = .ok (.aload_n 0, 1) := by decide +kernel
theorem dM_status_27 : decode M_M_status.2.1 27 = .ok (.iload_n 1, 1) := by decide +kernel
theorem dM_status_28 : decode M_M_status.2.1 28 = .ok (.aload_n 0, 1) := by decide +kernel
theorem dM_status_29 : decode M_M_status.2.1 29 = .ok (.getfield 54, 3) := by decide +kernel
theorem dM_status_32 : decode M_M_status.2.1 32 = .ok (.invokevirtual 137, 3) := by decide +kernel
theorem dM_status_35 : decode M_M_status.2.1 35 = .ok (.istore_n 2, 1) := by decide +kernel
theorem dM_status_36 : decode M_M_status.2.1 36 = .ok (.iload_n 2, 1) := by decide +kernel
theorem dM_status_37 : decode M_M_status.2.1 37 = .ok (.ifCond .ne 7, 3) := by decide +kernel
theorem dM_status_40 : decode M_M_status.2.1 40 = .ok (.iconst 5, 1) := by decide +kernel
theorem dM_status_41 : decode M_M_status.2.1 41 = .ok (.goto 30, 3) := by decide +kernel
theorem dM_status_44 : decode M_M_status.2.1 44 = .ok (.aload_n 0, 1) := by decide +kernel
theorem dM_status_45 : decode M_M_status.2.1 45 = .ok (.getfield 19, 3) := by decide +kernel
theorem dM_status_48 : decode M_M_status.2.1 48 = .ok (.iload_n 2, 1) := by decide +kernel
theorem dM_status_49 : decode M_M_status.2.1 49 = .ok (.iaload, 1) := by decide +kernel
theorem dM_status_50 : decode M_M_status.2.1 50 = .ok (.iconst 2, 1) := by decide +kernel
theorem dM_status_51 : decode M_M_status.2.1 51 = .ok (.if_icmp .ne 7, 3) := by decide +kernel
theorem dM_status_54 : decode M_M_status.2.1 54 = .ok (.iconst 4, 1) := by decide +kernel
theorem dM_status_55 : decode M_M_status.2.1 55 = .ok (.goto 16, 3) := by decide +kernel
theorem dM_status_58 : decode M_M_status.2.1 58 = .ok (.iload_n 2, 1) := by decide +kernel
theorem dM_status_59 : decode M_M_status.2.1 59 = .ok (.aload_n 0, 1) := by decide +kernel
theorem dM_status_60 : decode M_M_status.2.1 60 = .ok (.getfield 94, 3) := by decide +kernel
theorem dM_status_63 : decode M_M_status.2.1 63 = .ok (.if_icmp .le 7, 3) := by decide +kernel
theorem dM_status_66 : decode M_M_status.2.1 66 = .ok (.iconst 2, 1) := by decide +kernel
theorem dM_status_67 : decode M_M_status.2.1 67 = .ok (.goto 4, 3) := by decide +kernel
theorem dM_status_70 : decode M_M_status.2.1 70 = .ok (.iconst 3, 1) := by decide +kernel
theorem dM_status_71 : decode M_M_status.2.1 71 = .ok (.ireturn, 1) := by decide +kernel
theorem dM_deliver_0 : decode M_M_deliver.2.1 0 = .ok (.iload_n 1, 1) := by decide +kernel
theorem dM_deliver_1 : decode M_M_deliver.2.1 1 = .ok (.iconst 1, 1) := by decide +kernel
theorem dM_deliver_2 : decode M_M_deliver.2.1 2 = .ok (.if_icmp .lt 20, 3) := by decide +kernel
theorem dM_deliver_5 : decode M_M_deliver.2.1 5 = .ok (.iload_n 1, 1) := by decide +kernel
theorem dM_deliver_6 : decode M_M_deliver.2.1 6 = .ok (.aload_n 0, 1) := by decide +kernel
theorem dM_deliver_7 : decode M_M_deliver.2.1 7 = .ok (.getfield 54, 3) := by decide +kernel
theorem dM_deliver_10 : decode M_M_deliver.2.1 10 = .ok (.if_icmp .gt 12, 3) := by decide +kernel
theorem dM_deliver_13 : decode M_M_deliver.2.1 13 = .ok (.iload_n 2, 1) := by decide +kernel
theorem dM_deliver_14 : decode M_M_deliver.2.1 14 = .ok (.ifCond .lt 8, 3) := by decide +kernel
theorem dM_deliver_17 : decode M_M_deliver.2.1 17 = .ok (.iload_n 2, 1) := by decide +kernel
theorem dM_deliver_18 : decode M_M_deliver.2.1 18 = .ok (.iconst 5, 1) := by decide +kernel
theorem dM_deliver_19 : decode M_M_deliver.2.1 19 = .ok (.if_icmp .le 5, 3) := by decide +kernel
theorem dM_deliver_22 : decode M_M_deliver.2.1 22 = .ok (.iconst (-1), 1) := by decide +kernel
theorem dM_deliver_23 : decode M_M_deliver.2.1 23 = .ok (.ireturn, 1) := by decide +kernel
theorem dM_deliver_24 : decode M_M_deliver.2.1 24 = .ok (.bipush 6, 2) := by decide +kernel
theorem dM_deliver_26 : decode M_M_deliver.2.1 26 = .ok (.aload_n 0, 1) := by decide +kernel
theorem dM_deliver_27 : decode M_M_deliver.2.1 27 = .ok (.iload_n 1, 1) := by decide +kernel
theorem dM_deliver_28 : decode M_M_deliver.2.1 28 = .ok (.invokevirtual 74, 3) := by decide +kernel
theorem dM_deliver_31 : decode M_M_deliver.2.1 31 = .ok (.imul, 1) := by decide +kernel
theorem dM_deliver_32 : decode M_M_deliver.2.1 32 = .ok (.iload_n 2, 1) := by decide +kernel
theorem dM_deliver_33 : decode M_M_deliver.2.1 33 = .ok (.iadd, 1) := by decide +kernel
theorem dM_deliver_34 : decode M_M_deliver.2.1 34 = .ok (.istore_n 3, 1) := by decide +kernel
theorem dM_deliver_35 : decode M_M_deliver.2.1 35 = .ok (.aload_n 0, 1) := by decide +kernel
theorem dM_deliver_36 : decode M_M_deliver.2.1 36 = .ok (.getfield 29, 3) := by decide +kernel
theorem dM_deliver_39 : decode M_M_deliver.2.1 39 = .ok (.iload_n 3, 1) := by decide +kernel
theorem dM_deliver_40 : decode M_M_deliver.2.1 40 = .ok (.iaload, 1) := by decide +kernel
theorem dM_deliver_41 : decode M_M_deliver.2.1 41 = .ok (.ifCond .eq 5, 3) := by decide +kernel
theorem dM_deliver_44 : decode M_M_deliver.2.1 44 = .ok (.iconst 0, 1) := by decide +kernel
theorem dM_deliver_45 : decode M_M_deliver.2.1 45 = .ok (.ireturn, 1) := by decide +kernel
theorem dM_deliver_46 : decode M_M_deliver.2.1 46 = .ok (.aload_n 0, 1) := by decide +kernel
theorem dM_deliver_47 : decode M_M_deliver.2.1 47 = .ok (.getfield 26, 3) := by decide +kernel
theorem dM_deliver_50 : decode M_M_deliver.2.1 50 = .ok (.sipush 200, 3) := by decide +kernel
theorem dM_deliver_53 : decode M_M_deliver.2.1 53 = .ok (.iload_n 3, 1) := by decide +kernel
theorem dM_deliver_54 : decode M_M_deliver.2.1 54 = .ok (.imul, 1) := by decide +kernel
theorem dM_deliver_55 : decode M_M_deliver.2.1 55 = .ok (.iload_n 1, 1) := by decide +kernel
theorem dM_deliver_56 : decode M_M_deliver.2.1 56 = .ok (.iadd, 1) := by decide +kernel
theorem dM_deliver_57 : decode M_M_deliver.2.1 57 = .ok (.baload, 1) := by decide +kernel
theorem dM_deliver_58 : decode M_M_deliver.2.1 58 = .ok (.istore 4, 2) := by decide +kernel
theorem dM_deliver_60 : decode M_M_deliver.2.1 60 = .ok (.aload_n 0, 1) := by decide +kernel
theorem dM_deliver_61 : decode M_M_deliver.2.1 61 = .ok (.getfield 26, 3) := by decide +kernel
theorem dM_deliver_64 : decode M_M_deliver.2.1 64 = .ok (.sipush 200, 3) := by decide +kernel
theorem dM_deliver_67 : decode M_M_deliver.2.1 67 = .ok (.iload_n 3, 1) := by decide +kernel
theorem dM_deliver_68 : decode M_M_deliver.2.1 68 = .ok (.imul, 1) := by decide +kernel
theorem dM_deliver_69 : decode M_M_deliver.2.1 69 = .ok (.iload_n 1, 1) := by decide +kernel
theorem dM_deliver_70 : decode M_M_deliver.2.1 70 = .ok (.iadd, 1) := by decide +kernel
theorem dM_deliver_71 : decode M_M_deliver.2.1 71 = .ok (.iconst 1, 1) := by decide +kernel
theorem dM_deliver_72 : decode M_M_deliver.2.1 72 = .ok (.bastore, 1) := by decide +kernel
theorem dM_deliver_73 : decode M_M_deliver.2.1 73 = .ok (.aload_n 0, 1) := by decide +kernel
theorem dM_deliver_74 : decode M_M_deliver.2.1 74 = .ok (.getfield 117, 3) := by decide +kernel
theorem dM_deliver_77 : decode M_M_deliver.2.1 77 = .ok (.ifCond .ne 8, 3) := by decide +kernel
theorem dM_deliver_80 : decode M_M_deliver.2.1 80 = .ok (.aload_n 0, 1) := by decide +kernel
theorem dM_deliver_81 : decode M_M_deliver.2.1 81 = .ok (.iload_n 3, 1) := by decide +kernel
theorem dM_deliver_82 : decode M_M_deliver.2.1 82 = .ok (.invokevirtual 140, 3) := by decide +kernel
theorem dM_deliver_85 : decode M_M_deliver.2.1 85 = .ok (.iload 4, 2) := by decide +kernel
theorem dM_deliver_87 : decode M_M_deliver.2.1 87 = .ok (.ifCond .eq 7, 3) := by decide +kernel
theorem dM_deliver_90 : decode M_M_deliver.2.1 90 = .ok (.iconst 1, 1) := by decide +kernel
theorem dM_deliver_91 : decode M_M_deliver.2.1 91 = .ok (.goto 4, 3) := by decide +kernel
theorem dM_deliver_94 : decode M_M_deliver.2.1 94 = .ok (.iconst 2, 1) := by decide +kernel
theorem dM_deliver_95 : decode M_M_deliver.2.1 95 = .ok (.ireturn, 1) := by decide +kernel
theorem dM_join_0 : decode M_M_join.2.1 0 = .ok (.iconst 0, 1) := by decide +kernel
theorem dM_join_1 : decode M_M_join.2.1 1 = .ok (.istore_n 3, 1) := by decide +kernel
theorem dM_join_2 : decode M_M_join.2.1 2 = .ok (.iconst 1, 1) := by decide +kernel
theorem dM_join_3 : decode M_M_join.2.1 3 = .ok (.istore 4, 2) := by decide +kernel
theorem dM_join_5 : decode M_M_join.2.1 5 = .ok (.iload 4, 2) := by decide +kernel
theorem dM_join_7 : decode M_M_join.2.1 7 = .ok (.aload_n 0, 1) := by decide +kernel
theorem dM_join_8 : decode M_M_join.2.1 8 = .ok (.getfield 54, 3) := by decide +kernel
theorem dM_join_11 : decode M_M_join.2.1 11 = .ok (.if_icmp .gt 58, 3) := by decide +kernel
theorem dM_join_14 : decode M_M_join.2.1 14 = .ok (.aload_n 0, 1) := by decide +kernel
theorem dM_join_15 : decode M_M_join.2.1 15 = .ok (.getfield 26, 3) := by decide +kernel
theorem dM_join_18 : decode M_M_join.2.1 18 = .ok (.sipush 200, 3) := by decide +kernel
theorem dM_join_21 : decode M_M_join.2.1 21 = .ok (.iload_n 1, 1) := by decide +kernel
theorem dM_join_22 : decode M_M_join.2.1 22 = .ok (.imul, 1) := by decide +kernel
theorem dM_join_23 : decode M_M_join.2.1 23 = .ok (.iload 4, 2) := by decide +kernel
theorem dM_join_25 : decode M_M_join.2.1 25 = .ok (.iadd, 1) := by decide +kernel
theorem dM_join_26 : decode M_M_join.2.1 26 = .ok (.baload, 1) := by decide +kernel
theorem dM_join_27 : decode M_M_join.2.1 27 = .ok (.ifCond .eq 36, 3) := by decide +kernel
theorem dM_join_30 : decode M_M_join.2.1 30 = .ok (.aload_n 0, 1) := by decide +kernel
theorem dM_join_31 : decode M_M_join.2.1 31 = .ok (.getfield 26, 3) := by decide +kernel
theorem dM_join_34 : decode M_M_join.2.1 34 = .ok (.sipush 200, 3) := by decide +kernel
theorem dM_join_37 : decode M_M_join.2.1 37 = .ok (.iload_n 2, 1) := by decide +kernel
theorem dM_join_38 : decode M_M_join.2.1 38 = .ok (.imul, 1) := by decide +kernel
theorem dM_join_39 : decode M_M_join.2.1 39 = .ok (.iload 4, 2) := by decide +kernel
theorem dM_join_41 : decode M_M_join.2.1 41 = .ok (.iadd, 1) := by decide +kernel
theorem dM_join_42 : decode M_M_join.2.1 42 = .ok (.baload, 1) := by decide +kernel
theorem dM_join_43 : decode M_M_join.2.1 43 = .ok (.ifCond .ne 20, 3) := by decide +kernel
theorem dM_join_46 : decode M_M_join.2.1 46 = .ok (.aload_n 0, 1) := by decide +kernel
theorem dM_join_47 : decode M_M_join.2.1 47 = .ok (.getfield 26, 3) := by decide +kernel
theorem dM_join_50 : decode M_M_join.2.1 50 = .ok (.sipush 200, 3) := by decide +kernel
theorem dM_join_53 : decode M_M_join.2.1 53 = .ok (.iload_n 2, 1) := by decide +kernel
theorem dM_join_54 : decode M_M_join.2.1 54 = .ok (.imul, 1) := by decide +kernel
theorem dM_join_55 : decode M_M_join.2.1 55 = .ok (.iload 4, 2) := by decide +kernel
theorem dM_join_57 : decode M_M_join.2.1 57 = .ok (.iadd, 1) := by decide +kernel
theorem dM_join_58 : decode M_M_join.2.1 58 = .ok (.iconst 1, 1) := by decide +kernel
theorem dM_join_59 : decode M_M_join.2.1 59 = .ok (.bastore, 1) := by decide +kernel
theorem dM_join_60 : decode M_M_join.2.1 60 = .ok (.iinc 3 1, 3) := by decide +kernel
theorem dM_join_63 : decode M_M_join.2.1 63 = .ok (.iinc 4 1, 3) := by decide +kernel
theorem dM_join_66 : decode M_M_join.2.1 66 = .ok (.goto (-61), 3) := by decide +kernel
theorem dM_join_69 : decode M_M_join.2.1 69 = .ok (.aload_n 0, 1) := by decide +kernel
theorem dM_join_70 : decode M_M_join.2.1 70 = .ok (.getfield 32, 3) := by decide +kernel
theorem dM_join_73 : decode M_M_join.2.1 73 = .ok (.iload_n 2, 1) := by decide +kernel
theorem dM_join_74 : decode M_M_join.2.1 74 = .ok (.aload_n 0, 1) := by decide +kernel
theorem dM_join_75 : decode M_M_join.2.1 75 = .ok (.getfield 32, 3) := by decide +kernel
theorem dM_join_78 : decode M_M_join.2.1 78 = .ok (.iload_n 1, 1) := by decide +kernel
theorem dM_join_79 : decode M_M_join.2.1 79 = .ok (.iaload, 1) := by decide +kernel
theorem dM_join_80 : decode M_M_join.2.1 80 = .ok (.aload_n 0, 1) := by decide +kernel
theorem dM_join_81 : decode M_M_join.2.1 81 = .ok (.getfield 32, 3) := by decide +kernel
theorem dM_join_84 : decode M_M_join.2.1 84 = .ok (.iload_n 2, 1) := by decide +kernel
theorem dM_join_85 : decode M_M_join.2.1 85 = .ok (.iaload, 1) := by decide +kernel
theorem dM_join_86 : decode M_M_join.2.1 86 = .ok (.if_icmp .le 12, 3) := by decide +kernel
theorem dM_join_89 : decode M_M_join.2.1 89 = .ok (.aload_n 0, 1) := by decide +kernel
theorem dM_join_90 : decode M_M_join.2.1 90 = .ok (.getfield 32, 3) := by decide +kernel
theorem dM_join_93 : decode M_M_join.2.1 93 = .ok (.iload_n 1, 1) := by decide +kernel
theorem dM_join_94 : decode M_M_join.2.1 94 = .ok (.iaload, 1) := by decide +kernel
theorem dM_join_95 : decode M_M_join.2.1 95 = .ok (.goto 9, 3) := by decide +kernel
theorem dM_join_98 : decode M_M_join.2.1 98 = .ok (.aload_n 0, 1) := by decide +kernel
theorem dM_join_99 : decode M_M_join.2.1 99 = .ok (.getfield 32, 3) := by decide +kernel
theorem dM_join_102 : decode M_M_join.2.1 102 = .ok (.iload_n 2, 1) := by decide +kernel
theorem dM_join_103 : decode M_M_join.2.1 103 = .ok (.iaload, 1) := by decide +kernel
theorem dM_join_104 : decode M_M_join.2.1 104 = .ok (.iastore, 1) := by decide +kernel
theorem dM_join_105 : decode M_M_join.2.1 105 = .ok (.iload_n 3, 1) := by decide +kernel
theorem dM_join_106 : decode M_M_join.2.1 106 = .ok (.ireturn, 1) := by decide +kernel
theorem dM_gossip_0 : decode M_M_gossip.2.1 0 = .ok (.iload_n 1, 1) := by decide +kernel
theorem dM_gossip_1 : decode M_M_gossip.2.1 1 = .ok (.iload_n 2, 1) := by decide +kernel
theorem dM_gossip_2 : decode M_M_gossip.2.1 2 = .ok (.invokestatic 143, 3) := by decide +kernel
theorem dM_gossip_5 : decode M_M_gossip.2.1 5 = .ok (.ifCond .eq 16, 3) := by decide +kernel
theorem dM_gossip_8 : decode M_M_gossip.2.1 8 = .ok (.iload_n 1, 1) := by decide +kernel
theorem dM_gossip_9 : decode M_M_gossip.2.1 9 = .ok (.iload_n 3, 1) := by decide +kernel
theorem dM_gossip_10 : decode M_M_gossip.2.1 10 = .ok (.invokestatic 143, 3) := by decide +kernel
theorem dM_gossip_13 : decode M_M_gossip.2.1 13 = .ok (.ifCond .eq 8, 3) := by decide +kernel
theorem dM_gossip_16 : decode M_M_gossip.2.1 16 = .ok (.iload_n 2, 1) := by decide +kernel
theorem dM_gossip_17 : decode M_M_gossip.2.1 17 = .ok (.iload_n 3, 1) := by decide +kernel
theorem dM_gossip_18 : decode M_M_gossip.2.1 18 = .ok (.if_icmp .ne 5, 3) := by decide +kernel
theorem dM_gossip_21 : decode M_M_gossip.2.1 21 = .ok (.iconst (-1), 1) := by decide +kernel
theorem dM_gossip_22 : decode M_M_gossip.2.1 22 = .ok (.ireturn, 1) := by decide +kernel
theorem dM_gossip_23 : decode M_M_gossip.2.1 23 = .ok (.aload_n 0, 1) := by decide +kernel
theorem dM_gossip_24 : decode M_M_gossip.2.1 24 = .ok (.getfield 29, 3) := by decide +kernel
theorem dM_gossip_27 : decode M_M_gossip.2.1 27 = .ok (.bipush 6, 2) := by decide +kernel
theorem dM_gossip_29 : decode M_M_gossip.2.1 29 = .ok (.iload_n 1, 1) := by decide +kernel
theorem dM_gossip_30 : decode M_M_gossip.2.1 30 = .ok (.imul, 1) := by decide +kernel
theorem dM_gossip_31 : decode M_M_gossip.2.1 31 = .ok (.iload_n 2, 1) := by decide +kernel
theorem dM_gossip_32 : decode M_M_gossip.2.1 32 = .ok (.iadd, 1) := by decide +kernel
theorem dM_gossip_33 : decode M_M_gossip.2.1 33 = .ok (.iaload, 1) := by decide +kernel
theorem dM_gossip_34 : decode M_M_gossip.2.1 34 = .ok (.ifCond .ne 17, 3) := by decide +kernel
theorem dM_gossip_37 : decode M_M_gossip.2.1 37 = .ok (.aload_n 0, 1) := by decide +kernel
theorem dM_gossip_38 : decode M_M_gossip.2.1 38 = .ok (.getfield 29, 3) := by decide +kernel
theorem dM_gossip_41 : decode M_M_gossip.2.1 41 = .ok (.bipush 6, 2) := by decide +kernel
theorem dM_gossip_43 : decode M_M_gossip.2.1 43 = .ok (.iload_n 1, 1) := by decide +kernel
theorem dM_gossip_44 : decode M_M_gossip.2.1 44 = .ok (.imul, 1) := by decide +kernel
theorem dM_gossip_45 : decode M_M_gossip.2.1 45 = .ok (.iload_n 3, 1) := by decide +kernel
theorem dM_gossip_46 : decode M_M_gossip.2.1 46 = .ok (.iadd, 1) := by decide +kernel
theorem dM_gossip_47 : decode M_M_gossip.2.1 47 = .ok (.iaload, 1) := by decide +kernel
theorem dM_gossip_48 : decode M_M_gossip.2.1 48 = .ok (.ifCond .eq 6, 3) := by decide +kernel
theorem dM_gossip_51 : decode M_M_gossip.2.1 51 = .ok (.bipush (-7), 2) := by decide +kernel
theorem dM_gossip_53 : decode M_M_gossip.2.1 53 = .ok (.ireturn, 1) := by decide +kernel
theorem dM_gossip_54 : decode M_M_gossip.2.1 54 = .ok (.aload_n 0, 1) := by decide +kernel
theorem dM_gossip_55 : decode M_M_gossip.2.1 55 = .ok (.bipush 6, 2) := by decide +kernel
theorem dM_gossip_57 : decode M_M_gossip.2.1 57 = .ok (.iload_n 1, 1) := by decide +kernel
theorem dM_gossip_58 : decode M_M_gossip.2.1 58 = .ok (.imul, 1) := by decide +kernel
theorem dM_gossip_59 : decode M_M_gossip.2.1 59 = .ok (.iload_n 2, 1) := by decide +kernel
theorem dM_gossip_60 : decode M_M_gossip.2.1 60 = .ok (.iadd, 1) := by decide +kernel
theorem dM_gossip_61 : decode M_M_gossip.2.1 61 = .ok (.bipush 6, 2) := by decide +kernel
theorem dM_gossip_63 : decode M_M_gossip.2.1 63 = .ok (.iload_n 1, 1) := by decide +kernel
theorem dM_gossip_64 : decode M_M_gossip.2.1 64 = .ok (.imul, 1) := by decide +kernel
theorem dM_gossip_65 : decode M_M_gossip.2.1 65 = .ok (.iload_n 3, 1) := by decide +kernel
theorem dM_gossip_66 : decode M_M_gossip.2.1 66 = .ok (.iadd, 1) := by decide +kernel
theorem dM_gossip_67 : decode M_M_gossip.2.1 67 = .ok (.invokevirtual 146, 3) := by decide +kernel
theorem dM_gossip_70 : decode M_M_gossip.2.1 70 = .ok (.ireturn, 1) := by decide +kernel
theorem dM_report_0 : decode M_M_report.2.1 0 = .ok (.iload_n 1, 1) := by decide +kernel
theorem dM_report_1 : decode M_M_report.2.1 1 = .ok (.iload_n 2, 1) := by decide +kernel
theorem dM_report_2 : decode M_M_report.2.1 2 = .ok (.invokestatic 143, 3) := by decide +kernel
theorem dM_report_5 : decode M_M_report.2.1 5 = .ok (.ifCond .ne 5, 3) := by decide +kernel
theorem dM_report_8 : decode M_M_report.2.1 8 = .ok (.iconst (-1), 1) := by decide +kernel
theorem dM_report_9 : decode M_M_report.2.1 9 = .ok (.ireturn, 1) := by decide +kernel
theorem dM_report_10 : decode M_M_report.2.1 10 = .ok (.aload_n 0, 1) := by decide +kernel
theorem dM_report_11 : decode M_M_report.2.1 11 = .ok (.getfield 117, 3) := by decide +kernel
theorem dM_report_14 : decode M_M_report.2.1 14 = .ok (.ifCond .eq 6, 3) := by decide +kernel
theorem dM_report_17 : decode M_M_report.2.1 17 = .ok (.bipush (-2), 2) := by decide +kernel
theorem dM_report_19 : decode M_M_report.2.1 19 = .ok (.ireturn, 1) := by decide +kernel
theorem dM_report_20 : decode M_M_report.2.1 20 = .ok (.aload_n 0, 1) := by decide +kernel
theorem dM_report_21 : decode M_M_report.2.1 21 = .ok (.getfield 29, 3) := by decide +kernel
theorem dM_report_24 : decode M_M_report.2.1 24 = .ok (.bipush 6, 2) := by decide +kernel
theorem dM_report_26 : decode M_M_report.2.1 26 = .ok (.iload_n 1, 1) := by decide +kernel
theorem dM_report_27 : decode M_M_report.2.1 27 = .ok (.imul, 1) := by decide +kernel
theorem dM_report_28 : decode M_M_report.2.1 28 = .ok (.iload_n 2, 1) := by decide +kernel
theorem dM_report_29 : decode M_M_report.2.1 29 = .ok (.iadd, 1) := by decide +kernel
theorem dM_report_30 : decode M_M_report.2.1 30 = .ok (.iaload, 1) := by decide +kernel
theorem dM_report_31 : decode M_M_report.2.1 31 = .ok (.ifCond .eq 6, 3) := by decide +kernel
theorem dM_report_34 : decode M_M_report.2.1 34 = .ok (.bipush (-7), 2) := by decide +kernel
theorem dM_report_36 : decode M_M_report.2.1 36 = .ok (.ireturn, 1) := by decide +kernel
theorem dM_report_37 : decode M_M_report.2.1 37 = .ok (.aload_n 0, 1) := by decide +kernel
theorem dM_report_38 : decode M_M_report.2.1 38 = .ok (.bipush 6, 2) := by decide +kernel
theorem dM_report_40 : decode M_M_report.2.1 40 = .ok (.iload_n 1, 1) := by decide +kernel
theorem dM_report_41 : decode M_M_report.2.1 41 = .ok (.imul, 1) := by decide +kernel
theorem dM_report_42 : decode M_M_report.2.1 42 = .ok (.iload_n 2, 1) := by decide +kernel
theorem dM_report_43 : decode M_M_report.2.1 43 = .ok (.iadd, 1) := by decide +kernel
theorem dM_report_44 : decode M_M_report.2.1 44 = .ok (.invokevirtual 140, 3) := by decide +kernel
theorem dM_report_47 : decode M_M_report.2.1 47 = .ok (.aload_n 0, 1) := by decide +kernel
theorem dM_report_48 : decode M_M_report.2.1 48 = .ok (.getfield 35, 3) := by decide +kernel
theorem dM_report_51 : decode M_M_report.2.1 51 = .ok (.bipush 6, 2) := by decide +kernel
theorem dM_report_53 : decode M_M_report.2.1 53 = .ok (.iload_n 1, 1) := by decide +kernel
theorem dM_report_54 : decode M_M_report.2.1 54 = .ok (.imul, 1) := by decide +kernel
theorem dM_report_55 : decode M_M_report.2.1 55 = .ok (.iload_n 2, 1) := by decide +kernel
theorem dM_report_56 : decode M_M_report.2.1 56 = .ok (.iadd, 1) := by decide +kernel
theorem dM_report_57 : decode M_M_report.2.1 57 = .ok (.iaload, 1) := by decide +kernel
theorem dM_report_58 : decode M_M_report.2.1 58 = .ok (.ireturn, 1) := by decide +kernel
theorem dM_live_0 : decode M_M_live.2.1 0 = .ok (.iconst 0, 1) := by decide +kernel
theorem dM_live_1 : decode M_M_live.2.1 1 = .ok (.istore_n 2, 1) := by decide +kernel
theorem dM_live_2 : decode M_M_live.2.1 2 = .ok (.bipush 6, 2) := by decide +kernel
theorem dM_live_4 : decode M_M_live.2.1 4 = .ok (.iload_n 1, 1) := by decide +kernel
theorem dM_live_5 : decode M_M_live.2.1 5 = .ok (.imul, 1) := by decide +kernel
theorem dM_live_6 : decode M_M_live.2.1 6 = .ok (.istore_n 3, 1) := by decide +kernel
theorem dM_live_7 : decode M_M_live.2.1 7 = .ok (.iload_n 3, 1) := by decide +kernel
theorem dM_live_8 : decode M_M_live.2.1 8 = .ok (.bipush 6, 2) := by decide +kernel
theorem dM_live_10 : decode M_M_live.2.1 10 = .ok (.iload_n 1, 1) := by decide +kernel
theorem dM_live_11 : decode M_M_live.2.1 11 = .ok (.imul, 1) := by decide +kernel
theorem dM_live_12 : decode M_M_live.2.1 12 = .ok (.bipush 6, 2) := by decide +kernel
theorem dM_live_14 : decode M_M_live.2.1 14 = .ok (.iadd, 1) := by decide +kernel
theorem dM_live_15 : decode M_M_live.2.1 15 = .ok (.if_icmp .ge 26, 3) := by decide +kernel
theorem dM_live_18 : decode M_M_live.2.1 18 = .ok (.iload_n 2, 1) := by decide +kernel
theorem dM_live_19 : decode M_M_live.2.1 19 = .ok (.aload_n 0, 1) := by decide +kernel
theorem dM_live_20 : decode M_M_live.2.1 20 = .ok (.getfield 29, 3) := by decide +kernel
theorem dM_live_23 : decode M_M_live.2.1 23 = .ok (.iload_n 3, 1) := by decide +kernel
theorem dM_live_24 : decode M_M_live.2.1 24 = .ok (.iaload, 1) := by decide +kernel
theorem dM_live_25 : decode M_M_live.2.1 25 = .ok (.ifCond .ne 7, 3) := by decide +kernel
theorem dM_live_28 : decode M_M_live.2.1 28 = .ok (.iconst 1, 1) := by decide +kernel
theorem dM_live_29 : decode M_M_live.2.1 29 = .ok (.goto 4, 3) := by decide +kernel
theorem dM_live_32 : decode M_M_live.2.1 32 = .ok (.iconst 0, 1) := by decide +kernel
theorem dM_live_33 : decode M_M_live.2.1 33 = .ok (.iadd, 1) := by decide +kernel
theorem dM_live_34 : decode M_M_live.2.1 34 = .ok (.istore_n 2, 1) := by decide +kernel
theorem dM_live_35 : decode M_M_live.2.1 35 = .ok (.iinc 3 1, 3) := by decide +kernel
theorem dM_live_38 : decode M_M_live.2.1 38 = .ok (.goto (-31), 3) := by decide +kernel
theorem dM_live_41 : decode M_M_live.2.1 41 = .ok (.iload_n 2, 1) := by decide +kernel
theorem dM_live_42 : decode M_M_live.2.1 42 = .ok (.ireturn, 1) := by decide +kernel
theorem dM_fault_0 : decode M_M_fault.2.1 0 = .ok (.iload_n 1, 1) := by decide +kernel
theorem dM_fault_1 : decode M_M_fault.2.1 1 = .ok (.iload_n 2, 1) := by decide +kernel
theorem dM_fault_2 : decode M_M_fault.2.1 2 = .ok (.invokestatic 143, 3) := by decide +kernel
theorem dM_fault_5 : decode M_M_fault.2.1 5 = .ok (.ifCond .eq 12, 3) := by decide +kernel
theorem dM_fault_8 : decode M_M_fault.2.1 8 = .ok (.iload_n 3, 1) := by decide +kernel
theorem dM_fault_9 : decode M_M_fault.2.1 9 = .ok (.ifCond .lt 8, 3) := by decide +kernel
theorem dM_fault_12 : decode M_M_fault.2.1 12 = .ok (.iload_n 3, 1) := by decide +kernel
theorem dM_fault_13 : decode M_M_fault.2.1 13 = .ok (.iconst 3, 1) := by decide +kernel
theorem dM_fault_14 : decode M_M_fault.2.1 14 = .ok (.if_icmp .le 5, 3) := by decide +kernel
theorem dM_fault_17 : decode M_M_fault.2.1 17 = .ok (.iconst 0, 1) := by decide +kernel
theorem dM_fault_18 : decode M_M_fault.2.1 18 = .ok (.ireturn, 1) := by decide +kernel
theorem dM_fault_19 : decode M_M_fault.2.1 19 = .ok (.bipush 6, 2) := by decide +kernel
theorem dM_fault_21 : decode M_M_fault.2.1 21 = .ok (.iload_n 1, 1) := by decide +kernel
theorem dM_fault_22 : decode M_M_fault.2.1 22 = .ok (.imul, 1) := by decide +kernel
theorem dM_fault_23 : decode M_M_fault.2.1 23 = .ok (.iload_n 2, 1) := by decide +kernel
theorem dM_fault_24 : decode M_M_fault.2.1 24 = .ok (.iadd, 1) := by decide +kernel
theorem dM_fault_25 : decode M_M_fault.2.1 25 = .ok (.istore 4, 2) := by decide +kernel
theorem dM_fault_27 : decode M_M_fault.2.1 27 = .ok (.aload_n 0, 1) := by decide +kernel
theorem dM_fault_28 : decode M_M_fault.2.1 28 = .ok (.getfield 29, 3) := by decide +kernel
theorem dM_fault_31 : decode M_M_fault.2.1 31 = .ok (.iload 4, 2) := by decide +kernel
theorem dM_fault_33 : decode M_M_fault.2.1 33 = .ok (.iaload, 1) := by decide +kernel
theorem dM_fault_34 : decode M_M_fault.2.1 34 = .ok (.istore 5, 2) := by decide +kernel
theorem dM_fault_36 : decode M_M_fault.2.1 36 = .ok (.iload_n 3, 1) := by decide +kernel
theorem dM_fault_37 : decode M_M_fault.2.1 37 = .ok (.ifCond .ne 16, 3) := by decide +kernel
theorem dM_fault_40 : decode M_M_fault.2.1 40 = .ok (.iload 5, 2) := by decide +kernel
theorem dM_fault_42 : decode M_M_fault.2.1 42 = .ok (.ifCond .ne 7, 3) := by decide +kernel
theorem dM_fault_45 : decode M_M_fault.2.1 45 = .ok (.iconst 1, 1) := by decide +kernel
theorem dM_fault_46 : decode M_M_fault.2.1 46 = .ok (.goto 65, 3) := by decide +kernel
theorem dM_fault_49 : decode M_M_fault.2.1 49 = .ok (.iconst 0, 1) := by decide +kernel
theorem dM_fault_50 : decode M_M_fault.2.1 50 = .ok (.goto 61, 3) := by decide +kernel
theorem dM_fault_53 : decode M_M_fault.2.1 53 = .ok (.iload_n 3, 1) := by decide +kernel
theorem dM_fault_54 : decode M_M_fault.2.1 54 = .ok (.iconst 1, 1) := by decide +kernel
theorem dM_fault_55 : decode M_M_fault.2.1 55 = .ok (.if_icmp .ne 17, 3) := by decide +kernel
theorem dM_fault_58 : decode M_M_fault.2.1 58 = .ok (.iload 5, 2) := by decide +kernel
theorem dM_fault_60 : decode M_M_fault.2.1 60 = .ok (.iconst 1, 1) := by decide +kernel
theorem dM_fault_61 : decode M_M_fault.2.1 61 = .ok (.if_icmp .ne 7, 3) := by decide +kernel
theorem dM_fault_64 : decode M_M_fault.2.1 64 = .ok (.iconst 1, 1) := by decide +kernel
theorem dM_fault_65 : decode M_M_fault.2.1 65 = .ok (.goto 46, 3) := by decide +kernel
theorem dM_fault_68 : decode M_M_fault.2.1 68 = .ok (.iconst 0, 1) := by decide +kernel
theorem dM_fault_69 : decode M_M_fault.2.1 69 = .ok (.goto 42, 3) := by decide +kernel
theorem dM_fault_72 : decode M_M_fault.2.1 72 = .ok (.iload_n 3, 1) := by decide +kernel
theorem dM_fault_73 : decode M_M_fault.2.1 73 = .ok (.iconst 2, 1) := by decide +kernel
theorem dM_fault_74 : decode M_M_fault.2.1 74 = .ok (.if_icmp .ne 17, 3) := by decide +kernel
theorem dM_fault_77 : decode M_M_fault.2.1 77 = .ok (.iload 5, 2) := by decide +kernel
theorem dM_fault_79 : decode M_M_fault.2.1 79 = .ok (.iconst 2, 1) := by decide +kernel
theorem dM_fault_80 : decode M_M_fault.2.1 80 = .ok (.if_icmp .eq 7, 3) := by decide +kernel
theorem dM_fault_83 : decode M_M_fault.2.1 83 = .ok (.iconst 1, 1) := by decide +kernel
theorem dM_fault_84 : decode M_M_fault.2.1 84 = .ok (.goto 27, 3) := by decide +kernel
theorem dM_fault_87 : decode M_M_fault.2.1 87 = .ok (.iconst 0, 1) := by decide +kernel
theorem dM_fault_88 : decode M_M_fault.2.1 88 = .ok (.goto 23, 3) := by decide +kernel
theorem dM_fault_91 : decode M_M_fault.2.1 91 = .ok (.iload 5, 2) := by decide +kernel
theorem dM_fault_93 : decode M_M_fault.2.1 93 = .ok (.iconst 2, 1) := by decide +kernel
theorem dM_fault_94 : decode M_M_fault.2.1 94 = .ok (.if_icmp .ne 16, 3) := by decide +kernel
theorem dM_fault_97 : decode M_M_fault.2.1 97 = .ok (.aload_n 0, 1) := by decide +kernel
theorem dM_fault_98 : decode M_M_fault.2.1 98 = .ok (.iload_n 1, 1) := by decide +kernel
theorem dM_fault_99 : decode M_M_fault.2.1 99 = .ok (.invokevirtual 149, 3) := by decide +kernel
theorem dM_fault_102 : decode M_M_fault.2.1 102 = .ok (.iconst 3, 1) := by decide +kernel
theorem dM_fault_103 : decode M_M_fault.2.1 103 = .ok (.if_icmp .lt 7, 3) := by decide +kernel
theorem dM_fault_106 : decode M_M_fault.2.1 106 = .ok (.iconst 1, 1) := by decide +kernel
theorem dM_fault_107 : decode M_M_fault.2.1 107 = .ok (.goto 4, 3) := by decide +kernel
theorem dM_fault_110 : decode M_M_fault.2.1 110 = .ok (.iconst 0, 1) := by decide +kernel
theorem dM_fault_111 : decode M_M_fault.2.1 111 = .ok (.istore 6, 2) := by decide +kernel
theorem dM_fault_113 : decode M_M_fault.2.1 113 = .ok (.iload 6, 2) := by decide +kernel
theorem dM_fault_115 : decode M_M_fault.2.1 115 = .ok (.ifCond .ne 5, 3) := by decide +kernel
theorem dM_fault_118 : decode M_M_fault.2.1 118 = .ok (.iconst 0, 1) := by decide +kernel
theorem dM_fault_119 : decode M_M_fault.2.1 119 = .ok (.ireturn, 1) := by decide +kernel
theorem dM_fault_120 : decode M_M_fault.2.1 120 = .ok (.iload_n 3, 1) := by decide +kernel
theorem dM_fault_121 : decode M_M_fault.2.1 121 = .ok (.iconst 2, 1) := by decide +kernel
theorem dM_fault_122 : decode M_M_fault.2.1 122 = .ok (.if_icmp .ne 52, 3) := by decide +kernel
theorem dM_fault_125 : decode M_M_fault.2.1 125 = .ok (.iconst 1, 1) := by decide +kernel
theorem dM_fault_126 : decode M_M_fault.2.1 126 = .ok (.istore 7, 2) := by decide +kernel
theorem dM_fault_128 : decode M_M_fault.2.1 128 = .ok (.iload 7, 2) := by decide +kernel
theorem dM_fault_130 : decode M_M_fault.2.1 130 = .ok (.aload_n 0, 1) := by decide +kernel
theorem dM_fault_131 : decode M_M_fault.2.1 131 = .ok (.getfield 54, 3) := by decide +kernel
theorem dM_fault_134 : decode M_M_fault.2.1 134 = .ok (.if_icmp .gt 24, 3) := by decide +kernel
theorem dM_fault_137 : decode M_M_fault.2.1 137 = .ok (.aload_n 0, 1) := by decide +kernel
theorem dM_fault_138 : decode M_M_fault.2.1 138 = .ok (.getfield 26, 3) := by decide +kernel
theorem dM_fault_141 : decode M_M_fault.2.1 141 = .ok (.sipush 200, 3) := by decide +kernel
theorem dM_fault_144 : decode M_M_fault.2.1 144 = .ok (.iload 4, 2) := by decide +kernel
theorem dM_fault_146 : decode M_M_fault.2.1 146 = .ok (.imul, 1) := by decide +kernel
theorem dM_fault_147 : decode M_M_fault.2.1 147 = .ok (.iload 7, 2) := by decide +kernel
theorem dM_fault_149 : decode M_M_fault.2.1 149 = .ok (.iadd, 1) := by decide +kernel
theorem dM_fault_150 : decode M_M_fault.2.1 150 = .ok (.iconst 0, 1) := by decide +kernel
theorem dM_fault_151 : decode M_M_fault.2.1 151 = .ok (.bastore, 1) := by decide +kernel
theorem dM_fault_152 : decode M_M_fault.2.1 152 = .ok (.iinc 7 1, 3) := by decide +kernel
theorem dM_fault_155 : decode M_M_fault.2.1 155 = .ok (.goto (-27), 3) := by decide +kernel
theorem dM_fault_158 : decode M_M_fault.2.1 158 = .ok (.aload_n 0, 1) := by decide +kernel
theorem dM_fault_159 : decode M_M_fault.2.1 159 = .ok (.getfield 32, 3) := by decide +kernel
theorem dM_fault_162 : decode M_M_fault.2.1 162 = .ok (.iload 4, 2) := by decide +kernel
theorem dM_fault_164 : decode M_M_fault.2.1 164 = .ok (.iconst 0, 1) := by decide +kernel
theorem dM_fault_165 : decode M_M_fault.2.1 165 = .ok (.iastore, 1) := by decide +kernel
theorem dM_fault_166 : decode M_M_fault.2.1 166 = .ok (.aload_n 0, 1) := by decide +kernel
theorem dM_fault_167 : decode M_M_fault.2.1 167 = .ok (.getfield 35, 3) := by decide +kernel
theorem dM_fault_170 : decode M_M_fault.2.1 170 = .ok (.iload 4, 2) := by decide +kernel
theorem dM_fault_172 : decode M_M_fault.2.1 172 = .ok (.iconst 0, 1) := by decide +kernel
theorem dM_fault_173 : decode M_M_fault.2.1 173 = .ok (.iastore, 1) := by decide +kernel
theorem dM_fault_174 : decode M_M_fault.2.1 174 = .ok (.iload_n 3, 1) := by decide +kernel
theorem dM_fault_175 : decode M_M_fault.2.1 175 = .ok (.iconst 3, 1) := by decide +kernel
theorem dM_fault_176 : decode M_M_fault.2.1 176 = .ok (.if_icmp .ne 46, 3) := by decide +kernel
theorem dM_fault_179 : decode M_M_fault.2.1 179 = .ok (.bipush 6, 2) := by decide +kernel
theorem dM_fault_181 : decode M_M_fault.2.1 181 = .ok (.iload_n 1, 1) := by decide +kernel
theorem dM_fault_182 : decode M_M_fault.2.1 182 = .ok (.imul, 1) := by decide +kernel
theorem dM_fault_183 : decode M_M_fault.2.1 183 = .ok (.istore 7, 2) := by decide +kernel
theorem dM_fault_185 : decode M_M_fault.2.1 185 = .ok (.iload 7, 2) := by decide +kernel
theorem dM_fault_187 : decode M_M_fault.2.1 187 = .ok (.bipush 6, 2) := by decide +kernel
theorem dM_fault_189 : decode M_M_fault.2.1 189 = .ok (.iload_n 1, 1) := by decide +kernel
theorem dM_fault_190 : decode M_M_fault.2.1 190 = .ok (.imul, 1) := by decide +kernel
theorem dM_fault_191 : decode M_M_fault.2.1 191 = .ok (.bipush 6, 2) := by decide +kernel
theorem dM_fault_193 : decode M_M_fault.2.1 193 = .ok (.iadd, 1) := by decide +kernel
theorem dM_fault_194 : decode M_M_fault.2.1 194 = .ok (.if_icmp .ge 28, 3) := by decide +kernel
theorem dM_fault_197 : decode M_M_fault.2.1 197 = .ok (.aload_n 0, 1) := by decide +kernel
theorem dM_fault_198 : decode M_M_fault.2.1 198 = .ok (.getfield 29, 3) := by decide +kernel
theorem dM_fault_201 : decode M_M_fault.2.1 201 = .ok (.iload 7, 2) := by decide +kernel
theorem dM_fault_203 : decode M_M_fault.2.1 203 = .ok (.iaload, 1) := by decide +kernel
theorem dM_fault_204 : decode M_M_fault.2.1 204 = .ok (.ifCond .ne 12, 3) := by decide +kernel
theorem dM_fault_207 : decode M_M_fault.2.1 207 = .ok (.aload_n 0, 1) := by decide +kernel
theorem dM_fault_208 : decode M_M_fault.2.1 208 = .ok (.iload 7, 2) := by decide +kernel
theorem dM_fault_210 : decode M_M_fault.2.1 210 = .ok (.iload 4, 2) := by decide +kernel
theorem dM_fault_212 : decode M_M_fault.2.1 212 = .ok (.invokevirtual 146, 3) := by decide +kernel
theorem dM_fault_215 : decode M_M_fault.2.1 215 = .ok (.pop, 1) := by decide +kernel
theorem dM_fault_216 : decode M_M_fault.2.1 216 = .ok (.iinc 7 1, 3) := by decide +kernel
theorem dM_fault_219 : decode M_M_fault.2.1 219 = .ok (.goto (-34), 3) := by decide +kernel
theorem dM_fault_222 : decode M_M_fault.2.1 222 = .ok (.aload_n 0, 1) := by decide +kernel
theorem dM_fault_223 : decode M_M_fault.2.1 223 = .ok (.getfield 29, 3) := by decide +kernel
theorem dM_fault_226 : decode M_M_fault.2.1 226 = .ok (.iload 4, 2) := by decide +kernel
theorem dM_fault_228 : decode M_M_fault.2.1 228 = .ok (.iload_n 3, 1) := by decide +kernel
theorem dM_fault_229 : decode M_M_fault.2.1 229 = .ok (.ifCond .ne 7, 3) := by decide +kernel
theorem dM_fault_232 : decode M_M_fault.2.1 232 = .ok (.iconst 1, 1) := by decide +kernel
theorem dM_fault_233 : decode M_M_fault.2.1 233 = .ok (.goto 13, 3) := by decide +kernel
theorem dM_fault_236 : decode M_M_fault.2.1 236 = .ok (.iload_n 3, 1) := by decide +kernel
theorem dM_fault_237 : decode M_M_fault.2.1 237 = .ok (.iconst 2, 1) := by decide +kernel
theorem dM_fault_238 : decode M_M_fault.2.1 238 = .ok (.if_icmp .ne 7, 3) := by decide +kernel
theorem dM_fault_241 : decode M_M_fault.2.1 241 = .ok (.iconst 2, 1) := by decide +kernel
theorem dM_fault_242 : decode M_M_fault.2.1 242 = .ok (.goto 4, 3) := by decide +kernel
theorem dM_fault_245 : decode M_M_fault.2.1 245 = .ok (.iconst 0, 1) := by decide +kernel
theorem dM_fault_246 : decode M_M_fault.2.1 246 = .ok (.iastore, 1) := by decide +kernel
theorem dM_fault_247 : decode M_M_fault.2.1 247 = .ok (.iconst 1, 1) := by decide +kernel
theorem dM_fault_248 : decode M_M_fault.2.1 248 = .ok (.ireturn, 1) := by decide +kernel
theorem dM_crash_0 : decode M_M_crash.2.1 0 = .ok (.aload_n 0, 1) := by decide +kernel
theorem dM_crash_1 : decode M_M_crash.2.1 1 = .ok (.getfield 117, 3) := by decide +kernel
theorem dM_crash_4 : decode M_M_crash.2.1 4 = .ok (.ifCond .eq 5, 3) := by decide +kernel
theorem dM_crash_7 : decode M_M_crash.2.1 7 = .ok (.iconst 0, 1) := by decide +kernel
theorem dM_crash_8 : decode M_M_crash.2.1 8 = .ok (.ireturn, 1) := by decide +kernel
theorem dM_crash_9 : decode M_M_crash.2.1 9 = .ok (.aload_n 0, 1) := by decide +kernel
theorem dM_crash_10 : decode M_M_crash.2.1 10 = .ok (.iconst 1, 1) := by decide +kernel
theorem dM_crash_11 : decode M_M_crash.2.1 11 = .ok (.putfield 117, 3) := by decide +kernel
theorem dM_crash_14 : decode M_M_crash.2.1 14 = .ok (.aload_n 0, 1) := by decide +kernel
theorem dM_crash_15 : decode M_M_crash.2.1 15 = .ok (.iconst 0, 1) := by decide +kernel
theorem dM_crash_16 : decode M_M_crash.2.1 16 = .ok (.putfield 97, 3) := by decide +kernel
theorem dM_crash_19 : decode M_M_crash.2.1 19 = .ok (.iconst 0, 1) := by decide +kernel
theorem dM_crash_20 : decode M_M_crash.2.1 20 = .ok (.istore_n 1, 1) := by decide +kernel
theorem dM_crash_21 : decode M_M_crash.2.1 21 = .ok (.iload_n 1, 1) := by decide +kernel
theorem dM_crash_22 : decode M_M_crash.2.1 22 = .ok (.bipush 12, 2) := by decide +kernel
theorem dM_crash_24 : decode M_M_crash.2.1 24 = .ok (.if_icmp .ge 16, 3) := by decide +kernel
theorem dM_crash_27 : decode M_M_crash.2.1 27 = .ok (.aload_n 0, 1) := by decide +kernel
theorem dM_crash_28 : decode M_M_crash.2.1 28 = .ok (.getfield 35, 3) := by decide +kernel
theorem dM_crash_31 : decode M_M_crash.2.1 31 = .ok (.iload_n 1, 1) := by decide +kernel
theorem dM_crash_32 : decode M_M_crash.2.1 32 = .ok (.iconst 0, 1) := by decide +kernel
theorem dM_crash_33 : decode M_M_crash.2.1 33 = .ok (.iastore, 1) := by decide +kernel
theorem dM_crash_34 : decode M_M_crash.2.1 34 = .ok (.iinc 1 1, 3) := by decide +kernel
theorem dM_crash_37 : decode M_M_crash.2.1 37 = .ok (.goto (-16), 3) := by decide +kernel
theorem dM_crash_40 : decode M_M_crash.2.1 40 = .ok (.iconst 1, 1) := by decide +kernel
theorem dM_crash_41 : decode M_M_crash.2.1 41 = .ok (.ireturn, 1) := by decide +kernel
theorem dM_survives_0 : decode M_M_survives.2.1 0 = .ok (.iconst 0, 1) := by decide +kernel
theorem dM_survives_1 : decode M_M_survives.2.1 1 = .ok (.istore_n 2, 1) := by decide +kernel
theorem dM_survives_2 : decode M_M_survives.2.1 2 = .ok (.aload_n 0, 1) := by decide +kernel
theorem dM_survives_3 : decode M_M_survives.2.1 3 = .ok (.iload_n 1, 1) := by decide +kernel
theorem dM_survives_4 : decode M_M_survives.2.1 4 = .ok (.invokevirtual 74, 3) := by decide +kernel
theorem dM_survives_7 : decode M_M_survives.2.1 7 = .ok (.istore_n 3, 1) := by decide +kernel
theorem dM_survives_8 : decode M_M_survives.2.1 8 = .ok (.bipush 6, 2) := by decide +kernel
theorem dM_survives_10 : decode M_M_survives.2.1 10 = .ok (.iload_n 3, 1) := by decide +kernel
theorem dM_survives_11 : decode M_M_survives.2.1 11 = .ok (.imul, 1) := by decide +kernel
theorem dM_survives_12 : decode M_M_survives.2.1 12 = .ok (.istore 4, 2) := by decide +kernel
theorem dM_survives_14 : decode M_M_survives.2.1 14 = .ok (.iload 4, 2) := by decide +kernel
theorem dM_survives_16 : decode M_M_survives.2.1 16 = .ok (.bipush 6, 2) := by decide +kernel
theorem dM_survives_18 : decode M_M_survives.2.1 18 = .ok (.iload_n 3, 1) := by decide +kernel
theorem dM_survives_19 : decode M_M_survives.2.1 19 = .ok (.imul, 1) := by decide +kernel
theorem dM_survives_20 : decode M_M_survives.2.1 20 = .ok (.bipush 6, 2) := by decide +kernel
theorem dM_survives_22 : decode M_M_survives.2.1 22 = .ok (.iadd, 1) := by decide +kernel
theorem dM_survives_23 : decode M_M_survives.2.1 23 = .ok (.if_icmp .ge 45, 3) := by decide +kernel
theorem dM_survives_26 : decode M_M_survives.2.1 26 = .ok (.iload_n 2, 1) := by decide +kernel
theorem dM_survives_27 : decode M_M_survives.2.1 27 = .ok (.ifCond .ne 29, 3) := by decide +kernel
theorem dM_survives_30 : decode M_M_survives.2.1 30 = .ok (.aload_n 0, 1) := by decide +kernel
theorem dM_survives_31 : decode M_M_survives.2.1 31 = .ok (.getfield 29, 3) := by decide +kernel
theorem dM_survives_34 : decode M_M_survives.2.1 34 = .ok (.iload 4, 2) := by decide +kernel
theorem dM_survives_36 : decode M_M_survives.2.1 36 = .ok (.iaload, 1) := by decide +kernel
theorem dM_survives_37 : decode M_M_survives.2.1 37 = .ok (.ifCond .ne 23, 3) := by decide +kernel
theorem dM_survives_40 : decode M_M_survives.2.1 40 = .ok (.aload_n 0, 1) := by decide +kernel
theorem dM_survives_41 : decode M_M_survives.2.1 41 = .ok (.getfield 26, 3) := by decide +kernel
theorem dM_survives_44 : decode M_M_survives.2.1 44 = .ok (.sipush 200, 3) := by decide +kernel
theorem dM_survives_47 : decode M_M_survives.2.1 47 = .ok (.iload 4, 2) := by decide +kernel
theorem dM_survives_49 : decode M_M_survives.2.1 49 = .ok (.imul, 1) := by decide +kernel
theorem dM_survives_50 : decode M_M_survives.2.1 50 = .ok (.iload_n 1, 1) := by decide +kernel
theorem dM_survives_51 : decode M_M_survives.2.1 51 = .ok (.iadd, 1) := by decide +kernel
theorem dM_survives_52 : decode M_M_survives.2.1 52 = .ok (.baload, 1) := by decide +kernel
theorem dM_survives_53 : decode M_M_survives.2.1 53 = .ok (.ifCond .eq 7, 3) := by decide +kernel
theorem dM_survives_56 : decode M_M_survives.2.1 56 = .ok (.iconst 1, 1) := by decide +kernel
theorem dM_survives_57 : decode M_M_survives.2.1 57 = .ok (.goto 4, 3) := by decide +kernel
theorem dM_survives_60 : decode M_M_survives.2.1 60 = .ok (.iconst 0, 1) := by decide +kernel
theorem dM_survives_61 : decode M_M_survives.2.1 61 = .ok (.istore_n 2, 1) := by decide +kernel
theorem dM_survives_62 : decode M_M_survives.2.1 62 = .ok (.iinc 4 1, 3) := by decide +kernel
theorem dM_survives_65 : decode M_M_survives.2.1 65 = .ok (.goto (-51), 3) := by decide +kernel
theorem dM_survives_68 : decode M_M_survives.2.1 68 = .ok (.iload_n 2, 1) := by decide +kernel
theorem dM_survives_69 : decode M_M_survives.2.1 69 = .ok (.ireturn, 1) := by decide +kernel
theorem dM_recover_0 : decode M_M_recover.2.1 0 = .ok (.aload_n 0, 1) := by decide +kernel
theorem dM_recover_1 : decode M_M_recover.2.1 1 = .ok (.getfield 117, 3) := by decide +kernel
theorem dM_recover_4 : decode M_M_recover.2.1 4 = .ok (.ifCond .ne 5, 3) := by decide +kernel
theorem dM_recover_7 : decode M_M_recover.2.1 7 = .ok (.iconst (-1), 1) := by decide +kernel
theorem dM_recover_8 : decode M_M_recover.2.1 8 = .ok (.ireturn, 1) := by decide +kernel
theorem dM_recover_9 : decode M_M_recover.2.1 9 = .ok (.aload_n 0, 1) := by decide +kernel
theorem dM_recover_10 : decode M_M_recover.2.1 10 = .ok (.iconst 0, 1) := by decide +kernel
theorem dM_recover_11 : decode M_M_recover.2.1 11 = .ok (.invokevirtual 149, 3) := by decide +kernel
theorem dM_recover_14 : decode M_M_recover.2.1 14 = .ok (.iconst 3, 1) := by decide +kernel
theorem dM_recover_15 : decode M_M_recover.2.1 15 = .ok (.if_icmp .lt 12, 3) := by decide +kernel
theorem dM_recover_18 : decode M_M_recover.2.1 18 = .ok (.aload_n 0, 1) := by decide +kernel
theorem dM_recover_19 : decode M_M_recover.2.1 19 = .ok (.iconst 1, 1) := by decide +kernel
theorem dM_recover_20 : decode M_M_recover.2.1 20 = .ok (.invokevirtual 149, 3) := by decide +kernel
theorem dM_recover_23 : decode M_M_recover.2.1 23 = .ok (.iconst 3, 1) := by decide +kernel
theorem dM_recover_24 : decode M_M_recover.2.1 24 = .ok (.if_icmp .ge 6, 3) := by decide +kernel
theorem dM_recover_27 : decode M_M_recover.2.1 27 = .ok (.bipush (-7), 2) := by decide +kernel
theorem dM_recover_29 : decode M_M_recover.2.1 29 = .ok (.ireturn, 1) := by decide +kernel
theorem dM_recover_30 : decode M_M_recover.2.1 30 = .ok (.iconst 0, 1) := by decide +kernel
theorem dM_recover_31 : decode M_M_recover.2.1 31 = .ok (.istore_n 1, 1) := by decide +kernel
theorem dM_recover_32 : decode M_M_recover.2.1 32 = .ok (.iload_n 1, 1) := by decide +kernel
theorem dM_recover_33 : decode M_M_recover.2.1 33 = .ok (.aload_n 0, 1) := by decide +kernel
theorem dM_recover_34 : decode M_M_recover.2.1 34 = .ok (.getfield 54, 3) := by decide +kernel
theorem dM_recover_37 : decode M_M_recover.2.1 37 = .ok (.if_icmp .ge 19, 3) := by decide +kernel
theorem dM_recover_40 : decode M_M_recover.2.1 40 = .ok (.aload_n 0, 1) := by decide +kernel
theorem dM_recover_41 : decode M_M_recover.2.1 41 = .ok (.iload_n 1, 1) := by decide +kernel
theorem dM_recover_42 : decode M_M_recover.2.1 42 = .ok (.iconst 1, 1) := by decide +kernel
theorem dM_recover_43 : decode M_M_recover.2.1 43 = .ok (.iadd, 1) := by decide +kernel
theorem dM_recover_44 : decode M_M_recover.2.1 44 = .ok (.invokevirtual 152, 3) := by decide +kernel
theorem dM_recover_47 : decode M_M_recover.2.1 47 = .ok (.ifCond .eq 9, 3) := by decide +kernel
theorem dM_recover_50 : decode M_M_recover.2.1 50 = .ok (.iinc 1 1, 3) := by decide +kernel
theorem dM_recover_53 : decode M_M_recover.2.1 53 = .ok (.goto (-21), 3) := by decide +kernel
theorem dM_recover_56 : decode M_M_recover.2.1 56 = .ok (.aload_n 0, 1) := by decide +kernel
theorem dM_recover_57 : decode M_M_recover.2.1 57 = .ok (.iload_n 1, 1) := by decide +kernel
theorem dM_recover_58 : decode M_M_recover.2.1 58 = .ok (.invokevirtual 91, 3) := by decide +kernel
theorem dM_recover_61 : decode M_M_recover.2.1 61 = .ok (.istore_n 2, 1) := by decide +kernel
theorem dM_recover_62 : decode M_M_recover.2.1 62 = .ok (.aload_n 0, 1) := by decide +kernel
theorem dM_recover_63 : decode M_M_recover.2.1 63 = .ok (.iload_n 2, 1) := by decide +kernel
theorem dM_recover_64 : decode M_M_recover.2.1 64 = .ok (.putfield 54, 3) := by decide +kernel
theorem dM_recover_67 : decode M_M_recover.2.1 67 = .ok (.aload_n 0, 1) := by decide +kernel
theorem dM_recover_68 : decode M_M_recover.2.1 68 = .ok (.iconst 0, 1) := by decide +kernel
theorem dM_recover_69 : decode M_M_recover.2.1 69 = .ok (.putfield 117, 3) := by decide +kernel
theorem dM_recover_72 : decode M_M_recover.2.1 72 = .ok (.iconst 0, 1) := by decide +kernel
theorem dM_recover_73 : decode M_M_recover.2.1 73 = .ok (.istore_n 3, 1) := by decide +kernel
theorem dM_recover_74 : decode M_M_recover.2.1 74 = .ok (.iload_n 3, 1) := by decide +kernel
theorem dM_recover_75 : decode M_M_recover.2.1 75 = .ok (.bipush 12, 2) := by decide +kernel
theorem dM_recover_77 : decode M_M_recover.2.1 77 = .ok (.if_icmp .ge 38, 3) := by decide +kernel
theorem dM_recover_80 : decode M_M_recover.2.1 80 = .ok (.aload_n 0, 1) := by decide +kernel
theorem dM_recover_81 : decode M_M_recover.2.1 81 = .ok (.getfield 35, 3) := by decide +kernel
theorem dM_recover_84 : decode M_M_recover.2.1 84 = .ok (.iload_n 3, 1) := by decide +kernel
theorem dM_recover_85 : decode M_M_recover.2.1 85 = .ok (.aload_n 0, 1) := by decide +kernel
theorem dM_recover_86 : decode M_M_recover.2.1 86 = .ok (.getfield 29, 3) := by decide +kernel
theorem dM_recover_89 : decode M_M_recover.2.1 89 = .ok (.iload_n 3, 1) := by decide +kernel
theorem dM_recover_90 : decode M_M_recover.2.1 90 = .ok (.iaload, 1) := by decide +kernel
theorem dM_recover_91 : decode M_M_recover.2.1 91 = .ok (.ifCond .ne 11, 3) := by decide +kernel
theorem dM_recover_94 : decode M_M_recover.2.1 94 = .ok (.aload_n 0, 1) := by decide +kernel
theorem dM_recover_95 : decode M_M_recover.2.1 95 = .ok (.iload_n 3, 1) := by decide +kernel
theorem dM_recover_96 : decode M_M_recover.2.1 96 = .ok (.invokevirtual 81, 3) := by decide +kernel
theorem dM_recover_99 : decode M_M_recover.2.1 99 = .ok (.goto 9, 3) := by decide +kernel
theorem dM_recover_102 : decode M_M_recover.2.1 102 = .ok (.aload_n 0, 1) := by decide +kernel
theorem dM_recover_103 : decode M_M_recover.2.1 103 = .ok (.getfield 35, 3) := by decide +kernel
theorem dM_recover_106 : decode M_M_recover.2.1 106 = .ok (.iload_n 3, 1) := by decide +kernel
theorem dM_recover_107 : decode M_M_recover.2.1 107 = .ok (.iaload, 1) := by decide +kernel
theorem dM_recover_108 : decode M_M_recover.2.1 108 = .ok (.iastore, 1) := by decide +kernel
theorem dM_recover_109 : decode M_M_recover.2.1 109 = .ok (.iinc 3 1, 3) := by decide +kernel
theorem dM_recover_112 : decode M_M_recover.2.1 112 = .ok (.goto (-38), 3) := by decide +kernel
theorem dM_recover_115 : decode M_M_recover.2.1 115 = .ok (.aload_n 0, 1) := by decide +kernel
theorem dM_recover_116 : decode M_M_recover.2.1 116 = .ok (.invokevirtual 84, 3) := by decide +kernel
theorem dM_recover_119 : decode M_M_recover.2.1 119 = .ok (.iconst 0, 1) := by decide +kernel
theorem dM_recover_120 : decode M_M_recover.2.1 120 = .ok (.istore_n 3, 1) := by decide +kernel
theorem dM_recover_121 : decode M_M_recover.2.1 121 = .ok (.iload_n 3, 1) := by decide +kernel
theorem dM_recover_122 : decode M_M_recover.2.1 122 = .ok (.bipush 32, 2) := by decide +kernel
theorem dM_recover_124 : decode M_M_recover.2.1 124 = .ok (.if_icmp .ge 16, 3) := by decide +kernel
theorem dM_recover_127 : decode M_M_recover.2.1 127 = .ok (.aload_n 0, 1) := by decide +kernel
theorem dM_recover_128 : decode M_M_recover.2.1 128 = .ok (.getfield 41, 3) := by decide +kernel
theorem dM_recover_131 : decode M_M_recover.2.1 131 = .ok (.iload_n 3, 1) := by decide +kernel
theorem dM_recover_132 : decode M_M_recover.2.1 132 = .ok (.iconst 0, 1) := by decide +kernel
theorem dM_recover_133 : decode M_M_recover.2.1 133 = .ok (.iastore, 1) := by decide +kernel
theorem dM_recover_134 : decode M_M_recover.2.1 134 = .ok (.iinc 3 1, 3) := by decide +kernel
theorem dM_recover_137 : decode M_M_recover.2.1 137 = .ok (.goto (-16), 3) := by decide +kernel
theorem dM_recover_140 : decode M_M_recover.2.1 140 = .ok (.iconst 1, 1) := by decide +kernel
theorem dM_recover_141 : decode M_M_recover.2.1 141 = .ok (.istore_n 3, 1) := by decide +kernel
theorem dM_recover_142 : decode M_M_recover.2.1 142 = .ok (.iload_n 3, 1) := by decide +kernel
theorem dM_recover_143 : decode M_M_recover.2.1 143 = .ok (.aload_n 0, 1) := by decide +kernel
theorem dM_recover_144 : decode M_M_recover.2.1 144 = .ok (.getfield 50, 3) := by decide +kernel
theorem dM_recover_147 : decode M_M_recover.2.1 147 = .ok (.if_icmp .gt 16, 3) := by decide +kernel
theorem dM_recover_150 : decode M_M_recover.2.1 150 = .ok (.aload_n 0, 1) := by decide +kernel
theorem dM_recover_151 : decode M_M_recover.2.1 151 = .ok (.getfield 38, 3) := by decide +kernel
theorem dM_recover_154 : decode M_M_recover.2.1 154 = .ok (.iload_n 3, 1) := by decide +kernel
theorem dM_recover_155 : decode M_M_recover.2.1 155 = .ok (.iconst 0, 1) := by decide +kernel
theorem dM_recover_156 : decode M_M_recover.2.1 156 = .ok (.bastore, 1) := by decide +kernel
theorem dM_recover_157 : decode M_M_recover.2.1 157 = .ok (.iinc 3 1, 3) := by decide +kernel
theorem dM_recover_160 : decode M_M_recover.2.1 160 = .ok (.goto (-18), 3) := by decide +kernel
theorem dM_recover_163 : decode M_M_recover.2.1 163 = .ok (.iconst 1, 1) := by decide +kernel
theorem dM_recover_164 : decode M_M_recover.2.1 164 = .ok (.istore_n 3, 1) := by decide +kernel
theorem dM_recover_165 : decode M_M_recover.2.1 165 = .ok (.iload_n 3, 1) := by decide +kernel
theorem dM_recover_166 : decode M_M_recover.2.1 166 = .ok (.aload_n 0, 1) := by decide +kernel
theorem dM_recover_167 : decode M_M_recover.2.1 167 = .ok (.getfield 50, 3) := by decide +kernel
theorem dM_recover_170 : decode M_M_recover.2.1 170 = .ok (.if_icmp .gt 80, 3) := by decide +kernel
theorem dM_recover_173 : decode M_M_recover.2.1 173 = .ok (.iconst 0, 1) := by decide +kernel
theorem dM_recover_174 : decode M_M_recover.2.1 174 = .ok (.istore 4, 2) := by decide +kernel
theorem dM_recover_176 : decode M_M_recover.2.1 176 = .ok (.iconst 1, 1) := by decide +kernel
theorem dM_recover_177 : decode M_M_recover.2.1 177 = .ok (.istore 5, 2) := by decide +kernel
theorem dM_recover_179 : decode M_M_recover.2.1 179 = .ok (.iload 5, 2) := by decide +kernel
theorem dM_recover_181 : decode M_M_recover.2.1 181 = .ok (.iload_n 2, 1) := by decide +kernel
theorem dM_recover_182 : decode M_M_recover.2.1 182 = .ok (.if_icmp .gt 42, 3) := by decide +kernel
theorem dM_recover_185 : decode M_M_recover.2.1 185 = .ok (.iload 4, 2) := by decide +kernel
theorem dM_recover_187 : decode M_M_recover.2.1 187 = .ok (.ifCond .ne 24, 3) := by decide +kernel
theorem dM_recover_190 : decode M_M_recover.2.1 190 = .ok (.aload_n 0, 1) := by decide +kernel
theorem dM_recover_191 : decode M_M_recover.2.1 191 = .ok (.getfield 7, 3) := by decide +kernel
theorem dM_recover_194 : decode M_M_recover.2.1 194 = .ok (.iload 5, 2) := by decide +kernel
theorem dM_recover_196 : decode M_M_recover.2.1 196 = .ok (.iaload, 1) := by decide +kernel
theorem dM_recover_197 : decode M_M_recover.2.1 197 = .ok (.iload_n 3, 1) := by decide +kernel
theorem dM_recover_198 : decode M_M_recover.2.1 198 = .ok (.if_icmp .ne 17, 3) := by decide +kernel
theorem dM_recover_201 : decode M_M_recover.2.1 201 = .ok (.aload_n 0, 1) := by decide +kernel
theorem dM_recover_202 : decode M_M_recover.2.1 202 = .ok (.getfield 19, 3) := by decide +kernel
theorem dM_recover_205 : decode M_M_recover.2.1 205 = .ok (.iload 5, 2) := by decide +kernel
theorem dM_recover_207 : decode M_M_recover.2.1 207 = .ok (.iaload, 1) := by decide +kernel
theorem dM_recover_208 : decode M_M_recover.2.1 208 = .ok (.ifCond .ne 7, 3) := by decide +kernel
theorem dM_recover_211 : decode M_M_recover.2.1 211 = .ok (.iconst 1, 1) := by decide +kernel
theorem dM_recover_212 : decode M_M_recover.2.1 212 = .ok (.goto 4, 3) := by decide +kernel
theorem dM_recover_215 : decode M_M_recover.2.1 215 = .ok (.iconst 0, 1) := by decide +kernel
theorem dM_recover_216 : decode M_M_recover.2.1 216 = .ok (.istore 4, 2) := by decide +kernel
theorem dM_recover_218 : decode M_M_recover.2.1 218 = .ok (.iinc 5 1, 3) := by decide +kernel
theorem dM_recover_221 : decode M_M_recover.2.1 221 = .ok (.goto (-42), 3) := by decide +kernel
theorem dM_recover_224 : decode M_M_recover.2.1 224 = .ok (.iload 4, 2) := by decide +kernel
theorem dM_recover_226 : decode M_M_recover.2.1 226 = .ok (.ifCond .eq 18, 3) := by decide +kernel
theorem dM_recover_229 : decode M_M_recover.2.1 229 = .ok (.aload_n 0, 1) := by decide +kernel
theorem dM_recover_230 : decode M_M_recover.2.1 230 = .ok (.iload_n 3, 1) := by decide +kernel
theorem dM_recover_231 : decode M_M_recover.2.1 231 = .ok (.iload_n 2, 1) := by decide +kernel
theorem dM_recover_232 : decode M_M_recover.2.1 232 = .ok (.invokevirtual 137, 3) := by decide +kernel
theorem dM_recover_235 : decode M_M_recover.2.1 235 = .ok (.ifCond .ne 9, 3) := by decide +kernel
theorem dM_recover_238 : decode M_M_recover.2.1 238 = .ok (.aload_n 0, 1) := by decide +kernel
theorem dM_recover_239 : decode M_M_recover.2.1 239 = .ok (.iload_n 3, 1) := by decide +kernel
theorem dM_recover_240 : decode M_M_recover.2.1 240 = .ok (.invokevirtual 134, 3) := by decide +kernel
theorem dM_recover_243 : decode M_M_recover.2.1 243 = .ok (.pop, 1) := by decide +kernel
theorem dM_recover_244 : decode M_M_recover.2.1 244 = .ok (.iinc 3 1, 3) := by decide +kernel
theorem dM_recover_247 : decode M_M_recover.2.1 247 = .ok (.goto (-82), 3) := by decide +kernel
theorem dM_recover_250 : decode M_M_recover.2.1 250 = .ok (.iload_n 2, 1) := by decide +kernel
theorem dM_recover_251 : decode M_M_recover.2.1 251 = .ok (.ireturn, 1) := by decide +kernel
theorem dM_point_0 : decode M_M_point.2.1 0 = .ok (.iload_n 1, 1) := by decide +kernel
theorem dM_point_1 : decode M_M_point.2.1 1 = .ok (.iconst 1, 1) := by decide +kernel
theorem dM_point_2 : decode M_M_point.2.1 2 = .ok (.if_icmp .ne 13, 3) := by decide +kernel
theorem dM_point_5 : decode M_M_point.2.1 5 = .ok (.aload_n 0, 1) := by decide +kernel
theorem dM_point_6 : decode M_M_point.2.1 6 = .ok (.getfield 117, 3) := by decide +kernel
theorem dM_point_9 : decode M_M_point.2.1 9 = .ok (.ifCond .eq 6, 3) := by decide +kernel
theorem dM_point_12 : decode M_M_point.2.1 12 = .ok (.bipush (-2), 2) := by decide +kernel
theorem dM_point_14 : decode M_M_point.2.1 14 = .ok (.ireturn, 1) := by decide +kernel
theorem dM_point_15 : decode M_M_point.2.1 15 = .ok (.iload_n 1, 1) := by decide +kernel
theorem dM_point_16 : decode M_M_point.2.1 16 = .ok (.ifCond .ne 10, 3) := by decide +kernel
theorem dM_point_19 : decode M_M_point.2.1 19 = .ok (.aload_n 0, 1) := by decide +kernel
theorem dM_point_20 : decode M_M_point.2.1 20 = .ok (.getfield 54, 3) := by decide +kernel
theorem dM_point_23 : decode M_M_point.2.1 23 = .ok (.goto 28, 3) := by decide +kernel
theorem dM_point_26 : decode M_M_point.2.1 26 = .ok (.iload_n 1, 1) := by decide +kernel
theorem dM_point_27 : decode M_M_point.2.1 27 = .ok (.iconst 1, 1) := by decide +kernel
theorem dM_point_28 : decode M_M_point.2.1 28 = .ok (.if_icmp .ne 10, 3) := by decide +kernel
theorem dM_point_31 : decode M_M_point.2.1 31 = .ok (.aload_n 0, 1) := by decide +kernel
theorem dM_point_32 : decode M_M_point.2.1 32 = .ok (.invokevirtual 87, 3) := by decide +kernel
theorem dM_point_35 : decode M_M_point.2.1 35 = .ok (.goto 16, 3) := by decide +kernel
theorem dM_point_38 : decode M_M_point.2.1 38 = .ok (.iload_n 1, 1) := by decide +kernel
theorem dM_point_39 : decode M_M_point.2.1 39 = .ok (.iconst 2, 1) := by decide +kernel
theorem dM_point_40 : decode M_M_point.2.1 40 = .ok (.if_icmp .ne 10, 3) := by decide +kernel
theorem dM_point_43 : decode M_M_point.2.1 43 = .ok (.aload_n 0, 1) := by decide +kernel
theorem dM_point_44 : decode M_M_point.2.1 44 = .ok (.getfield 94, 3) := by decide +kernel
theorem dM_point_47 : decode M_M_point.2.1 47 = .ok (.goto 4, 3) := by decide +kernel
theorem dM_point_50 : decode M_M_point.2.1 50 = .ok (.iconst (-1), 1) := by decide +kernel
theorem dM_point_51 : decode M_M_point.2.1 51 = .ok (.ireturn, 1) := by decide +kernel
theorem dM_copy_0 : decode M_M_copy.2.1 0 = .ok (.iload_n 1, 1) := by decide +kernel
theorem dM_copy_1 : decode M_M_copy.2.1 1 = .ok (.iload_n 2, 1) := by decide +kernel
theorem dM_copy_2 : decode M_M_copy.2.1 2 = .ok (.invokestatic 143, 3) := by decide +kernel
theorem dM_copy_5 : decode M_M_copy.2.1 5 = .ok (.ifCond .eq 30, 3) := by decide +kernel
theorem dM_copy_8 : decode M_M_copy.2.1 8 = .ok (.iload_n 3, 1) := by decide +kernel
theorem dM_copy_9 : decode M_M_copy.2.1 9 = .ok (.ifCond .lt 26, 3) := by decide +kernel
theorem dM_copy_12 : decode M_M_copy.2.1 12 = .ok (.iload_n 3, 1) := by decide +kernel
theorem dM_copy_13 : decode M_M_copy.2.1 13 = .ok (.iconst 2, 1) := by decide +kernel
theorem dM_copy_14 : decode M_M_copy.2.1 14 = .ok (.if_icmp .gt 21, 3) := by decide +kernel
theorem dM_copy_17 : decode M_M_copy.2.1 17 = .ok (.iload_n 3, 1) := by decide +kernel
theorem dM_copy_18 : decode M_M_copy.2.1 18 = .ok (.ifCond .eq 19, 3) := by decide +kernel
theorem dM_copy_21 : decode M_M_copy.2.1 21 = .ok (.aload_n 0, 1) := by decide +kernel
theorem dM_copy_22 : decode M_M_copy.2.1 22 = .ok (.getfield 29, 3) := by decide +kernel
theorem dM_copy_25 : decode M_M_copy.2.1 25 = .ok (.bipush 6, 2) := by decide +kernel
theorem dM_copy_27 : decode M_M_copy.2.1 27 = .ok (.iload_n 1, 1) := by decide +kernel
theorem dM_copy_28 : decode M_M_copy.2.1 28 = .ok (.imul, 1) := by decide +kernel
theorem dM_copy_29 : decode M_M_copy.2.1 29 = .ok (.iload_n 2, 1) := by decide +kernel
theorem dM_copy_30 : decode M_M_copy.2.1 30 = .ok (.iadd, 1) := by decide +kernel
theorem dM_copy_31 : decode M_M_copy.2.1 31 = .ok (.iaload, 1) := by decide +kernel
theorem dM_copy_32 : decode M_M_copy.2.1 32 = .ok (.ifCond .eq 5, 3) := by decide +kernel
theorem dM_copy_35 : decode M_M_copy.2.1 35 = .ok (.iconst (-1), 1) := by decide +kernel
theorem dM_copy_36 : decode M_M_copy.2.1 36 = .ok (.ireturn, 1) := by decide +kernel
theorem dM_copy_37 : decode M_M_copy.2.1 37 = .ok (.bipush 6, 2) := by decide +kernel
theorem dM_copy_39 : decode M_M_copy.2.1 39 = .ok (.iload_n 1, 1) := by decide +kernel
theorem dM_copy_40 : decode M_M_copy.2.1 40 = .ok (.imul, 1) := by decide +kernel
theorem dM_copy_41 : decode M_M_copy.2.1 41 = .ok (.iload_n 2, 1) := by decide +kernel
theorem dM_copy_42 : decode M_M_copy.2.1 42 = .ok (.iadd, 1) := by decide +kernel
theorem dM_copy_43 : decode M_M_copy.2.1 43 = .ok (.istore 4, 2) := by decide +kernel
theorem dM_copy_45 : decode M_M_copy.2.1 45 = .ok (.iconst 0, 1) := by decide +kernel
theorem dM_copy_46 : decode M_M_copy.2.1 46 = .ok (.istore 5, 2) := by decide +kernel
theorem dM_copy_48 : decode M_M_copy.2.1 48 = .ok (.iconst 1, 1) := by decide +kernel
theorem dM_copy_49 : decode M_M_copy.2.1 49 = .ok (.istore 6, 2) := by decide +kernel
theorem dM_copy_51 : decode M_M_copy.2.1 51 = .ok (.iload 6, 2) := by decide +kernel
theorem dM_copy_53 : decode M_M_copy.2.1 53 = .ok (.aload_n 0, 1) := by decide +kernel
theorem dM_copy_54 : decode M_M_copy.2.1 54 = .ok (.getfield 54, 3) := by decide +kernel
theorem dM_copy_57 : decode M_M_copy.2.1 57 = .ok (.if_icmp .gt 48, 3) := by decide +kernel
theorem dM_copy_60 : decode M_M_copy.2.1 60 = .ok (.iload 5, 2) := by decide +kernel
theorem dM_copy_62 : decode M_M_copy.2.1 62 = .ok (.aload_n 0, 1) := by decide +kernel
theorem dM_copy_63 : decode M_M_copy.2.1 63 = .ok (.getfield 26, 3) := by decide +kernel
theorem dM_copy_66 : decode M_M_copy.2.1 66 = .ok (.sipush 200, 3) := by decide +kernel
theorem dM_copy_69 : decode M_M_copy.2.1 69 = .ok (.iload 4, 2) := by decide +kernel
theorem dM_copy_71 : decode M_M_copy.2.1 71 = .ok (.imul, 1) := by decide +kernel
theorem dM_copy_72 : decode M_M_copy.2.1 72 = .ok (.iload 6, 2) := by decide +kernel
theorem dM_copy_74 : decode M_M_copy.2.1 74 = .ok (.iadd, 1) := by decide +kernel
theorem dM_copy_75 : decode M_M_copy.2.1 75 = .ok (.baload, 1) := by decide +kernel
theorem dM_copy_76 : decode M_M_copy.2.1 76 = .ok (.ifCond .eq 19, 3) := by decide +kernel
theorem dM_copy_79 : decode M_M_copy.2.1 79 = .ok (.iload 6, 2) := by decide +kernel
theorem dM_copy_81 : decode M_M_copy.2.1 81 = .ok (.aload_n 0, 1) := by decide +kernel
theorem dM_copy_82 : decode M_M_copy.2.1 82 = .ok (.getfield 32, 3) := by decide +kernel
theorem dM_copy_85 : decode M_M_copy.2.1 85 = .ok (.iload 4, 2) := by decide +kernel
theorem dM_copy_87 : decode M_M_copy.2.1 87 = .ok (.iaload, 1) := by decide +kernel
theorem dM_copy_88 : decode M_M_copy.2.1 88 = .ok (.if_icmp .le 7, 3) := by decide +kernel
theorem dM_copy_91 : decode M_M_copy.2.1 91 = .ok (.iconst 1, 1) := by decide +kernel
theorem dM_copy_92 : decode M_M_copy.2.1 92 = .ok (.goto 4, 3) := by decide +kernel
theorem dM_copy_95 : decode M_M_copy.2.1 95 = .ok (.iconst 0, 1) := by decide +kernel
theorem dM_copy_96 : decode M_M_copy.2.1 96 = .ok (.iadd, 1) := by decide +kernel
theorem dM_copy_97 : decode M_M_copy.2.1 97 = .ok (.istore 5, 2) := by decide +kernel
theorem dM_copy_99 : decode M_M_copy.2.1 99 = .ok (.iinc 6 1, 3) := by decide +kernel
theorem dM_copy_102 : decode M_M_copy.2.1 102 = .ok (.goto (-51), 3) := by decide +kernel
theorem dM_copy_105 : decode M_M_copy.2.1 105 = .ok (.iload_n 3, 1) := by decide +kernel
theorem dM_copy_106 : decode M_M_copy.2.1 106 = .ok (.ifCond .ne 13, 3) := by decide +kernel
theorem dM_copy_109 : decode M_M_copy.2.1 109 = .ok (.aload_n 0, 1) := by decide +kernel
theorem dM_copy_110 : decode M_M_copy.2.1 110 = .ok (.getfield 29, 3) := by decide +kernel
theorem dM_copy_113 : decode M_M_copy.2.1 113 = .ok (.iload 4, 2) := by decide +kernel
theorem dM_copy_115 : decode M_M_copy.2.1 115 = .ok (.iaload, 1) := by decide +kernel
theorem dM_copy_116 : decode M_M_copy.2.1 116 = .ok (.goto 19, 3) := by decide +kernel
theorem dM_copy_119 : decode M_M_copy.2.1 119 = .ok (.iload_n 3, 1) := by decide +kernel
theorem dM_copy_120 : decode M_M_copy.2.1 120 = .ok (.iconst 1, 1) := by decide +kernel
theorem dM_copy_121 : decode M_M_copy.2.1 121 = .ok (.if_icmp .ne 12, 3) := by decide +kernel
theorem dM_copy_124 : decode M_M_copy.2.1 124 = .ok (.aload_n 0, 1) := by decide +kernel
theorem dM_copy_125 : decode M_M_copy.2.1 125 = .ok (.iload 4, 2) := by decide +kernel
theorem dM_copy_127 : decode M_M_copy.2.1 127 = .ok (.invokevirtual 81, 3) := by decide +kernel
theorem dM_copy_130 : decode M_M_copy.2.1 130 = .ok (.goto 5, 3) := by decide +kernel
theorem dM_copy_133 : decode M_M_copy.2.1 133 = .ok (.iload 5, 2) := by decide +kernel
theorem dM_copy_135 : decode M_M_copy.2.1 135 = .ok (.ireturn, 1) := by decide +kernel
theorem dM_follow_0 : decode M_M_follow.2.1 0 = .ok (.iload_n 1, 1) := by decide +kernel
theorem dM_follow_1 : decode M_M_follow.2.1 1 = .ok (.ifCond .eq 10, 3) := by decide +kernel
theorem dM_follow_4 : decode M_M_follow.2.1 4 = .ok (.iload_n 1, 1) := by decide +kernel
theorem dM_follow_5 : decode M_M_follow.2.1 5 = .ok (.iconst 1, 1) := by decide +kernel
theorem dM_follow_6 : decode M_M_follow.2.1 6 = .ok (.if_icmp .eq 5, 3) := by decide +kernel
theorem dM_follow_9 : decode M_M_follow.2.1 9 = .ok (.iconst (-1), 1) := by decide +kernel
theorem dM_follow_10 : decode M_M_follow.2.1 10 = .ok (.ireturn, 1) := by decide +kernel
theorem dM_follow_11 : decode M_M_follow.2.1 11 = .ok (.aload_n 0, 1) := by decide +kernel
theorem dM_follow_12 : decode M_M_follow.2.1 12 = .ok (.getfield 117, 3) := by decide +kernel
theorem dM_follow_15 : decode M_M_follow.2.1 15 = .ok (.ifCond .eq 6, 3) := by decide +kernel
theorem dM_follow_18 : decode M_M_follow.2.1 18 = .ok (.bipush (-2), 2) := by decide +kernel
theorem dM_follow_20 : decode M_M_follow.2.1 20 = .ok (.ireturn, 1) := by decide +kernel
theorem dM_follow_21 : decode M_M_follow.2.1 21 = .ok (.aload_n 0, 1) := by decide +kernel
theorem dM_follow_22 : decode M_M_follow.2.1 22 = .ok (.getfield 47, 3) := by decide +kernel
theorem dM_follow_25 : decode M_M_follow.2.1 25 = .ok (.iload_n 1, 1) := by decide +kernel
theorem dM_follow_26 : decode M_M_follow.2.1 26 = .ok (.aload_n 0, 1) := by decide +kernel
theorem dM_follow_27 : decode M_M_follow.2.1 27 = .ok (.getfield 94, 3) := by decide +kernel
theorem dM_follow_30 : decode M_M_follow.2.1 30 = .ok (.iastore, 1) := by decide +kernel
theorem dM_follow_31 : decode M_M_follow.2.1 31 = .ok (.aload_n 0, 1) := by decide +kernel
theorem dM_follow_32 : decode M_M_follow.2.1 32 = .ok (.getfield 94, 3) := by decide +kernel
theorem dM_follow_35 : decode M_M_follow.2.1 35 = .ok (.ireturn, 1) := by decide +kernel
theorem dM_view_0 : decode M_M_view.2.1 0 = .ok (.iload_n 1, 1) := by decide +kernel
theorem dM_view_1 : decode M_M_view.2.1 1 = .ok (.ifCond .eq 8, 3) := by decide +kernel
theorem dM_view_4 : decode M_M_view.2.1 4 = .ok (.iload_n 1, 1) := by decide +kernel
theorem dM_view_5 : decode M_M_view.2.1 5 = .ok (.iconst 1, 1) := by decide +kernel
theorem dM_view_6 : decode M_M_view.2.1 6 = .ok (.if_icmp .ne 10, 3) := by decide +kernel
theorem dM_view_9 : decode M_M_view.2.1 9 = .ok (.iload_n 2, 1) := by decide +kernel
theorem dM_view_10 : decode M_M_view.2.1 10 = .ok (.invokestatic 121, 3) := by decide +kernel
theorem dM_view_13 : decode M_M_view.2.1 13 = .ok (.ifCond .ne 5, 3) := by decide +kernel
theorem dM_view_16 : decode M_M_view.2.1 16 = .ok (.iconst (-1), 1) := by decide +kernel
theorem dM_view_17 : decode M_M_view.2.1 17 = .ok (.ireturn, 1) := by decide +kernel
theorem dM_view_18 : decode M_M_view.2.1 18 = .ok (.aload_n 0, 1) := by decide +kernel
theorem dM_view_19 : decode M_M_view.2.1 19 = .ok (.iload_n 2, 1) := by decide +kernel
theorem dM_view_20 : decode M_M_view.2.1 20 = .ok (.iconst 4, 1) := by decide +kernel
theorem dM_view_21 : decode M_M_view.2.1 21 = .ok (.idiv, 1) := by decide +kernel
theorem dM_view_22 : decode M_M_view.2.1 22 = .ok (.iconst 2, 1) := by decide +kernel
theorem dM_view_23 : decode M_M_view.2.1 23 = .ok (.irem, 1) := by decide +kernel
theorem dM_view_24 : decode M_M_view.2.1 24 = .ok (.aload_n 0, 1) := by decide +kernel
theorem dM_view_25 : decode M_M_view.2.1 25 = .ok (.getfield 47, 3) := by decide +kernel
theorem dM_view_28 : decode M_M_view.2.1 28 = .ok (.iload_n 1, 1) := by decide +kernel
theorem dM_view_29 : decode M_M_view.2.1 29 = .ok (.iaload, 1) := by decide +kernel
theorem dM_view_30 : decode M_M_view.2.1 30 = .ok (.invokevirtual 109, 3) := by decide +kernel
theorem dM_view_33 : decode M_M_view.2.1 33 = .ok (.ifCond .ne 6, 3) := by decide +kernel
theorem dM_view_36 : decode M_M_view.2.1 36 = .ok (.bipush (-7), 2) := by decide +kernel
theorem dM_view_38 : decode M_M_view.2.1 38 = .ok (.ireturn, 1) := by decide +kernel
theorem dM_view_39 : decode M_M_view.2.1 39 = .ok (.iconst 0, 1) := by decide +kernel
theorem dM_view_40 : decode M_M_view.2.1 40 = .ok (.istore_n 3, 1) := by decide +kernel
theorem dM_view_41 : decode M_M_view.2.1 41 = .ok (.iconst 1, 1) := by decide +kernel
theorem dM_view_42 : decode M_M_view.2.1 42 = .ok (.istore 4, 2) := by decide +kernel
theorem dM_view_44 : decode M_M_view.2.1 44 = .ok (.iload 4, 2) := by decide +kernel
theorem dM_view_46 : decode M_M_view.2.1 46 = .ok (.aload_n 0, 1) := by decide +kernel
theorem dM_view_47 : decode M_M_view.2.1 47 = .ok (.getfield 47, 3) := by decide +kernel
theorem dM_view_50 : decode M_M_view.2.1 50 = .ok (.iload_n 1, 1) := by decide +kernel
theorem dM_view_51 : decode M_M_view.2.1 51 = .ok (.iaload, 1) := by decide +kernel
theorem dM_view_52 : decode M_M_view.2.1 52 = .ok (.if_icmp .gt 83, 3) := by decide +kernel
theorem dM_view_55 : decode M_M_view.2.1 55 = .ok (.iload 4, 2) := by decide +kernel
theorem dM_view_57 : decode M_M_view.2.1 57 = .ok (.aload_n 0, 1) := by decide +kernel
theorem dM_view_58 : decode M_M_view.2.1 58 = .ok (.getfield 54, 3) := by decide +kernel
theorem dM_view_61 : decode M_M_view.2.1 61 = .ok (.if_icmp .gt 74, 3) := by decide +kernel
theorem dM_view_64 : decode M_M_view.2.1 64 = .ok (.aload_n 0, 1) := by decide +kernel
theorem dM_view_65 : decode M_M_view.2.1 65 = .ok (.getfield 19, 3) := by decide +kernel
theorem dM_view_68 : decode M_M_view.2.1 68 = .ok (.iload 4, 2) := by decide +kernel
theorem dM_view_70 : decode M_M_view.2.1 70 = .ok (.iaload, 1) := by decide +kernel
theorem dM_view_71 : decode M_M_view.2.1 71 = .ok (.ifCond .ne 38, 3) := by decide +kernel
theorem dM_view_74 : decode M_M_view.2.1 74 = .ok (.aload_n 0, 1) := by decide +kernel
theorem dM_view_75 : decode M_M_view.2.1 75 = .ok (.getfield 13, 3) := by decide +kernel
theorem dM_view_78 : decode M_M_view.2.1 78 = .ok (.iload 4, 2) := by decide +kernel
theorem dM_view_80 : decode M_M_view.2.1 80 = .ok (.iaload, 1) := by decide +kernel
theorem dM_view_81 : decode M_M_view.2.1 81 = .ok (.iload_n 2, 1) := by decide +kernel
theorem dM_view_82 : decode M_M_view.2.1 82 = .ok (.if_icmp .ne 27, 3) := by decide +kernel
theorem dM_view_85 : decode M_M_view.2.1 85 = .ok (.aload_n 0, 1) := by decide +kernel
theorem dM_view_86 : decode M_M_view.2.1 86 = .ok (.aload_n 0, 1) := by decide +kernel
theorem dM_view_87 : decode M_M_view.2.1 87 = .ok (.getfield 7, 3) := by decide +kernel
theorem dM_view_90 : decode M_M_view.2.1 90 = .ok (.iload 4, 2) := by decide +kernel
theorem dM_view_92 : decode M_M_view.2.1 92 = .ok (.iaload, 1) := by decide +kernel
theorem dM_view_93 : decode M_M_view.2.1 93 = .ok (.aload_n 0, 1) := by decide +kernel
theorem dM_view_94 : decode M_M_view.2.1 94 = .ok (.getfield 47, 3) := by decide +kernel
theorem dM_view_97 : decode M_M_view.2.1 97 = .ok (.iload_n 1, 1) := by decide +kernel
theorem dM_view_98 : decode M_M_view.2.1 98 = .ok (.iaload, 1) := by decide +kernel
theorem dM_view_99 : decode M_M_view.2.1 99 = .ok (.invokevirtual 137, 3) := by decide +kernel
theorem dM_view_102 : decode M_M_view.2.1 102 = .ok (.ifCond .le 7, 3) := by decide +kernel
theorem dM_view_105 : decode M_M_view.2.1 105 = .ok (.iconst 1, 1) := by decide +kernel
theorem dM_view_106 : decode M_M_view.2.1 106 = .ok (.goto 4, 3) := by decide +kernel
theorem dM_view_109 : decode M_M_view.2.1 109 = .ok (.iconst 0, 1) := by decide +kernel
theorem dM_view_110 : decode M_M_view.2.1 110 = .ok (.istore 5, 2) := by decide +kernel
theorem dM_view_112 : decode M_M_view.2.1 112 = .ok (.iload 5, 2) := by decide +kernel
theorem dM_view_114 : decode M_M_view.2.1 114 = .ok (.ifCond .eq 13, 3) := by decide +kernel
theorem dM_view_117 : decode M_M_view.2.1 117 = .ok (.aload_n 0, 1) := by decide +kernel
theorem dM_view_118 : decode M_M_view.2.1 118 = .ok (.getfield 16, 3) := by decide +kernel
theorem dM_view_121 : decode M_M_view.2.1 121 = .ok (.iload 4, 2) := by decide +kernel
theorem dM_view_123 : decode M_M_view.2.1 123 = .ok (.iaload, 1) := by decide +kernel
theorem dM_view_124 : decode M_M_view.2.1 124 = .ok (.goto 4, 3) := by decide +kernel
theorem dM_view_127 : decode M_M_view.2.1 127 = .ok (.iload_n 3, 1) := by decide +kernel
theorem dM_view_128 : decode M_M_view.2.1 128 = .ok (.istore_n 3, 1) := by decide +kernel
theorem dM_view_129 : decode M_M_view.2.1 129 = .ok (.iinc 4 1, 3) := by decide +kernel
theorem dM_view_132 : decode M_M_view.2.1 132 = .ok (.goto (-88), 3) := by decide +kernel
theorem dM_view_135 : decode M_M_view.2.1 135 = .ok (.iload_n 3, 1) := by decide +kernel
theorem dM_view_136 : decode M_M_view.2.1 136 = .ok (.ireturn, 1) := by decide +kernel
theorem dM_low_0 : decode M_M_low.2.1 0 = .ok (.iload_n 1, 1) := by decide +kernel
theorem dM_low_1 : decode M_M_low.2.1 1 = .ok (.istore_n 2, 1) := by decide +kernel
theorem dM_low_2 : decode M_M_low.2.1 2 = .ok (.iconst 1, 1) := by decide +kernel
theorem dM_low_3 : decode M_M_low.2.1 3 = .ok (.istore_n 3, 1) := by decide +kernel
theorem dM_low_4 : decode M_M_low.2.1 4 = .ok (.iload_n 3, 1) := by decide +kernel
theorem dM_low_5 : decode M_M_low.2.1 5 = .ok (.iload_n 1, 1) := by decide +kernel
theorem dM_low_6 : decode M_M_low.2.1 6 = .ok (.if_icmp .gt 46, 3) := by decide +kernel
theorem dM_low_9 : decode M_M_low.2.1 9 = .ok (.iload_n 3, 1) := by decide +kernel
theorem dM_low_10 : decode M_M_low.2.1 10 = .ok (.aload_n 0, 1) := by decide +kernel
theorem dM_low_11 : decode M_M_low.2.1 11 = .ok (.getfield 54, 3) := by decide +kernel
theorem dM_low_14 : decode M_M_low.2.1 14 = .ok (.if_icmp .gt 38, 3) := by decide +kernel
theorem dM_low_17 : decode M_M_low.2.1 17 = .ok (.aload_n 0, 1) := by decide +kernel
theorem dM_low_18 : decode M_M_low.2.1 18 = .ok (.aload_n 0, 1) := by decide +kernel
theorem dM_low_19 : decode M_M_low.2.1 19 = .ok (.getfield 7, 3) := by decide +kernel
theorem dM_low_22 : decode M_M_low.2.1 22 = .ok (.iload_n 3, 1) := by decide +kernel
theorem dM_low_23 : decode M_M_low.2.1 23 = .ok (.iaload, 1) := by decide +kernel
theorem dM_low_24 : decode M_M_low.2.1 24 = .ok (.iload_n 1, 1) := by decide +kernel
theorem dM_low_25 : decode M_M_low.2.1 25 = .ok (.invokevirtual 137, 3) := by decide +kernel
theorem dM_low_28 : decode M_M_low.2.1 28 = .ok (.ifCond .ne 18, 3) := by decide +kernel
theorem dM_low_31 : decode M_M_low.2.1 31 = .ok (.iload_n 3, 1) := by decide +kernel
theorem dM_low_32 : decode M_M_low.2.1 32 = .ok (.iconst 1, 1) := by decide +kernel
theorem dM_low_33 : decode M_M_low.2.1 33 = .ok (.isub, 1) := by decide +kernel
theorem dM_low_34 : decode M_M_low.2.1 34 = .ok (.iload_n 2, 1) := by decide +kernel
theorem dM_low_35 : decode M_M_low.2.1 35 = .ok (.if_icmp .ge 9, 3) := by decide +kernel
theorem dM_low_38 : decode M_M_low.2.1 38 = .ok (.iload_n 3, 1) := by decide +kernel
theorem dM_low_39 : decode M_M_low.2.1 39 = .ok (.iconst 1, 1) := by decide +kernel
theorem dM_low_40 : decode M_M_low.2.1 40 = .ok (.isub, 1) := by decide +kernel
theorem dM_low_41 : decode M_M_low.2.1 41 = .ok (.goto 4, 3) := by decide +kernel
theorem dM_low_44 : decode M_M_low.2.1 44 = .ok (.iload_n 2, 1) := by decide +kernel
theorem dM_low_45 : decode M_M_low.2.1 45 = .ok (.istore_n 2, 1) := by decide +kernel
theorem dM_low_46 : decode M_M_low.2.1 46 = .ok (.iinc 3 1, 3) := by decide +kernel
theorem dM_low_49 : decode M_M_low.2.1 49 = .ok (.goto (-45), 3) := by decide +kernel
theorem dM_low_52 : decode M_M_low.2.1 52 = .ok (.iload_n 2, 1) := by decide +kernel
theorem dM_low_53 : decode M_M_low.2.1 53 = .ok (.ireturn, 1) := by decide +kernel
theorem dM_collect_0 : decode M_M_collect.2.1 0 = .ok (.iload_n 1, 1) := by decide +kernel
theorem dM_collect_1 : decode M_M_collect.2.1 1 = .ok (.iload_n 2, 1) := by decide +kernel
theorem dM_collect_2 : decode M_M_collect.2.1 2 = .ok (.invokestatic 143, 3) := by decide +kernel
theorem dM_collect_5 : decode M_M_collect.2.1 5 = .ok (.ifCond .ne 5, 3) := by decide +kernel
theorem dM_collect_8 : decode M_M_collect.2.1 8 = .ok (.iconst (-1), 1) := by decide +kernel
theorem dM_collect_9 : decode M_M_collect.2.1 9 = .ok (.ireturn, 1) := by decide +kernel
theorem dM_collect_10 : decode M_M_collect.2.1 10 = .ok (.aload_n 0, 1) := by decide +kernel
theorem dM_collect_11 : decode M_M_collect.2.1 11 = .ok (.getfield 117, 3) := by decide +kernel
theorem dM_collect_14 : decode M_M_collect.2.1 14 = .ok (.ifCond .eq 6, 3) := by decide +kernel
theorem dM_collect_17 : decode M_M_collect.2.1 17 = .ok (.bipush (-2), 2) := by decide +kernel
theorem dM_collect_19 : decode M_M_collect.2.1 19 = .ok (.ireturn, 1) := by decide +kernel
theorem dM_collect_20 : decode M_M_collect.2.1 20 = .ok (.aload_n 0, 1) := by decide +kernel
theorem dM_collect_21 : decode M_M_collect.2.1 21 = .ok (.getfield 29, 3) := by decide +kernel
theorem dM_collect_24 : decode M_M_collect.2.1 24 = .ok (.bipush 6, 2) := by decide +kernel
theorem dM_collect_26 : decode M_M_collect.2.1 26 = .ok (.iload_n 1, 1) := by decide +kernel
theorem dM_collect_27 : decode M_M_collect.2.1 27 = .ok (.imul, 1) := by decide +kernel
theorem dM_collect_28 : decode M_M_collect.2.1 28 = .ok (.iload_n 2, 1) := by decide +kernel
theorem dM_collect_29 : decode M_M_collect.2.1 29 = .ok (.iadd, 1) := by decide +kernel
theorem dM_collect_30 : decode M_M_collect.2.1 30 = .ok (.iaload, 1) := by decide +kernel
theorem dM_collect_31 : decode M_M_collect.2.1 31 = .ok (.ifCond .eq 6, 3) := by decide +kernel
theorem dM_collect_34 : decode M_M_collect.2.1 34 = .ok (.bipush (-7), 2) := by decide +kernel
theorem dM_collect_36 : decode M_M_collect.2.1 36 = .ok (.ireturn, 1) := by decide +kernel
theorem dM_collect_37 : decode M_M_collect.2.1 37 = .ok (.bipush 6, 2) := by decide +kernel
theorem dM_collect_39 : decode M_M_collect.2.1 39 = .ok (.iload_n 1, 1) := by decide +kernel
theorem dM_collect_40 : decode M_M_collect.2.1 40 = .ok (.imul, 1) := by decide +kernel
theorem dM_collect_41 : decode M_M_collect.2.1 41 = .ok (.iload_n 2, 1) := by decide +kernel
theorem dM_collect_42 : decode M_M_collect.2.1 42 = .ok (.iadd, 1) := by decide +kernel
theorem dM_collect_43 : decode M_M_collect.2.1 43 = .ok (.istore_n 3, 1) := by decide +kernel
theorem dM_collect_44 : decode M_M_collect.2.1 44 = .ok (.aload_n 0, 1) := by decide +kernel
theorem dM_collect_45 : decode M_M_collect.2.1 45 = .ok (.iload_n 3, 1) := by decide +kernel
theorem dM_collect_46 : decode M_M_collect.2.1 46 = .ok (.invokevirtual 81, 3) := by decide +kernel
theorem dM_collect_49 : decode M_M_collect.2.1 49 = .ok (.istore 4, 2) := by decide +kernel
theorem dM_collect_51 : decode M_M_collect.2.1 51 = .ok (.aload_n 0, 1) := by decide +kernel
theorem dM_collect_52 : decode M_M_collect.2.1 52 = .ok (.aload_n 0, 1) := by decide +kernel
theorem dM_collect_53 : decode M_M_collect.2.1 53 = .ok (.getfield 47, 3) := by decide +kernel
theorem dM_collect_56 : decode M_M_collect.2.1 56 = .ok (.iconst 0, 1) := by decide +kernel
theorem dM_collect_57 : decode M_M_collect.2.1 57 = .ok (.iaload, 1) := by decide +kernel
theorem dM_collect_58 : decode M_M_collect.2.1 58 = .ok (.invokevirtual 155, 3) := by decide +kernel
theorem dM_collect_61 : decode M_M_collect.2.1 61 = .ok (.istore 5, 2) := by decide +kernel
theorem dM_collect_63 : decode M_M_collect.2.1 63 = .ok (.aload_n 0, 1) := by decide +kernel
theorem dM_collect_64 : decode M_M_collect.2.1 64 = .ok (.aload_n 0, 1) := by decide +kernel
theorem dM_collect_65 : decode M_M_collect.2.1 65 = .ok (.getfield 47, 3) := by decide +kernel
theorem dM_collect_68 : decode M_M_collect.2.1 68 = .ok (.iconst 1, 1) := by decide +kernel
theorem dM_collect_69 : decode M_M_collect.2.1 69 = .ok (.iaload, 1) := by decide +kernel
theorem dM_collect_70 : decode M_M_collect.2.1 70 = .ok (.invokevirtual 155, 3) := by decide +kernel
theorem dM_collect_73 : decode M_M_collect.2.1 73 = .ok (.istore 6, 2) := by decide +kernel
theorem dM_collect_75 : decode M_M_collect.2.1 75 = .ok (.aload_n 0, 1) := by decide +kernel
theorem dM_collect_76 : decode M_M_collect.2.1 76 = .ok (.aload_n 0, 1) := by decide +kernel
theorem dM_collect_77 : decode M_M_collect.2.1 77 = .ok (.getfield 94, 3) := by decide +kernel
theorem dM_collect_80 : decode M_M_collect.2.1 80 = .ok (.invokevirtual 155, 3) := by decide +kernel
theorem dM_collect_83 : decode M_M_collect.2.1 83 = .ok (.istore 7, 2) := by decide +kernel
theorem dM_collect_85 : decode M_M_collect.2.1 85 = .ok (.iload 5, 2) := by decide +kernel
theorem dM_collect_87 : decode M_M_collect.2.1 87 = .ok (.iload 4, 2) := by decide +kernel
theorem dM_collect_89 : decode M_M_collect.2.1 89 = .ok (.if_icmp .ge 8, 3) := by decide +kernel
theorem dM_collect_92 : decode M_M_collect.2.1 92 = .ok (.iload 5, 2) := by decide +kernel
theorem dM_collect_94 : decode M_M_collect.2.1 94 = .ok (.goto 5, 3) := by decide +kernel
theorem dM_collect_97 : decode M_M_collect.2.1 97 = .ok (.iload 4, 2) := by decide +kernel
theorem dM_collect_99 : decode M_M_collect.2.1 99 = .ok (.istore 4, 2) := by decide +kernel
theorem dM_collect_101 : decode M_M_collect.2.1 101 = .ok (.iload 6, 2) := by decide +kernel
theorem dM_collect_103 : decode M_M_collect.2.1 103 = .ok (.iload 4, 2) := by decide +kernel
theorem dM_collect_105 : decode M_M_collect.2.1 105 = .ok (.if_icmp .ge 8, 3) := by decide +kernel
theorem dM_collect_108 : decode M_M_collect.2.1 108 = .ok (.iload 6, 2) := by decide +kernel
theorem dM_collect_110 : decode M_M_collect.2.1 110 = .ok (.goto 5, 3) := by decide +kernel
theorem dM_collect_113 : decode M_M_collect.2.1 113 = .ok (.iload 4, 2) := by decide +kernel
theorem dM_collect_115 : decode M_M_collect.2.1 115 = .ok (.istore 4, 2) := by decide +kernel
theorem dM_collect_117 : decode M_M_collect.2.1 117 = .ok (.iload 7, 2) := by decide +kernel
theorem dM_collect_119 : decode M_M_collect.2.1 119 = .ok (.iload 4, 2) := by decide +kernel
theorem dM_collect_121 : decode M_M_collect.2.1 121 = .ok (.if_icmp .ge 8, 3) := by decide +kernel
theorem dM_collect_124 : decode M_M_collect.2.1 124 = .ok (.iload 7, 2) := by decide +kernel
theorem dM_collect_126 : decode M_M_collect.2.1 126 = .ok (.goto 5, 3) := by decide +kernel
theorem dM_collect_129 : decode M_M_collect.2.1 129 = .ok (.iload 4, 2) := by decide +kernel
theorem dM_collect_131 : decode M_M_collect.2.1 131 = .ok (.istore 4, 2) := by decide +kernel
theorem dM_collect_133 : decode M_M_collect.2.1 133 = .ok (.iconst 0, 1) := by decide +kernel
theorem dM_collect_134 : decode M_M_collect.2.1 134 = .ok (.istore 8, 2) := by decide +kernel
theorem dM_collect_136 : decode M_M_collect.2.1 136 = .ok (.aload_n 0, 1) := by decide +kernel
theorem dM_collect_137 : decode M_M_collect.2.1 137 = .ok (.getfield 32, 3) := by decide +kernel
theorem dM_collect_140 : decode M_M_collect.2.1 140 = .ok (.iload_n 3, 1) := by decide +kernel
theorem dM_collect_141 : decode M_M_collect.2.1 141 = .ok (.iaload, 1) := by decide +kernel
theorem dM_collect_142 : decode M_M_collect.2.1 142 = .ok (.iconst 1, 1) := by decide +kernel
theorem dM_collect_143 : decode M_M_collect.2.1 143 = .ok (.iadd, 1) := by decide +kernel
theorem dM_collect_144 : decode M_M_collect.2.1 144 = .ok (.istore 9, 2) := by decide +kernel
theorem dM_collect_146 : decode M_M_collect.2.1 146 = .ok (.iload 9, 2) := by decide +kernel
theorem dM_collect_148 : decode M_M_collect.2.1 148 = .ok (.iload 4, 2) := by decide +kernel
theorem dM_collect_150 : decode M_M_collect.2.1 150 = .ok (.if_icmp .gt 35, 3) := by decide +kernel
theorem dM_collect_153 : decode M_M_collect.2.1 153 = .ok (.iload 8, 2) := by decide +kernel
theorem dM_collect_155 : decode M_M_collect.2.1 155 = .ok (.aload_n 0, 1) := by decide +kernel
theorem dM_collect_156 : decode M_M_collect.2.1 156 = .ok (.getfield 26, 3) := by decide +kernel
theorem dM_collect_159 : decode M_M_collect.2.1 159 = .ok (.sipush 200, 3) := by decide +kernel
theorem dM_collect_162 : decode M_M_collect.2.1 162 = .ok (.iload_n 3, 1) := by decide +kernel
theorem dM_collect_163 : decode M_M_collect.2.1 163 = .ok (.imul, 1) := by decide +kernel
theorem dM_collect_164 : decode M_M_collect.2.1 164 = .ok (.iload 9, 2) := by decide +kernel
theorem dM_collect_166 : decode M_M_collect.2.1 166 = .ok (.iadd, 1) := by decide +kernel
theorem dM_collect_167 : decode M_M_collect.2.1 167 = .ok (.baload, 1) := by decide +kernel
theorem dM_collect_168 : decode M_M_collect.2.1 168 = .ok (.ifCond .eq 7, 3) := by decide +kernel
theorem dM_collect_171 : decode M_M_collect.2.1 171 = .ok (.iconst 1, 1) := by decide +kernel
theorem dM_collect_172 : decode M_M_collect.2.1 172 = .ok (.goto 4, 3) := by decide +kernel
theorem dM_collect_175 : decode M_M_collect.2.1 175 = .ok (.iconst 0, 1) := by decide +kernel
theorem dM_collect_176 : decode M_M_collect.2.1 176 = .ok (.iadd, 1) := by decide +kernel
theorem dM_collect_177 : decode M_M_collect.2.1 177 = .ok (.istore 8, 2) := by decide +kernel
theorem dM_collect_179 : decode M_M_collect.2.1 179 = .ok (.iinc 9 1, 3) := by decide +kernel
theorem dM_collect_182 : decode M_M_collect.2.1 182 = .ok (.goto (-36), 3) := by decide +kernel
theorem dM_collect_185 : decode M_M_collect.2.1 185 = .ok (.aload_n 0, 1) := by decide +kernel
theorem dM_collect_186 : decode M_M_collect.2.1 186 = .ok (.getfield 32, 3) := by decide +kernel
theorem dM_collect_189 : decode M_M_collect.2.1 189 = .ok (.iload_n 3, 1) := by decide +kernel
theorem dM_collect_190 : decode M_M_collect.2.1 190 = .ok (.iload 4, 2) := by decide +kernel
theorem dM_collect_192 : decode M_M_collect.2.1 192 = .ok (.aload_n 0, 1) := by decide +kernel
theorem dM_collect_193 : decode M_M_collect.2.1 193 = .ok (.getfield 32, 3) := by decide +kernel
theorem dM_collect_196 : decode M_M_collect.2.1 196 = .ok (.iload_n 3, 1) := by decide +kernel
theorem dM_collect_197 : decode M_M_collect.2.1 197 = .ok (.iaload, 1) := by decide +kernel
theorem dM_collect_198 : decode M_M_collect.2.1 198 = .ok (.if_icmp .le 8, 3) := by decide +kernel
theorem dM_collect_201 : decode M_M_collect.2.1 201 = .ok (.iload 4, 2) := by decide +kernel
theorem dM_collect_203 : decode M_M_collect.2.1 203 = .ok (.goto 9, 3) := by decide +kernel
theorem dM_collect_206 : decode M_M_collect.2.1 206 = .ok (.aload_n 0, 1) := by decide +kernel
theorem dM_collect_207 : decode M_M_collect.2.1 207 = .ok (.getfield 32, 3) := by decide +kernel
theorem dM_collect_210 : decode M_M_collect.2.1 210 = .ok (.iload_n 3, 1) := by decide +kernel
theorem dM_collect_211 : decode M_M_collect.2.1 211 = .ok (.iaload, 1) := by decide +kernel
theorem dM_collect_212 : decode M_M_collect.2.1 212 = .ok (.iastore, 1) := by decide +kernel
theorem dM_collect_213 : decode M_M_collect.2.1 213 = .ok (.iload 8, 2) := by decide +kernel
theorem dM_collect_215 : decode M_M_collect.2.1 215 = .ok (.ireturn, 1) := by decide +kernel
end
section
/-! Decode rows (by program, wip/whole/gen.py). -/
theorem dW_law_0 : decode M_W_law.2.1 0 = .ok (.new 7, 3) := by decide +kernel
theorem dW_law_3 : decode M_W_law.2.1 3 = .ok (.dup, 1) := by decide +kernel
theorem dW_law_4 : decode M_W_law.2.1 4 = .ok (.invokespecial 9, 3) := by decide +kernel
theorem dW_law_7 : decode M_W_law.2.1 7 = .ok (.astore_n 1, 1) := by decide +kernel
theorem dW_law_8 : decode M_W_law.2.1 8 = .ok (.new 10, 3) := by decide +kernel
theorem dW_law_11 : decode M_W_law.2.1 11 = .ok (.dup, 1) := by decide +kernel
theorem dW_law_12 : decode M_W_law.2.1 12 = .ok (.invokespecial 12, 3) := by decide +kernel
theorem dW_law_15 : decode M_W_law.2.1 15 = .ok (.astore_n 2, 1) := by decide +kernel
theorem dW_law_16 : decode M_W_law.2.1 16 = .ok (.iconst 0, 1) := by decide +kernel
theorem dW_law_17 : decode M_W_law.2.1 17 = .ok (.istore_n 3, 1) := by decide +kernel
theorem dW_law_18 : decode M_W_law.2.1 18 = .ok (.iload_n 3, 1) := by decide +kernel
theorem dW_law_19 : decode M_W_law.2.1 19 = .ok (.aload_n 0, 1) := by decide +kernel
theorem dW_law_20 : decode M_W_law.2.1 20 = .ok (.arraylength, 1) := by decide +kernel
theorem dW_law_21 : decode M_W_law.2.1 21 = .ok (.iconst 5, 1) := by decide +kernel
theorem dW_law_22 : decode M_W_law.2.1 22 = .ok (.isub, 1) := by decide +kernel
theorem dW_law_23 : decode M_W_law.2.1 23 = .ok (.if_icmp .gt 674, 3) := by decide +kernel
theorem dW_law_26 : decode M_W_law.2.1 26 = .ok (.aload_n 0, 1) := by decide +kernel
theorem dW_law_27 : decode M_W_law.2.1 27 = .ok (.iload_n 3, 1) := by decide +kernel
theorem dW_law_28 : decode M_W_law.2.1 28 = .ok (.iaload, 1) := by decide +kernel
theorem dW_law_29 : decode M_W_law.2.1 29 = .ok (.bipush 31, 2) := by decide +kernel
theorem dW_law_31 : decode M_W_law.2.1 31 = .ok (.iand, 1) := by decide +kernel
theorem dW_law_32 : decode M_W_law.2.1 32 = .ok (.tableswitch 659 0 18 #[92, 105, 138, 181, 234, 257, 280, 303, 336, 379, 412, 455, 468, 481, 504, 547, 570, 603, 636], 92) := by decide +kernel
theorem dW_law_124 : decode M_W_law.2.1 124 = .ok (.aload_n 1, 1) := by decide +kernel
theorem dW_law_125 : decode M_W_law.2.1 125 = .ok (.invokevirtual 13, 3) := by decide +kernel
theorem dW_law_128 : decode M_W_law.2.1 128 = .ok (.aload_n 2, 1) := by decide +kernel
theorem dW_law_129 : decode M_W_law.2.1 129 = .ok (.invokevirtual 17, 3) := by decide +kernel
theorem dW_law_132 : decode M_W_law.2.1 132 = .ok (.if_icmp .eq 559, 3) := by decide +kernel
theorem dW_law_135 : decode M_W_law.2.1 135 = .ok (.iconst 0, 1) := by decide +kernel
theorem dW_law_136 : decode M_W_law.2.1 136 = .ok (.ireturn, 1) := by decide +kernel
theorem dW_law_137 : decode M_W_law.2.1 137 = .ok (.aload_n 1, 1) := by decide +kernel
theorem dW_law_138 : decode M_W_law.2.1 138 = .ok (.aload_n 0, 1) := by decide +kernel
theorem dW_law_139 : decode M_W_law.2.1 139 = .ok (.iload_n 3, 1) := by decide +kernel
theorem dW_law_140 : decode M_W_law.2.1 140 = .ok (.iconst 1, 1) := by decide +kernel
theorem dW_law_141 : decode M_W_law.2.1 141 = .ok (.iadd, 1) := by decide +kernel
theorem dW_law_142 : decode M_W_law.2.1 142 = .ok (.iaload, 1) := by decide +kernel
theorem dW_law_143 : decode M_W_law.2.1 143 = .ok (.aload_n 0, 1) := by decide +kernel
theorem dW_law_144 : decode M_W_law.2.1 144 = .ok (.iload_n 3, 1) := by decide +kernel
theorem dW_law_145 : decode M_W_law.2.1 145 = .ok (.iconst 2, 1) := by decide +kernel
theorem dW_law_146 : decode M_W_law.2.1 146 = .ok (.iadd, 1) := by decide +kernel
theorem dW_law_147 : decode M_W_law.2.1 147 = .ok (.iaload, 1) := by decide +kernel
theorem dW_law_148 : decode M_W_law.2.1 148 = .ok (.invokevirtual 18, 3) := by decide +kernel
theorem dW_law_151 : decode M_W_law.2.1 151 = .ok (.aload_n 2, 1) := by decide +kernel
theorem dW_law_152 : decode M_W_law.2.1 152 = .ok (.aload_n 0, 1) := by decide +kernel
theorem dW_law_153 : decode M_W_law.2.1 153 = .ok (.iload_n 3, 1) := by decide +kernel
theorem dW_law_154 : decode M_W_law.2.1 154 = .ok (.iconst 1, 1) := by decide +kernel
theorem dW_law_155 : decode M_W_law.2.1 155 = .ok (.iadd, 1) := by decide +kernel
theorem dW_law_156 : decode M_W_law.2.1 156 = .ok (.iaload, 1) := by decide +kernel
theorem dW_law_157 : decode M_W_law.2.1 157 = .ok (.aload_n 0, 1) := by decide +kernel
theorem dW_law_158 : decode M_W_law.2.1 158 = .ok (.iload_n 3, 1) := by decide +kernel
theorem dW_law_159 : decode M_W_law.2.1 159 = .ok (.iconst 2, 1) := by decide +kernel
theorem dW_law_160 : decode M_W_law.2.1 160 = .ok (.iadd, 1) := by decide +kernel
theorem dW_law_161 : decode M_W_law.2.1 161 = .ok (.iaload, 1) := by decide +kernel
theorem dW_law_162 : decode M_W_law.2.1 162 = .ok (.invokevirtual 22, 3) := by decide +kernel
theorem dW_law_165 : decode M_W_law.2.1 165 = .ok (.if_icmp .eq 526, 3) := by decide +kernel
theorem dW_law_168 : decode M_W_law.2.1 168 = .ok (.iconst 0, 1) := by decide +kernel
theorem dW_law_169 : decode M_W_law.2.1 169 = .ok (.ireturn, 1) := by decide +kernel
theorem dW_law_170 : decode M_W_law.2.1 170 = .ok (.aload_n 1, 1) := by decide +kernel
theorem dW_law_171 : decode M_W_law.2.1 171 = .ok (.aload_n 0, 1) := by decide +kernel
theorem dW_law_172 : decode M_W_law.2.1 172 = .ok (.iload_n 3, 1) := by decide +kernel
theorem dW_law_173 : decode M_W_law.2.1 173 = .ok (.iconst 1, 1) := by decide +kernel
theorem dW_law_174 : decode M_W_law.2.1 174 = .ok (.iadd, 1) := by decide +kernel
theorem dW_law_175 : decode M_W_law.2.1 175 = .ok (.iaload, 1) := by decide +kernel
theorem dW_law_176 : decode M_W_law.2.1 176 = .ok (.aload_n 0, 1) := by decide +kernel
theorem dW_law_177 : decode M_W_law.2.1 177 = .ok (.iload_n 3, 1) := by decide +kernel
theorem dW_law_178 : decode M_W_law.2.1 178 = .ok (.iconst 2, 1) := by decide +kernel
theorem dW_law_179 : decode M_W_law.2.1 179 = .ok (.iadd, 1) := by decide +kernel
theorem dW_law_180 : decode M_W_law.2.1 180 = .ok (.iaload, 1) := by decide +kernel
theorem dW_law_181 : decode M_W_law.2.1 181 = .ok (.aload_n 0, 1) := by decide +kernel
theorem dW_law_182 : decode M_W_law.2.1 182 = .ok (.iload_n 3, 1) := by decide +kernel
theorem dW_law_183 : decode M_W_law.2.1 183 = .ok (.iconst 3, 1) := by decide +kernel
theorem dW_law_184 : decode M_W_law.2.1 184 = .ok (.iadd, 1) := by decide +kernel
theorem dW_law_185 : decode M_W_law.2.1 185 = .ok (.iaload, 1) := by decide +kernel
theorem dW_law_186 : decode M_W_law.2.1 186 = .ok (.invokevirtual 23, 3) := by decide +kernel
theorem dW_law_189 : decode M_W_law.2.1 189 = .ok (.aload_n 2, 1) := by decide +kernel
theorem dW_law_190 : decode M_W_law.2.1 190 = .ok (.aload_n 0, 1) := by decide +kernel
theorem dW_law_191 : decode M_W_law.2.1 191 = .ok (.iload_n 3, 1) := by decide +kernel
theorem dW_law_192 : decode M_W_law.2.1 192 = .ok (.iconst 1, 1) := by decide +kernel
theorem dW_law_193 : decode M_W_law.2.1 193 = .ok (.iadd, 1) := by decide +kernel
theorem dW_law_194 : decode M_W_law.2.1 194 = .ok (.iaload, 1) := by decide +kernel
theorem dW_law_195 : decode M_W_law.2.1 195 = .ok (.aload_n 0, 1) := by decide +kernel
theorem dW_law_196 : decode M_W_law.2.1 196 = .ok (.iload_n 3, 1) := by decide +kernel
theorem dW_law_197 : decode M_W_law.2.1 197 = .ok (.iconst 2, 1) := by decide +kernel
theorem dW_law_198 : decode M_W_law.2.1 198 = .ok (.iadd, 1) := by decide +kernel
theorem dW_law_199 : decode M_W_law.2.1 199 = .ok (.iaload, 1) := by decide +kernel
theorem dW_law_200 : decode M_W_law.2.1 200 = .ok (.aload_n 0, 1) := by decide +kernel
theorem dW_law_201 : decode M_W_law.2.1 201 = .ok (.iload_n 3, 1) := by decide +kernel
theorem dW_law_202 : decode M_W_law.2.1 202 = .ok (.iconst 3, 1) := by decide +kernel
theorem dW_law_203 : decode M_W_law.2.1 203 = .ok (.iadd, 1) := by decide +kernel
theorem dW_law_204 : decode M_W_law.2.1 204 = .ok (.iaload, 1) := by decide +kernel
theorem dW_law_205 : decode M_W_law.2.1 205 = .ok (.invokevirtual 27, 3) := by decide +kernel
theorem dW_law_208 : decode M_W_law.2.1 208 = .ok (.if_icmp .eq 483, 3) := by decide +kernel
theorem dW_law_211 : decode M_W_law.2.1 211 = .ok (.iconst 0, 1) := by decide +kernel
theorem dW_law_212 : decode M_W_law.2.1 212 = .ok (.ireturn, 1) := by decide +kernel
theorem dW_law_213 : decode M_W_law.2.1 213 = .ok (.aload_n 1, 1) := by decide +kernel
theorem dW_law_214 : decode M_W_law.2.1 214 = .ok (.aload_n 0, 1) := by decide +kernel
theorem dW_law_215 : decode M_W_law.2.1 215 = .ok (.iload_n 3, 1) := by decide +kernel
theorem dW_law_216 : decode M_W_law.2.1 216 = .ok (.iconst 1, 1) := by decide +kernel
theorem dW_law_217 : decode M_W_law.2.1 217 = .ok (.iadd, 1) := by decide +kernel
theorem dW_law_218 : decode M_W_law.2.1 218 = .ok (.iaload, 1) := by decide +kernel
theorem dW_law_219 : decode M_W_law.2.1 219 = .ok (.aload_n 0, 1) := by decide +kernel
theorem dW_law_220 : decode M_W_law.2.1 220 = .ok (.iload_n 3, 1) := by decide +kernel
theorem dW_law_221 : decode M_W_law.2.1 221 = .ok (.iconst 2, 1) := by decide +kernel
theorem dW_law_222 : decode M_W_law.2.1 222 = .ok (.iadd, 1) := by decide +kernel
theorem dW_law_223 : decode M_W_law.2.1 223 = .ok (.iaload, 1) := by decide +kernel
theorem dW_law_224 : decode M_W_law.2.1 224 = .ok (.aload_n 0, 1) := by decide +kernel
theorem dW_law_225 : decode M_W_law.2.1 225 = .ok (.iload_n 3, 1) := by decide +kernel
theorem dW_law_226 : decode M_W_law.2.1 226 = .ok (.iconst 3, 1) := by decide +kernel
theorem dW_law_227 : decode M_W_law.2.1 227 = .ok (.iadd, 1) := by decide +kernel
theorem dW_law_228 : decode M_W_law.2.1 228 = .ok (.iaload, 1) := by decide +kernel
theorem dW_law_229 : decode M_W_law.2.1 229 = .ok (.aload_n 0, 1) := by decide +kernel
theorem dW_law_230 : decode M_W_law.2.1 230 = .ok (.iload_n 3, 1) := by decide +kernel
theorem dW_law_231 : decode M_W_law.2.1 231 = .ok (.iconst 4, 1) := by decide +kernel
theorem dW_law_232 : decode M_W_law.2.1 232 = .ok (.iadd, 1) := by decide +kernel
theorem dW_law_233 : decode M_W_law.2.1 233 = .ok (.iaload, 1) := by decide +kernel
theorem dW_law_234 : decode M_W_law.2.1 234 = .ok (.invokevirtual 28, 3) := by decide +kernel
theorem dW_law_237 : decode M_W_law.2.1 237 = .ok (.aload_n 2, 1) := by decide +kernel
theorem dW_law_238 : decode M_W_law.2.1 238 = .ok (.aload_n 0, 1) := by decide +kernel
theorem dW_law_239 : decode M_W_law.2.1 239 = .ok (.iload_n 3, 1) := by decide +kernel
theorem dW_law_240 : decode M_W_law.2.1 240 = .ok (.iconst 1, 1) := by decide +kernel
theorem dW_law_241 : decode M_W_law.2.1 241 = .ok (.iadd, 1) := by decide +kernel
theorem dW_law_242 : decode M_W_law.2.1 242 = .ok (.iaload, 1) := by decide +kernel
theorem dW_law_243 : decode M_W_law.2.1 243 = .ok (.aload_n 0, 1) := by decide +kernel
theorem dW_law_244 : decode M_W_law.2.1 244 = .ok (.iload_n 3, 1) := by decide +kernel
theorem dW_law_245 : decode M_W_law.2.1 245 = .ok (.iconst 2, 1) := by decide +kernel
theorem dW_law_246 : decode M_W_law.2.1 246 = .ok (.iadd, 1) := by decide +kernel
theorem dW_law_247 : decode M_W_law.2.1 247 = .ok (.iaload, 1) := by decide +kernel
theorem dW_law_248 : decode M_W_law.2.1 248 = .ok (.aload_n 0, 1) := by decide +kernel
theorem dW_law_249 : decode M_W_law.2.1 249 = .ok (.iload_n 3, 1) := by decide +kernel
theorem dW_law_250 : decode M_W_law.2.1 250 = .ok (.iconst 3, 1) := by decide +kernel
theorem dW_law_251 : decode M_W_law.2.1 251 = .ok (.iadd, 1) := by decide +kernel
theorem dW_law_252 : decode M_W_law.2.1 252 = .ok (.iaload, 1) := by decide +kernel
theorem dW_law_253 : decode M_W_law.2.1 253 = .ok (.aload_n 0, 1) := by decide +kernel
theorem dW_law_254 : decode M_W_law.2.1 254 = .ok (.iload_n 3, 1) := by decide +kernel
theorem dW_law_255 : decode M_W_law.2.1 255 = .ok (.iconst 4, 1) := by decide +kernel
theorem dW_law_256 : decode M_W_law.2.1 256 = .ok (.iadd, 1) := by decide +kernel
theorem dW_law_257 : decode M_W_law.2.1 257 = .ok (.iaload, 1) := by decide +kernel
theorem dW_law_258 : decode M_W_law.2.1 258 = .ok (.invokevirtual 32, 3) := by decide +kernel
theorem dW_law_261 : decode M_W_law.2.1 261 = .ok (.if_icmp .eq 430, 3) := by decide +kernel
theorem dW_law_264 : decode M_W_law.2.1 264 = .ok (.iconst 0, 1) := by decide +kernel
theorem dW_law_265 : decode M_W_law.2.1 265 = .ok (.ireturn, 1) := by decide +kernel
theorem dW_law_266 : decode M_W_law.2.1 266 = .ok (.aload_n 1, 1) := by decide +kernel
theorem dW_law_267 : decode M_W_law.2.1 267 = .ok (.aload_n 0, 1) := by decide +kernel
theorem dW_law_268 : decode M_W_law.2.1 268 = .ok (.iload_n 3, 1) := by decide +kernel
theorem dW_law_269 : decode M_W_law.2.1 269 = .ok (.iconst 1, 1) := by decide +kernel
theorem dW_law_270 : decode M_W_law.2.1 270 = .ok (.iadd, 1) := by decide +kernel
theorem dW_law_271 : decode M_W_law.2.1 271 = .ok (.iaload, 1) := by decide +kernel
theorem dW_law_272 : decode M_W_law.2.1 272 = .ok (.invokevirtual 33, 3) := by decide +kernel
theorem dW_law_275 : decode M_W_law.2.1 275 = .ok (.aload_n 2, 1) := by decide +kernel
theorem dW_law_276 : decode M_W_law.2.1 276 = .ok (.aload_n 0, 1) := by decide +kernel
theorem dW_law_277 : decode M_W_law.2.1 277 = .ok (.iload_n 3, 1) := by decide +kernel
theorem dW_law_278 : decode M_W_law.2.1 278 = .ok (.iconst 1, 1) := by decide +kernel
theorem dW_law_279 : decode M_W_law.2.1 279 = .ok (.iadd, 1) := by decide +kernel
theorem dW_law_280 : decode M_W_law.2.1 280 = .ok (.iaload, 1) := by decide +kernel
theorem dW_law_281 : decode M_W_law.2.1 281 = .ok (.invokevirtual 37, 3) := by decide +kernel
theorem dW_law_284 : decode M_W_law.2.1 284 = .ok (.if_icmp .eq 407, 3) := by decide +kernel
theorem dW_law_287 : decode M_W_law.2.1 287 = .ok (.iconst 0, 1) := by decide +kernel
theorem dW_law_288 : decode M_W_law.2.1 288 = .ok (.ireturn, 1) := by decide +kernel
theorem dW_law_289 : decode M_W_law.2.1 289 = .ok (.aload_n 1, 1) := by decide +kernel
theorem dW_law_290 : decode M_W_law.2.1 290 = .ok (.aload_n 0, 1) := by decide +kernel
theorem dW_law_291 : decode M_W_law.2.1 291 = .ok (.iload_n 3, 1) := by decide +kernel
theorem dW_law_292 : decode M_W_law.2.1 292 = .ok (.iconst 1, 1) := by decide +kernel
theorem dW_law_293 : decode M_W_law.2.1 293 = .ok (.iadd, 1) := by decide +kernel
theorem dW_law_294 : decode M_W_law.2.1 294 = .ok (.iaload, 1) := by decide +kernel
theorem dW_law_295 : decode M_W_law.2.1 295 = .ok (.invokevirtual 38, 3) := by decide +kernel
theorem dW_law_298 : decode M_W_law.2.1 298 = .ok (.aload_n 2, 1) := by decide +kernel
theorem dW_law_299 : decode M_W_law.2.1 299 = .ok (.aload_n 0, 1) := by decide +kernel
theorem dW_law_300 : decode M_W_law.2.1 300 = .ok (.iload_n 3, 1) := by decide +kernel
theorem dW_law_301 : decode M_W_law.2.1 301 = .ok (.iconst 1, 1) := by decide +kernel
theorem dW_law_302 : decode M_W_law.2.1 302 = .ok (.iadd, 1) := by decide +kernel
theorem dW_law_303 : decode M_W_law.2.1 303 = .ok (.iaload, 1) := by decide +kernel
theorem dW_law_304 : decode M_W_law.2.1 304 = .ok (.invokevirtual 41, 3) := by decide +kernel
theorem dW_law_307 : decode M_W_law.2.1 307 = .ok (.if_icmp .eq 384, 3) := by decide +kernel
theorem dW_law_310 : decode M_W_law.2.1 310 = .ok (.iconst 0, 1) := by decide +kernel
theorem dW_law_311 : decode M_W_law.2.1 311 = .ok (.ireturn, 1) := by decide +kernel
theorem dW_law_312 : decode M_W_law.2.1 312 = .ok (.aload_n 1, 1) := by decide +kernel
theorem dW_law_313 : decode M_W_law.2.1 313 = .ok (.aload_n 0, 1) := by decide +kernel
theorem dW_law_314 : decode M_W_law.2.1 314 = .ok (.iload_n 3, 1) := by decide +kernel
theorem dW_law_315 : decode M_W_law.2.1 315 = .ok (.iconst 1, 1) := by decide +kernel
theorem dW_law_316 : decode M_W_law.2.1 316 = .ok (.iadd, 1) := by decide +kernel
theorem dW_law_317 : decode M_W_law.2.1 317 = .ok (.iaload, 1) := by decide +kernel
theorem dW_law_318 : decode M_W_law.2.1 318 = .ok (.invokevirtual 42, 3) := by decide +kernel
theorem dW_law_321 : decode M_W_law.2.1 321 = .ok (.aload_n 2, 1) := by decide +kernel
theorem dW_law_322 : decode M_W_law.2.1 322 = .ok (.aload_n 0, 1) := by decide +kernel
theorem dW_law_323 : decode M_W_law.2.1 323 = .ok (.iload_n 3, 1) := by decide +kernel
theorem dW_law_324 : decode M_W_law.2.1 324 = .ok (.iconst 1, 1) := by decide +kernel
theorem dW_law_325 : decode M_W_law.2.1 325 = .ok (.iadd, 1) := by decide +kernel
theorem dW_law_326 : decode M_W_law.2.1 326 = .ok (.iaload, 1) := by decide +kernel
theorem dW_law_327 : decode M_W_law.2.1 327 = .ok (.invokevirtual 45, 3) := by decide +kernel
theorem dW_law_330 : decode M_W_law.2.1 330 = .ok (.if_icmp .eq 361, 3) := by decide +kernel
theorem dW_law_333 : decode M_W_law.2.1 333 = .ok (.iconst 0, 1) := by decide +kernel
theorem dW_law_334 : decode M_W_law.2.1 334 = .ok (.ireturn, 1) := by decide +kernel
theorem dW_law_335 : decode M_W_law.2.1 335 = .ok (.aload_n 1, 1) := by decide +kernel
theorem dW_law_336 : decode M_W_law.2.1 336 = .ok (.aload_n 0, 1) := by decide +kernel
theorem dW_law_337 : decode M_W_law.2.1 337 = .ok (.iload_n 3, 1) := by decide +kernel
theorem dW_law_338 : decode M_W_law.2.1 338 = .ok (.iconst 1, 1) := by decide +kernel
theorem dW_law_339 : decode M_W_law.2.1 339 = .ok (.iadd, 1) := by decide +kernel
theorem dW_law_340 : decode M_W_law.2.1 340 = .ok (.iaload, 1) := by decide +kernel
theorem dW_law_341 : decode M_W_law.2.1 341 = .ok (.aload_n 0, 1) := by decide +kernel
theorem dW_law_342 : decode M_W_law.2.1 342 = .ok (.iload_n 3, 1) := by decide +kernel
theorem dW_law_343 : decode M_W_law.2.1 343 = .ok (.iconst 2, 1) := by decide +kernel
theorem dW_law_344 : decode M_W_law.2.1 344 = .ok (.iadd, 1) := by decide +kernel
theorem dW_law_345 : decode M_W_law.2.1 345 = .ok (.iaload, 1) := by decide +kernel
theorem dW_law_346 : decode M_W_law.2.1 346 = .ok (.invokevirtual 46, 3) := by decide +kernel
theorem dW_law_349 : decode M_W_law.2.1 349 = .ok (.aload_n 2, 1) := by decide +kernel
theorem dW_law_350 : decode M_W_law.2.1 350 = .ok (.aload_n 0, 1) := by decide +kernel
theorem dW_law_351 : decode M_W_law.2.1 351 = .ok (.iload_n 3, 1) := by decide +kernel
theorem dW_law_352 : decode M_W_law.2.1 352 = .ok (.iconst 1, 1) := by decide +kernel
theorem dW_law_353 : decode M_W_law.2.1 353 = .ok (.iadd, 1) := by decide +kernel
theorem dW_law_354 : decode M_W_law.2.1 354 = .ok (.iaload, 1) := by decide +kernel
theorem dW_law_355 : decode M_W_law.2.1 355 = .ok (.aload_n 0, 1) := by decide +kernel
theorem dW_law_356 : decode M_W_law.2.1 356 = .ok (.iload_n 3, 1) := by decide +kernel
theorem dW_law_357 : decode M_W_law.2.1 357 = .ok (.iconst 2, 1) := by decide +kernel
theorem dW_law_358 : decode M_W_law.2.1 358 = .ok (.iadd, 1) := by decide +kernel
theorem dW_law_359 : decode M_W_law.2.1 359 = .ok (.iaload, 1) := by decide +kernel
theorem dW_law_360 : decode M_W_law.2.1 360 = .ok (.invokevirtual 49, 3) := by decide +kernel
theorem dW_law_363 : decode M_W_law.2.1 363 = .ok (.if_icmp .eq 328, 3) := by decide +kernel
theorem dW_law_366 : decode M_W_law.2.1 366 = .ok (.iconst 0, 1) := by decide +kernel
theorem dW_law_367 : decode M_W_law.2.1 367 = .ok (.ireturn, 1) := by decide +kernel
theorem dW_law_368 : decode M_W_law.2.1 368 = .ok (.aload_n 1, 1) := by decide +kernel
theorem dW_law_369 : decode M_W_law.2.1 369 = .ok (.aload_n 0, 1) := by decide +kernel
theorem dW_law_370 : decode M_W_law.2.1 370 = .ok (.iload_n 3, 1) := by decide +kernel
theorem dW_law_371 : decode M_W_law.2.1 371 = .ok (.iconst 1, 1) := by decide +kernel
theorem dW_law_372 : decode M_W_law.2.1 372 = .ok (.iadd, 1) := by decide +kernel
theorem dW_law_373 : decode M_W_law.2.1 373 = .ok (.iaload, 1) := by decide +kernel
theorem dW_law_374 : decode M_W_law.2.1 374 = .ok (.aload_n 0, 1) := by decide +kernel
theorem dW_law_375 : decode M_W_law.2.1 375 = .ok (.iload_n 3, 1) := by decide +kernel
theorem dW_law_376 : decode M_W_law.2.1 376 = .ok (.iconst 2, 1) := by decide +kernel
theorem dW_law_377 : decode M_W_law.2.1 377 = .ok (.iadd, 1) := by decide +kernel
theorem dW_law_378 : decode M_W_law.2.1 378 = .ok (.iaload, 1) := by decide +kernel
theorem dW_law_379 : decode M_W_law.2.1 379 = .ok (.aload_n 0, 1) := by decide +kernel
theorem dW_law_380 : decode M_W_law.2.1 380 = .ok (.iload_n 3, 1) := by decide +kernel
theorem dW_law_381 : decode M_W_law.2.1 381 = .ok (.iconst 3, 1) := by decide +kernel
theorem dW_law_382 : decode M_W_law.2.1 382 = .ok (.iadd, 1) := by decide +kernel
theorem dW_law_383 : decode M_W_law.2.1 383 = .ok (.iaload, 1) := by decide +kernel
theorem dW_law_384 : decode M_W_law.2.1 384 = .ok (.invokevirtual 50, 3) := by decide +kernel
theorem dW_law_387 : decode M_W_law.2.1 387 = .ok (.aload_n 2, 1) := by decide +kernel
theorem dW_law_388 : decode M_W_law.2.1 388 = .ok (.aload_n 0, 1) := by decide +kernel
theorem dW_law_389 : decode M_W_law.2.1 389 = .ok (.iload_n 3, 1) := by decide +kernel
theorem dW_law_390 : decode M_W_law.2.1 390 = .ok (.iconst 1, 1) := by decide +kernel
theorem dW_law_391 : decode M_W_law.2.1 391 = .ok (.iadd, 1) := by decide +kernel
theorem dW_law_392 : decode M_W_law.2.1 392 = .ok (.iaload, 1) := by decide +kernel
theorem dW_law_393 : decode M_W_law.2.1 393 = .ok (.aload_n 0, 1) := by decide +kernel
theorem dW_law_394 : decode M_W_law.2.1 394 = .ok (.iload_n 3, 1) := by decide +kernel
theorem dW_law_395 : decode M_W_law.2.1 395 = .ok (.iconst 2, 1) := by decide +kernel
theorem dW_law_396 : decode M_W_law.2.1 396 = .ok (.iadd, 1) := by decide +kernel
theorem dW_law_397 : decode M_W_law.2.1 397 = .ok (.iaload, 1) := by decide +kernel
theorem dW_law_398 : decode M_W_law.2.1 398 = .ok (.aload_n 0, 1) := by decide +kernel
theorem dW_law_399 : decode M_W_law.2.1 399 = .ok (.iload_n 3, 1) := by decide +kernel
theorem dW_law_400 : decode M_W_law.2.1 400 = .ok (.iconst 3, 1) := by decide +kernel
theorem dW_law_401 : decode M_W_law.2.1 401 = .ok (.iadd, 1) := by decide +kernel
theorem dW_law_402 : decode M_W_law.2.1 402 = .ok (.iaload, 1) := by decide +kernel
theorem dW_law_403 : decode M_W_law.2.1 403 = .ok (.invokevirtual 53, 3) := by decide +kernel
theorem dW_law_406 : decode M_W_law.2.1 406 = .ok (.if_icmp .eq 285, 3) := by decide +kernel
theorem dW_law_409 : decode M_W_law.2.1 409 = .ok (.iconst 0, 1) := by decide +kernel
theorem dW_law_410 : decode M_W_law.2.1 410 = .ok (.ireturn, 1) := by decide +kernel
theorem dW_law_411 : decode M_W_law.2.1 411 = .ok (.aload_n 1, 1) := by decide +kernel
theorem dW_law_412 : decode M_W_law.2.1 412 = .ok (.aload_n 0, 1) := by decide +kernel
theorem dW_law_413 : decode M_W_law.2.1 413 = .ok (.iload_n 3, 1) := by decide +kernel
theorem dW_law_414 : decode M_W_law.2.1 414 = .ok (.iconst 1, 1) := by decide +kernel
theorem dW_law_415 : decode M_W_law.2.1 415 = .ok (.iadd, 1) := by decide +kernel
theorem dW_law_416 : decode M_W_law.2.1 416 = .ok (.iaload, 1) := by decide +kernel
theorem dW_law_417 : decode M_W_law.2.1 417 = .ok (.aload_n 0, 1) := by decide +kernel
theorem dW_law_418 : decode M_W_law.2.1 418 = .ok (.iload_n 3, 1) := by decide +kernel
theorem dW_law_419 : decode M_W_law.2.1 419 = .ok (.iconst 2, 1) := by decide +kernel
theorem dW_law_420 : decode M_W_law.2.1 420 = .ok (.iadd, 1) := by decide +kernel
theorem dW_law_421 : decode M_W_law.2.1 421 = .ok (.iaload, 1) := by decide +kernel
theorem dW_law_422 : decode M_W_law.2.1 422 = .ok (.invokevirtual 54, 3) := by decide +kernel
theorem dW_law_425 : decode M_W_law.2.1 425 = .ok (.aload_n 2, 1) := by decide +kernel
theorem dW_law_426 : decode M_W_law.2.1 426 = .ok (.aload_n 0, 1) := by decide +kernel
theorem dW_law_427 : decode M_W_law.2.1 427 = .ok (.iload_n 3, 1) := by decide +kernel
theorem dW_law_428 : decode M_W_law.2.1 428 = .ok (.iconst 1, 1) := by decide +kernel
theorem dW_law_429 : decode M_W_law.2.1 429 = .ok (.iadd, 1) := by decide +kernel
theorem dW_law_430 : decode M_W_law.2.1 430 = .ok (.iaload, 1) := by decide +kernel
theorem dW_law_431 : decode M_W_law.2.1 431 = .ok (.aload_n 0, 1) := by decide +kernel
theorem dW_law_432 : decode M_W_law.2.1 432 = .ok (.iload_n 3, 1) := by decide +kernel
theorem dW_law_433 : decode M_W_law.2.1 433 = .ok (.iconst 2, 1) := by decide +kernel
theorem dW_law_434 : decode M_W_law.2.1 434 = .ok (.iadd, 1) := by decide +kernel
theorem dW_law_435 : decode M_W_law.2.1 435 = .ok (.iaload, 1) := by decide +kernel
theorem dW_law_436 : decode M_W_law.2.1 436 = .ok (.invokevirtual 57, 3) := by decide +kernel
theorem dW_law_439 : decode M_W_law.2.1 439 = .ok (.if_icmp .eq 252, 3) := by decide +kernel
theorem dW_law_442 : decode M_W_law.2.1 442 = .ok (.iconst 0, 1) := by decide +kernel
theorem dW_law_443 : decode M_W_law.2.1 443 = .ok (.ireturn, 1) := by decide +kernel
theorem dW_law_444 : decode M_W_law.2.1 444 = .ok (.aload_n 1, 1) := by decide +kernel
theorem dW_law_445 : decode M_W_law.2.1 445 = .ok (.aload_n 0, 1) := by decide +kernel
theorem dW_law_446 : decode M_W_law.2.1 446 = .ok (.iload_n 3, 1) := by decide +kernel
theorem dW_law_447 : decode M_W_law.2.1 447 = .ok (.iconst 1, 1) := by decide +kernel
theorem dW_law_448 : decode M_W_law.2.1 448 = .ok (.iadd, 1) := by decide +kernel
theorem dW_law_449 : decode M_W_law.2.1 449 = .ok (.iaload, 1) := by decide +kernel
theorem dW_law_450 : decode M_W_law.2.1 450 = .ok (.aload_n 0, 1) := by decide +kernel
theorem dW_law_451 : decode M_W_law.2.1 451 = .ok (.iload_n 3, 1) := by decide +kernel
theorem dW_law_452 : decode M_W_law.2.1 452 = .ok (.iconst 2, 1) := by decide +kernel
theorem dW_law_453 : decode M_W_law.2.1 453 = .ok (.iadd, 1) := by decide +kernel
theorem dW_law_454 : decode M_W_law.2.1 454 = .ok (.iaload, 1) := by decide +kernel
theorem dW_law_455 : decode M_W_law.2.1 455 = .ok (.aload_n 0, 1) := by decide +kernel
theorem dW_law_456 : decode M_W_law.2.1 456 = .ok (.iload_n 3, 1) := by decide +kernel
theorem dW_law_457 : decode M_W_law.2.1 457 = .ok (.iconst 3, 1) := by decide +kernel
theorem dW_law_458 : decode M_W_law.2.1 458 = .ok (.iadd, 1) := by decide +kernel
theorem dW_law_459 : decode M_W_law.2.1 459 = .ok (.iaload, 1) := by decide +kernel
theorem dW_law_460 : decode M_W_law.2.1 460 = .ok (.invokevirtual 58, 3) := by decide +kernel
theorem dW_law_463 : decode M_W_law.2.1 463 = .ok (.aload_n 2, 1) := by decide +kernel
theorem dW_law_464 : decode M_W_law.2.1 464 = .ok (.aload_n 0, 1) := by decide +kernel
theorem dW_law_465 : decode M_W_law.2.1 465 = .ok (.iload_n 3, 1) := by decide +kernel
theorem dW_law_466 : decode M_W_law.2.1 466 = .ok (.iconst 1, 1) := by decide +kernel
theorem dW_law_467 : decode M_W_law.2.1 467 = .ok (.iadd, 1) := by decide +kernel
theorem dW_law_468 : decode M_W_law.2.1 468 = .ok (.iaload, 1) := by decide +kernel
theorem dW_law_469 : decode M_W_law.2.1 469 = .ok (.aload_n 0, 1) := by decide +kernel
theorem dW_law_470 : decode M_W_law.2.1 470 = .ok (.iload_n 3, 1) := by decide +kernel
theorem dW_law_471 : decode M_W_law.2.1 471 = .ok (.iconst 2, 1) := by decide +kernel
theorem dW_law_472 : decode M_W_law.2.1 472 = .ok (.iadd, 1) := by decide +kernel
theorem dW_law_473 : decode M_W_law.2.1 473 = .ok (.iaload, 1) := by decide +kernel
theorem dW_law_474 : decode M_W_law.2.1 474 = .ok (.aload_n 0, 1) := by decide +kernel
theorem dW_law_475 : decode M_W_law.2.1 475 = .ok (.iload_n 3, 1) := by decide +kernel
theorem dW_law_476 : decode M_W_law.2.1 476 = .ok (.iconst 3, 1) := by decide +kernel
theorem dW_law_477 : decode M_W_law.2.1 477 = .ok (.iadd, 1) := by decide +kernel
theorem dW_law_478 : decode M_W_law.2.1 478 = .ok (.iaload, 1) := by decide +kernel
theorem dW_law_479 : decode M_W_law.2.1 479 = .ok (.invokevirtual 62, 3) := by decide +kernel
theorem dW_law_482 : decode M_W_law.2.1 482 = .ok (.if_icmp .eq 209, 3) := by decide +kernel
theorem dW_law_485 : decode M_W_law.2.1 485 = .ok (.iconst 0, 1) := by decide +kernel
theorem dW_law_486 : decode M_W_law.2.1 486 = .ok (.ireturn, 1) := by decide +kernel
theorem dW_law_487 : decode M_W_law.2.1 487 = .ok (.aload_n 1, 1) := by decide +kernel
theorem dW_law_488 : decode M_W_law.2.1 488 = .ok (.invokevirtual 63, 3) := by decide +kernel
theorem dW_law_491 : decode M_W_law.2.1 491 = .ok (.aload_n 2, 1) := by decide +kernel
theorem dW_law_492 : decode M_W_law.2.1 492 = .ok (.invokevirtual 67, 3) := by decide +kernel
theorem dW_law_495 : decode M_W_law.2.1 495 = .ok (.if_icmp .eq 196, 3) := by decide +kernel
theorem dW_law_498 : decode M_W_law.2.1 498 = .ok (.iconst 0, 1) := by decide +kernel
theorem dW_law_499 : decode M_W_law.2.1 499 = .ok (.ireturn, 1) := by decide +kernel
theorem dW_law_500 : decode M_W_law.2.1 500 = .ok (.aload_n 1, 1) := by decide +kernel
theorem dW_law_501 : decode M_W_law.2.1 501 = .ok (.invokevirtual 68, 3) := by decide +kernel
theorem dW_law_504 : decode M_W_law.2.1 504 = .ok (.aload_n 2, 1) := by decide +kernel
theorem dW_law_505 : decode M_W_law.2.1 505 = .ok (.invokevirtual 71, 3) := by decide +kernel
theorem dW_law_508 : decode M_W_law.2.1 508 = .ok (.if_icmp .eq 183, 3) := by decide +kernel
theorem dW_law_511 : decode M_W_law.2.1 511 = .ok (.iconst 0, 1) := by decide +kernel
theorem dW_law_512 : decode M_W_law.2.1 512 = .ok (.ireturn, 1) := by decide +kernel
theorem dW_law_513 : decode M_W_law.2.1 513 = .ok (.aload_n 1, 1) := by decide +kernel
theorem dW_law_514 : decode M_W_law.2.1 514 = .ok (.aload_n 0, 1) := by decide +kernel
theorem dW_law_515 : decode M_W_law.2.1 515 = .ok (.iload_n 3, 1) := by decide +kernel
theorem dW_law_516 : decode M_W_law.2.1 516 = .ok (.iconst 1, 1) := by decide +kernel
theorem dW_law_517 : decode M_W_law.2.1 517 = .ok (.iadd, 1) := by decide +kernel
theorem dW_law_518 : decode M_W_law.2.1 518 = .ok (.iaload, 1) := by decide +kernel
theorem dW_law_519 : decode M_W_law.2.1 519 = .ok (.invokevirtual 72, 3) := by decide +kernel
theorem dW_law_522 : decode M_W_law.2.1 522 = .ok (.aload_n 2, 1) := by decide +kernel
theorem dW_law_523 : decode M_W_law.2.1 523 = .ok (.aload_n 0, 1) := by decide +kernel
theorem dW_law_524 : decode M_W_law.2.1 524 = .ok (.iload_n 3, 1) := by decide +kernel
theorem dW_law_525 : decode M_W_law.2.1 525 = .ok (.iconst 1, 1) := by decide +kernel
theorem dW_law_526 : decode M_W_law.2.1 526 = .ok (.iadd, 1) := by decide +kernel
theorem dW_law_527 : decode M_W_law.2.1 527 = .ok (.iaload, 1) := by decide +kernel
theorem dW_law_528 : decode M_W_law.2.1 528 = .ok (.invokevirtual 75, 3) := by decide +kernel
theorem dW_law_531 : decode M_W_law.2.1 531 = .ok (.if_icmp .eq 160, 3) := by decide +kernel
theorem dW_law_534 : decode M_W_law.2.1 534 = .ok (.iconst 0, 1) := by decide +kernel
theorem dW_law_535 : decode M_W_law.2.1 535 = .ok (.ireturn, 1) := by decide +kernel
theorem dW_law_536 : decode M_W_law.2.1 536 = .ok (.aload_n 1, 1) := by decide +kernel
theorem dW_law_537 : decode M_W_law.2.1 537 = .ok (.aload_n 0, 1) := by decide +kernel
theorem dW_law_538 : decode M_W_law.2.1 538 = .ok (.iload_n 3, 1) := by decide +kernel
theorem dW_law_539 : decode M_W_law.2.1 539 = .ok (.iconst 1, 1) := by decide +kernel
theorem dW_law_540 : decode M_W_law.2.1 540 = .ok (.iadd, 1) := by decide +kernel
theorem dW_law_541 : decode M_W_law.2.1 541 = .ok (.iaload, 1) := by decide +kernel
theorem dW_law_542 : decode M_W_law.2.1 542 = .ok (.aload_n 0, 1) := by decide +kernel
theorem dW_law_543 : decode M_W_law.2.1 543 = .ok (.iload_n 3, 1) := by decide +kernel
theorem dW_law_544 : decode M_W_law.2.1 544 = .ok (.iconst 2, 1) := by decide +kernel
theorem dW_law_545 : decode M_W_law.2.1 545 = .ok (.iadd, 1) := by decide +kernel
theorem dW_law_546 : decode M_W_law.2.1 546 = .ok (.iaload, 1) := by decide +kernel
theorem dW_law_547 : decode M_W_law.2.1 547 = .ok (.aload_n 0, 1) := by decide +kernel
theorem dW_law_548 : decode M_W_law.2.1 548 = .ok (.iload_n 3, 1) := by decide +kernel
theorem dW_law_549 : decode M_W_law.2.1 549 = .ok (.iconst 3, 1) := by decide +kernel
theorem dW_law_550 : decode M_W_law.2.1 550 = .ok (.iadd, 1) := by decide +kernel
theorem dW_law_551 : decode M_W_law.2.1 551 = .ok (.iaload, 1) := by decide +kernel
theorem dW_law_552 : decode M_W_law.2.1 552 = .ok (.invokevirtual 76, 3) := by decide +kernel
theorem dW_law_555 : decode M_W_law.2.1 555 = .ok (.aload_n 2, 1) := by decide +kernel
theorem dW_law_556 : decode M_W_law.2.1 556 = .ok (.aload_n 0, 1) := by decide +kernel
theorem dW_law_557 : decode M_W_law.2.1 557 = .ok (.iload_n 3, 1) := by decide +kernel
theorem dW_law_558 : decode M_W_law.2.1 558 = .ok (.iconst 1, 1) := by decide +kernel
theorem dW_law_559 : decode M_W_law.2.1 559 = .ok (.iadd, 1) := by decide +kernel
theorem dW_law_560 : decode M_W_law.2.1 560 = .ok (.iaload, 1) := by decide +kernel
theorem dW_law_561 : decode M_W_law.2.1 561 = .ok (.aload_n 0, 1) := by decide +kernel
theorem dW_law_562 : decode M_W_law.2.1 562 = .ok (.iload_n 3, 1) := by decide +kernel
theorem dW_law_563 : decode M_W_law.2.1 563 = .ok (.iconst 2, 1) := by decide +kernel
theorem dW_law_564 : decode M_W_law.2.1 564 = .ok (.iadd, 1) := by decide +kernel
theorem dW_law_565 : decode M_W_law.2.1 565 = .ok (.iaload, 1) := by decide +kernel
theorem dW_law_566 : decode M_W_law.2.1 566 = .ok (.aload_n 0, 1) := by decide +kernel
theorem dW_law_567 : decode M_W_law.2.1 567 = .ok (.iload_n 3, 1) := by decide +kernel
theorem dW_law_568 : decode M_W_law.2.1 568 = .ok (.iconst 3, 1) := by decide +kernel
theorem dW_law_569 : decode M_W_law.2.1 569 = .ok (.iadd, 1) := by decide +kernel
theorem dW_law_570 : decode M_W_law.2.1 570 = .ok (.iaload, 1) := by decide +kernel
theorem dW_law_571 : decode M_W_law.2.1 571 = .ok (.invokevirtual 79, 3) := by decide +kernel
theorem dW_law_574 : decode M_W_law.2.1 574 = .ok (.if_icmp .eq 117, 3) := by decide +kernel
theorem dW_law_577 : decode M_W_law.2.1 577 = .ok (.iconst 0, 1) := by decide +kernel
theorem dW_law_578 : decode M_W_law.2.1 578 = .ok (.ireturn, 1) := by decide +kernel
theorem dW_law_579 : decode M_W_law.2.1 579 = .ok (.aload_n 1, 1) := by decide +kernel
theorem dW_law_580 : decode M_W_law.2.1 580 = .ok (.aload_n 0, 1) := by decide +kernel
theorem dW_law_581 : decode M_W_law.2.1 581 = .ok (.iload_n 3, 1) := by decide +kernel
theorem dW_law_582 : decode M_W_law.2.1 582 = .ok (.iconst 1, 1) := by decide +kernel
theorem dW_law_583 : decode M_W_law.2.1 583 = .ok (.iadd, 1) := by decide +kernel
theorem dW_law_584 : decode M_W_law.2.1 584 = .ok (.iaload, 1) := by decide +kernel
theorem dW_law_585 : decode M_W_law.2.1 585 = .ok (.invokevirtual 80, 3) := by decide +kernel
theorem dW_law_588 : decode M_W_law.2.1 588 = .ok (.aload_n 2, 1) := by decide +kernel
theorem dW_law_589 : decode M_W_law.2.1 589 = .ok (.aload_n 0, 1) := by decide +kernel
theorem dW_law_590 : decode M_W_law.2.1 590 = .ok (.iload_n 3, 1) := by decide +kernel
theorem dW_law_591 : decode M_W_law.2.1 591 = .ok (.iconst 1, 1) := by decide +kernel
theorem dW_law_592 : decode M_W_law.2.1 592 = .ok (.iadd, 1) := by decide +kernel
theorem dW_law_593 : decode M_W_law.2.1 593 = .ok (.iaload, 1) := by decide +kernel
theorem dW_law_594 : decode M_W_law.2.1 594 = .ok (.invokevirtual 83, 3) := by decide +kernel
theorem dW_law_597 : decode M_W_law.2.1 597 = .ok (.if_icmp .eq 94, 3) := by decide +kernel
theorem dW_law_600 : decode M_W_law.2.1 600 = .ok (.iconst 0, 1) := by decide +kernel
theorem dW_law_601 : decode M_W_law.2.1 601 = .ok (.ireturn, 1) := by decide +kernel
theorem dW_law_602 : decode M_W_law.2.1 602 = .ok (.aload_n 1, 1) := by decide +kernel
theorem dW_law_603 : decode M_W_law.2.1 603 = .ok (.aload_n 0, 1) := by decide +kernel
theorem dW_law_604 : decode M_W_law.2.1 604 = .ok (.iload_n 3, 1) := by decide +kernel
theorem dW_law_605 : decode M_W_law.2.1 605 = .ok (.iconst 1, 1) := by decide +kernel
theorem dW_law_606 : decode M_W_law.2.1 606 = .ok (.iadd, 1) := by decide +kernel
theorem dW_law_607 : decode M_W_law.2.1 607 = .ok (.iaload, 1) := by decide +kernel
theorem dW_law_608 : decode M_W_law.2.1 608 = .ok (.aload_n 0, 1) := by decide +kernel
theorem dW_law_609 : decode M_W_law.2.1 609 = .ok (.iload_n 3, 1) := by decide +kernel
theorem dW_law_610 : decode M_W_law.2.1 610 = .ok (.iconst 2, 1) := by decide +kernel
theorem dW_law_611 : decode M_W_law.2.1 611 = .ok (.iadd, 1) := by decide +kernel
theorem dW_law_612 : decode M_W_law.2.1 612 = .ok (.iaload, 1) := by decide +kernel
theorem dW_law_613 : decode M_W_law.2.1 613 = .ok (.invokevirtual 84, 3) := by decide +kernel
theorem dW_law_616 : decode M_W_law.2.1 616 = .ok (.aload_n 2, 1) := by decide +kernel
theorem dW_law_617 : decode M_W_law.2.1 617 = .ok (.aload_n 0, 1) := by decide +kernel
theorem dW_law_618 : decode M_W_law.2.1 618 = .ok (.iload_n 3, 1) := by decide +kernel
theorem dW_law_619 : decode M_W_law.2.1 619 = .ok (.iconst 1, 1) := by decide +kernel
theorem dW_law_620 : decode M_W_law.2.1 620 = .ok (.iadd, 1) := by decide +kernel
theorem dW_law_621 : decode M_W_law.2.1 621 = .ok (.iaload, 1) := by decide +kernel
theorem dW_law_622 : decode M_W_law.2.1 622 = .ok (.aload_n 0, 1) := by decide +kernel
theorem dW_law_623 : decode M_W_law.2.1 623 = .ok (.iload_n 3, 1) := by decide +kernel
theorem dW_law_624 : decode M_W_law.2.1 624 = .ok (.iconst 2, 1) := by decide +kernel
theorem dW_law_625 : decode M_W_law.2.1 625 = .ok (.iadd, 1) := by decide +kernel
theorem dW_law_626 : decode M_W_law.2.1 626 = .ok (.iaload, 1) := by decide +kernel
theorem dW_law_627 : decode M_W_law.2.1 627 = .ok (.invokevirtual 87, 3) := by decide +kernel
theorem dW_law_630 : decode M_W_law.2.1 630 = .ok (.if_icmp .eq 61, 3) := by decide +kernel
theorem dW_law_633 : decode M_W_law.2.1 633 = .ok (.iconst 0, 1) := by decide +kernel
theorem dW_law_634 : decode M_W_law.2.1 634 = .ok (.ireturn, 1) := by decide +kernel
theorem dW_law_635 : decode M_W_law.2.1 635 = .ok (.aload_n 1, 1) := by decide +kernel
theorem dW_law_636 : decode M_W_law.2.1 636 = .ok (.aload_n 0, 1) := by decide +kernel
theorem dW_law_637 : decode M_W_law.2.1 637 = .ok (.iload_n 3, 1) := by decide +kernel
theorem dW_law_638 : decode M_W_law.2.1 638 = .ok (.iconst 1, 1) := by decide +kernel
theorem dW_law_639 : decode M_W_law.2.1 639 = .ok (.iadd, 1) := by decide +kernel
theorem dW_law_640 : decode M_W_law.2.1 640 = .ok (.iaload, 1) := by decide +kernel
theorem dW_law_641 : decode M_W_law.2.1 641 = .ok (.aload_n 0, 1) := by decide +kernel
theorem dW_law_642 : decode M_W_law.2.1 642 = .ok (.iload_n 3, 1) := by decide +kernel
theorem dW_law_643 : decode M_W_law.2.1 643 = .ok (.iconst 2, 1) := by decide +kernel
theorem dW_law_644 : decode M_W_law.2.1 644 = .ok (.iadd, 1) := by decide +kernel
theorem dW_law_645 : decode M_W_law.2.1 645 = .ok (.iaload, 1) := by decide +kernel
theorem dW_law_646 : decode M_W_law.2.1 646 = .ok (.invokevirtual 88, 3) := by decide +kernel
theorem dW_law_649 : decode M_W_law.2.1 649 = .ok (.aload_n 2, 1) := by decide +kernel
theorem dW_law_650 : decode M_W_law.2.1 650 = .ok (.aload_n 0, 1) := by decide +kernel
theorem dW_law_651 : decode M_W_law.2.1 651 = .ok (.iload_n 3, 1) := by decide +kernel
theorem dW_law_652 : decode M_W_law.2.1 652 = .ok (.iconst 1, 1) := by decide +kernel
theorem dW_law_653 : decode M_W_law.2.1 653 = .ok (.iadd, 1) := by decide +kernel
theorem dW_law_654 : decode M_W_law.2.1 654 = .ok (.iaload, 1) := by decide +kernel
theorem dW_law_655 : decode M_W_law.2.1 655 = .ok (.aload_n 0, 1) := by decide +kernel
theorem dW_law_656 : decode M_W_law.2.1 656 = .ok (.iload_n 3, 1) := by decide +kernel
theorem dW_law_657 : decode M_W_law.2.1 657 = .ok (.iconst 2, 1) := by decide +kernel
theorem dW_law_658 : decode M_W_law.2.1 658 = .ok (.iadd, 1) := by decide +kernel
theorem dW_law_659 : decode M_W_law.2.1 659 = .ok (.iaload, 1) := by decide +kernel
theorem dW_law_660 : decode M_W_law.2.1 660 = .ok (.invokevirtual 91, 3) := by decide +kernel
theorem dW_law_663 : decode M_W_law.2.1 663 = .ok (.if_icmp .eq 28, 3) := by decide +kernel
theorem dW_law_666 : decode M_W_law.2.1 666 = .ok (.iconst 0, 1) := by decide +kernel
theorem dW_law_667 : decode M_W_law.2.1 667 = .ok (.ireturn, 1) := by decide +kernel
theorem dW_law_668 : decode M_W_law.2.1 668 = .ok (.aload_n 1, 1) := by decide +kernel
theorem dW_law_669 : decode M_W_law.2.1 669 = .ok (.aload_n 0, 1) := by decide +kernel
theorem dW_law_670 : decode M_W_law.2.1 670 = .ok (.iload_n 3, 1) := by decide +kernel
theorem dW_law_671 : decode M_W_law.2.1 671 = .ok (.iconst 1, 1) := by decide +kernel
theorem dW_law_672 : decode M_W_law.2.1 672 = .ok (.iadd, 1) := by decide +kernel
theorem dW_law_673 : decode M_W_law.2.1 673 = .ok (.iaload, 1) := by decide +kernel
theorem dW_law_674 : decode M_W_law.2.1 674 = .ok (.invokevirtual 92, 3) := by decide +kernel
theorem dW_law_677 : decode M_W_law.2.1 677 = .ok (.aload_n 2, 1) := by decide +kernel
theorem dW_law_678 : decode M_W_law.2.1 678 = .ok (.aload_n 0, 1) := by decide +kernel
theorem dW_law_679 : decode M_W_law.2.1 679 = .ok (.iload_n 3, 1) := by decide +kernel
theorem dW_law_680 : decode M_W_law.2.1 680 = .ok (.iconst 1, 1) := by decide +kernel
theorem dW_law_681 : decode M_W_law.2.1 681 = .ok (.iadd, 1) := by decide +kernel
theorem dW_law_682 : decode M_W_law.2.1 682 = .ok (.iaload, 1) := by decide +kernel
theorem dW_law_683 : decode M_W_law.2.1 683 = .ok (.invokevirtual 95, 3) := by decide +kernel
theorem dW_law_686 : decode M_W_law.2.1 686 = .ok (.if_icmp .eq 5, 3) := by decide +kernel
theorem dW_law_689 : decode M_W_law.2.1 689 = .ok (.iconst 0, 1) := by decide +kernel
theorem dW_law_690 : decode M_W_law.2.1 690 = .ok (.ireturn, 1) := by decide +kernel
theorem dW_law_691 : decode M_W_law.2.1 691 = .ok (.iinc 3 5, 3) := by decide +kernel
theorem dW_law_694 : decode M_W_law.2.1 694 = .ok (.goto (-676), 3) := by decide +kernel
theorem dW_law_697 : decode M_W_law.2.1 697 = .ok (.iconst 1, 1) := by decide +kernel
theorem dW_law_698 : decode M_W_law.2.1 698 = .ok (.ireturn, 1) := by decide +kernel
end
section
/-! Searches and counts over the numbers, in the words of the loops. -/
/-- the last of 1 .. n that has p, else 0 -/
def ql (p : Nat → Bool) : Nat → Nat
  | 0 => 0
  | l + 1 => if p (l + 1) = true then l + 1 else ql p l
/-- the first of l .. l + f - 1 that has p, else 0 -/
def qf (p : Nat → Bool) : Nat → Nat → Nat
  | 0, _ => 0
  | f + 1, l => if p l = true then l else qf p f (l + 1)
/-- how many of 1 .. n have p -/
def qn (p : Nat → Bool) : Nat → Nat
  | 0 => 0
  | l + 1 => qn p l + (if p (l + 1) = true then 1 else 0)
/-- how many of 0 .. n - 1 have p -/
def qz (p : Nat → Bool) : Nat → Nat
  | 0 => 0
  | i + 1 => qz p i + (if p i = true then 1 else 0)
/-- all of 1 .. n have p -/
def qa (p : Nat → Bool) : Nat → Bool
  | 0 => true
  | l + 1 => qa p l && p (l + 1)
/-- one of 0 .. n - 1 has p -/
def qe (p : Nat → Bool) : Nat → Bool
  | 0 => false
  | i + 1 => qe p i || p i
/-- from l on, as long as the next has p, f steps at most -/
def qp (p : Nat → Bool) : Nat → Nat → Nat
  | 0, l => l
  | f + 1, l => if p (l + 1) = true then qp p f (l + 1) else l
/-- the last record of a group that a copy has reached -/
def qr (g h : Nat → Bool) : Nat → Nat → Nat → Nat
  | 0, _, r => r
  | f + 1, l, r => if g l = true then (if h l = true then qr g h f (l + 1) l else r) else qr g h f (l + 1) r
theorem ql_le (p : Nat → Bool) : ∀ n, ql p n ≤ n
  | 0 => Nat.le_refl _
  | n + 1 => by
    have := ql_le p n
    unfold ql
    split <;> omega
theorem ql_has (p : Nat → Bool) : ∀ n, ql p n = 0 ∨ p (ql p n) = true
  | 0 => Or.inl rfl
  | n + 1 => by
    have := ql_has p n
    unfold ql
    split
    · right; assumption
    · exact this
theorem ql_none (p : Nat → Bool) : ∀ n l, ql p n < l → l ≤ n → p l = false
  | 0, l, h1, h2 => by omega
  | n + 1, l, h1, h2 => by
    unfold ql at h1
    split at h1
    · omega
    · next h =>
      by_cases hl : l = n + 1
      · subst hl; simpa using h
      · exact ql_none p n l h1 (by omega)
theorem ql_ge (p : Nat → Bool) {n l : Nat} (h : p l = true) (hl : l ≤ n) : l ≤ ql p n := by
  apply Classical.byContradiction
  intro h1
  have := ql_none p n l (by omega) hl
  rw [this] at h
  cases h
theorem ql_congr {p q : Nat → Bool} : ∀ {n : Nat}, (∀ l, 1 ≤ l → l ≤ n → p l = q l) → ql p n = ql q n
  | 0, _ => rfl
  | n + 1, h => by
    unfold ql
    rw [h (n + 1) (by omega) (Nat.le_refl _), ql_congr (n := n) (fun l h1 h2 => h l h1 (by omega))]
theorem ql_eq {p : Nat → Bool} {n m : Nat} (h1 : m = 0 ∨ p m = true) (h2 : m ≤ n) (h3 : ∀ l, m < l → l ≤ n → p l = false) : ql p n = m := by
  have a := ql_has p n
  have b := ql_le p n
  have c := ql_none p n
  apply Classical.byContradiction
  intro hne
  by_cases hlt : ql p n < m
  · rcases h1 with h1 | h1
    · omega
    · rw [c m hlt h2] at h1; cases h1
  · rcases a with a | a
    · omega
    · rw [h3 (ql p n) (by omega) b] at a; cases a
theorem ql_mono {p : Nat → Bool} {m n : Nat} (h : m ≤ n) : ql p m ≤ ql p n := by
  rcases ql_has p m with h1 | h1
  · omega
  · exact ql_ge p h1 (Nat.le_trans (ql_le p m) h)
theorem qf_congr {p q : Nat → Bool} : ∀ {f l : Nat}, (∀ i, l ≤ i → i < l + f → p i = q i) → qf p f l = qf q f l
  | 0, _, _ => rfl
  | f + 1, l, h => by
    unfold qf
    rw [h l (Nat.le_refl _) (by omega), qf_congr (f := f) (l := l + 1) (fun i h1 h2 => h i (by omega) (by omega))]
theorem qf_has {p : Nat → Bool} : ∀ {f l : Nat}, qf p f l = 0 ∨ (p (qf p f l) = true ∧ l ≤ qf p f l ∧ qf p f l < l + f)
  | 0, _ => Or.inl rfl
  | f + 1, l => by
    unfold qf
    split
    · next h => exact Or.inr ⟨h, Nat.le_refl _, by omega⟩
    · rcases qf_has (p := p) (f := f) (l := l + 1) with h | ⟨h1, h2, h3⟩
      · exact Or.inl h
      · exact Or.inr ⟨h1, by omega, by omega⟩
theorem qf_none {p : Nat → Bool} : ∀ {f l : Nat}, 1 ≤ l → qf p f l = 0 → ∀ i, l ≤ i → i < l + f → p i = false
  | 0, l, _, _, i, h1, h2 => by omega
  | f + 1, l, hl, h, i, h1, h2 => by
    unfold qf at h
    split at h
    · omega
    · next hp =>
      by_cases hi : i = l
      · subst hi; simpa using hp
      · exact qf_none (f := f) (l := l + 1) (by omega) h i (by omega) (by omega)
theorem qf_before {p : Nat → Bool} : ∀ {f l i : Nat}, l ≤ i → i < qf p f l → p i = false
  | 0, l, i, _, h2 => by unfold qf at h2; omega
  | f + 1, l, i, h1, h2 => by
    unfold qf at h2
    split at h2
    · omega
    · next hp =>
      by_cases hi : i = l
      · subst hi; simpa using hp
      · exact qf_before (f := f) (l := l + 1) (by omega) h2
theorem qf_eq {p : Nat → Bool} : ∀ {f l m : Nat}, p m = true → l ≤ m → m < l + f → (∀ i, l ≤ i → i < m → p i = false) → qf p f l = m
  | 0, l, m, _, h1, h2, _ => by omega
  | f + 1, l, m, hp, h1, h2, h3 => by
    unfold qf
    by_cases hl : l = m
    · subst hl; rw [if_pos hp]
    · rw [if_neg (by rw [h3 l (Nat.le_refl _) (by omega)]; decide)]
      exact qf_eq hp (by omega) (by omega) (fun i a b => h3 i (by omega) b)
theorem qf_zero {p : Nat → Bool} : ∀ {f l : Nat}, (∀ i, l ≤ i → i < l + f → p i = false) → qf p f l = 0
  | 0, _, _ => rfl
  | f + 1, l, h => by
    unfold qf
    rw [if_neg (by rw [h l (Nat.le_refl _) (by omega)]; decide)]
    exact qf_zero fun i a b => h i (by omega) (by omega)
theorem qn_congr {p q : Nat → Bool} : ∀ {n : Nat}, (∀ l, 1 ≤ l → l ≤ n → p l = q l) → qn p n = qn q n
  | 0, _ => rfl
  | n + 1, h => by
    unfold qn
    rw [h (n + 1) (by omega) (Nat.le_refl _), qn_congr (n := n) (fun l h1 h2 => h l h1 (by omega))]
theorem qn_le (p : Nat → Bool) : ∀ n, qn p n ≤ n
  | 0 => Nat.le_refl _
  | n + 1 => by
    have := qn_le p n
    unfold qn
    split <;> omega
theorem qn_zero {p : Nat → Bool} : ∀ {n : Nat}, (∀ l, 1 ≤ l → l ≤ n → p l = false) → qn p n = 0
  | 0, _ => rfl
  | n + 1, h => by
    unfold qn
    rw [h (n + 1) (by omega) (Nat.le_refl _), qn_zero (n := n) (fun l h1 h2 => h l h1 (by omega))]
    rfl
theorem qz_congr {p q : Nat → Bool} : ∀ {n : Nat}, (∀ i, i < n → p i = q i) → qz p n = qz q n
  | 0, _ => rfl
  | n + 1, h => by
    unfold qz
    rw [h n (by omega), qz_congr (n := n) (fun l h1 => h l (by omega))]
theorem qz_le (p : Nat → Bool) : ∀ n, qz p n ≤ n
  | 0 => Nat.le_refl _
  | n + 1 => by
    have := qz_le p n
    unfold qz
    split <;> omega
theorem qz_mono {p q : Nat → Bool} : ∀ {n : Nat}, (∀ i, i < n → p i = true → q i = true) → qz p n ≤ qz q n
  | 0, _ => Nat.le_refl _
  | n + 1, h => by
    have h1 := qz_mono (n := n) (fun i hi => h i (by omega))
    have h2 := h n (by omega)
    unfold qz
    by_cases hp : p n = true
    · rw [if_pos hp, if_pos (h2 hp)]; omega
    · rw [if_neg hp]; omega
theorem qz_or (p q : Nat → Bool) : ∀ n : Nat, qz (fun i => p i || q i) n ≤ qz p n + qz q n
  | 0 => Nat.le_refl _
  | n + 1 => by
    have h1 := qz_or p q n
    unfold qz
    cases p n <;> cases q n <;> simp <;> omega
theorem qz_not (p : Nat → Bool) : ∀ n : Nat, qz (fun i => !p i) n + qz p n = n
  | 0 => rfl
  | n + 1 => by
    have h1 := qz_not p n
    unfold qz
    cases p n <;> simp <;> omega
theorem qz_pos {p : Nat → Bool} : ∀ {n : Nat}, 0 < qz p n → ∃ i, i < n ∧ p i = true
  | 0, h => by unfold qz at h; omega
  | n + 1, h => by
    unfold qz at h
    by_cases hp : p n = true
    · exact ⟨n, by omega, hp⟩
    · rw [if_neg hp] at h
      obtain ⟨i, h1, h2⟩ := qz_pos (n := n) (by omega)
      exact ⟨i, by omega, h2⟩
theorem qa_iff {p : Nat → Bool} : ∀ {n : Nat}, qa p n = true ↔ ∀ l, 1 ≤ l → l ≤ n → p l = true
  | 0 => ⟨fun _ l h1 h2 => by omega, fun _ => rfl⟩
  | n + 1 => by
    unfold qa
    rw [Bool.and_eq_true, qa_iff (n := n)]
    constructor
    · rintro ⟨h1, h2⟩ l a b
      by_cases hl : l = n + 1
      · subst hl; exact h2
      · exact h1 l a (by omega)
    · exact fun h => ⟨fun l a b => h l a (by omega), h (n + 1) (by omega) (Nat.le_refl _)⟩
theorem qa_congr {p q : Nat → Bool} : ∀ {n : Nat}, (∀ l, 1 ≤ l → l ≤ n → p l = q l) → qa p n = qa q n
  | 0, _ => rfl
  | n + 1, h => by
    unfold qa
    rw [h (n + 1) (by omega) (Nat.le_refl _), qa_congr (n := n) (fun l h1 h2 => h l h1 (by omega))]
theorem qe_iff {p : Nat → Bool} : ∀ {n : Nat}, qe p n = true ↔ ∃ i, i < n ∧ p i = true
  | 0 => ⟨fun h => (by cases h), fun ⟨i, h, _⟩ => (by omega)⟩
  | n + 1 => by
    unfold qe
    rw [Bool.or_eq_true, qe_iff (n := n)]
    constructor
    · rintro (⟨i, h1, h2⟩ | h)
      · exact ⟨i, by omega, h2⟩
      · exact ⟨n, by omega, h⟩
    · rintro ⟨i, h1, h2⟩
      by_cases hi : i = n
      · subst hi; exact Or.inr h2
      · exact Or.inl ⟨i, by omega, h2⟩
theorem qe_congr {p q : Nat → Bool} : ∀ {n : Nat}, (∀ i, i < n → p i = q i) → qe p n = qe q n
  | 0, _ => rfl
  | n + 1, h => by
    unfold qe
    rw [h n (by omega), qe_congr (n := n) (fun l h1 => h l (by omega))]
theorem qp_congr {p q : Nat → Bool} : ∀ {f l : Nat}, (∀ i, l < i → i ≤ l + f → p i = q i) → qp p f l = qp q f l
  | 0, _, _ => rfl
  | f + 1, l, h => by
    unfold qp
    rw [h (l + 1) (by omega) (by omega), qp_congr (f := f) (l := l + 1) (fun i h1 h2 => h i (by omega) (by omega))]
theorem qp_ge (p : Nat → Bool) : ∀ f l : Nat, l ≤ qp p f l
  | 0, _ => Nat.le_refl _
  | f + 1, l => by
    unfold qp
    split
    · have := qp_ge p f (l + 1); omega
    · exact Nat.le_refl _
theorem qp_le (p : Nat → Bool) : ∀ f l : Nat, qp p f l ≤ l + f
  | 0, _ => Nat.le_refl _
  | f + 1, l => by
    unfold qp
    split
    · have := qp_le p f (l + 1); omega
    · omega
theorem qp_all (p : Nat → Bool) : ∀ f l i : Nat, l < i → i ≤ qp p f l → p i = true
  | 0, l, i, h1, h2 => by unfold qp at h2; omega
  | f + 1, l, i, h1, h2 => by
    unfold qp at h2
    split at h2
    · next h =>
      by_cases hi : i = l + 1
      · subst hi; exact h
      · exact qp_all p f (l + 1) i (by omega) h2
    · omega
theorem qp_reach {p : Nat → Bool} : ∀ {f l m : Nat}, m ≤ l + f → (∀ i, l < i → i ≤ m → p i = true) → m ≤ qp p f l
  | 0, l, m, h1, _ => by unfold qp; omega
  | f + 1, l, m, h1, h2 => by
    unfold qp
    by_cases hm : m ≤ l
    · have := qp_ge p f (l + 1)
      split <;> omega
    · rw [if_pos (h2 (l + 1) (by omega) (by omega))]
      exact qp_reach (by omega) (fun i a b => h2 i (by omega) b)
theorem qr_congr {g h g' h' : Nat → Bool} : ∀ {f l r : Nat}, (∀ i, l ≤ i → i < l + f → g i = g' i) → (∀ i, l ≤ i → i < l + f → h i = h' i) → qr g h f l r = qr g' h' f l r
  | 0, _, _, _, _ => rfl
  | f + 1, l, r, h1, h2 => by
    unfold qr
    rw [h1 l (Nat.le_refl _) (by omega), h2 l (Nat.le_refl _) (by omega), qr_congr (f := f) (l := l + 1) (r := l) (fun i a b => h1 i (by omega) (by omega)) (fun i a b => h2 i (by omega) (by omega)), qr_congr (f := f) (l := l + 1) (r := r) (fun i a b => h1 i (by omega) (by omega)) (fun i a b => h2 i (by omega) (by omega))]
theorem qr_le {g h : Nat → Bool} : ∀ {f l r : Nat}, r < l → qr g h f l r < l + f
  | 0, l, r, hr => by unfold qr; omega
  | f + 1, l, r, hr => by
    unfold qr
    split
    · split
      · have := qr_le (g := g) (h := h) (f := f) (l := l + 1) (r := l) (by omega); omega
      · omega
    · have := qr_le (g := g) (h := h) (f := f) (l := l + 1) (r := r) (by omega); omega
/-- up to what it has reached a copy holds all of its group -/
theorem qr_all {g h : Nat → Bool} : ∀ {f l r : Nat}, r < l → (∀ i, 1 ≤ i → i < l → g i = true → i ≤ r → h i = true) → (∀ i, r < i → i < l → g i = false) → ∀ i, 1 ≤ i → i ≤ qr g h f l r → g i = true → h i = true
  | 0, l, r, hr, h1, h2, i, a, b, c => by
    unfold qr at b
    exact h1 i a (by omega) c b
  | f + 1, l, r, hr, h1, h2, i, a, b, c => by
    unfold qr at b
    split at b
    · next hg =>
      split at b
      · next hh =>
        refine qr_all (f := f) (l := l + 1) (r := l) (by omega) (fun j j1 j2 j3 j4 => ?_) (fun j j1 j2 => by omega) i a b c
        by_cases hj : j = l
        · subst hj; exact hh
        · by_cases hjr : j ≤ r
          · exact h1 j j1 (by omega) j3 hjr
          · rw [h2 j (by omega) (by omega)] at j3; cases j3
      · exact h1 i a (by omega) c b
    · next hg =>
      refine qr_all (f := f) (l := l + 1) (r := r) (by omega) (fun j j1 j2 j3 j4 => ?_) (fun j j1 j2 => ?_) i a b c
      · exact h1 j j1 (by omega) j3 j4
      · by_cases hj : j = l
        · subst hj; simpa using hg
        · exact h2 j j1 (by omega)
end
section
/-! The cells after the constructors: 0 the script, 1 .. 43 the system's, 44 .. 57 the reference's. -/
def S0 (L : Nat) : qS := [(200, L, []),
  (0, 7, [.inr (some 2), .inr (some 9), .inr (some 12), .inr (some 41), .inr (some 43), .inl 0, .inl 0]),
  (1, 7, [.inr (some 3), .inr (some 4), .inr (some 5), .inr (some 6), .inr (some 7), .inr (some 8), .inl 0]),
  (100, 188, []), (100, 188, []), (100, 188, []), (100, 188, []), (100, 188, []), (100, 61, []),
  (2, 4, [.inr (some 10), .inr (some 11), .inl 0, .inl 0]), (101, 61, []), (100, 32, []),
  (102, 2, [.inr (some 13), .inr (some 27)]),
  (3, 1, [.inr (some 14)]), (103, 6, [.inr (some 15), .inr (some 17), .inr (some 19), .inr (some 21), .inr (some 23), .inr (some 25)]),
  (4, 5, [.inl 0, .inr (some 16), .inl 0, .inl 0, .inl 0]), (101, 188, []),
  (4, 5, [.inl 0, .inr (some 18), .inl 0, .inl 0, .inl 0]), (101, 188, []),
  (4, 5, [.inl 0, .inr (some 20), .inl 0, .inl 0, .inl 0]), (101, 188, []),
  (4, 5, [.inl 0, .inr (some 22), .inl 0, .inl 0, .inl 0]), (101, 188, []),
  (4, 5, [.inl 0, .inr (some 24), .inl 0, .inl 0, .inl 0]), (101, 188, []),
  (4, 5, [.inl 0, .inr (some 26), .inl 0, .inl 0, .inl 0]), (101, 188, []),
  (3, 1, [.inr (some 28)]), (103, 6, [.inr (some 29), .inr (some 31), .inr (some 33), .inr (some 35), .inr (some 37), .inr (some 39)]),
  (4, 5, [.inl 0, .inr (some 30), .inl 0, .inl 0, .inl 0]), (101, 188, []),
  (4, 5, [.inl 0, .inr (some 32), .inl 0, .inl 0, .inl 0]), (101, 188, []),
  (4, 5, [.inl 0, .inr (some 34), .inl 0, .inl 0, .inl 0]), (101, 188, []),
  (4, 5, [.inl 0, .inr (some 36), .inl 0, .inl 0, .inl 0]), (101, 188, []),
  (4, 5, [.inl 0, .inr (some 38), .inl 0, .inl 0, .inl 0]), (101, 188, []),
  (4, 5, [.inl 0, .inr (some 40), .inl 0, .inl 0, .inl 0]), (101, 188, []),
  (5, 2, [.inr (some 42), .inl 0]), (100, 4, []), (100, 2, []),
  (6, 18, [.inl 0, .inr (some 45), .inr (some 46), .inr (some 47), .inr (some 48), .inr (some 49), .inr (some 50), .inr (some 51), .inr (some 52), .inr (some 53), .inl 0, .inl 0, .inl 0, .inr (some 54), .inr (some 55), .inr (some 56), .inl 0, .inr (some 57)]),
  (100, 200, []), (100, 200, []), (100, 200, []), (100, 200, []), (101, 200, []), (101, 2400, []), (100, 12, []), (100, 12, []), (100, 12, []), (101, 61, []), (100, 32, []), (100, 4, []), (100, 2, [])]
/-- a storage copy's cell, c in 0 .. 11: six of a group -/
def cp (c : Nat) : Nat := if c < 6 then 15 + 2 * c else 17 + 2 * c
def gp (g : Nat) : Nat := 13 + 14 * g
theorem lt12 {p : Nat → Prop} (h0 : p 0) (h1 : p 1) (h2 : p 2) (h3 : p 3) (h4 : p 4) (h5 : p 5) (h6 : p 6) (h7 : p 7) (h8 : p 8) (h9 : p 9) (h10 : p 10) (h11 : p 11) : ∀ c, c < 12 → p c := by
  intro c hc
  match c, hc with
  | 0, _ => exact h0
  | 1, _ => exact h1
  | 2, _ => exact h2
  | 3, _ => exact h3
  | 4, _ => exact h4
  | 5, _ => exact h5
  | 6, _ => exact h6
  | 7, _ => exact h7
  | 8, _ => exact h8
  | 9, _ => exact h9
  | 10, _ => exact h10
  | 11, _ => exact h11
theorem lt6 {p : Nat → Prop} (h0 : p 0) (h1 : p 1) (h2 : p 2) (h3 : p 3) (h4 : p 4) (h5 : p 5) : ∀ c, c < 6 → p c := by
  intro c hc
  match c, hc with
  | 0, _ => exact h0
  | 1, _ => exact h1
  | 2, _ => exact h2
  | 3, _ => exact h3
  | 4, _ => exact h4
  | 5, _ => exact h5
theorem lt2 {p : Nat → Prop} (h0 : p 0) (h1 : p 1) : ∀ g, g < 2 → p g := by
  intro c hc
  match c, hc with
  | 0, _ => exact h0
  | 1, _ => exact h1
theorem s_cp (L : Nat) : ∀ c, c < 12 → (S0 L)[cp c]? = some (4, 5, [.inl 0, .inr (some (cp c + 1)), .inl 0, .inl 0, .inl 0]) := lt12 rfl rfl rfl rfl rfl rfl rfl rfl rfl rfl rfl rfl
theorem s_hd (L : Nat) : ∀ c, c < 12 → (S0 L)[cp c + 1]? = some (101, 188, []) := lt12 rfl rfl rfl rfl rfl rfl rfl rfl rfl rfl rfl rfl
theorem s_gp (L : Nat) : ∀ g, g < 2 → (S0 L)[gp g]? = some (3, 1, [.inr (some (gp g + 1))]) := lt2 rfl rfl
def cps (g : Nat) : List qV := (List.range 6).map fun c => .inr (some (cp (6 * g + c)))
theorem s_cps (L : Nat) : ∀ g, g < 2 → (S0 L)[gp g + 1]? = some (103, 6, cps g) := lt2 rfl rfl
theorem v_cps {g c : Nat} (hc : c < 6) : (cps g)[c]? = some (.inr (some (cp (6 * g + c)))) := by
  unfold cps
  rw [List.getElem?_map, List.getElem?_range hc]
  rfl
theorem s_gs (L : Nat) : (S0 L)[12]? = some (102, 2, [.inr (some (gp 0)), .inr (some (gp 1))]) := rfl
theorem v_gs : ∀ g, g < 2 → ([.inr (some (gp 0)), .inr (some (gp 1))] : List qV)[g]? = some (.inr (some (gp g))) := lt2 rfl rfl
theorem cp_inj {a b : Nat} (h : cp a = cp b) : a = b := by unfold cp at h; split at h <;> split at h <;> omega
theorem cp_ne {a b : Nat} : cp a ≠ cp b + 1 := by unfold cp; split <;> split <;> omega
theorem cp_bd {c : Nat} (h : c < 12) : 15 ≤ cp c ∧ cp c ≤ 39 ∧ cp c ≠ 27 ∧ cp c ≠ 28 ∧ cp c ≠ 26 := by unfold cp; split <;> omega
def bi (b : Bool) : Int := if b = true then 1 else 0
theorem bi01 (b : Bool) : bi b = 0 ∨ bi b = 1 := by cases b <;> simp [bi]
theorem nv_0 : ∀ (B : Nat × Nat) (j : Nat), j < 7 → defaultValue (q_y0 j) = q_v B (q_sl [.inr none, .inr none, .inr none, .inr none, .inr none, .inl 0, .inl 0] (fun _ => 0) j) := by
  intro B j hj
  match j, hj with
  | 0, _ => rfl
  | 1, _ => rfl
  | 2, _ => rfl
  | 3, _ => rfl
  | 4, _ => rfl
  | 5, _ => rfl
  | 6, _ => rfl
theorem nv_1 : ∀ (B : Nat × Nat) (j : Nat), j < 7 → defaultValue (q_y1 j) = q_v B (q_sl [.inr none, .inr none, .inr none, .inr none, .inr none, .inr none, .inl 0] (fun _ => 0) j) := by
  intro B j hj
  match j, hj with
  | 0, _ => rfl
  | 1, _ => rfl
  | 2, _ => rfl
  | 3, _ => rfl
  | 4, _ => rfl
  | 5, _ => rfl
  | 6, _ => rfl
theorem nv_2 : ∀ (B : Nat × Nat) (j : Nat), j < 4 → defaultValue (q_y2 j) = q_v B (q_sl [.inr none, .inr none, .inl 0, .inl 0] (fun _ => 0) j) := by
  intro B j hj
  match j, hj with
  | 0, _ => rfl
  | 1, _ => rfl
  | 2, _ => rfl
  | 3, _ => rfl
theorem nv_3 : ∀ (B : Nat × Nat) (j : Nat), j < 1 → defaultValue (q_y3 j) = q_v B (q_sl [.inr none] (fun _ => 0) j) := by
  intro B j hj
  match j, hj with
  | 0, _ => rfl
theorem nv_4 : ∀ (B : Nat × Nat) (j : Nat), j < 5 → defaultValue (q_y4 j) = q_v B (q_sl [.inl 0, .inr none, .inl 0, .inl 0, .inl 0] (fun _ => 0) j) := by
  intro B j hj
  match j, hj with
  | 0, _ => rfl
  | 1, _ => rfl
  | 2, _ => rfl
  | 3, _ => rfl
  | 4, _ => rfl
theorem nv_5 : ∀ (B : Nat × Nat) (j : Nat), j < 2 → defaultValue (q_y5 j) = q_v B (q_sl [.inr none, .inl 0] (fun _ => 0) j) := by
  intro B j hj
  match j, hj with
  | 0, _ => rfl
  | 1, _ => rfl
theorem nv_6 : ∀ (B : Nat × Nat) (j : Nat), j < 18 → defaultValue (q_y6 j) = q_v B (q_sl [.inl 0, .inr none, .inr none, .inr none, .inr none, .inr none, .inr none, .inr none, .inr none, .inr none, .inl 0, .inl 0, .inl 0, .inr none, .inr none, .inr none, .inl 0, .inr none] (fun _ => 0) j) := by
  intro B j hj
  match j, hj with
  | 0, _ => rfl
  | 1, _ => rfl
  | 2, _ => rfl
  | 3, _ => rfl
  | 4, _ => rfl
  | 5, _ => rfl
  | 6, _ => rfl
  | 7, _ => rfl
  | 8, _ => rfl
  | 9, _ => rfl
  | 10, _ => rfl
  | 11, _ => rfl
  | 12, _ => rfl
  | 13, _ => rfl
  | 14, _ => rfl
  | 15, _ => rfl
  | 16, _ => rfl
  | 17, _ => rfl
  | n + 18, h => omega
end
section
/-! Storage copies. -/
abbrev qE (M : qM) (d pc : Nat) (Ls : List (Option qV)) (st : List qV) (L : Nat) (I : qI) (P : qP) : Prop := q_Ev M (q_rm d 0 0) 0 0 0 0 pc Ls st (S0 L) I P
abbrev qT (M : qM) (d : Nat) (as : List qV) (L : Nat) (I : qI) (P : qP) : Prop := q_Met M d 0 0 as (S0 L) I P
abbrev rI (x : Int) (L : Nat) (I : qI) : qP := q_is (some (.inl x)) (S0 L) I
abbrev rV (L : Nat) (I : qI) : qP := q_is none (S0 L) I
theorem ct_C_isLive {L c : Nat} (hc : c < 12) (I : qI) : qT M_C_isLive 0 [.inr (some (cp c))] L I (rI (bi (decide (I (cp c) 2 = 0))) L I) := by
  refine q_enter (by decide) (Nat.le_of_ble_eq_true rfl) ?_
  refine q_aload_n (pc := 0) dC_isLive_0 rfl ?_
  refine q_getI (f := 2) (pc := 1) dC_isLive_1 lay_4 (by decide) (s_cp L c hc) (by decide) fl_C15 rfl rfl ?_
  refine q_if_ne (tgt := 11) (pc := 4) dC_isLive_4 (by decide) (fun h4 => ?_) (fun h4 => ?_)
  · refine q_iconst (pc := 11) dC_isLive_11 (by decide) ?_
    refine q_zret rfl (by first | exact Or.inl rfl | exact Or.inr rfl) (pc := 12) dC_isLive_12 ?_
    exact ⟨by simp [bi, h4], rfl, rfl⟩
  · refine q_iconst (pc := 7) dC_isLive_7 (by decide) ?_
    refine q_goto (tgt := 12) (pc := 8) dC_isLive_8 (by decide) ?_
    refine q_zret rfl (by first | exact Or.inl rfl | exact Or.inr rfl) (pc := 12) dC_isLive_12 ?_
    exact ⟨by simp [bi, h4], rfl, rfl⟩
theorem ct_C_change {L c : Nat} (hc : c < 12) (f t : Int) (I : qI) : qT M_C_change 0 [.inr (some (cp c)), .inl f, .inl t] L I (rI (bi (decide (I (cp c) 2 = f))) L (if I (cp c) 2 = f then q_up I (cp c) 2 t else I)) := by
  refine q_enter (by decide) (Nat.le_of_ble_eq_true rfl) ?_
  refine q_aload_n (pc := 0) dC_change_0 rfl ?_
  refine q_getI (f := 2) (pc := 1) dC_change_1 lay_4 (by decide) (s_cp L c hc) (by decide) fl_C15 rfl rfl ?_
  refine q_iload_n (pc := 4) dC_change_4 rfl ?_
  refine q_icmp_eq (tgt := 10) (pc := 5) dC_change_5 (by decide) (fun h5 => ?_) (fun h5 => ?_)
  · refine q_aload_n (pc := 10) dC_change_10 rfl ?_
    refine q_iload_n (pc := 11) dC_change_11 rfl ?_
    refine q_putI (f := 2) (pc := 12) dC_change_12 lay_4 typ_4 (by decide) (s_cp L c hc) (by decide) fl_C15 rfl (Or.inl rfl) (Or.inl rfl) rfl ?_
    refine q_iconst (pc := 15) dC_change_15 (by decide) ?_
    refine q_zret rfl (by first | exact Or.inl rfl | exact Or.inr rfl) (pc := 16) dC_change_16 ?_
    exact ⟨by simp [bi, h5], rfl, by simp [h5]⟩
  · refine q_iconst (pc := 8) dC_change_8 (by decide) ?_
    refine q_zret rfl (by first | exact Or.inl rfl | exact Or.inr rfl) (pc := 9) dC_change_9 ?_
    exact ⟨by simp [bi, h5], rfl, by simp [h5]⟩
/-- what is held behind m goes -/
def qdrop (I : qI) (c m l : Nat) : qI := fun a j => if a = cp c + 1 ∧ m < j ∧ j < l then 0 else I a j
theorem qdrop_up {I : qI} {c m l : Nat} (h : m < l) : q_up (qdrop I c m l) (cp c + 1) l 0 = qdrop I c m (l + 1) := by
  funext a j
  unfold q_up qdrop
  by_cases h1 : a = cp c + 1
  · by_cases h2 : j = l
    · subst h2; simp [h1, h]
    · simp only [h1, h2, and_false, if_false, true_and]
      split <;> split <;> first | rfl | omega
  · simp [h1]
theorem lp_C_dropAfter {L c m : Nat} (hc : c < 12) (I : qI) : ∀ f l, l + f = 188 → m < l → qE M_C_dropAfter 0 4 [some (.inr (some (cp c))), some (.inl (m : Int)), some (.inl (l : Int))] [] L (qdrop I c m l) (rV L (qdrop I c m 188)) := by
  intro f
  induction f with
  | zero =>
    intro l hl hm
    refine q_iload_n (pc := 4) dC_dropAfter_4 rfl ?_
    refine q_sipush (pc := 5) dC_dropAfter_5 (by decide) (by decide) ?_
    refine q_icmp_gt (tgt := 24) (pc := 8) dC_dropAfter_8 (by decide) (fun h8 => ?_) (fun h8 => ?_)
    · refine q_vret rfl (pc := 24) dC_dropAfter_24 ?_
      exact ⟨rfl, rfl, by rw [show l = 188 by omega]⟩
    · omega
  | succ f ih =>
    intro l hl hm
    refine q_iload_n (pc := 4) dC_dropAfter_4 rfl ?_
    refine q_sipush (pc := 5) dC_dropAfter_5 (by decide) (by decide) ?_
    refine q_icmp_gt (tgt := 24) (pc := 8) dC_dropAfter_8 (by decide) (fun h8 => ?_) (fun h8 => ?_)
    · omega
    · refine q_aload_n (pc := 11) dC_dropAfter_11 rfl ?_
      refine q_getR (f := 1) (pc := 12) dC_dropAfter_12 lay_4 (by decide) (s_cp L c hc) (by decide) fl_C9 rfl rfl ?_
      refine q_iload_n (pc := 15) dC_dropAfter_15 rfl ?_
      refine q_iconst (pc := 16) dC_dropAfter_16 (by decide) ?_
      refine q_zast (i := l) (pc := 17) dC_dropAfter_17 (s_hd L c hc) rfl (by omega) rfl (by first | exact Or.inl rfl | exact Or.inr rfl) ?_
      refine q_iinc (pc := 18) dC_dropAfter_18 rfl (by decide) rfl ⟨by omega, by omega⟩ ?_
      refine q_goto (tgt := 4) (pc := 21) dC_dropAfter_21 (by decide) ?_
      rw [qdrop_up hm]
      exact ih (l + 1) (by omega) (by omega)
theorem ct_C_dropAfter {L c m : Nat} (hc : c < 12) (hm : m ≤ 187) (I : qI) : qT M_C_dropAfter 0 [.inr (some (cp c)), .inl (m : Int)] L I (rV L (qdrop I c m 188)) := by
  refine q_enter (by decide) (Nat.le_of_ble_eq_true rfl) ?_
  refine q_iload_n (pc := 0) dC_dropAfter_0 rfl ?_
  refine q_iconst (pc := 1) dC_dropAfter_1 (by decide) ?_
  refine q_iadd (pc := 2) dC_dropAfter_2 rfl ⟨by omega, by omega⟩ ?_
  refine q_istore_n (pc := 3) dC_dropAfter_3 (by decide) ?_
  have e : I = qdrop I c m (m + 1) := by
    funext a j
    unfold qdrop
    rw [if_neg (by omega)]
  have h := lp_C_dropAfter (L := L) (m := m) hc I (187 - m) (m + 1) (by omega) (by omega)
  rw [← e] at h
  exact h
def qlose (I : qI) (c : Nat) : qI := q_up (q_up (qdrop (q_up I (cp c) 2 2) c 0 188) (cp c) 3 0) (cp c) 4 0
theorem ct_C_lose {L c : Nat} (hc : c < 12) (I : qI) : qT M_C_lose 1 [.inr (some (cp c))] L I (rI (bi (decide (I (cp c) 2 ≠ 2))) L (if I (cp c) 2 = 2 then I else qlose I c)) := by
  refine q_enter (by decide) (Nat.le_of_ble_eq_true rfl) ?_
  refine q_aload_n (pc := 0) dC_lose_0 rfl ?_
  refine q_getI (f := 2) (pc := 1) dC_lose_1 lay_4 (by decide) (s_cp L c hc) (by decide) fl_C15 rfl rfl ?_
  refine q_iconst (pc := 4) dC_lose_4 (by decide) ?_
  refine q_icmp_ne (tgt := 10) (pc := 5) dC_lose_5 (by decide) (fun h5 => ?_) (fun h5 => ?_)
  · refine q_aload_n (pc := 10) dC_lose_10 rfl ?_
    refine q_iconst (pc := 11) dC_lose_11 (by decide) ?_
    refine q_putI (f := 2) (pc := 12) dC_lose_12 lay_4 typ_4 (by decide) (s_cp L c hc) (by decide) fl_C15 rfl (Or.inl rfl) (Or.inl rfl) rfl ?_
    refine q_aload_n (pc := 15) dC_lose_15 rfl ?_
    refine q_iconst (pc := 16) dC_lose_16 (by decide) ?_
    refine q_callV0 (pc := 17) dC_lose_17 ((ct_C_dropAfter (m := 0) hc (by omega) _)) cd_C_dropAfter in_C_dropAfter se_C_dropAfter ml_C28 (s_cp L c hc) (by decide) rfl rfl (Nat.le_of_ble_eq_true rfl) ⟨by decide, by decide⟩ ⟨by decide, by decide⟩ rfl ?_
    refine q_aload_n (pc := 20) dC_lose_20 rfl ?_
    refine q_iconst (pc := 21) dC_lose_21 (by decide) ?_
    refine q_putI (f := 3) (pc := 22) dC_lose_22 lay_4 typ_4 (by decide) (s_cp L c hc) (by decide) fl_C19 rfl (Or.inl rfl) (Or.inl rfl) rfl ?_
    refine q_aload_n (pc := 25) dC_lose_25 rfl ?_
    refine q_iconst (pc := 26) dC_lose_26 (by decide) ?_
    refine q_putI (f := 4) (pc := 27) dC_lose_27 lay_4 typ_4 (by decide) (s_cp L c hc) (by decide) fl_C22 rfl (Or.inl rfl) (Or.inl rfl) rfl ?_
    refine q_iconst (pc := 30) dC_lose_30 (by decide) ?_
    refine q_zret rfl (by first | exact Or.inl rfl | exact Or.inr rfl) (pc := 31) dC_lose_31 ?_
    exact ⟨by simp [bi, h5], rfl, by simp [h5, qlose]⟩
  · refine q_iconst (pc := 8) dC_lose_8 (by decide) ?_
    refine q_zret rfl (by first | exact Or.inl rfl | exact Or.inr rfl) (pc := 9) dC_lose_9 ?_
    exact ⟨by simp [bi, h5], rfl, by simp [h5]⟩
theorem ct_C_take {L c l : Nat} (hc : c < 12) (hl : l ≤ 187) (I : qI) : qT M_C_take 0 [.inr (some (cp c)), .inl (l : Int)] L I (rI (bi (decide (I (cp c + 1) l = 0))) L (q_up I (cp c + 1) l 1)) := by
  refine q_enter (by decide) (Nat.le_of_ble_eq_true rfl) ?_
  refine q_aload_n (pc := 0) dC_take_0 rfl ?_
  refine q_getR (f := 1) (pc := 1) dC_take_1 lay_4 (by decide) (s_cp L c hc) (by decide) fl_C9 rfl rfl ?_
  refine q_iload_n (pc := 4) dC_take_4 rfl ?_
  refine q_zald (i := l) (pc := 5) dC_take_5 (s_hd L c hc) rfl (by omega) rfl ?_
  refine q_if_ne (tgt := 13) (pc := 6) dC_take_6 (by decide) (fun h6 => ?_) (fun h6 => ?_)
  · refine q_iconst (pc := 13) dC_take_13 (by decide) ?_
    refine q_istore_n (pc := 14) dC_take_14 (by decide) ?_
    refine q_aload_n (pc := 15) dC_take_15 rfl ?_
    refine q_getR (f := 1) (pc := 16) dC_take_16 lay_4 (by decide) (s_cp L c hc) (by decide) fl_C9 rfl rfl ?_
    refine q_iload_n (pc := 19) dC_take_19 rfl ?_
    refine q_iconst (pc := 20) dC_take_20 (by decide) ?_
    refine q_zast (i := l) (pc := 21) dC_take_21 (s_hd L c hc) rfl (by omega) rfl (by first | exact Or.inl rfl | exact Or.inr rfl) ?_
    refine q_iload_n (pc := 22) dC_take_22 rfl ?_
    refine q_zret rfl (by first | exact Or.inl rfl | exact Or.inr rfl) (pc := 23) dC_take_23 ?_
    exact ⟨by simp [bi, h6], rfl, rfl⟩
  · refine q_iconst (pc := 9) dC_take_9 (by decide) ?_
    refine q_goto (tgt := 14) (pc := 10) dC_take_10 (by decide) ?_
    refine q_istore_n (pc := 14) dC_take_14 (by decide) ?_
    refine q_aload_n (pc := 15) dC_take_15 rfl ?_
    refine q_getR (f := 1) (pc := 16) dC_take_16 lay_4 (by decide) (s_cp L c hc) (by decide) fl_C9 rfl rfl ?_
    refine q_iload_n (pc := 19) dC_take_19 rfl ?_
    refine q_iconst (pc := 20) dC_take_20 (by decide) ?_
    refine q_zast (i := l) (pc := 21) dC_take_21 (s_hd L c hc) rfl (by omega) rfl (by first | exact Or.inl rfl | exact Or.inr rfl) ?_
    refine q_iload_n (pc := 22) dC_take_22 rfl ?_
    refine q_zret rfl (by first | exact Or.inl rfl | exact Or.inr rfl) (pc := 23) dC_take_23 ?_
    exact ⟨by simp [bi, h6], rfl, rfl⟩
/-- the copy's group, what it holds -/
def cgr (I : qI) (c : Nat) (l : Nat) : Bool := decide (I 7 l = I (cp c) 0)
def chd (I : qI) (c : Nat) (l : Nat) : Bool := decide (I (cp c + 1) l ≠ 0)
theorem lp_C_reach {L c n : Nat} (hc : c < 12) (I : qI) (hn : I 2 6 = (n : Int)) (hn2 : n ≤ 187) : ∀ f l r, l + f = n + 1 → 1 ≤ l → r < l → qE M_C_reach 0 4 [some (.inr (some (cp c))), some (.inr (some 2)), some (.inl ((r : Nat) : Int)), some (.inl ((l : Nat) : Int))] [] L I (rI (qr (cgr I c) (chd I c) f l r : Nat) L I) := by
  intro f
  induction f with
  | zero =>
    intro l r hl h1 hr
    refine q_iload_n (pc := 4) dC_reach_4 rfl ?_
    refine q_aload_n (pc := 5) dC_reach_5 rfl ?_
    refine q_getI (f := 6) (pc := 6) dC_reach_6 lay_1 (by decide) rfl (by decide) fl_C42 rfl rfl ?_
    refine q_icmp_gt (tgt := 45) (pc := 9) dC_reach_9 (by decide) (fun h9 => ?_) (fun h9 => ?_)
    · refine q_iload_n (pc := 45) dC_reach_45 rfl ?_
      refine q_iret rfl (pc := 46) dC_reach_46 ?_
      exact ⟨rfl, rfl, rfl⟩
    · omega
  | succ f ih =>
    intro l r hl h1 hr
    refine q_iload_n (pc := 4) dC_reach_4 rfl ?_
    refine q_aload_n (pc := 5) dC_reach_5 rfl ?_
    refine q_getI (f := 6) (pc := 6) dC_reach_6 lay_1 (by decide) rfl (by decide) fl_C42 rfl rfl ?_
    refine q_icmp_gt (tgt := 45) (pc := 9) dC_reach_9 (by decide) (fun h9 => ?_) (fun h9 => ?_)
    · omega
    · refine q_aload_n (pc := 12) dC_reach_12 rfl ?_
      refine q_getR (f := 4) (pc := 13) dC_reach_13 lay_1 (by decide) rfl (by decide) fl_C45 rfl rfl ?_
      refine q_iload_n (pc := 16) dC_reach_16 rfl ?_
      refine q_iald (i := l) (pc := 17) dC_reach_17 rfl rfl (by omega) rfl ?_
      refine q_aload_n (pc := 18) dC_reach_18 rfl ?_
      refine q_getI (f := 0) (pc := 19) dC_reach_19 lay_4 (by decide) (s_cp L c hc) (by decide) fl_C25 rfl rfl ?_
      refine q_icmp_ne (tgt := 39) (pc := 22) dC_reach_22 (by decide) (fun h22 => ?_) (fun h22 => ?_)
      · refine q_iinc (pc := 39) dC_reach_39 rfl (by decide) rfl ⟨by omega, by omega⟩ ?_
        refine q_goto (tgt := 4) (pc := 42) dC_reach_42 (by decide) ?_
        have e : qr (cgr I c) (chd I c) (f + 1) l r = qr (cgr I c) (chd I c) f (l + 1) r := by
          rw [qr, if_neg (by simp [cgr, h22])]
        rw [e]
        exact ih (l + 1) r (by omega) (by omega) (by omega)
      · refine q_aload_n (pc := 25) dC_reach_25 rfl ?_
        refine q_getR (f := 1) (pc := 26) dC_reach_26 lay_4 (by decide) (s_cp L c hc) (by decide) fl_C9 rfl rfl ?_
        refine q_iload_n (pc := 29) dC_reach_29 rfl ?_
        refine q_zald (i := l) (pc := 30) dC_reach_30 (s_hd L c hc) rfl (by omega) rfl ?_
        refine q_if_ne (tgt := 37) (pc := 31) dC_reach_31 (by decide) (fun h31 => ?_) (fun h31 => ?_)
        · refine q_iload_n (pc := 37) dC_reach_37 rfl ?_
          refine q_istore_n (pc := 38) dC_reach_38 (by decide) ?_
          refine q_iinc (pc := 39) dC_reach_39 rfl (by decide) rfl ⟨by omega, by omega⟩ ?_
          refine q_goto (tgt := 4) (pc := 42) dC_reach_42 (by decide) ?_
          have e : qr (cgr I c) (chd I c) (f + 1) l r = qr (cgr I c) (chd I c) f (l + 1) l := by
            rw [qr, if_pos (by simp [cgr, h22]), if_pos (by simp [chd, h31])]
          rw [e]
          exact ih (l + 1) l (by omega) (by omega) (by omega)
        · refine q_goto (tgt := 45) (pc := 34) dC_reach_34 (by decide) ?_
          refine q_iload_n (pc := 45) dC_reach_45 rfl ?_
          refine q_iret rfl (pc := 46) dC_reach_46 ?_
          exact ⟨by rw [qr, if_pos (by simp [cgr, h22]), if_neg (by simp [chd, h31])], rfl, rfl⟩
/-- how far the copy has reached -/
def crc (I : qI) (c n : Nat) : Nat := qr (cgr I c) (chd I c) n 1 0
theorem ct_C_reach {L c n : Nat} (hc : c < 12) (I : qI) (hn : I 2 6 = (n : Int)) (hn2 : n ≤ 187) : qT M_C_reach 0 [.inr (some (cp c)), .inr (some 2)] L I (rI (crc I c n : Nat) L I) := by
  refine q_enter (by decide) (Nat.le_of_ble_eq_true rfl) ?_
  refine q_iconst (pc := 0) dC_reach_0 (by decide) ?_
  refine q_istore_n (pc := 1) dC_reach_1 (by decide) ?_
  refine q_iconst (pc := 2) dC_reach_2 (by decide) ?_
  refine q_istore_n (pc := 3) dC_reach_3 (by decide) ?_
  exact lp_C_reach hc I hn hn2 n 1 0 (by omega) (by omega) (by omega)
theorem ct_C_tellReach {L c n : Nat} (hc : c < 12) (I : qI) (hn : I 2 6 = (n : Int)) (hn2 : n ≤ 187) : qT M_C_tellReach 1 [.inr (some (cp c)), .inr (some 2)] L I (rV L (q_up I (cp c) 4 (crc I c n : Nat))) := by
  refine q_enter (by decide) (Nat.le_of_ble_eq_true rfl) ?_
  refine q_aload_n (pc := 0) dC_tellReach_0 rfl ?_
  refine q_aload_n (pc := 1) dC_tellReach_1 rfl ?_
  refine q_aload_n (pc := 2) dC_tellReach_2 rfl ?_
  refine q_callV1 (pc := 3) dC_tellReach_3 ((ct_C_reach hc I hn hn2)) cd_C_reach in_C_reach se_C_reach ml_C48 (s_cp L c hc) (by decide) rfl rfl (Nat.le_of_ble_eq_true rfl) ⟨by decide, by decide⟩ ⟨by decide, by decide⟩ rfl ?_
  refine q_putI (f := 4) (pc := 6) dC_tellReach_6 lay_4 typ_4 (by decide) (s_cp L c hc) (by decide) fl_C22 rfl (Or.inl rfl) (Or.inl rfl) rfl ?_
  refine q_vret rfl (pc := 9) dC_tellReach_9 ?_
  exact ⟨rfl, rfl, rfl⟩
def call_ (I : qI) (c : Nat) (l : Nat) : Bool := !(cgr I c l) || chd I c l
theorem lp_C_holdsAllUpTo {L c m : Nat} (hc : c < 12) (hm : m ≤ 187) (I : qI) : ∀ f l, l + f = m + 1 → 1 ≤ l → (∀ i, 1 ≤ i → i < l → call_ I c i = true) → qE M_C_holdsAllUpTo 0 2 [some (.inr (some (cp c))), some (.inl ((m : Nat) : Int)), some (.inr (some 2)), some (.inl ((l : Nat) : Int))] [] L I (rI (bi (qa (call_ I c) m)) L I) := by
  intro f
  induction f with
  | zero =>
    intro l hl h1 hp
    refine q_iload_n (pc := 2) dC_holdsAllUpTo_2 rfl ?_
    refine q_iload_n (pc := 3) dC_holdsAllUpTo_3 rfl ?_
    refine q_icmp_gt (tgt := 37) (pc := 4) dC_holdsAllUpTo_4 (by decide) (fun h4 => ?_) (fun h4 => ?_)
    · refine q_iconst (pc := 37) dC_holdsAllUpTo_37 (by decide) ?_
      refine q_zret rfl (by first | exact Or.inl rfl | exact Or.inr rfl) (pc := 38) dC_holdsAllUpTo_38 ?_
      exact ⟨by rw [qa_iff.mpr (fun i a b => hp i a (by omega))]; rfl, rfl, rfl⟩
    · omega
  | succ f ih =>
    intro l hl h1 hp
    refine q_iload_n (pc := 2) dC_holdsAllUpTo_2 rfl ?_
    refine q_iload_n (pc := 3) dC_holdsAllUpTo_3 rfl ?_
    refine q_icmp_gt (tgt := 37) (pc := 4) dC_holdsAllUpTo_4 (by decide) (fun h4 => ?_) (fun h4 => ?_)
    · omega
    · refine q_aload_n (pc := 7) dC_holdsAllUpTo_7 rfl ?_
      refine q_getR (f := 4) (pc := 8) dC_holdsAllUpTo_8 lay_1 (by decide) rfl (by decide) fl_C45 rfl rfl ?_
      refine q_iload_n (pc := 11) dC_holdsAllUpTo_11 rfl ?_
      refine q_iald (i := l) (pc := 12) dC_holdsAllUpTo_12 rfl rfl (by omega) rfl ?_
      refine q_aload_n (pc := 13) dC_holdsAllUpTo_13 rfl ?_
      refine q_getI (f := 0) (pc := 14) dC_holdsAllUpTo_14 lay_4 (by decide) (s_cp L c hc) (by decide) fl_C25 rfl rfl ?_
      refine q_icmp_ne (tgt := 31) (pc := 17) dC_holdsAllUpTo_17 (by decide) (fun h17 => ?_) (fun h17 => ?_)
      · refine q_iinc (pc := 31) dC_holdsAllUpTo_31 rfl (by decide) rfl ⟨by omega, by omega⟩ ?_
        refine q_goto (tgt := 2) (pc := 34) dC_holdsAllUpTo_34 (by decide) ?_
        refine ih (l + 1) (by omega) (by omega) (fun i a b => ?_)
        by_cases hi : i = l
        · subst hi; simp [call_, cgr, h17]
        · exact hp i a (by omega)
      · refine q_aload_n (pc := 20) dC_holdsAllUpTo_20 rfl ?_
        refine q_getR (f := 1) (pc := 21) dC_holdsAllUpTo_21 lay_4 (by decide) (s_cp L c hc) (by decide) fl_C9 rfl rfl ?_
        refine q_iload_n (pc := 24) dC_holdsAllUpTo_24 rfl ?_
        refine q_zald (i := l) (pc := 25) dC_holdsAllUpTo_25 (s_hd L c hc) rfl (by omega) rfl ?_
        refine q_if_ne (tgt := 31) (pc := 26) dC_holdsAllUpTo_26 (by decide) (fun h26 => ?_) (fun h26 => ?_)
        · refine q_iinc (pc := 31) dC_holdsAllUpTo_31 rfl (by decide) rfl ⟨by omega, by omega⟩ ?_
          refine q_goto (tgt := 2) (pc := 34) dC_holdsAllUpTo_34 (by decide) ?_
          refine ih (l + 1) (by omega) (by omega) (fun i a b => ?_)
          by_cases hi : i = l
          · subst hi; simp [call_, chd, h26]
          · exact hp i a (by omega)
        · refine q_iconst (pc := 29) dC_holdsAllUpTo_29 (by decide) ?_
          refine q_zret rfl (by first | exact Or.inl rfl | exact Or.inr rfl) (pc := 30) dC_holdsAllUpTo_30 ?_
          refine ⟨?_, rfl, rfl⟩
          have e : qa (call_ I c) m = false := by
            apply Bool.eq_false_iff.mpr
            intro h
            have h2 := qa_iff.mp h l h1 (by omega)
            simp [call_, cgr, chd, h17, h26] at h2
          rw [e]; rfl
theorem ct_C_holdsAllUpTo {L c m : Nat} (hc : c < 12) (hm : m ≤ 187) (I : qI) : qT M_C_holdsAllUpTo 0 [.inr (some (cp c)), .inl ((m : Nat) : Int), .inr (some 2)] L I (rI (bi (qa (call_ I c) m)) L I) := by
  refine q_enter (by decide) (Nat.le_of_ble_eq_true rfl) ?_
  refine q_iconst (pc := 0) dC_holdsAllUpTo_0 (by decide) ?_
  refine q_istore_n (pc := 1) dC_holdsAllUpTo_1 (by decide) ?_
  exact lp_C_holdsAllUpTo hc hm I m 1 (by omega) (by omega) (fun i a b => by omega)
def ckp (I : qI) (c : Nat) (l : Nat) : Bool := decide (I (cp c) 3 < (l : Int)) && chd I c l
theorem lp_C_keptUpTo {L c m : Nat} (hc : c < 12) (hm : m ≤ 187) (I : qI) : ∀ f l k, l + f = m + 1 → 1 ≤ l → I (cp c) 3 < (l : Int) → k = qn (ckp I c) (l - 1) → qE M_C_keptUpTo 0 9 [some (.inr (some (cp c))), some (.inl ((m : Nat) : Int)), some (.inl ((k : Nat) : Int)), some (.inl ((l : Nat) : Int))] [] L I (rI (qn (ckp I c) m : Nat) L I) := by
  intro f
  induction f with
  | zero =>
    intro l k hl h1 hf hk
    refine q_iload_n (pc := 9) dC_keptUpTo_9 rfl ?_
    refine q_iload_n (pc := 10) dC_keptUpTo_10 rfl ?_
    refine q_icmp_gt (tgt := 32) (pc := 11) dC_keptUpTo_11 (by decide) (fun h11 => ?_) (fun h11 => ?_)
    · refine q_iload_n (pc := 32) dC_keptUpTo_32 rfl ?_
      refine q_iret rfl (pc := 33) dC_keptUpTo_33 ?_
      exact ⟨by rw [hk, show l - 1 = m by omega], rfl, rfl⟩
    · omega
  | succ f ih =>
    intro l k hl h1 hf hk
    have hkl := qn_le (ckp I c) (l - 1)
    have e : qn (ckp I c) (l + 1 - 1) = qn (ckp I c) (l - 1) + (if ckp I c l = true then 1 else 0) := by
      obtain ⟨j, rfl⟩ : ∃ j, l = j + 1 := ⟨l - 1, by omega⟩
      rfl
    refine q_iload_n (pc := 9) dC_keptUpTo_9 rfl ?_
    refine q_iload_n (pc := 10) dC_keptUpTo_10 rfl ?_
    refine q_icmp_gt (tgt := 32) (pc := 11) dC_keptUpTo_11 (by decide) (fun h11 => ?_) (fun h11 => ?_)
    · omega
    · refine q_aload_n (pc := 14) dC_keptUpTo_14 rfl ?_
      refine q_getR (f := 1) (pc := 15) dC_keptUpTo_15 lay_4 (by decide) (s_cp L c hc) (by decide) fl_C9 rfl rfl ?_
      refine q_iload_n (pc := 18) dC_keptUpTo_18 rfl ?_
      refine q_zald (i := l) (pc := 19) dC_keptUpTo_19 (s_hd L c hc) rfl (by omega) rfl ?_
      refine q_if_eq (tgt := 26) (pc := 20) dC_keptUpTo_20 (by decide) (fun h20 => ?_) (fun h20 => ?_)
      · refine q_iinc (pc := 26) dC_keptUpTo_26 rfl (by decide) rfl ⟨by omega, by omega⟩ ?_
        refine q_goto (tgt := 9) (pc := 29) dC_keptUpTo_29 (by decide) ?_
        exact ih (l + 1) k (by omega) (by omega) (by omega) (by rw [e, if_neg (by simp [ckp, chd, h20]), hk]; rfl)
      · refine q_iinc (pc := 23) dC_keptUpTo_23 rfl (by decide) rfl ⟨by omega, by omega⟩ ?_
        refine q_iinc (pc := 26) dC_keptUpTo_26 rfl (by decide) rfl ⟨by omega, by omega⟩ ?_
        refine q_goto (tgt := 9) (pc := 29) dC_keptUpTo_29 (by decide) ?_
        exact ih (l + 1) (k + 1) (by omega) (by omega) (by omega) (by rw [e, if_pos (by simp [ckp, chd, h20, hf]), hk])
theorem ct_C_keptUpTo {L c m : Nat} (hc : c < 12) (hm : m ≤ 187) (I : qI) {fo : Nat} (hfo : I (cp c) 3 = (fo : Int)) (hfb : fo ≤ 1000) : qT M_C_keptUpTo 0 [.inr (some (cp c)), .inl ((m : Nat) : Int)] L I (rI (qn (ckp I c) m : Nat) L I) := by
  refine q_enter (by decide) (Nat.le_of_ble_eq_true rfl) ?_
  refine q_iconst (pc := 0) dC_keptUpTo_0 (by decide) ?_
  refine q_istore_n (pc := 1) dC_keptUpTo_1 (by decide) ?_
  refine q_aload_n (pc := 2) dC_keptUpTo_2 rfl ?_
  refine q_getI (f := 3) (pc := 3) dC_keptUpTo_3 lay_4 (by decide) (s_cp L c hc) (by decide) fl_C19 rfl rfl ?_
  refine q_iconst (pc := 6) dC_keptUpTo_6 (by decide) ?_
  refine q_iadd (pc := 7) dC_keptUpTo_7 rfl ⟨by omega, by omega⟩ ?_
  refine q_istore_n (pc := 8) dC_keptUpTo_8 (by decide) ?_
  by_cases h : fo ≤ m
  · have h9 := lp_C_keptUpTo (L := L) hc hm I (m - fo) (fo + 1) 0 (by omega) (by omega) (by omega) (by
      symm
      apply qn_zero
      intro l a b
      have : ¬ ((fo : Int) < (l : Int)) := by omega
      simp [ckp, hfo, this])
    rw [hfo]
    exact h9
  · refine q_iload_n (pc := 9) dC_keptUpTo_9 rfl ?_
    refine q_iload_n (pc := 10) dC_keptUpTo_10 rfl ?_
    refine q_icmp_gt (tgt := 32) (pc := 11) dC_keptUpTo_11 (by decide) (fun h11 => ?_) (fun h11 => ?_)
    · refine q_iload_n (pc := 32) dC_keptUpTo_32 rfl ?_
      refine q_iret rfl (pc := 33) dC_keptUpTo_33 ?_
      refine ⟨?_, rfl, rfl⟩
      rw [qn_zero]
      · rfl
      · intro l a b
        have : ¬ ((fo : Int) < (l : Int)) := by omega
        simp [ckp, hfo, this]
    · omega
def qmax (x y : Int) : Int := if x < y then y else x
def qmin (x y : Int) : Int := if y < x then y else x
theorem ct_C_foldUpTo {L c m : Nat} (hc : c < 12) (hm : m ≤ 187) (I : qI) {fo : Nat} (hfo : I (cp c) 3 = (fo : Int)) (hfb : fo ≤ 1000) : qT M_C_foldUpTo 1 [.inr (some (cp c)), .inl ((m : Nat) : Int)] L I (rI (qn (ckp I c) m : Nat) L (q_up I (cp c) 3 (qmax (I (cp c) 3) m))) := by
  refine q_enter (by decide) (Nat.le_of_ble_eq_true rfl) ?_
  refine q_aload_n (pc := 0) dC_foldUpTo_0 rfl ?_
  refine q_iload_n (pc := 1) dC_foldUpTo_1 rfl ?_
  refine q_callV1 (pc := 2) dC_foldUpTo_2 ((ct_C_keptUpTo hc hm I hfo hfb)) cd_C_keptUpTo in_C_keptUpTo se_C_keptUpTo ml_C52 (s_cp L c hc) (by decide) rfl rfl (Nat.le_of_ble_eq_true rfl) ⟨by decide, by decide⟩ ⟨by decide, by decide⟩ rfl ?_
  refine q_istore_n (pc := 5) dC_foldUpTo_5 (by decide) ?_
  refine q_aload_n (pc := 6) dC_foldUpTo_6 rfl ?_
  refine q_aload_n (pc := 7) dC_foldUpTo_7 rfl ?_
  refine q_getI (f := 3) (pc := 8) dC_foldUpTo_8 lay_4 (by decide) (s_cp L c hc) (by decide) fl_C19 rfl rfl ?_
  refine q_iload_n (pc := 11) dC_foldUpTo_11 rfl ?_
  refine q_max (pc := 12) dC_foldUpTo_12 mw_C36 mx_1 mt_0 mx_2 ⟨by decide, by decide⟩ ⟨by decide, by decide⟩ (Nat.le_of_ble_eq_true rfl) ?_
  refine q_putI (f := 3) (pc := 15) dC_foldUpTo_15 lay_4 typ_4 (by decide) (s_cp L c hc) (by decide) fl_C19 rfl (Or.inl rfl) (Or.inl rfl) rfl ?_
  refine q_iload_n (pc := 18) dC_foldUpTo_18 rfl ?_
  refine q_iret rfl (pc := 19) dC_foldUpTo_19 ?_
  exact ⟨rfl, rfl, rfl⟩
/-- c takes what d holds, of 1 .. l - 1 -/
def qtk (I : qI) (c d l : Nat) : qI := fun a j => if a = cp c + 1 ∧ 1 ≤ j ∧ j < l ∧ I (cp d + 1) j ≠ 0 then 1 else I a j
def qtn (I : qI) (c d : Nat) (l : Nat) : Bool := chd I d l && !chd I c l
theorem qtk_d {I : qI} {c d l j : Nat} (hcd : c ≠ d) : qtk I c d l (cp d + 1) j = I (cp d + 1) j := by
  unfold qtk
  rw [if_neg]
  rintro ⟨h, -⟩
  exact hcd (cp_inj (by omega)).symm
theorem qtk_c {I : qI} {c d l : Nat} : qtk I c d l (cp c + 1) l = I (cp c + 1) l := by
  unfold qtk
  rw [if_neg]
  rintro ⟨-, -, h, -⟩
  omega
theorem qtk_no {I : qI} {c d l : Nat} (h : I (cp d + 1) l = 0) : qtk I c d (l + 1) = qtk I c d l := by
  funext a j
  unfold qtk
  by_cases hj : j = l
  · subst hj; simp [h]
  · have : (j < l + 1) = (j < l) := by apply propext; omega
    simp only [this]
theorem qtk_up {I : qI} {c d l : Nat} (h1 : 1 ≤ l) (h : I (cp d + 1) l ≠ 0) : q_up (qtk I c d l) (cp c + 1) l 1 = qtk I c d (l + 1) := by
  funext a j
  unfold q_up qtk
  by_cases ha : a = cp c + 1
  · by_cases hj : j = l
    · subst hj; simp [ha, h, h1]
    · have : (j < l + 1) = (j < l) := by apply propext; omega
      simp [ha, hj, this]
  · simp [ha]
theorem lp_C_takeAllOf {L c d : Nat} (hc : c < 12) (hd : d < 12) (hcd : c ≠ d) (I : qI) : ∀ f l k, l + f = 188 → 1 ≤ l → k = qn (qtn I c d) (l - 1) → qE M_C_takeAllOf 1 4 [some (.inr (some (cp c))), some (.inr (some (cp d))), some (.inl ((k : Nat) : Int)), some (.inl ((l : Nat) : Int))] [] L (qtk I c d l) (rI (qn (qtn I c d) 187 : Nat) L (q_up (qtk I c d 188) (cp c) 3 (qmax (I (cp c) 3) (I (cp d) 3)))) := by
  intro f
  induction f with
  | zero =>
    intro l k hl h1 hk
    refine q_iload_n (pc := 4) dC_takeAllOf_4 rfl ?_
    refine q_sipush (pc := 5) dC_takeAllOf_5 (by decide) (by decide) ?_
    refine q_icmp_gt (tgt := 37) (pc := 8) dC_takeAllOf_8 (by decide) (fun h8 => ?_) (fun h8 => ?_)
    · refine q_aload_n (pc := 37) dC_takeAllOf_37 rfl ?_
      refine q_aload_n (pc := 38) dC_takeAllOf_38 rfl ?_
      refine q_getI (f := 3) (pc := 39) dC_takeAllOf_39 lay_4 (by decide) (s_cp L c hc) (by decide) fl_C19 rfl rfl ?_
      refine q_aload_n (pc := 42) dC_takeAllOf_42 rfl ?_
      refine q_getI (f := 3) (pc := 43) dC_takeAllOf_43 lay_4 (by decide) (s_cp L d hd) (by decide) fl_C19 rfl rfl ?_
      refine q_max (pc := 46) dC_takeAllOf_46 mw_C36 mx_1 mt_0 mx_2 ⟨by decide, by decide⟩ ⟨by decide, by decide⟩ (Nat.le_of_ble_eq_true rfl) ?_
      refine q_putI (f := 3) (pc := 49) dC_takeAllOf_49 lay_4 typ_4 (by decide) (s_cp L c hc) (by decide) fl_C19 rfl (Or.inl rfl) (Or.inl rfl) rfl ?_
      refine q_iload_n (pc := 52) dC_takeAllOf_52 rfl ?_
      refine q_iret rfl (pc := 53) dC_takeAllOf_53 ?_
      obtain rfl : l = 188 := by omega
      refine ⟨by rw [hk], rfl, ?_⟩
      have e1 : ∀ x, qtk I c d 188 (cp x) 3 = I (cp x) 3 := fun x => by unfold qtk; rw [if_neg]; rintro ⟨h, -⟩; exact cp_ne h
      rw [e1, e1]
      rfl
    · omega
  | succ f ih =>
    intro l k hl h1 hk
    have hkl := qn_le (qtn I c d) (l - 1)
    have e : qn (qtn I c d) (l + 1 - 1) = qn (qtn I c d) (l - 1) + (if qtn I c d l = true then 1 else 0) := by
      obtain ⟨j, rfl⟩ : ∃ j, l = j + 1 := ⟨l - 1, by omega⟩
      rfl
    refine q_iload_n (pc := 4) dC_takeAllOf_4 rfl ?_
    refine q_sipush (pc := 5) dC_takeAllOf_5 (by decide) (by decide) ?_
    refine q_icmp_gt (tgt := 37) (pc := 8) dC_takeAllOf_8 (by decide) (fun h8 => ?_) (fun h8 => ?_)
    · omega
    · refine q_aload_n (pc := 11) dC_takeAllOf_11 rfl ?_
      refine q_getR (f := 1) (pc := 12) dC_takeAllOf_12 lay_4 (by decide) (s_cp L d hd) (by decide) fl_C9 rfl rfl ?_
      refine q_iload_n (pc := 15) dC_takeAllOf_15 rfl ?_
      refine q_zald (i := l) (pc := 16) dC_takeAllOf_16 (s_hd L d hd) rfl (by omega) rfl ?_
      refine q_if_eq (tgt := 31) (pc := 17) dC_takeAllOf_17 (by decide) (fun h17 => ?_) (fun h17 => ?_)
      · refine q_iinc (pc := 31) dC_takeAllOf_31 rfl (by decide) rfl ⟨by omega, by omega⟩ ?_
        refine q_goto (tgt := 4) (pc := 34) dC_takeAllOf_34 (by decide) ?_
        rw [qtk_d hcd] at h17
        rw [← qtk_no h17]
        exact ih (l + 1) k (by omega) (by omega) (by rw [e, if_neg (by simp [qtn, chd, h17]), hk]; rfl)
      · rw [qtk_d hcd] at h17
        refine q_aload_n (pc := 20) dC_takeAllOf_20 rfl ?_
        refine q_iload_n (pc := 21) dC_takeAllOf_21 rfl ?_
        refine q_callV1 (pc := 22) dC_takeAllOf_22 ((ct_C_take (l := l) hc (by omega) _)) cd_C_take in_C_take se_C_take ml_C32 (s_cp L c hc) (by decide) rfl rfl (Nat.le_of_ble_eq_true rfl) ⟨by decide, by decide⟩ ⟨by decide, by decide⟩ rfl ?_
        refine q_if_eq (tgt := 31) (pc := 25) dC_takeAllOf_25 (by decide) (fun h25 => ?_) (fun h25 => ?_)
        · refine q_iinc (pc := 31) dC_takeAllOf_31 rfl (by decide) rfl ⟨by omega, by omega⟩ ?_
          refine q_goto (tgt := 4) (pc := 34) dC_takeAllOf_34 (by decide) ?_
          rw [qtk_up h1 h17]
          rw [qtk_c] at h25
          exact ih (l + 1) k (by omega) (by omega) (by rw [e, if_neg (by simp [qtn, chd, bi] at h25 ⊢; exact fun _ => h25), hk]; rfl)
        · refine q_iinc (pc := 28) dC_takeAllOf_28 rfl (by decide) rfl ⟨by omega, by omega⟩ ?_
          refine q_iinc (pc := 31) dC_takeAllOf_31 rfl (by decide) rfl ⟨by omega, by omega⟩ ?_
          refine q_goto (tgt := 4) (pc := 34) dC_takeAllOf_34 (by decide) ?_
          rw [qtk_up h1 h17]
          rw [qtk_c] at h25
          exact ih (l + 1) (k + 1) (by omega) (by omega) (by rw [e, if_pos (by simp [qtn, chd, bi] at h25 ⊢; exact ⟨h17, h25⟩), hk])
def qtake (I : qI) (c d : Nat) : qI := q_up (qtk I c d 188) (cp c) 3 (qmax (I (cp c) 3) (I (cp d) 3))
theorem ct_C_takeAllOf {L c d : Nat} (hc : c < 12) (hd : d < 12) (hcd : c ≠ d) (I : qI) : qT M_C_takeAllOf 1 [.inr (some (cp c)), .inr (some (cp d))] L I (rI (qn (qtn I c d) 187 : Nat) L (qtake I c d)) := by
  refine q_enter (by decide) (Nat.le_of_ble_eq_true rfl) ?_
  refine q_iconst (pc := 0) dC_takeAllOf_0 (by decide) ?_
  refine q_istore_n (pc := 1) dC_takeAllOf_1 (by decide) ?_
  refine q_iconst (pc := 2) dC_takeAllOf_2 (by decide) ?_
  refine q_istore_n (pc := 3) dC_takeAllOf_3 (by decide) ?_
  have e : I = qtk I c d 1 := by
    funext a j
    unfold qtk
    rw [if_neg (by omega)]
  have h := lp_C_takeAllOf (L := L) hc hd hcd I 187 1 0 (by omega) (by omega) rfl
  rw [← e] at h
  exact h
end
section
/-! The cache and the transactions. -/
theorem ct_H_isFull {L : Nat} (I : qI) : qT M_H_isFull 0 [.inr (some 41)] L I (rI (bi (decide (4 ≤ I 41 1))) L I) := by
  refine q_enter (by decide) (Nat.le_of_ble_eq_true rfl) ?_
  refine q_aload_n (pc := 0) dH_isFull_0 rfl ?_
  refine q_getI (f := 1) (pc := 1) dH_isFull_1 lay_5 (by decide) rfl (by decide) fl_H13 rfl rfl ?_
  refine q_iconst (pc := 4) dH_isFull_4 (by decide) ?_
  refine q_icmp_lt (tgt := 12) (pc := 5) dH_isFull_5 (by decide) (fun h5 => ?_) (fun h5 => ?_)
  · refine q_iconst (pc := 12) dH_isFull_12 (by decide) ?_
    refine q_zret rfl (by first | exact Or.inl rfl | exact Or.inr rfl) (pc := 13) dH_isFull_13 ?_
    exact ⟨by simp [bi]; omega, rfl, rfl⟩
  · refine q_iconst (pc := 8) dH_isFull_8 (by decide) ?_
    refine q_goto (tgt := 13) (pc := 9) dH_isFull_9 (by decide) ?_
    refine q_zret rfl (by first | exact Or.inl rfl | exact Or.inr rfl) (pc := 13) dH_isFull_13 ?_
    exact ⟨by simp [bi]; omega, rfl, rfl⟩
/-- a page's rank, f pages from i on -/
def hrk (I : qI) (p : Int) : Nat → Nat → Nat
  | 0, _ => 0
  | f + 1, i => if I 42 i = p then f + 1 else hrk I p f (i + 1)
theorem lp_H_rankOf {L k : Nat} (p : Int) (I : qI) (hk : I 41 1 = (k : Int)) (hk2 : k ≤ 4) : ∀ f i, i + f = k → qE M_H_rankOf 0 2 [some (.inr (some 41)), some (.inl p), some (.inl ((i : Nat) : Int))] [] L I (rI (hrk I p f i : Nat) L I) := by
  intro f
  induction f with
  | zero =>
    intro i hi
    refine q_iload_n (pc := 2) dH_rankOf_2 rfl ?_
    refine q_aload_n (pc := 3) dH_rankOf_3 rfl ?_
    refine q_getI (f := 1) (pc := 4) dH_rankOf_4 lay_5 (by decide) rfl (by decide) fl_H13 rfl rfl ?_
    refine q_icmp_ge (tgt := 33) (pc := 7) dH_rankOf_7 (by decide) (fun h7 => ?_) (fun h7 => ?_)
    · refine q_iconst (pc := 33) dH_rankOf_33 (by decide) ?_
      refine q_iret rfl (pc := 34) dH_rankOf_34 ?_
      exact ⟨rfl, rfl, rfl⟩
    · omega
  | succ f ih =>
    intro i hi
    refine q_iload_n (pc := 2) dH_rankOf_2 rfl ?_
    refine q_aload_n (pc := 3) dH_rankOf_3 rfl ?_
    refine q_getI (f := 1) (pc := 4) dH_rankOf_4 lay_5 (by decide) rfl (by decide) fl_H13 rfl rfl ?_
    refine q_icmp_ge (tgt := 33) (pc := 7) dH_rankOf_7 (by decide) (fun h7 => ?_) (fun h7 => ?_)
    · omega
    · refine q_aload_n (pc := 10) dH_rankOf_10 rfl ?_
      refine q_getR (f := 0) (pc := 11) dH_rankOf_11 lay_5 (by decide) rfl (by decide) fl_H9 rfl rfl ?_
      refine q_iload_n (pc := 14) dH_rankOf_14 rfl ?_
      refine q_iald (i := i) (pc := 15) dH_rankOf_15 rfl rfl (by omega) rfl ?_
      refine q_iload_n (pc := 16) dH_rankOf_16 rfl ?_
      refine q_icmp_ne (tgt := 27) (pc := 17) dH_rankOf_17 (by decide) (fun h17 => ?_) (fun h17 => ?_)
      · refine q_iinc (pc := 27) dH_rankOf_27 rfl (by decide) rfl ⟨by omega, by omega⟩ ?_
        refine q_goto (tgt := 2) (pc := 30) dH_rankOf_30 (by decide) ?_
        have e : hrk I p (f + 1) i = hrk I p f (i + 1) := by rw [hrk, if_neg h17]
        rw [e]
        exact ih (i + 1) (by omega)
      · refine q_aload_n (pc := 20) dH_rankOf_20 rfl ?_
        refine q_getI (f := 1) (pc := 21) dH_rankOf_21 lay_5 (by decide) rfl (by decide) fl_H13 rfl rfl ?_
        refine q_iload_n (pc := 24) dH_rankOf_24 rfl ?_
        refine q_isub (pc := 25) dH_rankOf_25 rfl ⟨by omega, by omega⟩ ?_
        refine q_iret rfl (pc := 26) dH_rankOf_26 ?_
        exact ⟨by rw [hrk, if_pos h17, hk]; congr 2; omega, rfl, rfl⟩
theorem ct_H_rankOf {L k : Nat} (p : Int) (I : qI) (hk : I 41 1 = (k : Int)) (hk2 : k ≤ 4) : qT M_H_rankOf 0 [.inr (some 41), .inl p] L I (rI (hrk I p k 0 : Nat) L I) := by
  refine q_enter (by decide) (Nat.le_of_ble_eq_true rfl) ?_
  refine q_iconst (pc := 0) dH_rankOf_0 (by decide) ?_
  refine q_istore_n (pc := 1) dH_rankOf_1 (by decide) ?_
  exact lp_H_rankOf p I hk hk2 k 0 (by omega)
def happ (I : qI) (k : Nat) (p : Int) : qI := if k < 4 then q_up (q_up I 42 k p) 41 1 ((k : Int) + 1) else I
theorem ct_H_append {L k : Nat} (p : Int) (I : qI) (hk : I 41 1 = (k : Int)) (hk2 : k ≤ 4) : qT M_H_append 0 [.inr (some 41), .inl p] L I (rV L (happ I k p)) := by
  refine q_enter (by decide) (Nat.le_of_ble_eq_true rfl) ?_
  refine q_aload_n (pc := 0) dH_append_0 rfl ?_
  refine q_getI (f := 1) (pc := 1) dH_append_1 lay_5 (by decide) rfl (by decide) fl_H13 rfl rfl ?_
  refine q_iconst (pc := 4) dH_append_4 (by decide) ?_
  refine q_icmp_ge (tgt := 28) (pc := 5) dH_append_5 (by decide) (fun h5 => ?_) (fun h5 => ?_)
  · refine q_vret rfl (pc := 28) dH_append_28 ?_
    exact ⟨rfl, rfl, by unfold happ; rw [if_neg (by omega)]⟩
  · have e : q_up I 42 k p 41 1 = (k : Int) := by simp [q_up, hk]
    refine q_aload_n (pc := 8) dH_append_8 rfl ?_
    refine q_getR (f := 0) (pc := 9) dH_append_9 lay_5 (by decide) rfl (by decide) fl_H9 rfl rfl ?_
    refine q_aload_n (pc := 12) dH_append_12 rfl ?_
    refine q_getI (f := 1) (pc := 13) dH_append_13 lay_5 (by decide) rfl (by decide) fl_H13 rfl rfl ?_
    refine q_iload_n (pc := 16) dH_append_16 rfl ?_
    refine q_iast (i := k) (pc := 17) dH_append_17 rfl hk (by omega) rfl ?_
    refine q_aload_n (pc := 18) dH_append_18 rfl ?_
    refine q_dup (pc := 19) dH_append_19 ?_
    refine q_getI (f := 1) (pc := 20) dH_append_20 lay_5 (by decide) rfl (by decide) fl_H13 rfl rfl ?_
    refine q_iconst (pc := 23) dH_append_23 (by decide) ?_
    refine q_iadd (pc := 24) dH_append_24 rfl ⟨by omega, by omega⟩ ?_
    refine q_putI (f := 1) (pc := 25) dH_append_25 lay_5 typ_5 (by decide) rfl (by decide) fl_H13 rfl (Or.inl rfl) (Or.inl rfl) rfl ?_
    refine q_vret rfl (pc := 28) dH_append_28 ?_
    exact ⟨rfl, rfl, by unfold happ; rw [if_pos (by omega), e]⟩
/-- the pages but p, from i on, are written from w on -/
def hrm (p : Int) : Nat → Nat → Nat → qI → qI × Nat
  | 0, _, w, I => (I, w)
  | f + 1, i, w, I => if I 42 i = p then hrm p f (i + 1) w I else hrm p f (i + 1) (w + 1) (q_up I 42 w (I 42 i))
theorem lp_H_remove {L k : Nat} (p : Int) (hk2 : k ≤ 4) : ∀ f i w I, I 41 1 = (k : Int) → i + f = k → w ≤ i → qE M_H_remove 0 4 [some (.inr (some 41)), some (.inl p), some (.inl ((w : Nat) : Int)), some (.inl ((i : Nat) : Int))] [] L I (rV L (q_up (hrm p f i w I).1 41 1 ((hrm p f i w I).2 : Nat))) := by
  intro f
  induction f with
  | zero =>
    intro i w I hk hi hw
    refine q_iload_n (pc := 4) dH_remove_4 rfl ?_
    refine q_aload_n (pc := 5) dH_remove_5 rfl ?_
    refine q_getI (f := 1) (pc := 6) dH_remove_6 lay_5 (by decide) rfl (by decide) fl_H13 rfl rfl ?_
    refine q_icmp_ge (tgt := 43) (pc := 9) dH_remove_9 (by decide) (fun h9 => ?_) (fun h9 => ?_)
    · refine q_aload_n (pc := 43) dH_remove_43 rfl ?_
      refine q_iload_n (pc := 44) dH_remove_44 rfl ?_
      refine q_putI (f := 1) (pc := 45) dH_remove_45 lay_5 typ_5 (by decide) rfl (by decide) fl_H13 rfl (Or.inl rfl) (Or.inl rfl) rfl ?_
      refine q_vret rfl (pc := 48) dH_remove_48 ?_
      exact ⟨rfl, rfl, rfl⟩
    · omega
  | succ f ih =>
    intro i w I hk hi hw
    refine q_iload_n (pc := 4) dH_remove_4 rfl ?_
    refine q_aload_n (pc := 5) dH_remove_5 rfl ?_
    refine q_getI (f := 1) (pc := 6) dH_remove_6 lay_5 (by decide) rfl (by decide) fl_H13 rfl rfl ?_
    refine q_icmp_ge (tgt := 43) (pc := 9) dH_remove_9 (by decide) (fun h9 => ?_) (fun h9 => ?_)
    · omega
    · refine q_aload_n (pc := 12) dH_remove_12 rfl ?_
      refine q_getR (f := 0) (pc := 13) dH_remove_13 lay_5 (by decide) rfl (by decide) fl_H9 rfl rfl ?_
      refine q_iload_n (pc := 16) dH_remove_16 rfl ?_
      refine q_iald (i := i) (pc := 17) dH_remove_17 rfl rfl (by omega) rfl ?_
      refine q_iload_n (pc := 18) dH_remove_18 rfl ?_
      refine q_icmp_eq (tgt := 37) (pc := 19) dH_remove_19 (by decide) (fun h19 => ?_) (fun h19 => ?_)
      · refine q_iinc (pc := 37) dH_remove_37 rfl (by decide) rfl ⟨by omega, by omega⟩ ?_
        refine q_goto (tgt := 4) (pc := 40) dH_remove_40 (by decide) ?_
        have e : hrm p (f + 1) i w I = hrm p f (i + 1) w I := by rw [hrm, if_pos h19]
        rw [e]
        exact ih (i + 1) w I hk (by omega) (by omega)
      · refine q_aload_n (pc := 22) dH_remove_22 rfl ?_
        refine q_getR (f := 0) (pc := 23) dH_remove_23 lay_5 (by decide) rfl (by decide) fl_H9 rfl rfl ?_
        refine q_iload_n (pc := 26) dH_remove_26 rfl ?_
        refine q_aload_n (pc := 27) dH_remove_27 rfl ?_
        refine q_getR (f := 0) (pc := 28) dH_remove_28 lay_5 (by decide) rfl (by decide) fl_H9 rfl rfl ?_
        refine q_iload_n (pc := 31) dH_remove_31 rfl ?_
        refine q_iald (i := i) (pc := 32) dH_remove_32 rfl rfl (by omega) rfl ?_
        refine q_iast (i := w) (pc := 33) dH_remove_33 rfl rfl (by omega) rfl ?_
        refine q_iinc (pc := 34) dH_remove_34 rfl (by decide) rfl ⟨by omega, by omega⟩ ?_
        refine q_iinc (pc := 37) dH_remove_37 rfl (by decide) rfl ⟨by omega, by omega⟩ ?_
        refine q_goto (tgt := 4) (pc := 40) dH_remove_40 (by decide) ?_
        have e : hrm p (f + 1) i w I = hrm p f (i + 1) (w + 1) (q_up I 42 w (I 42 i)) := by rw [hrm, if_neg h19]
        rw [e]
        exact ih (i + 1) (w + 1) _ (by simp [q_up, hk]) (by omega) (by omega)
def hrem (I : qI) (k : Nat) (p : Int) : qI := q_up (hrm p k 0 0 I).1 41 1 ((hrm p k 0 0 I).2 : Nat)
theorem ct_H_remove {L k : Nat} (p : Int) (I : qI) (hk : I 41 1 = (k : Int)) (hk2 : k ≤ 4) : qT M_H_remove 0 [.inr (some 41), .inl p] L I (rV L (hrem I k p)) := by
  refine q_enter (by decide) (Nat.le_of_ble_eq_true rfl) ?_
  refine q_iconst (pc := 0) dH_remove_0 (by decide) ?_
  refine q_istore_n (pc := 1) dH_remove_1 (by decide) ?_
  refine q_iconst (pc := 2) dH_remove_2 (by decide) ?_
  refine q_istore_n (pc := 3) dH_remove_3 (by decide) ?_
  exact lp_H_remove p hk2 k 0 0 I hk (by omega) (by omega)
theorem ct_H_clear {L : Nat} (I : qI) : qT M_H_clear 0 [.inr (some 41)] L I (rV L (q_up I 41 1 0)) := by
  refine q_enter (by decide) (Nat.le_of_ble_eq_true rfl) ?_
  refine q_aload_n (pc := 0) dH_clear_0 rfl ?_
  refine q_iconst (pc := 1) dH_clear_1 (by decide) ?_
  refine q_putI (f := 1) (pc := 2) dH_clear_2 lay_5 typ_5 (by decide) rfl (by decide) fl_H13 rfl (Or.inl rfl) (Or.inl rfl) rfl ?_
  refine q_vret rfl (pc := 5) dH_clear_5 ?_
  exact ⟨rfl, rfl, rfl⟩
theorem ct_T_isFull {L : Nat} (I : qI) : qT M_T_isFull 0 [.inr (some 9)] L I (rI (bi (decide (4 ≤ I 9 3 ∨ 60 ≤ I 9 2))) L I) := by
  refine q_enter (by decide) (Nat.le_of_ble_eq_true rfl) ?_
  refine q_aload_n (pc := 0) dT_isFull_0 rfl ?_
  refine q_getI (f := 3) (pc := 1) dT_isFull_1 lay_2 (by decide) rfl (by decide) fl_T23 rfl rfl ?_
  refine q_iconst (pc := 4) dT_isFull_4 (by decide) ?_
  refine q_icmp_ge (tgt := 17) (pc := 5) dT_isFull_5 (by decide) (fun h5 => ?_) (fun h5 => ?_)
  · refine q_iconst (pc := 17) dT_isFull_17 (by decide) ?_
    refine q_goto (tgt := 22) (pc := 18) dT_isFull_18 (by decide) ?_
    refine q_zret rfl (by first | exact Or.inl rfl | exact Or.inr rfl) (pc := 22) dT_isFull_22 ?_
    exact ⟨by simp [bi, h5], rfl, rfl⟩
  · refine q_aload_n (pc := 8) dT_isFull_8 rfl ?_
    refine q_getI (f := 2) (pc := 9) dT_isFull_9 lay_2 (by decide) rfl (by decide) fl_T19 rfl rfl ?_
    refine q_bipush (pc := 12) dT_isFull_12 (by decide) (by decide) ?_
    refine q_icmp_lt (tgt := 21) (pc := 14) dT_isFull_14 (by decide) (fun h14 => ?_) (fun h14 => ?_)
    · refine q_iconst (pc := 21) dT_isFull_21 (by decide) ?_
      refine q_zret rfl (by first | exact Or.inl rfl | exact Or.inr rfl) (pc := 22) dT_isFull_22 ?_
      exact ⟨by have : ¬ (4 ≤ I 9 3 ∨ 60 ≤ I 9 2) := by omega
                simp [bi, this], rfl, rfl⟩
    · refine q_iconst (pc := 17) dT_isFull_17 (by decide) ?_
      refine q_goto (tgt := 22) (pc := 18) dT_isFull_18 (by decide) ?_
      refine q_zret rfl (by first | exact Or.inl rfl | exact Or.inr rfl) (pc := 22) dT_isFull_22 ?_
      exact ⟨by have : 60 ≤ I 9 2 := by omega
                simp [bi, this], rfl, rfl⟩
def tst (I : qI) (T : Nat) : qI := q_up (q_up (q_up I 9 2 ((T : Int) + 1)) 10 (T + 1) 1) 9 3 (I 9 3 + 1)
theorem ct_T_start {L T : Nat} (I : qI) (hT : I 9 2 = (T : Int)) (hT2 : T < 60) (hA : -100 ≤ I 9 3 ∧ I 9 3 ≤ 100) : qT M_T_start 0 [.inr (some 9)] L I (rI ((T + 1 : Nat) : Int) L (tst I T)) := by
  refine q_enter (by decide) (Nat.le_of_ble_eq_true rfl) ?_
  have e1 : q_up I 9 2 (I 9 2 + 1) 9 2 = ((T + 1 : Nat) : Int) := by simp [q_up, hT]
  have e2 : q_up (q_up I 9 2 (I 9 2 + 1)) 10 (T + 1) 1 9 3 = I 9 3 := by simp [q_up]
  refine q_aload_n (pc := 0) dT_start_0 rfl ?_
  refine q_dup (pc := 1) dT_start_1 ?_
  refine q_getI (f := 2) (pc := 2) dT_start_2 lay_2 (by decide) rfl (by decide) fl_T19 rfl rfl ?_
  refine q_iconst (pc := 5) dT_start_5 (by decide) ?_
  refine q_iadd (pc := 6) dT_start_6 rfl ⟨by omega, by omega⟩ ?_
  refine q_putI (f := 2) (pc := 7) dT_start_7 lay_2 typ_2 (by decide) rfl (by decide) fl_T19 rfl (Or.inl rfl) (Or.inl rfl) rfl ?_
  refine q_aload_n (pc := 10) dT_start_10 rfl ?_
  refine q_getR (f := 0) (pc := 11) dT_start_11 lay_2 (by decide) rfl (by decide) fl_T9 rfl rfl ?_
  refine q_aload_n (pc := 14) dT_start_14 rfl ?_
  refine q_getI (f := 2) (pc := 15) dT_start_15 lay_2 (by decide) rfl (by decide) fl_T19 rfl rfl ?_
  refine q_iconst (pc := 18) dT_start_18 (by decide) ?_
  refine q_zast (i := (T + 1)) (pc := 19) dT_start_19 rfl e1 (by omega) rfl (by first | exact Or.inl rfl | exact Or.inr rfl) ?_
  refine q_aload_n (pc := 20) dT_start_20 rfl ?_
  refine q_dup (pc := 21) dT_start_21 ?_
  refine q_getI (f := 3) (pc := 22) dT_start_22 lay_2 (by decide) rfl (by decide) fl_T23 rfl rfl ?_
  refine q_iconst (pc := 25) dT_start_25 (by decide) ?_
  refine q_iadd (pc := 26) dT_start_26 rfl ⟨by omega, by omega⟩ ?_
  refine q_putI (f := 3) (pc := 27) dT_start_27 lay_2 typ_2 (by decide) rfl (by decide) fl_T23 rfl (Or.inl rfl) (Or.inl rfl) rfl ?_
  refine q_aload_n (pc := 30) dT_start_30 rfl ?_
  refine q_getI (f := 2) (pc := 31) dT_start_31 lay_2 (by decide) rfl (by decide) fl_T19 rfl rfl ?_
  refine q_iret rfl (pc := 34) dT_start_34 ?_
  exact ⟨by simp [q_up, hT], rfl, by unfold tst; rw [e2, hT]⟩
def tac (I : qI) (t : Int) : Bool := decide (1 ≤ t ∧ t ≤ I 9 2 ∧ I 10 t.toNat ≠ 0)
theorem ct_T_isActive {L T : Nat} (t : Int) (I : qI) (hT : I 9 2 = (T : Int)) (hT2 : T ≤ 60) : qT M_T_isActive 0 [.inr (some 9), .inl t] L I (rI (bi (tac I t)) L I) := by
  refine q_enter (by decide) (Nat.le_of_ble_eq_true rfl) ?_
  refine q_iload_n (pc := 0) dT_isActive_0 rfl ?_
  refine q_iconst (pc := 1) dT_isActive_1 (by decide) ?_
  refine q_icmp_lt (tgt := 26) (pc := 2) dT_isActive_2 (by decide) (fun h2 => ?_) (fun h2 => ?_)
  · refine q_iconst (pc := 26) dT_isActive_26 (by decide) ?_
    refine q_zret rfl (by first | exact Or.inl rfl | exact Or.inr rfl) (pc := 27) dT_isActive_27 ?_
    exact ⟨by have : ¬ (1 ≤ t) := by omega
              simp [tac, bi, this], rfl, rfl⟩
  · refine q_iload_n (pc := 5) dT_isActive_5 rfl ?_
    refine q_aload_n (pc := 6) dT_isActive_6 rfl ?_
    refine q_getI (f := 2) (pc := 7) dT_isActive_7 lay_2 (by decide) rfl (by decide) fl_T19 rfl rfl ?_
    refine q_icmp_gt (tgt := 26) (pc := 10) dT_isActive_10 (by decide) (fun h10 => ?_) (fun h10 => ?_)
    · refine q_iconst (pc := 26) dT_isActive_26 (by decide) ?_
      refine q_zret rfl (by first | exact Or.inl rfl | exact Or.inr rfl) (pc := 27) dT_isActive_27 ?_
      exact ⟨by have : ¬ (t ≤ I 9 2) := by omega
                simp [tac, bi, this], rfl, rfl⟩
    · refine q_aload_n (pc := 13) dT_isActive_13 rfl ?_
      refine q_getR (f := 0) (pc := 14) dT_isActive_14 lay_2 (by decide) rfl (by decide) fl_T9 rfl rfl ?_
      refine q_iload_n (pc := 17) dT_isActive_17 rfl ?_
      refine q_zald (i := t.toNat) (pc := 18) dT_isActive_18 rfl (by omega) (by omega) rfl ?_
      refine q_if_eq (tgt := 26) (pc := 19) dT_isActive_19 (by decide) (fun h19 => ?_) (fun h19 => ?_)
      · refine q_iconst (pc := 26) dT_isActive_26 (by decide) ?_
        refine q_zret rfl (by first | exact Or.inl rfl | exact Or.inr rfl) (pc := 27) dT_isActive_27 ?_
        exact ⟨by simp [tac, bi, h19], rfl, rfl⟩
      · refine q_iconst (pc := 22) dT_isActive_22 (by decide) ?_
        refine q_goto (tgt := 27) (pc := 23) dT_isActive_23 (by decide) ?_
        refine q_zret rfl (by first | exact Or.inl rfl | exact Or.inr rfl) (pc := 27) dT_isActive_27 ?_
        exact ⟨by have h1 : 1 ≤ t := by omega
                  have h2 : t ≤ I 9 2 := by omega
                  simp [tac, bi, h19, h1, h2], rfl, rfl⟩
theorem ct_T_mayHold {L k : Nat} (t : Int) (I : qI) (hk : k < 32) : qT M_T_mayHold 0 [.inr (some 9), .inl t, .inl ((k : Nat) : Int)] L I (rI (bi (decide (I 11 k = 0 ∨ I 11 k = t))) L I) := by
  refine q_enter (by decide) (Nat.le_of_ble_eq_true rfl) ?_
  refine q_aload_n (pc := 0) dT_mayHold_0 rfl ?_
  refine q_getR (f := 1) (pc := 1) dT_mayHold_1 lay_2 (by decide) rfl (by decide) fl_T15 rfl rfl ?_
  refine q_iload_n (pc := 4) dT_mayHold_4 rfl ?_
  refine q_iald (i := k) (pc := 5) dT_mayHold_5 rfl rfl (by omega) rfl ?_
  refine q_if_eq (tgt := 19) (pc := 6) dT_mayHold_6 (by decide) (fun h6 => ?_) (fun h6 => ?_)
  · refine q_iconst (pc := 19) dT_mayHold_19 (by decide) ?_
    refine q_goto (tgt := 24) (pc := 20) dT_mayHold_20 (by decide) ?_
    refine q_zret rfl (by first | exact Or.inl rfl | exact Or.inr rfl) (pc := 24) dT_mayHold_24 ?_
    exact ⟨by simp [bi, h6], rfl, rfl⟩
  · refine q_aload_n (pc := 9) dT_mayHold_9 rfl ?_
    refine q_getR (f := 1) (pc := 10) dT_mayHold_10 lay_2 (by decide) rfl (by decide) fl_T15 rfl rfl ?_
    refine q_iload_n (pc := 13) dT_mayHold_13 rfl ?_
    refine q_iald (i := k) (pc := 14) dT_mayHold_14 rfl rfl (by omega) rfl ?_
    refine q_iload_n (pc := 15) dT_mayHold_15 rfl ?_
    refine q_icmp_ne (tgt := 23) (pc := 16) dT_mayHold_16 (by decide) (fun h16 => ?_) (fun h16 => ?_)
    · refine q_iconst (pc := 23) dT_mayHold_23 (by decide) ?_
      refine q_zret rfl (by first | exact Or.inl rfl | exact Or.inr rfl) (pc := 24) dT_mayHold_24 ?_
      exact ⟨by simp [bi, h6, h16], rfl, rfl⟩
    · refine q_iconst (pc := 19) dT_mayHold_19 (by decide) ?_
      refine q_goto (tgt := 24) (pc := 20) dT_mayHold_20 (by decide) ?_
      refine q_zret rfl (by first | exact Or.inl rfl | exact Or.inr rfl) (pc := 24) dT_mayHold_24 ?_
      exact ⟨by simp [bi, h16], rfl, rfl⟩
theorem ct_T_hold {L k : Nat} (t : Int) (I : qI) (hk : k < 32) : qT M_T_hold 0 [.inr (some 9), .inl t, .inl ((k : Nat) : Int)] L I (rV L (q_up I 11 k t)) := by
  refine q_enter (by decide) (Nat.le_of_ble_eq_true rfl) ?_
  refine q_aload_n (pc := 0) dT_hold_0 rfl ?_
  refine q_getR (f := 1) (pc := 1) dT_hold_1 lay_2 (by decide) rfl (by decide) fl_T15 rfl rfl ?_
  refine q_iload_n (pc := 4) dT_hold_4 rfl ?_
  refine q_iload_n (pc := 5) dT_hold_5 rfl ?_
  refine q_iast (i := k) (pc := 6) dT_hold_6 rfl rfl (by omega) rfl ?_
  refine q_vret rfl (pc := 7) dT_hold_7 ?_
  exact ⟨rfl, rfl, rfl⟩
/-- the keys below m that t holds are let go -/
def tfr (I : qI) (t : Int) (m : Nat) : qI := fun a j => if a = 11 ∧ j < m ∧ I 11 j = t then 0 else I a j
theorem tfr_up {I : qI} {t : Int} {m : Nat} (h : I 11 m = t) : q_up (tfr I t m) 11 m 0 = tfr I t (m + 1) := by
  funext a j
  unfold q_up tfr
  by_cases ha : a = 11
  · by_cases hj : j = m
    · subst hj; simp [ha, h]
    · have : (j < m + 1) = (j < m) := by apply propext; omega
      simp [ha, hj, this]
  · simp [ha]
theorem tfr_no {I : qI} {t : Int} {m : Nat} (h : ¬ I 11 m = t) : tfr I t (m + 1) = tfr I t m := by
  funext a j
  unfold tfr
  by_cases hj : j = m
  · subst hj; simp [h]
  · have : (j < m + 1) = (j < m) := by apply propext; omega
    simp only [this]
theorem tfr_m {I : qI} {t : Int} {m : Nat} : tfr I t m 11 m = I 11 m := by simp [tfr]
theorem lp_T_finish {L : Nat} (t : Int) (I : qI) : ∀ f m, m + f = 32 → qE M_T_finish 0 19 [some (.inr (some 9)), some (.inl t), some (.inl ((m : Nat) : Int))] [] L (tfr I t m) (rV L (tfr I t 32)) := by
  intro f
  induction f with
  | zero =>
    intro m hm
    refine q_iload_n (pc := 19) dT_finish_19 rfl ?_
    refine q_bipush (pc := 20) dT_finish_20 (by decide) (by decide) ?_
    refine q_icmp_ge (tgt := 48) (pc := 22) dT_finish_22 (by decide) (fun h22 => ?_) (fun h22 => ?_)
    · refine q_vret rfl (pc := 48) dT_finish_48 ?_
      exact ⟨rfl, rfl, by rw [show m = 32 by omega]⟩
    · omega
  | succ f ih =>
    intro m hm
    refine q_iload_n (pc := 19) dT_finish_19 rfl ?_
    refine q_bipush (pc := 20) dT_finish_20 (by decide) (by decide) ?_
    refine q_icmp_ge (tgt := 48) (pc := 22) dT_finish_22 (by decide) (fun h22 => ?_) (fun h22 => ?_)
    · omega
    · refine q_aload_n (pc := 25) dT_finish_25 rfl ?_
      refine q_getR (f := 1) (pc := 26) dT_finish_26 lay_2 (by decide) rfl (by decide) fl_T15 rfl rfl ?_
      refine q_iload_n (pc := 29) dT_finish_29 rfl ?_
      refine q_iald (i := m) (pc := 30) dT_finish_30 rfl rfl (by omega) rfl ?_
      refine q_iload_n (pc := 31) dT_finish_31 rfl ?_
      refine q_icmp_ne (tgt := 42) (pc := 32) dT_finish_32 (by decide) (fun h32 => ?_) (fun h32 => ?_)
      · refine q_iinc (pc := 42) dT_finish_42 rfl (by decide) rfl ⟨by omega, by omega⟩ ?_
        refine q_goto (tgt := 19) (pc := 45) dT_finish_45 (by decide) ?_
        rw [tfr_m] at h32
        rw [← tfr_no h32]
        exact ih (m + 1) (by omega)
      · refine q_aload_n (pc := 35) dT_finish_35 rfl ?_
        refine q_getR (f := 1) (pc := 36) dT_finish_36 lay_2 (by decide) rfl (by decide) fl_T15 rfl rfl ?_
        refine q_iload_n (pc := 39) dT_finish_39 rfl ?_
        refine q_iconst (pc := 40) dT_finish_40 (by decide) ?_
        refine q_iast (i := m) (pc := 41) dT_finish_41 rfl rfl (by omega) rfl ?_
        refine q_iinc (pc := 42) dT_finish_42 rfl (by decide) rfl ⟨by omega, by omega⟩ ?_
        refine q_goto (tgt := 19) (pc := 45) dT_finish_45 (by decide) ?_
        rw [tfr_m] at h32
        rw [tfr_up h32]
        exact ih (m + 1) (by omega)
def tfin (I : qI) (t : Nat) : qI := tfr (q_up (q_up I 10 t 0) 9 3 (I 9 3 - 1)) (t : Int) 32
theorem ct_T_finish {L t : Nat} (ht : t ≤ 60) (I : qI) (hA : -100 ≤ I 9 3 ∧ I 9 3 ≤ 100) : qT M_T_finish 0 [.inr (some 9), .inl ((t : Nat) : Int)] L I (rV L (tfin I t)) := by
  refine q_enter (by decide) (Nat.le_of_ble_eq_true rfl) ?_
  have e2 : q_up I 10 t 0 9 3 = I 9 3 := by simp [q_up]
  refine q_aload_n (pc := 0) dT_finish_0 rfl ?_
  refine q_getR (f := 0) (pc := 1) dT_finish_1 lay_2 (by decide) rfl (by decide) fl_T9 rfl rfl ?_
  refine q_iload_n (pc := 4) dT_finish_4 rfl ?_
  refine q_iconst (pc := 5) dT_finish_5 (by decide) ?_
  refine q_zast (i := t) (pc := 6) dT_finish_6 rfl rfl (by omega) rfl (by first | exact Or.inl rfl | exact Or.inr rfl) ?_
  refine q_aload_n (pc := 7) dT_finish_7 rfl ?_
  refine q_dup (pc := 8) dT_finish_8 ?_
  refine q_getI (f := 3) (pc := 9) dT_finish_9 lay_2 (by decide) rfl (by decide) fl_T23 rfl rfl ?_
  refine q_iconst (pc := 12) dT_finish_12 (by decide) ?_
  refine q_isub (pc := 13) dT_finish_13 rfl ⟨by omega, by omega⟩ ?_
  refine q_putI (f := 3) (pc := 14) dT_finish_14 lay_2 typ_2 (by decide) rfl (by decide) fl_T23 rfl (Or.inl rfl) (Or.inl rfl) rfl ?_
  refine q_iconst (pc := 17) dT_finish_17 (by decide) ?_
  refine q_istore_n (pc := 18) dT_finish_18 (by decide) ?_
  rw [e2]
  have e : ∀ J : qI, J = tfr J (t : Int) 0 := fun J => by
    funext a j
    simp [tfr]
  have h := lp_T_finish (L := L) (t : Int) (q_up (q_up I 10 t 0) 9 3 (I 9 3 - 1)) 32 0 (by omega)
  rw [← e] at h
  exact h
/-- all active ones of t, f of them, are finished -/
def tfa : Nat → Nat → qI → qI
  | 0, _, I => I
  | f + 1, t, I => tfa f (t + 1) (if I 10 t = 0 then I else tfin I t)
theorem tfin_T {I : qI} {t : Nat} : tfin I t 9 2 = I 9 2 := by simp [tfin, tfr, q_up]
theorem tfin_A {I : qI} {t : Nat} : tfin I t 9 3 = I 9 3 - 1 := by simp [tfin, tfr, q_up]
theorem lp_T_finishAll {L T : Nat} (hT2 : T ≤ 60) : ∀ f t I, I 9 2 = (T : Int) → t + f = T + 1 → 1 ≤ t → -(t : Int) ≤ I 9 3 ∧ I 9 3 ≤ 10 → qE M_T_finishAll 1 2 [some (.inr (some 9)), some (.inl ((t : Nat) : Int))] [] L I (rV L (tfa f t I)) := by
  intro f
  induction f with
  | zero =>
    intro t I hT ht h1 hA
    refine q_iload_n (pc := 2) dT_finishAll_2 rfl ?_
    refine q_aload_n (pc := 3) dT_finishAll_3 rfl ?_
    refine q_getI (f := 2) (pc := 4) dT_finishAll_4 lay_2 (by decide) rfl (by decide) fl_T19 rfl rfl ?_
    refine q_icmp_gt (tgt := 30) (pc := 7) dT_finishAll_7 (by decide) (fun h7 => ?_) (fun h7 => ?_)
    · refine q_vret rfl (pc := 30) dT_finishAll_30 ?_
      exact ⟨rfl, rfl, rfl⟩
    · omega
  | succ f ih =>
    intro t I hT ht h1 hA
    refine q_iload_n (pc := 2) dT_finishAll_2 rfl ?_
    refine q_aload_n (pc := 3) dT_finishAll_3 rfl ?_
    refine q_getI (f := 2) (pc := 4) dT_finishAll_4 lay_2 (by decide) rfl (by decide) fl_T19 rfl rfl ?_
    refine q_icmp_gt (tgt := 30) (pc := 7) dT_finishAll_7 (by decide) (fun h7 => ?_) (fun h7 => ?_)
    · omega
    · refine q_aload_n (pc := 10) dT_finishAll_10 rfl ?_
      refine q_getR (f := 0) (pc := 11) dT_finishAll_11 lay_2 (by decide) rfl (by decide) fl_T9 rfl rfl ?_
      refine q_iload_n (pc := 14) dT_finishAll_14 rfl ?_
      refine q_zald (i := t) (pc := 15) dT_finishAll_15 rfl rfl (by omega) rfl ?_
      refine q_if_eq (tgt := 24) (pc := 16) dT_finishAll_16 (by decide) (fun h16 => ?_) (fun h16 => ?_)
      · refine q_iinc (pc := 24) dT_finishAll_24 rfl (by decide) rfl ⟨by omega, by omega⟩ ?_
        refine q_goto (tgt := 2) (pc := 27) dT_finishAll_27 (by decide) ?_
        have e : tfa (f + 1) t I = tfa f (t + 1) I := by rw [tfa, if_pos h16]
        rw [e]
        exact ih (t + 1) I hT (by omega) (by omega) ⟨by omega, by omega⟩
      · refine q_aload_n (pc := 19) dT_finishAll_19 rfl ?_
        refine q_iload_n (pc := 20) dT_finishAll_20 rfl ?_
        refine q_callV0 (pc := 21) dT_finishAll_21 ((ct_T_finish (t := t) (by omega) I ⟨by omega, by omega⟩)) cd_T_finish in_T_finish se_T_finish ml_T26 rfl (by decide) rfl rfl (Nat.le_of_ble_eq_true rfl) ⟨by decide, by decide⟩ ⟨by decide, by decide⟩ rfl ?_
        refine q_iinc (pc := 24) dT_finishAll_24 rfl (by decide) rfl ⟨by omega, by omega⟩ ?_
        refine q_goto (tgt := 2) (pc := 27) dT_finishAll_27 (by decide) ?_
        have e : tfa (f + 1) t I = tfa f (t + 1) (tfin I t) := by rw [tfa, if_neg h16]
        rw [e]
        exact ih (t + 1) _ (by rw [tfin_T, hT]) (by omega) (by omega) (by rw [tfin_A]; exact ⟨by omega, by omega⟩)
theorem ct_T_finishAll {L T : Nat} (I : qI) (hT : I 9 2 = (T : Int)) (hT2 : T ≤ 60) (hA : 0 ≤ I 9 3 ∧ I 9 3 ≤ 10) : qT M_T_finishAll 1 [.inr (some 9)] L I (rV L (tfa T 1 I)) := by
  refine q_enter (by decide) (Nat.le_of_ble_eq_true rfl) ?_
  refine q_iconst (pc := 0) dT_finishAll_0 (by decide) ?_
  refine q_istore_n (pc := 1) dT_finishAll_1 (by decide) ?_
  exact lp_T_finishAll hT2 T 1 I hT (by omega) (by omega) ⟨by omega, by omega⟩
end
section
/-! The log, and the small static methods. -/
theorem ql_y {p : Nat → Bool} {l : Nat} (h : p (l + 1) = true) : ql p (l + 1) = l + 1 := by rw [ql, if_pos h]
theorem ql_n {p : Nat → Bool} {l : Nat} (h : ¬ p (l + 1) = true) : ql p (l + 1) = ql p l := by rw [ql, if_neg h]
theorem ct_Q_pageOf {L : Nat} (k : Int) (I : qI) : qT M_Q_pageOf 0 [.inl k] L I (rI (k.tdiv 4) L I) := by
  refine q_enter (by decide) (Nat.le_of_ble_eq_true rfl) ?_
  refine q_iload_n (pc := 0) dQ_pageOf_0 rfl ?_
  refine q_iconst (pc := 1) dQ_pageOf_1 (by decide) ?_
  refine q_idiv (pc := 2) dQ_pageOf_2 (by decide) ?_
  refine q_iret rfl (pc := 3) dQ_pageOf_3 ?_
  exact ⟨rfl, rfl, rfl⟩
theorem ct_Q_groupOfPage {L : Nat} (k : Int) (I : qI) : qT M_Q_groupOfPage 0 [.inl k] L I (rI (k.tmod 2) L I) := by
  refine q_enter (by decide) (Nat.le_of_ble_eq_true rfl) ?_
  refine q_iload_n (pc := 0) dQ_groupOfPage_0 rfl ?_
  refine q_iconst (pc := 1) dQ_groupOfPage_1 (by decide) ?_
  refine q_irem (pc := 2) dQ_groupOfPage_2 (by decide) ?_
  refine q_iret rfl (pc := 3) dQ_groupOfPage_3 ?_
  exact ⟨rfl, rfl, rfl⟩
theorem ct_Q_isKey {L : Nat} (k : Int) (I : qI) : qT M_Q_isKey 0 [.inl k] L I (rI (bi (decide (0 ≤ k ∧ k < 32))) L I) := by
  refine q_enter (by decide) (Nat.le_of_ble_eq_true rfl) ?_
  refine q_iload_n (pc := 0) dQ_isKey_0 rfl ?_
  refine q_if_lt (tgt := 14) (pc := 1) dQ_isKey_1 (by decide) (fun h1 => ?_) (fun h1 => ?_)
  · refine q_iconst (pc := 14) dQ_isKey_14 (by decide) ?_
    refine q_zret rfl (by first | exact Or.inl rfl | exact Or.inr rfl) (pc := 15) dQ_isKey_15 ?_
    exact ⟨by rw [decide_eq_false (by omega)]; rfl, rfl, rfl⟩
  · refine q_iload_n (pc := 4) dQ_isKey_4 rfl ?_
    refine q_bipush (pc := 5) dQ_isKey_5 (by decide) (by decide) ?_
    refine q_icmp_ge (tgt := 14) (pc := 7) dQ_isKey_7 (by decide) (fun h7 => ?_) (fun h7 => ?_)
    · refine q_iconst (pc := 14) dQ_isKey_14 (by decide) ?_
      refine q_zret rfl (by first | exact Or.inl rfl | exact Or.inr rfl) (pc := 15) dQ_isKey_15 ?_
      exact ⟨by rw [decide_eq_false (by omega)]; rfl, rfl, rfl⟩
    · refine q_iconst (pc := 10) dQ_isKey_10 (by decide) ?_
      refine q_goto (tgt := 15) (pc := 11) dQ_isKey_11 (by decide) ?_
      refine q_zret rfl (by first | exact Or.inl rfl | exact Or.inr rfl) (pc := 15) dQ_isKey_15 ?_
      exact ⟨by rw [decide_eq_true (by omega)]; rfl, rfl, rfl⟩
theorem ct_Q_isReplica {L : Nat} (k : Int) (I : qI) : qT M_Q_isReplica 0 [.inl k] L I (rI (bi (decide (0 ≤ k ∧ k < 2))) L I) := by
  refine q_enter (by decide) (Nat.le_of_ble_eq_true rfl) ?_
  refine q_iload_n (pc := 0) dQ_isReplica_0 rfl ?_
  refine q_if_lt (tgt := 13) (pc := 1) dQ_isReplica_1 (by decide) (fun h1 => ?_) (fun h1 => ?_)
  · refine q_iconst (pc := 13) dQ_isReplica_13 (by decide) ?_
    refine q_zret rfl (by first | exact Or.inl rfl | exact Or.inr rfl) (pc := 14) dQ_isReplica_14 ?_
    exact ⟨by rw [decide_eq_false (by omega)]; rfl, rfl, rfl⟩
  · refine q_iload_n (pc := 4) dQ_isReplica_4 rfl ?_
    refine q_iconst (pc := 5) dQ_isReplica_5 (by decide) ?_
    refine q_icmp_ge (tgt := 13) (pc := 6) dQ_isReplica_6 (by decide) (fun h6 => ?_) (fun h6 => ?_)
    · refine q_iconst (pc := 13) dQ_isReplica_13 (by decide) ?_
      refine q_zret rfl (by first | exact Or.inl rfl | exact Or.inr rfl) (pc := 14) dQ_isReplica_14 ?_
      exact ⟨by rw [decide_eq_false (by omega)]; rfl, rfl, rfl⟩
    · refine q_iconst (pc := 9) dQ_isReplica_9 (by decide) ?_
      refine q_goto (tgt := 14) (pc := 10) dQ_isReplica_10 (by decide) ?_
      refine q_zret rfl (by first | exact Or.inl rfl | exact Or.inr rfl) (pc := 14) dQ_isReplica_14 ?_
      exact ⟨by rw [decide_eq_true (by omega)]; rfl, rfl, rfl⟩
theorem ct_Q_isCopy {L : Nat} (g c : Int) (I : qI) : qT M_Q_isCopy 0 [.inl g, .inl c] L I (rI (bi (decide (0 ≤ g ∧ g < 2 ∧ 0 ≤ c ∧ c < 6))) L I) := by
  refine q_enter (by decide) (Nat.le_of_ble_eq_true rfl) ?_
  refine q_iload_n (pc := 0) dQ_isCopy_0 rfl ?_
  refine q_if_lt (tgt := 23) (pc := 1) dQ_isCopy_1 (by decide) (fun h1 => ?_) (fun h1 => ?_)
  · refine q_iconst (pc := 23) dQ_isCopy_23 (by decide) ?_
    refine q_zret rfl (by first | exact Or.inl rfl | exact Or.inr rfl) (pc := 24) dQ_isCopy_24 ?_
    exact ⟨by rw [decide_eq_false (by omega)]; rfl, rfl, rfl⟩
  · refine q_iload_n (pc := 4) dQ_isCopy_4 rfl ?_
    refine q_iconst (pc := 5) dQ_isCopy_5 (by decide) ?_
    refine q_icmp_ge (tgt := 23) (pc := 6) dQ_isCopy_6 (by decide) (fun h6 => ?_) (fun h6 => ?_)
    · refine q_iconst (pc := 23) dQ_isCopy_23 (by decide) ?_
      refine q_zret rfl (by first | exact Or.inl rfl | exact Or.inr rfl) (pc := 24) dQ_isCopy_24 ?_
      exact ⟨by rw [decide_eq_false (by omega)]; rfl, rfl, rfl⟩
    · refine q_iload_n (pc := 9) dQ_isCopy_9 rfl ?_
      refine q_if_lt (tgt := 23) (pc := 10) dQ_isCopy_10 (by decide) (fun h10 => ?_) (fun h10 => ?_)
      · refine q_iconst (pc := 23) dQ_isCopy_23 (by decide) ?_
        refine q_zret rfl (by first | exact Or.inl rfl | exact Or.inr rfl) (pc := 24) dQ_isCopy_24 ?_
        exact ⟨by rw [decide_eq_false (by omega)]; rfl, rfl, rfl⟩
      · refine q_iload_n (pc := 13) dQ_isCopy_13 rfl ?_
        refine q_bipush (pc := 14) dQ_isCopy_14 (by decide) (by decide) ?_
        refine q_icmp_ge (tgt := 23) (pc := 16) dQ_isCopy_16 (by decide) (fun h16 => ?_) (fun h16 => ?_)
        · refine q_iconst (pc := 23) dQ_isCopy_23 (by decide) ?_
          refine q_zret rfl (by first | exact Or.inl rfl | exact Or.inr rfl) (pc := 24) dQ_isCopy_24 ?_
          exact ⟨by rw [decide_eq_false (by omega)]; rfl, rfl, rfl⟩
        · refine q_iconst (pc := 19) dQ_isCopy_19 (by decide) ?_
          refine q_goto (tgt := 24) (pc := 20) dQ_isCopy_20 (by decide) ?_
          refine q_zret rfl (by first | exact Or.inl rfl | exact Or.inr rfl) (pc := 24) dQ_isCopy_24 ?_
          exact ⟨by rw [decide_eq_true (by omega)]; rfl, rfl, rfl⟩
theorem ct_L_has {L : Nat} (l : Int) (I : qI) : qT M_L_has 0 [.inr (some 2), .inl l] L I (rI (bi (decide (1 ≤ l ∧ l ≤ I 2 6))) L I) := by
  refine q_enter (by decide) (Nat.le_of_ble_eq_true rfl) ?_
  refine q_iload_n (pc := 0) dL_has_0 rfl ?_
  refine q_iconst (pc := 1) dL_has_1 (by decide) ?_
  refine q_icmp_lt (tgt := 17) (pc := 2) dL_has_2 (by decide) (fun h2 => ?_) (fun h2 => ?_)
  · refine q_iconst (pc := 17) dL_has_17 (by decide) ?_
    refine q_zret rfl (by first | exact Or.inl rfl | exact Or.inr rfl) (pc := 18) dL_has_18 ?_
    exact ⟨by rw [decide_eq_false (by omega)]; rfl, rfl, rfl⟩
  · refine q_iload_n (pc := 5) dL_has_5 rfl ?_
    refine q_aload_n (pc := 6) dL_has_6 rfl ?_
    refine q_getI (f := 6) (pc := 7) dL_has_7 lay_1 (by decide) rfl (by decide) fl_L30 rfl rfl ?_
    refine q_icmp_gt (tgt := 17) (pc := 10) dL_has_10 (by decide) (fun h10 => ?_) (fun h10 => ?_)
    · refine q_iconst (pc := 17) dL_has_17 (by decide) ?_
      refine q_zret rfl (by first | exact Or.inl rfl | exact Or.inr rfl) (pc := 18) dL_has_18 ?_
      exact ⟨by rw [decide_eq_false (by omega)]; rfl, rfl, rfl⟩
    · refine q_iconst (pc := 13) dL_has_13 (by decide) ?_
      refine q_goto (tgt := 18) (pc := 14) dL_has_14 (by decide) ?_
      refine q_zret rfl (by first | exact Or.inl rfl | exact Or.inr rfl) (pc := 18) dL_has_18 ?_
      exact ⟨by rw [decide_eq_true (by omega)]; rfl, rfl, rfl⟩
/-- one record more -/
def ladd (I : qI) (n : Nat) (kd t k v g : Int) : qI := q_up (q_up (q_up (q_up (q_up (q_up I 2 6 ((n + 1 : Nat) : Int)) 3 (n + 1) kd) 4 (n + 1) t) 5 (n + 1) k) 6 (n + 1) v) 7 (n + 1) g
theorem ct_L_add {L n : Nat} (kd t k v g : Int) (I : qI) (hn : I 2 6 = (n : Int)) (hn2 : n < 187) : qT M_L_add 0 [.inr (some 2), .inl kd, .inl t, .inl k, .inl v, .inl g] L I (rI ((n + 1 : Nat) : Int) L (ladd I n kd t k v g)) := by
  refine q_enter (by decide) (Nat.le_of_ble_eq_true rfl) ?_
  have e0 : I 2 6 + 1 = ((n + 1 : Nat) : Int) := by rw [hn]; rfl
  refine q_aload_n (pc := 0) dL_add_0 rfl ?_
  refine q_getI (f := 6) (pc := 1) dL_add_1 lay_1 (by decide) rfl (by decide) fl_L30 rfl rfl ?_
  refine q_sipush (pc := 4) dL_add_4 (by decide) (by decide) ?_
  refine q_icmp_lt (tgt := 13) (pc := 7) dL_add_7 (by decide) (fun h7 => ?_) (fun h7 => ?_)
  · refine q_aload_n (pc := 13) dL_add_13 rfl ?_
    refine q_dup (pc := 14) dL_add_14 ?_
    refine q_getI (f := 6) (pc := 15) dL_add_15 lay_1 (by decide) rfl (by decide) fl_L30 rfl rfl ?_
    refine q_iconst (pc := 18) dL_add_18 (by decide) ?_
    refine q_iadd (pc := 19) dL_add_19 e0 ⟨by omega, by omega⟩ ?_
    refine q_putI (f := 6) (pc := 20) dL_add_20 lay_1 typ_1 (by decide) rfl (by decide) fl_L30 rfl (Or.inl rfl) (Or.inl rfl) rfl ?_
    refine q_aload_n (pc := 23) dL_add_23 rfl ?_
    refine q_getR (f := 0) (pc := 24) dL_add_24 lay_1 (by decide) rfl (by decide) fl_L11 rfl rfl ?_
    refine q_aload_n (pc := 27) dL_add_27 rfl ?_
    refine q_getI (f := 6) (pc := 28) dL_add_28 lay_1 (by decide) rfl (by decide) fl_L30 rfl rfl ?_
    refine q_iload_n (pc := 31) dL_add_31 rfl ?_
    refine q_iast (i := (n + 1)) (pc := 32) dL_add_32 rfl (by simp [q_up]) (by omega) rfl ?_
    refine q_aload_n (pc := 33) dL_add_33 rfl ?_
    refine q_getR (f := 1) (pc := 34) dL_add_34 lay_1 (by decide) rfl (by decide) fl_L15 rfl rfl ?_
    refine q_aload_n (pc := 37) dL_add_37 rfl ?_
    refine q_getI (f := 6) (pc := 38) dL_add_38 lay_1 (by decide) rfl (by decide) fl_L30 rfl rfl ?_
    refine q_iload_n (pc := 41) dL_add_41 rfl ?_
    refine q_iast (i := (n + 1)) (pc := 42) dL_add_42 rfl (by simp [q_up]) (by omega) rfl ?_
    refine q_aload_n (pc := 43) dL_add_43 rfl ?_
    refine q_getR (f := 2) (pc := 44) dL_add_44 lay_1 (by decide) rfl (by decide) fl_L18 rfl rfl ?_
    refine q_aload_n (pc := 47) dL_add_47 rfl ?_
    refine q_getI (f := 6) (pc := 48) dL_add_48 lay_1 (by decide) rfl (by decide) fl_L30 rfl rfl ?_
    refine q_iload_n (pc := 51) dL_add_51 rfl ?_
    refine q_iast (i := (n + 1)) (pc := 52) dL_add_52 rfl (by simp [q_up]) (by omega) rfl ?_
    refine q_aload_n (pc := 53) dL_add_53 rfl ?_
    refine q_getR (f := 3) (pc := 54) dL_add_54 lay_1 (by decide) rfl (by decide) fl_L21 rfl rfl ?_
    refine q_aload_n (pc := 57) dL_add_57 rfl ?_
    refine q_getI (f := 6) (pc := 58) dL_add_58 lay_1 (by decide) rfl (by decide) fl_L30 rfl rfl ?_
    refine q_iload (pc := 61) dL_add_61 rfl ?_
    refine q_iast (i := (n + 1)) (pc := 63) dL_add_63 rfl (by simp [q_up]) (by omega) rfl ?_
    refine q_aload_n (pc := 64) dL_add_64 rfl ?_
    refine q_getR (f := 4) (pc := 65) dL_add_65 lay_1 (by decide) rfl (by decide) fl_L24 rfl rfl ?_
    refine q_aload_n (pc := 68) dL_add_68 rfl ?_
    refine q_getI (f := 6) (pc := 69) dL_add_69 lay_1 (by decide) rfl (by decide) fl_L30 rfl rfl ?_
    refine q_iload (pc := 72) dL_add_72 rfl ?_
    refine q_iast (i := (n + 1)) (pc := 74) dL_add_74 rfl (by simp [q_up]) (by omega) rfl ?_
    refine q_aload_n (pc := 75) dL_add_75 rfl ?_
    refine q_getI (f := 6) (pc := 76) dL_add_76 lay_1 (by decide) rfl (by decide) fl_L30 rfl rfl ?_
    refine q_iret rfl (pc := 79) dL_add_79 ?_
    exact ⟨by simp [q_up], rfl, rfl⟩
  · omega
theorem ct_L_addChange {L n : Nat} (t k v z : Int) (I : qI) (hn : I 2 6 = (n : Int)) (hn2 : n < 187) : qT M_L_addChange 1 [.inr (some 2), .inl t, .inl k, .inl v, .inl z] L I (rI ((n + 1 : Nat) : Int) L (ladd I n (if z = 0 then 0 else 1) t k v ((k.tdiv 4).tmod 2))) := by
  refine q_enter (by decide) (Nat.le_of_ble_eq_true rfl) ?_
  refine q_aload_n (pc := 0) dL_addChange_0 rfl ?_
  refine q_iload (pc := 1) dL_addChange_1 rfl ?_
  refine q_if_eq (tgt := 10) (pc := 3) dL_addChange_3 (by decide) (fun h3 => ?_) (fun h3 => ?_)
  · refine q_iconst (pc := 10) dL_addChange_10 (by decide) ?_
    refine q_iload_n (pc := 11) dL_addChange_11 rfl ?_
    refine q_iload_n (pc := 12) dL_addChange_12 rfl ?_
    refine q_iload_n (pc := 13) dL_addChange_13 rfl ?_
    refine q_iload_n (pc := 14) dL_addChange_14 rfl ?_
    refine q_callS1 (pc := 15) dL_addChange_15 ((ct_Q_pageOf k I)) cd_Q_pageOf st_Q_pageOf ml_L34 rfl (Nat.le_of_ble_eq_true rfl) ⟨by decide, by decide⟩ ⟨by decide, by decide⟩ rfl ?_
    refine q_callS1 (pc := 18) dL_addChange_18 ((ct_Q_groupOfPage _ I)) cd_Q_groupOfPage st_Q_groupOfPage ml_L38 rfl (Nat.le_of_ble_eq_true rfl) ⟨by decide, by decide⟩ ⟨by decide, by decide⟩ rfl ?_
    refine q_callV1 (pc := 21) dL_addChange_21 ((ct_L_add 0 t k v _ I hn hn2)) cd_L_add in_L_add se_L_add ml_L41 rfl (by decide) rfl rfl (Nat.le_of_ble_eq_true rfl) ⟨by decide, by decide⟩ ⟨by decide, by decide⟩ rfl ?_
    refine q_iret rfl (pc := 24) dL_addChange_24 ?_
    exact ⟨rfl, rfl, by rw [if_pos h3]⟩
  · refine q_iconst (pc := 6) dL_addChange_6 (by decide) ?_
    refine q_goto (tgt := 11) (pc := 7) dL_addChange_7 (by decide) ?_
    refine q_iload_n (pc := 11) dL_addChange_11 rfl ?_
    refine q_iload_n (pc := 12) dL_addChange_12 rfl ?_
    refine q_iload_n (pc := 13) dL_addChange_13 rfl ?_
    refine q_iload_n (pc := 14) dL_addChange_14 rfl ?_
    refine q_callS1 (pc := 15) dL_addChange_15 ((ct_Q_pageOf k I)) cd_Q_pageOf st_Q_pageOf ml_L34 rfl (Nat.le_of_ble_eq_true rfl) ⟨by decide, by decide⟩ ⟨by decide, by decide⟩ rfl ?_
    refine q_callS1 (pc := 18) dL_addChange_18 ((ct_Q_groupOfPage _ I)) cd_Q_groupOfPage st_Q_groupOfPage ml_L38 rfl (Nat.le_of_ble_eq_true rfl) ⟨by decide, by decide⟩ ⟨by decide, by decide⟩ rfl ?_
    refine q_callV1 (pc := 21) dL_addChange_21 ((ct_L_add 1 t k v _ I hn hn2)) cd_L_add in_L_add se_L_add ml_L41 rfl (by decide) rfl rfl (Nat.le_of_ble_eq_true rfl) ⟨by decide, by decide⟩ ⟨by decide, by decide⟩ rfl ?_
    refine q_iret rfl (pc := 24) dL_addChange_24 ?_
    exact ⟨rfl, rfl, by rw [if_neg h3]⟩
def lend (I : qI) (n t : Nat) (z : Int) : qI := q_up (ladd I n (if z = 0 then 3 else 2) t (-1) 0 ((t : Int).tmod 2)) 8 t ((n + 1 : Nat) : Int)
theorem ct_L_addEnd {L n t : Nat} (z : Int) (I : qI) (ht : t ≤ 60) (hn : I 2 6 = (n : Int)) (hn2 : n < 187) : qT M_L_addEnd 1 [.inr (some 2), .inl ((t : Nat) : Int), .inl z] L I (rI ((n + 1 : Nat) : Int) L (lend I n t z)) := by
  refine q_enter (by decide) (Nat.le_of_ble_eq_true rfl) ?_
  have e0 : (if (0 : Int) < ((n + 1 : Nat) : Int) then ((n + 1 : Nat) : Int) else 0) = ((n + 1 : Nat) : Int) := if_pos (by omega)
  refine q_aload_n (pc := 0) dL_addEnd_0 rfl ?_
  refine q_iload_n (pc := 1) dL_addEnd_1 rfl ?_
  refine q_if_eq (tgt := 9) (pc := 2) dL_addEnd_2 (by decide) (fun h2 => ?_) (fun h2 => ?_)
  · refine q_iconst (pc := 9) dL_addEnd_9 (by decide) ?_
    refine q_iload_n (pc := 10) dL_addEnd_10 rfl ?_
    refine q_iconst (pc := 11) dL_addEnd_11 (by decide) ?_
    refine q_iconst (pc := 12) dL_addEnd_12 (by decide) ?_
    refine q_iload_n (pc := 13) dL_addEnd_13 rfl ?_
    refine q_iconst (pc := 14) dL_addEnd_14 (by decide) ?_
    refine q_irem (pc := 15) dL_addEnd_15 (by decide) ?_
    refine q_callV1 (pc := 16) dL_addEnd_16 ((ct_L_add 3 t (-1) 0 _ I hn hn2)) cd_L_add in_L_add se_L_add ml_L41 rfl (by decide) rfl rfl (Nat.le_of_ble_eq_true rfl) ⟨by decide, by decide⟩ ⟨by decide, by decide⟩ rfl ?_
    refine q_istore_n (pc := 19) dL_addEnd_19 (by decide) ?_
    refine q_aload_n (pc := 20) dL_addEnd_20 rfl ?_
    refine q_getR (f := 5) (pc := 21) dL_addEnd_21 lay_1 (by decide) rfl (by decide) fl_L27 rfl rfl ?_
    refine q_iload_n (pc := 24) dL_addEnd_24 rfl ?_
    refine q_iconst (pc := 25) dL_addEnd_25 (by decide) ?_
    refine q_iload_n (pc := 26) dL_addEnd_26 rfl ?_
    refine q_max (pc := 27) dL_addEnd_27 mw_L45 mx_1 mt_0 mx_2 ⟨by decide, by decide⟩ ⟨by decide, by decide⟩ (Nat.le_of_ble_eq_true rfl) ?_
    refine q_iast (i := t) (pc := 30) dL_addEnd_30 rfl rfl (by omega) rfl ?_
    rw [e0]
    refine q_iload_n (pc := 31) dL_addEnd_31 rfl ?_
    refine q_iret rfl (pc := 32) dL_addEnd_32 ?_
    exact ⟨rfl, rfl, by unfold lend; rw [if_pos h2]⟩
  · refine q_iconst (pc := 5) dL_addEnd_5 (by decide) ?_
    refine q_goto (tgt := 10) (pc := 6) dL_addEnd_6 (by decide) ?_
    refine q_iload_n (pc := 10) dL_addEnd_10 rfl ?_
    refine q_iconst (pc := 11) dL_addEnd_11 (by decide) ?_
    refine q_iconst (pc := 12) dL_addEnd_12 (by decide) ?_
    refine q_iload_n (pc := 13) dL_addEnd_13 rfl ?_
    refine q_iconst (pc := 14) dL_addEnd_14 (by decide) ?_
    refine q_irem (pc := 15) dL_addEnd_15 (by decide) ?_
    refine q_callV1 (pc := 16) dL_addEnd_16 ((ct_L_add 2 t (-1) 0 _ I hn hn2)) cd_L_add in_L_add se_L_add ml_L41 rfl (by decide) rfl rfl (Nat.le_of_ble_eq_true rfl) ⟨by decide, by decide⟩ ⟨by decide, by decide⟩ rfl ?_
    refine q_istore_n (pc := 19) dL_addEnd_19 (by decide) ?_
    refine q_aload_n (pc := 20) dL_addEnd_20 rfl ?_
    refine q_getR (f := 5) (pc := 21) dL_addEnd_21 lay_1 (by decide) rfl (by decide) fl_L27 rfl rfl ?_
    refine q_iload_n (pc := 24) dL_addEnd_24 rfl ?_
    refine q_iconst (pc := 25) dL_addEnd_25 (by decide) ?_
    refine q_iload_n (pc := 26) dL_addEnd_26 rfl ?_
    refine q_max (pc := 27) dL_addEnd_27 mw_L45 mx_1 mt_0 mx_2 ⟨by decide, by decide⟩ ⟨by decide, by decide⟩ (Nat.le_of_ble_eq_true rfl) ?_
    refine q_iast (i := t) (pc := 30) dL_addEnd_30 rfl rfl (by omega) rfl ?_
    rw [e0]
    refine q_iload_n (pc := 31) dL_addEnd_31 rfl ?_
    refine q_iret rfl (pc := 32) dL_addEnd_32 ?_
    exact ⟨rfl, rfl, by unfold lend; rw [if_neg h2]⟩
theorem ct_L_isEnd {L l : Nat} (I : qI) (hl : l ≤ 187) : qT M_L_isEnd 0 [.inr (some 2), .inl ((l : Nat) : Int)] L I (rI (bi (decide (I 3 l = 2 ∨ I 3 l = 3))) L I) := by
  refine q_enter (by decide) (Nat.le_of_ble_eq_true rfl) ?_
  refine q_aload_n (pc := 0) dL_isEnd_0 rfl ?_
  refine q_getR (f := 0) (pc := 1) dL_isEnd_1 lay_1 (by decide) rfl (by decide) fl_L11 rfl rfl ?_
  refine q_iload_n (pc := 4) dL_isEnd_4 rfl ?_
  refine q_iald (i := l) (pc := 5) dL_isEnd_5 rfl rfl (by omega) rfl ?_
  refine q_iconst (pc := 6) dL_isEnd_6 (by decide) ?_
  refine q_icmp_eq (tgt := 20) (pc := 7) dL_isEnd_7 (by decide) (fun h7 => ?_) (fun h7 => ?_)
  · refine q_iconst (pc := 20) dL_isEnd_20 (by decide) ?_
    refine q_goto (tgt := 25) (pc := 21) dL_isEnd_21 (by decide) ?_
    refine q_zret rfl (by first | exact Or.inl rfl | exact Or.inr rfl) (pc := 25) dL_isEnd_25 ?_
    exact ⟨by simp [bi, h7], rfl, rfl⟩
  · refine q_aload_n (pc := 10) dL_isEnd_10 rfl ?_
    refine q_getR (f := 0) (pc := 11) dL_isEnd_11 lay_1 (by decide) rfl (by decide) fl_L11 rfl rfl ?_
    refine q_iload_n (pc := 14) dL_isEnd_14 rfl ?_
    refine q_iald (i := l) (pc := 15) dL_isEnd_15 rfl rfl (by omega) rfl ?_
    refine q_iconst (pc := 16) dL_isEnd_16 (by decide) ?_
    refine q_icmp_ne (tgt := 24) (pc := 17) dL_isEnd_17 (by decide) (fun h17 => ?_) (fun h17 => ?_)
    · refine q_iconst (pc := 24) dL_isEnd_24 (by decide) ?_
      refine q_zret rfl (by first | exact Or.inl rfl | exact Or.inr rfl) (pc := 25) dL_isEnd_25 ?_
      exact ⟨by simp [bi, h7, h17], rfl, rfl⟩
    · refine q_iconst (pc := 20) dL_isEnd_20 (by decide) ?_
      refine q_goto (tgt := 25) (pc := 21) dL_isEnd_21 (by decide) ?_
      refine q_zret rfl (by first | exact Or.inl rfl | exact Or.inr rfl) (pc := 25) dL_isEnd_25 ?_
      exact ⟨by simp [bi, h17], rfl, rfl⟩
theorem ct_L_commits {L l : Nat} (I : qI) (hl : l ≤ 187) : qT M_L_commits 0 [.inr (some 2), .inl ((l : Nat) : Int)] L I (rI (bi (decide (I 3 l = 2))) L I) := by
  refine q_enter (by decide) (Nat.le_of_ble_eq_true rfl) ?_
  refine q_aload_n (pc := 0) dL_commits_0 rfl ?_
  refine q_getR (f := 0) (pc := 1) dL_commits_1 lay_1 (by decide) rfl (by decide) fl_L11 rfl rfl ?_
  refine q_iload_n (pc := 4) dL_commits_4 rfl ?_
  refine q_iald (i := l) (pc := 5) dL_commits_5 rfl rfl (by omega) rfl ?_
  refine q_iconst (pc := 6) dL_commits_6 (by decide) ?_
  refine q_icmp_ne (tgt := 14) (pc := 7) dL_commits_7 (by decide) (fun h7 => ?_) (fun h7 => ?_)
  · refine q_iconst (pc := 14) dL_commits_14 (by decide) ?_
    refine q_zret rfl (by first | exact Or.inl rfl | exact Or.inr rfl) (pc := 15) dL_commits_15 ?_
    exact ⟨by simp [bi, h7], rfl, rfl⟩
  · refine q_iconst (pc := 10) dL_commits_10 (by decide) ?_
    refine q_goto (tgt := 15) (pc := 11) dL_commits_11 (by decide) ?_
    refine q_zret rfl (by first | exact Or.inl rfl | exact Or.inr rfl) (pc := 15) dL_commits_15 ?_
    exact ⟨by simp [bi, h7], rfl, rfl⟩
def lcl (I : qI) (l : Nat) : Bool := decide (I 3 l ≠ 0)
theorem ct_L_lastCloseUpTo {L m : Nat} (I : qI) (hm : m ≤ 187) : qT M_L_lastCloseUpTo 0 [.inr (some 2), .inl ((m : Nat) : Int)] L I (rI (ql (lcl I) m : Nat) L I) := by
  refine q_enter (by decide) (Nat.le_of_ble_eq_true rfl) ?_
  refine q_iload_n (pc := 0) dL_lastCloseUpTo_0 rfl ?_
  refine q_istore_n (pc := 1) dL_lastCloseUpTo_1 (by decide) ?_
  have lp : ∀ l : Nat, l ≤ 187 → qE M_L_lastCloseUpTo 0 2 [some (.inr (some 2)), some (.inl ((m : Nat) : Int)), some (.inl ((l : Nat) : Int))] [] L I (rI (ql (lcl I) l : Nat) L I) := by
    intro l
    induction l with
    | zero =>
      intro hl
      refine q_iload_n (pc := 2) dL_lastCloseUpTo_2 rfl ?_
      refine q_iconst (pc := 3) dL_lastCloseUpTo_3 (by decide) ?_
      refine q_icmp_lt (tgt := 24) (pc := 4) dL_lastCloseUpTo_4 (by decide) (fun h4 => ?_) (fun h4 => ?_)
      · refine q_iconst (pc := 24) dL_lastCloseUpTo_24 (by decide) ?_
        refine q_iret rfl (pc := 25) dL_lastCloseUpTo_25 ?_
        exact ⟨rfl, rfl, rfl⟩
      · omega
    | succ l ih =>
      intro hl
      refine q_iload_n (pc := 2) dL_lastCloseUpTo_2 rfl ?_
      refine q_iconst (pc := 3) dL_lastCloseUpTo_3 (by decide) ?_
      refine q_icmp_lt (tgt := 24) (pc := 4) dL_lastCloseUpTo_4 (by decide) (fun h4 => ?_) (fun h4 => ?_)
      · omega
      · refine q_aload_n (pc := 7) dL_lastCloseUpTo_7 rfl ?_
        refine q_getR (f := 0) (pc := 8) dL_lastCloseUpTo_8 lay_1 (by decide) rfl (by decide) fl_L11 rfl rfl ?_
        refine q_iload_n (pc := 11) dL_lastCloseUpTo_11 rfl ?_
        refine q_iald (i := (l + 1)) (pc := 12) dL_lastCloseUpTo_12 rfl rfl (by omega) rfl ?_
        refine q_if_eq (tgt := 18) (pc := 13) dL_lastCloseUpTo_13 (by decide) (fun h13 => ?_) (fun h13 => ?_)
        · refine q_iinc (pc := 18) dL_lastCloseUpTo_18 rfl (by decide) (show ((l + 1 : Nat) : Int) + (-1) = (l : Int) by omega) ⟨by omega, by omega⟩ ?_
          refine q_goto (tgt := 2) (pc := 21) dL_lastCloseUpTo_21 (by decide) ?_
          have e : ql (lcl I) (l + 1) = ql (lcl I) l := by rw [ql, if_neg (by simp [lcl, h13])]
          rw [e]
          exact ih (by omega)
        · refine q_iload_n (pc := 16) dL_lastCloseUpTo_16 rfl ?_
          refine q_iret rfl (pc := 17) dL_lastCloseUpTo_17 ?_
          exact ⟨by rw [ql, if_pos (by simp [lcl, h13])], rfl, rfl⟩
  exact lp m hm
def lky (I : qI) (k : Int) (l : Nat) : Bool := decide (I 5 l = k)
def lval (I : qI) (k : Int) (m : Nat) : Int := if ql (lky I k) m = 0 then 0 else I 6 (ql (lky I k) m)
theorem ct_L_valueUpTo {L m : Nat} (k : Int) (I : qI) (hm : m ≤ 187) : qT M_L_valueUpTo 0 [.inr (some 2), .inl k, .inl ((m : Nat) : Int)] L I (rI (lval I k m) L I) := by
  refine q_enter (by decide) (Nat.le_of_ble_eq_true rfl) ?_
  refine q_iload_n (pc := 0) dL_valueUpTo_0 rfl ?_
  refine q_istore_n (pc := 1) dL_valueUpTo_1 (by decide) ?_
  have lp : ∀ l : Nat, l ≤ 187 → qE M_L_valueUpTo 0 2 [some (.inr (some 2)), some (.inl k), some (.inl ((m : Nat) : Int)), some (.inl ((l : Nat) : Int))] [] L I (rI (lval I k l) L I) := by
    intro l
    induction l with
    | zero =>
      intro hl
      refine q_iload_n (pc := 2) dL_valueUpTo_2 rfl ?_
      refine q_iconst (pc := 3) dL_valueUpTo_3 (by decide) ?_
      refine q_icmp_lt (tgt := 30) (pc := 4) dL_valueUpTo_4 (by decide) (fun h4 => ?_) (fun h4 => ?_)
      · refine q_iconst (pc := 30) dL_valueUpTo_30 (by decide) ?_
        refine q_iret rfl (pc := 31) dL_valueUpTo_31 ?_
        exact ⟨rfl, rfl, rfl⟩
      · omega
    | succ l ih =>
      intro hl
      refine q_iload_n (pc := 2) dL_valueUpTo_2 rfl ?_
      refine q_iconst (pc := 3) dL_valueUpTo_3 (by decide) ?_
      refine q_icmp_lt (tgt := 30) (pc := 4) dL_valueUpTo_4 (by decide) (fun h4 => ?_) (fun h4 => ?_)
      · omega
      · refine q_aload_n (pc := 7) dL_valueUpTo_7 rfl ?_
        refine q_getR (f := 2) (pc := 8) dL_valueUpTo_8 lay_1 (by decide) rfl (by decide) fl_L18 rfl rfl ?_
        refine q_iload_n (pc := 11) dL_valueUpTo_11 rfl ?_
        refine q_iald (i := (l + 1)) (pc := 12) dL_valueUpTo_12 rfl rfl (by omega) rfl ?_
        refine q_iload_n (pc := 13) dL_valueUpTo_13 rfl ?_
        refine q_icmp_ne (tgt := 24) (pc := 14) dL_valueUpTo_14 (by decide) (fun h14 => ?_) (fun h14 => ?_)
        · refine q_iinc (pc := 24) dL_valueUpTo_24 rfl (by decide) (show ((l + 1 : Nat) : Int) + (-1) = (l : Int) by omega) ⟨by omega, by omega⟩ ?_
          refine q_goto (tgt := 2) (pc := 27) dL_valueUpTo_27 (by decide) ?_
          have e : lval I k (l + 1) = lval I k l := by unfold lval; rw [ql_n (by simp [lky, h14])]
          rw [e]
          exact ih (by omega)
        · refine q_aload_n (pc := 17) dL_valueUpTo_17 rfl ?_
          refine q_getR (f := 3) (pc := 18) dL_valueUpTo_18 lay_1 (by decide) rfl (by decide) fl_L21 rfl rfl ?_
          refine q_iload_n (pc := 21) dL_valueUpTo_21 rfl ?_
          refine q_iald (i := (l + 1)) (pc := 22) dL_valueUpTo_22 rfl rfl (by omega) rfl ?_
          refine q_iret rfl (pc := 23) dL_valueUpTo_23 ?_
          exact ⟨by unfold lval; rw [ql_y (by simp [lky, h14]), if_neg (by omega)], rfl, rfl⟩
  exact lp m hm
/-- t has its end up to m -/
def led (I : qI) (m : Nat) (t : Int) : Bool := decide (0 < I 8 t.toNat ∧ I 8 t.toNat ≤ (m : Int))
theorem ct_L_isEndedBy {L m : Nat} (t : Int) (I : qI) (ht : 0 ≤ t ∧ t ≤ 60) : qT M_L_isEndedBy 0 [.inr (some 2), .inl t, .inl ((m : Nat) : Int)] L I (rI (bi (led I m t)) L I) := by
  refine q_enter (by decide) (Nat.le_of_ble_eq_true rfl) ?_
  refine q_aload_n (pc := 0) dL_isEndedBy_0 rfl ?_
  refine q_getR (f := 5) (pc := 1) dL_isEndedBy_1 lay_1 (by decide) rfl (by decide) fl_L27 rfl rfl ?_
  refine q_iload_n (pc := 4) dL_isEndedBy_4 rfl ?_
  refine q_iald (i := t.toNat) (pc := 5) dL_isEndedBy_5 rfl (by omega) (by omega) rfl ?_
  refine q_if_le (tgt := 23) (pc := 6) dL_isEndedBy_6 (by decide) (fun h6 => ?_) (fun h6 => ?_)
  · refine q_iconst (pc := 23) dL_isEndedBy_23 (by decide) ?_
    refine q_zret rfl (by first | exact Or.inl rfl | exact Or.inr rfl) (pc := 24) dL_isEndedBy_24 ?_
    exact ⟨by unfold led; rw [decide_eq_false (by omega)]; rfl, rfl, rfl⟩
  · refine q_aload_n (pc := 9) dL_isEndedBy_9 rfl ?_
    refine q_getR (f := 5) (pc := 10) dL_isEndedBy_10 lay_1 (by decide) rfl (by decide) fl_L27 rfl rfl ?_
    refine q_iload_n (pc := 13) dL_isEndedBy_13 rfl ?_
    refine q_iald (i := t.toNat) (pc := 14) dL_isEndedBy_14 rfl (by omega) (by omega) rfl ?_
    refine q_iload_n (pc := 15) dL_isEndedBy_15 rfl ?_
    refine q_icmp_gt (tgt := 23) (pc := 16) dL_isEndedBy_16 (by decide) (fun h16 => ?_) (fun h16 => ?_)
    · refine q_iconst (pc := 23) dL_isEndedBy_23 (by decide) ?_
      refine q_zret rfl (by first | exact Or.inl rfl | exact Or.inr rfl) (pc := 24) dL_isEndedBy_24 ?_
      exact ⟨by unfold led; rw [decide_eq_false (by omega)]; rfl, rfl, rfl⟩
    · refine q_iconst (pc := 19) dL_isEndedBy_19 (by decide) ?_
      refine q_goto (tgt := 24) (pc := 20) dL_isEndedBy_20 (by decide) ?_
      refine q_zret rfl (by first | exact Or.inl rfl | exact Or.inr rfl) (pc := 24) dL_isEndedBy_24 ?_
      exact ⟨by unfold led; rw [decide_eq_true (by omega)]; rfl, rfl, rfl⟩
def lev (I : qI) (k : Int) (m : Nat) (l : Nat) : Bool := decide (I 5 l = k) && led I m (I 4 l)
def leval (I : qI) (k : Int) (m l : Nat) : Int := if ql (lev I k m) l = 0 then 0 else I 6 (ql (lev I k m) l)
theorem bi_ne {b : Bool} (h : ¬ bi b = 0) : b = true := by cases b <;> simp [bi] at h ⊢
theorem bi_eq {b : Bool} (h : bi b = 0) : b = false := by cases b <;> simp [bi] at h ⊢
theorem ct_L_endedValueUpTo {L m : Nat} (k : Int) (I : qI) (hm : m ≤ 187) (ho : ∀ l, 1 ≤ l → l ≤ m → 0 ≤ I 4 l ∧ I 4 l ≤ 60) : qT M_L_endedValueUpTo 1 [.inr (some 2), .inl k, .inl ((m : Nat) : Int)] L I (rI (leval I k m m) L I) := by
  refine q_enter (by decide) (Nat.le_of_ble_eq_true rfl) ?_
  refine q_iload_n (pc := 0) dL_endedValueUpTo_0 rfl ?_
  refine q_istore_n (pc := 1) dL_endedValueUpTo_1 (by decide) ?_
  have lp : ∀ l : Nat, l ≤ m → qE M_L_endedValueUpTo 1 2 [some (.inr (some 2)), some (.inl k), some (.inl ((m : Nat) : Int)), some (.inl ((l : Nat) : Int))] [] L I (rI (leval I k m l) L I) := by
    intro l
    induction l with
    | zero =>
      intro hl
      refine q_iload_n (pc := 2) dL_endedValueUpTo_2 rfl ?_
      refine q_iconst (pc := 3) dL_endedValueUpTo_3 (by decide) ?_
      refine q_icmp_lt (tgt := 44) (pc := 4) dL_endedValueUpTo_4 (by decide) (fun h4 => ?_) (fun h4 => ?_)
      · refine q_iconst (pc := 44) dL_endedValueUpTo_44 (by decide) ?_
        refine q_iret rfl (pc := 45) dL_endedValueUpTo_45 ?_
        exact ⟨rfl, rfl, rfl⟩
      · omega
    | succ l ih =>
      intro hl
      refine q_iload_n (pc := 2) dL_endedValueUpTo_2 rfl ?_
      refine q_iconst (pc := 3) dL_endedValueUpTo_3 (by decide) ?_
      refine q_icmp_lt (tgt := 44) (pc := 4) dL_endedValueUpTo_4 (by decide) (fun h4 => ?_) (fun h4 => ?_)
      · omega
      · refine q_aload_n (pc := 7) dL_endedValueUpTo_7 rfl ?_
        refine q_getR (f := 2) (pc := 8) dL_endedValueUpTo_8 lay_1 (by decide) rfl (by decide) fl_L18 rfl rfl ?_
        refine q_iload_n (pc := 11) dL_endedValueUpTo_11 rfl ?_
        refine q_iald (i := (l + 1)) (pc := 12) dL_endedValueUpTo_12 rfl rfl (by omega) rfl ?_
        refine q_iload_n (pc := 13) dL_endedValueUpTo_13 rfl ?_
        refine q_icmp_ne (tgt := 38) (pc := 14) dL_endedValueUpTo_14 (by decide) (fun h14 => ?_) (fun h14 => ?_)
        · refine q_iinc (pc := 38) dL_endedValueUpTo_38 rfl (by decide) (show ((l + 1 : Nat) : Int) + (-1) = (l : Int) by omega) ⟨by omega, by omega⟩ ?_
          refine q_goto (tgt := 2) (pc := 41) dL_endedValueUpTo_41 (by decide) ?_
          have e : leval I k m (l + 1) = leval I k m l := by unfold leval; rw [ql_n (by simp [lev, h14])]
          rw [e]
          exact ih (by omega)
        · refine q_aload_n (pc := 17) dL_endedValueUpTo_17 rfl ?_
          refine q_aload_n (pc := 18) dL_endedValueUpTo_18 rfl ?_
          refine q_getR (f := 1) (pc := 19) dL_endedValueUpTo_19 lay_1 (by decide) rfl (by decide) fl_L15 rfl rfl ?_
          refine q_iload_n (pc := 22) dL_endedValueUpTo_22 rfl ?_
          refine q_iald (i := (l + 1)) (pc := 23) dL_endedValueUpTo_23 rfl rfl (by omega) rfl ?_
          refine q_iload_n (pc := 24) dL_endedValueUpTo_24 rfl ?_
          refine q_callV1 (pc := 25) dL_endedValueUpTo_25 ((ct_L_isEndedBy _ I (ho (l + 1) (by omega) hl))) cd_L_isEndedBy in_L_isEndedBy se_L_isEndedBy ml_L68 rfl (by decide) rfl rfl (Nat.le_of_ble_eq_true rfl) ⟨by decide, by decide⟩ ⟨by decide, by decide⟩ rfl ?_
          refine q_if_eq (tgt := 38) (pc := 28) dL_endedValueUpTo_28 (by decide) (fun h28 => ?_) (fun h28 => ?_)
          · refine q_iinc (pc := 38) dL_endedValueUpTo_38 rfl (by decide) (show ((l + 1 : Nat) : Int) + (-1) = (l : Int) by omega) ⟨by omega, by omega⟩ ?_
            refine q_goto (tgt := 2) (pc := 41) dL_endedValueUpTo_41 (by decide) ?_
            have e : leval I k m (l + 1) = leval I k m l := by unfold leval; rw [ql_n (by simp [lev, bi_eq h28])]
            rw [e]
            exact ih (by omega)
          · refine q_aload_n (pc := 31) dL_endedValueUpTo_31 rfl ?_
            refine q_getR (f := 3) (pc := 32) dL_endedValueUpTo_32 lay_1 (by decide) rfl (by decide) fl_L21 rfl rfl ?_
            refine q_iload_n (pc := 35) dL_endedValueUpTo_35 rfl ?_
            refine q_iald (i := (l + 1)) (pc := 36) dL_endedValueUpTo_36 rfl rfl (by omega) rfl ?_
            refine q_iret rfl (pc := 37) dL_endedValueUpTo_37 ?_
            exact ⟨by unfold leval; rw [ql_y (by simp [lev, h14, bi_ne h28]), if_neg (by omega)], rfl, rfl⟩
  exact lp m (Nat.le_refl _)
def llt (I : qI) (p : Int) (l : Nat) : Bool := decide (¬ (I 3 l = 2 ∨ I 3 l = 3)) && decide ((I 5 l).tdiv 4 = p)
theorem ct_L_latestOf {L n : Nat} (p : Int) (I : qI) (hn : I 2 6 = (n : Int)) (hn2 : n ≤ 187) : qT M_L_latestOf 1 [.inr (some 2), .inl p] L I (rI (ql (llt I p) n : Nat) L I) := by
  refine q_enter (by decide) (Nat.le_of_ble_eq_true rfl) ?_
  refine q_aload_n (pc := 0) dL_latestOf_0 rfl ?_
  refine q_getI (f := 6) (pc := 1) dL_latestOf_1 lay_1 (by decide) rfl (by decide) fl_L30 rfl rfl ?_
  refine q_istore_n (pc := 4) dL_latestOf_4 (by decide) ?_
  rw [hn]
  have lp : ∀ l : Nat, l ≤ 187 → qE M_L_latestOf 1 5 [some (.inr (some 2)), some (.inl p), some (.inl ((l : Nat) : Int))] [] L I (rI (ql (llt I p) l : Nat) L I) := by
    intro l
    induction l with
    | zero =>
      intro hl
      refine q_iload_n (pc := 5) dL_latestOf_5 rfl ?_
      refine q_iconst (pc := 6) dL_latestOf_6 (by decide) ?_
      refine q_icmp_lt (tgt := 39) (pc := 7) dL_latestOf_7 (by decide) (fun h7 => ?_) (fun h7 => ?_)
      · refine q_iconst (pc := 39) dL_latestOf_39 (by decide) ?_
        refine q_iret rfl (pc := 40) dL_latestOf_40 ?_
        exact ⟨rfl, rfl, rfl⟩
      · omega
    | succ l ih =>
      intro hl
      refine q_iload_n (pc := 5) dL_latestOf_5 rfl ?_
      refine q_iconst (pc := 6) dL_latestOf_6 (by decide) ?_
      refine q_icmp_lt (tgt := 39) (pc := 7) dL_latestOf_7 (by decide) (fun h7 => ?_) (fun h7 => ?_)
      · omega
      · refine q_aload_n (pc := 10) dL_latestOf_10 rfl ?_
        refine q_iload_n (pc := 11) dL_latestOf_11 rfl ?_
        refine q_callV1 (pc := 12) dL_latestOf_12 ((ct_L_isEnd (l := l + 1) I hl)) cd_L_isEnd in_L_isEnd se_L_isEnd ml_L72 rfl (by decide) rfl rfl (Nat.le_of_ble_eq_true rfl) ⟨by decide, by decide⟩ ⟨by decide, by decide⟩ rfl ?_
        refine q_if_ne (tgt := 33) (pc := 15) dL_latestOf_15 (by decide) (fun h15 => ?_) (fun h15 => ?_)
        · refine q_iinc (pc := 33) dL_latestOf_33 rfl (by decide) (show ((l + 1 : Nat) : Int) + (-1) = (l : Int) by omega) ⟨by omega, by omega⟩ ?_
          refine q_goto (tgt := 5) (pc := 36) dL_latestOf_36 (by decide) ?_
          have e : ql (llt I p) (l + 1) = ql (llt I p) l := by
            have h := bi_ne h15
            rw [decide_eq_true_eq] at h
            rw [ql, if_neg (by unfold llt; rw [decide_eq_false (not_not_intro h)]; simp)]
          rw [e]
          exact ih (by omega)
        · refine q_aload_n (pc := 18) dL_latestOf_18 rfl ?_
          refine q_getR (f := 2) (pc := 19) dL_latestOf_19 lay_1 (by decide) rfl (by decide) fl_L18 rfl rfl ?_
          refine q_iload_n (pc := 22) dL_latestOf_22 rfl ?_
          refine q_iald (i := (l + 1)) (pc := 23) dL_latestOf_23 rfl rfl (by omega) rfl ?_
          refine q_callS1 (pc := 24) dL_latestOf_24 ((ct_Q_pageOf _ I)) cd_Q_pageOf st_Q_pageOf ml_L34 rfl (Nat.le_of_ble_eq_true rfl) ⟨by decide, by decide⟩ ⟨by decide, by decide⟩ rfl ?_
          refine q_iload_n (pc := 27) dL_latestOf_27 rfl ?_
          refine q_icmp_ne (tgt := 33) (pc := 28) dL_latestOf_28 (by decide) (fun h28 => ?_) (fun h28 => ?_)
          · refine q_iinc (pc := 33) dL_latestOf_33 rfl (by decide) (show ((l + 1 : Nat) : Int) + (-1) = (l : Int) by omega) ⟨by omega, by omega⟩ ?_
            refine q_goto (tgt := 5) (pc := 36) dL_latestOf_36 (by decide) ?_
            have e : ql (llt I p) (l + 1) = ql (llt I p) l := by
              rw [ql, if_neg (by simp [llt, h28])]
            rw [e]
            exact ih (by omega)
          · refine q_iload_n (pc := 31) dL_latestOf_31 rfl ?_
            refine q_iret rfl (pc := 32) dL_latestOf_32 ?_
            refine ⟨?_, rfl, rfl⟩
            have h := bi_eq h15
            rw [decide_eq_false_iff_not] at h
            rw [ql, if_pos (by unfold llt; rw [decide_eq_true h, decide_eq_true h28]; rfl)]
  exact lp n hn2
def lch (I : qI) (t : Int) (l : Nat) : Bool := decide (I 4 l = t) && decide (¬ (I 3 l = 2 ∨ I 3 l = 3))
theorem ct_L_hasChangeOf {L n : Nat} (t : Int) (I : qI) (hn : I 2 6 = (n : Int)) (hn2 : n ≤ 187) : qT M_L_hasChangeOf 1 [.inr (some 2), .inl t] L I (rI (bi (decide (qf (lch I t) n 1 ≠ 0))) L I) := by
  refine q_enter (by decide) (Nat.le_of_ble_eq_true rfl) ?_
  refine q_iconst (pc := 0) dL_hasChangeOf_0 (by decide) ?_
  refine q_istore_n (pc := 1) dL_hasChangeOf_1 (by decide) ?_
  have lp : ∀ f l : Nat, l + f = n + 1 → 1 ≤ l → qE M_L_hasChangeOf 1 2 [some (.inr (some 2)), some (.inl t), some (.inl ((l : Nat) : Int))] [] L I (rI (bi (decide (qf (lch I t) f l ≠ 0))) L I) := by
    intro f
    induction f with
    | zero =>
      intro l hl h1
      refine q_iload_n (pc := 2) dL_hasChangeOf_2 rfl ?_
      refine q_aload_n (pc := 3) dL_hasChangeOf_3 rfl ?_
      refine q_getI (f := 6) (pc := 4) dL_hasChangeOf_4 lay_1 (by decide) rfl (by decide) fl_L30 rfl rfl ?_
      refine q_icmp_gt (tgt := 36) (pc := 7) dL_hasChangeOf_7 (by decide) (fun h7 => ?_) (fun h7 => ?_)
      · refine q_iconst (pc := 36) dL_hasChangeOf_36 (by decide) ?_
        refine q_zret rfl (by first | exact Or.inl rfl | exact Or.inr rfl) (pc := 37) dL_hasChangeOf_37 ?_
        exact ⟨rfl, rfl, rfl⟩
      · omega
    | succ f ih =>
      intro l hl h1
      refine q_iload_n (pc := 2) dL_hasChangeOf_2 rfl ?_
      refine q_aload_n (pc := 3) dL_hasChangeOf_3 rfl ?_
      refine q_getI (f := 6) (pc := 4) dL_hasChangeOf_4 lay_1 (by decide) rfl (by decide) fl_L30 rfl rfl ?_
      refine q_icmp_gt (tgt := 36) (pc := 7) dL_hasChangeOf_7 (by decide) (fun h7 => ?_) (fun h7 => ?_)
      · omega
      · refine q_aload_n (pc := 10) dL_hasChangeOf_10 rfl ?_
        refine q_getR (f := 1) (pc := 11) dL_hasChangeOf_11 lay_1 (by decide) rfl (by decide) fl_L15 rfl rfl ?_
        refine q_iload_n (pc := 14) dL_hasChangeOf_14 rfl ?_
        refine q_iald (i := l) (pc := 15) dL_hasChangeOf_15 rfl rfl (by omega) rfl ?_
        refine q_iload_n (pc := 16) dL_hasChangeOf_16 rfl ?_
        refine q_icmp_ne (tgt := 30) (pc := 17) dL_hasChangeOf_17 (by decide) (fun h17 => ?_) (fun h17 => ?_)
        · refine q_iinc (pc := 30) dL_hasChangeOf_30 rfl (by decide) rfl ⟨by omega, by omega⟩ ?_
          refine q_goto (tgt := 2) (pc := 33) dL_hasChangeOf_33 (by decide) ?_
          have e : qf (lch I t) (f + 1) l = qf (lch I t) f (l + 1) := by rw [qf, if_neg (by simp [lch, h17])]
          rw [e]
          exact ih (l + 1) (by omega) (by omega)
        · refine q_aload_n (pc := 20) dL_hasChangeOf_20 rfl ?_
          refine q_iload_n (pc := 21) dL_hasChangeOf_21 rfl ?_
          refine q_callV1 (pc := 22) dL_hasChangeOf_22 ((ct_L_isEnd (l := l) I (by omega))) cd_L_isEnd in_L_isEnd se_L_isEnd ml_L72 rfl (by decide) rfl rfl (Nat.le_of_ble_eq_true rfl) ⟨by decide, by decide⟩ ⟨by decide, by decide⟩ rfl ?_
          refine q_if_ne (tgt := 30) (pc := 25) dL_hasChangeOf_25 (by decide) (fun h25 => ?_) (fun h25 => ?_)
          · refine q_iinc (pc := 30) dL_hasChangeOf_30 rfl (by decide) rfl ⟨by omega, by omega⟩ ?_
            refine q_goto (tgt := 2) (pc := 33) dL_hasChangeOf_33 (by decide) ?_
            have e : qf (lch I t) (f + 1) l = qf (lch I t) f (l + 1) := by
              have h := bi_ne h25
              rw [decide_eq_true_eq] at h
              rw [qf, if_neg (by unfold lch; rw [decide_eq_false (p := ¬ (I 3 l = 2 ∨ I 3 l = 3)) (not_not_intro h)]; simp)]
            rw [e]
            exact ih (l + 1) (by omega) (by omega)
          · refine q_iconst (pc := 28) dL_hasChangeOf_28 (by decide) ?_
            refine q_zret rfl (by first | exact Or.inl rfl | exact Or.inr rfl) (pc := 29) dL_hasChangeOf_29 ?_
            have h := bi_eq h25
            rw [decide_eq_false_iff_not] at h
            have e : qf (lch I t) (f + 1) l = l := by rw [qf, if_pos (by unfold lch; rw [decide_eq_true h17, decide_eq_true h]; rfl)]
            exact ⟨by rw [e, decide_eq_true (by omega)]; rfl, rfl, rfl⟩
  exact lp n 1 (by omega) (by omega)
def lfp (I : qI) (t k : Int) (l : Nat) : Bool := decide (I 4 l = t) && decide (I 5 l = k)
theorem ct_L_firstChange {L n : Nat} (t k : Int) (I : qI) (hn : I 2 6 = (n : Int)) (hn2 : n ≤ 187) : qT M_L_firstChange 0 [.inr (some 2), .inl t, .inl k] L I (rI (qf (lfp I t k) n 1 : Nat) L I) := by
  refine q_enter (by decide) (Nat.le_of_ble_eq_true rfl) ?_
  refine q_iconst (pc := 0) dL_firstChange_0 (by decide) ?_
  refine q_istore_n (pc := 1) dL_firstChange_1 (by decide) ?_
  have lp : ∀ f l : Nat, l + f = n + 1 → 1 ≤ l → qE M_L_firstChange 0 2 [some (.inr (some 2)), some (.inl t), some (.inl k), some (.inl ((l : Nat) : Int))] [] L I (rI (qf (lfp I t k) f l : Nat) L I) := by
    intro f
    induction f with
    | zero =>
      intro l hl h1
      refine q_iload_n (pc := 2) dL_firstChange_2 rfl ?_
      refine q_aload_n (pc := 3) dL_firstChange_3 rfl ?_
      refine q_getI (f := 6) (pc := 4) dL_firstChange_4 lay_1 (by decide) rfl (by decide) fl_L30 rfl rfl ?_
      refine q_icmp_gt (tgt := 38) (pc := 7) dL_firstChange_7 (by decide) (fun h7 => ?_) (fun h7 => ?_)
      · refine q_iconst (pc := 38) dL_firstChange_38 (by decide) ?_
        refine q_iret rfl (pc := 39) dL_firstChange_39 ?_
        exact ⟨rfl, rfl, rfl⟩
      · omega
    | succ f ih =>
      intro l hl h1
      refine q_iload_n (pc := 2) dL_firstChange_2 rfl ?_
      refine q_aload_n (pc := 3) dL_firstChange_3 rfl ?_
      refine q_getI (f := 6) (pc := 4) dL_firstChange_4 lay_1 (by decide) rfl (by decide) fl_L30 rfl rfl ?_
      refine q_icmp_gt (tgt := 38) (pc := 7) dL_firstChange_7 (by decide) (fun h7 => ?_) (fun h7 => ?_)
      · omega
      · refine q_aload_n (pc := 10) dL_firstChange_10 rfl ?_
        refine q_getR (f := 1) (pc := 11) dL_firstChange_11 lay_1 (by decide) rfl (by decide) fl_L15 rfl rfl ?_
        refine q_iload_n (pc := 14) dL_firstChange_14 rfl ?_
        refine q_iald (i := l) (pc := 15) dL_firstChange_15 rfl rfl (by omega) rfl ?_
        refine q_iload_n (pc := 16) dL_firstChange_16 rfl ?_
        refine q_icmp_ne (tgt := 32) (pc := 17) dL_firstChange_17 (by decide) (fun h17 => ?_) (fun h17 => ?_)
        · refine q_iinc (pc := 32) dL_firstChange_32 rfl (by decide) rfl ⟨by omega, by omega⟩ ?_
          refine q_goto (tgt := 2) (pc := 35) dL_firstChange_35 (by decide) ?_
          have e : qf (lfp I t k) (f + 1) l = qf (lfp I t k) f (l + 1) := by rw [qf, if_neg (by simp [lfp, h17])]
          rw [e]
          exact ih (l + 1) (by omega) (by omega)
        · refine q_aload_n (pc := 20) dL_firstChange_20 rfl ?_
          refine q_getR (f := 2) (pc := 21) dL_firstChange_21 lay_1 (by decide) rfl (by decide) fl_L18 rfl rfl ?_
          refine q_iload_n (pc := 24) dL_firstChange_24 rfl ?_
          refine q_iald (i := l) (pc := 25) dL_firstChange_25 rfl rfl (by omega) rfl ?_
          refine q_iload_n (pc := 26) dL_firstChange_26 rfl ?_
          refine q_icmp_ne (tgt := 32) (pc := 27) dL_firstChange_27 (by decide) (fun h27 => ?_) (fun h27 => ?_)
          · refine q_iinc (pc := 32) dL_firstChange_32 rfl (by decide) rfl ⟨by omega, by omega⟩ ?_
            refine q_goto (tgt := 2) (pc := 35) dL_firstChange_35 (by decide) ?_
            have e : qf (lfp I t k) (f + 1) l = qf (lfp I t k) f (l + 1) := by rw [qf, if_neg (by simp [lfp, h27])]
            rw [e]
            exact ih (l + 1) (by omega) (by omega)
          · refine q_iload_n (pc := 30) dL_firstChange_30 rfl ?_
            refine q_iret rfl (pc := 31) dL_firstChange_31 ?_
            exact ⟨by rw [qf, if_pos (by simp [lfp, h17, h27])], rfl, rfl⟩
  exact lp n 1 (by omega) (by omega)
def lune (I : qI) (m : Nat) (l : Nat) : Bool := !led I m (I 4 l)
def llow (I : qI) (m : Nat) : Nat := if qf (lune I m) m 1 = 0 then m else qf (lune I m) m 1 - 1
theorem ct_L_lowOf {L m : Nat} (I : qI) (hm : m ≤ 187) (ho : ∀ l, 1 ≤ l → l ≤ m → 0 ≤ I 4 l ∧ I 4 l ≤ 60) : qT M_L_lowOf 1 [.inr (some 2), .inl ((m : Nat) : Int)] L I (rI (llow I m : Nat) L I) := by
  refine q_enter (by decide) (Nat.le_of_ble_eq_true rfl) ?_
  refine q_iconst (pc := 0) dL_lowOf_0 (by decide) ?_
  refine q_istore_n (pc := 1) dL_lowOf_1 (by decide) ?_
  have lp : ∀ f l : Nat, l + f = m + 1 → 1 ≤ l → qE M_L_lowOf 1 2 [some (.inr (some 2)), some (.inl ((m : Nat) : Int)), some (.inl ((l : Nat) : Int))] [] L I (rI ((if qf (lune I m) f l = 0 then m else qf (lune I m) f l - 1 : Nat) : Int) L I) := by
    intro f
    induction f with
    | zero =>
      intro l hl h1
      refine q_iload_n (pc := 2) dL_lowOf_2 rfl ?_
      refine q_iload_n (pc := 3) dL_lowOf_3 rfl ?_
      refine q_icmp_gt (tgt := 31) (pc := 4) dL_lowOf_4 (by decide) (fun h4 => ?_) (fun h4 => ?_)
      · refine q_iload_n (pc := 31) dL_lowOf_31 rfl ?_
        refine q_iret rfl (pc := 32) dL_lowOf_32 ?_
        exact ⟨rfl, rfl, rfl⟩
      · omega
    | succ f ih =>
      intro l hl h1
      refine q_iload_n (pc := 2) dL_lowOf_2 rfl ?_
      refine q_iload_n (pc := 3) dL_lowOf_3 rfl ?_
      refine q_icmp_gt (tgt := 31) (pc := 4) dL_lowOf_4 (by decide) (fun h4 => ?_) (fun h4 => ?_)
      · omega
      · refine q_aload_n (pc := 7) dL_lowOf_7 rfl ?_
        refine q_aload_n (pc := 8) dL_lowOf_8 rfl ?_
        refine q_getR (f := 1) (pc := 9) dL_lowOf_9 lay_1 (by decide) rfl (by decide) fl_L15 rfl rfl ?_
        refine q_iload_n (pc := 12) dL_lowOf_12 rfl ?_
        refine q_iald (i := l) (pc := 13) dL_lowOf_13 rfl rfl (by omega) rfl ?_
        refine q_iload_n (pc := 14) dL_lowOf_14 rfl ?_
        refine q_callV1 (pc := 15) dL_lowOf_15 ((ct_L_isEndedBy _ I (ho l h1 (by omega)))) cd_L_isEndedBy in_L_isEndedBy se_L_isEndedBy ml_L68 rfl (by decide) rfl rfl (Nat.le_of_ble_eq_true rfl) ⟨by decide, by decide⟩ ⟨by decide, by decide⟩ rfl ?_
        refine q_if_ne (tgt := 25) (pc := 18) dL_lowOf_18 (by decide) (fun h18 => ?_) (fun h18 => ?_)
        · refine q_iinc (pc := 25) dL_lowOf_25 rfl (by decide) rfl ⟨by omega, by omega⟩ ?_
          refine q_goto (tgt := 2) (pc := 28) dL_lowOf_28 (by decide) ?_
          have e : qf (lune I m) (f + 1) l = qf (lune I m) f (l + 1) := by rw [qf, if_neg (by simp [lune, bi_ne h18])]
          rw [e]
          exact ih (l + 1) (by omega) (by omega)
        · refine q_iload_n (pc := 21) dL_lowOf_21 rfl ?_
          refine q_iconst (pc := 22) dL_lowOf_22 (by decide) ?_
          refine q_isub (pc := 23) dL_lowOf_23 (show (l : Int) - 1 = ((l - 1 : Nat) : Int) by omega) ⟨by omega, by omega⟩ ?_
          refine q_iret rfl (pc := 24) dL_lowOf_24 ?_
          have e : qf (lune I m) (f + 1) l = l := by rw [qf, if_pos (by simp [lune, bi_eq h18])]
          exact ⟨by rw [e, if_neg (by omega)], rfl, rfl⟩
  exact lp m 1 (by omega) (by omega)
end
section
/-! The groups of copies. -/
def clv (I : qI) (x : Nat) : Bool := decide (I (cp x) 2 = 0)
theorem lp_G_liveCopies {L g : Nat} (hg : g < 2) (I : qI) : ∀ f c k, c + f = 6 → k = qz (fun c => clv I (6 * g + c)) c → qE M_G_liveCopies 1 4 [some (.inr (some (gp g))), some (.inl ((k : Nat) : Int)), some (.inl ((c : Nat) : Int))] [] L I (rI (qz (fun c => clv I (6 * g + c)) 6 : Nat) L I) := by
  intro f
  induction f with
  | zero =>
    intro c k hc hk
    refine q_iload_n (pc := 4) dG_liveCopies_4 rfl ?_
    refine q_bipush (pc := 5) dG_liveCopies_5 (by decide) (by decide) ?_
    refine q_icmp_ge (tgt := 31) (pc := 7) dG_liveCopies_7 (by decide) (fun h7 => ?_) (fun h7 => ?_)
    · refine q_iload_n (pc := 31) dG_liveCopies_31 rfl ?_
      refine q_iret rfl (pc := 32) dG_liveCopies_32 ?_
      exact ⟨by rw [hk, show c = 6 by omega], rfl, rfl⟩
    · omega
  | succ f ih =>
    intro c k hc hk
    have hkl := qz_le (fun c => clv I (6 * g + c)) c
    have hx : 6 * g + c < 12 := by omega
    refine q_iload_n (pc := 4) dG_liveCopies_4 rfl ?_
    refine q_bipush (pc := 5) dG_liveCopies_5 (by decide) (by decide) ?_
    refine q_icmp_ge (tgt := 31) (pc := 7) dG_liveCopies_7 (by decide) (fun h7 => ?_) (fun h7 => ?_)
    · omega
    · refine q_aload_n (pc := 10) dG_liveCopies_10 rfl ?_
      refine q_getR (f := 0) (pc := 11) dG_liveCopies_11 lay_3 (by decide) (s_gp L g hg) (by decide) fl_G11 rfl rfl ?_
      refine q_iload_n (pc := 14) dG_liveCopies_14 rfl ?_
      refine q_aald (i := c) (pc := 15) dG_liveCopies_15 ⟨by decide, by decide, rfl⟩ (s_cps L g hg) rfl (by omega) (v_cps (by omega)) ?_
      refine q_callV1 (pc := 16) dG_liveCopies_16 ((ct_C_isLive hx I)) cd_C_isLive in_C_isLive se_C_isLive ml_G20 (s_cp L _ hx) (by decide) rfl rfl (Nat.le_of_ble_eq_true rfl) ⟨by decide, by decide⟩ ⟨by decide, by decide⟩ rfl ?_
      refine q_if_eq (tgt := 25) (pc := 19) dG_liveCopies_19 (by decide) (fun h19 => ?_) (fun h19 => ?_)
      · refine q_iinc (pc := 25) dG_liveCopies_25 rfl (by decide) rfl ⟨by omega, by omega⟩ ?_
        refine q_goto (tgt := 4) (pc := 28) dG_liveCopies_28 (by decide) ?_
        exact ih (c + 1) k (by omega) (by rw [qz, if_neg (by have := bi_eq h19; simp [clv, this]), hk]; rfl)
      · refine q_iinc (pc := 22) dG_liveCopies_22 rfl (by decide) rfl ⟨by omega, by omega⟩ ?_
        refine q_iinc (pc := 25) dG_liveCopies_25 rfl (by decide) rfl ⟨by omega, by omega⟩ ?_
        refine q_goto (tgt := 4) (pc := 28) dG_liveCopies_28 (by decide) ?_
        exact ih (c + 1) (k + 1) (by omega) (by rw [qz, if_pos (by have := bi_ne h19; simpa [clv] using this), hk])
theorem ct_G_liveCopies {L g : Nat} (hg : g < 2) (I : qI) : qT M_G_liveCopies 1 [.inr (some (gp g))] L I (rI (qz (fun c => clv I (6 * g + c)) 6 : Nat) L I) := by
  refine q_enter (by decide) (Nat.le_of_ble_eq_true rfl) ?_
  refine q_iconst (pc := 0) dG_liveCopies_0 (by decide) ?_
  refine q_istore_n (pc := 1) dG_liveCopies_1 (by decide) ?_
  refine q_iconst (pc := 2) dG_liveCopies_2 (by decide) ?_
  refine q_istore_n (pc := 3) dG_liveCopies_3 (by decide) ?_
  exact lp_G_liveCopies hg I 6 0 0 (by omega) rfl
theorem qe_add {p : Nat → Bool} : ∀ {n c : Nat}, c ≤ n → qe p c = true → qe p n = true := by
  intro n c h hp
  obtain ⟨i, h1, h2⟩ := qe_iff.mp hp
  exact qe_iff.mpr ⟨i, by omega, h2⟩
theorem qe_no {p : Nat → Bool} {c : Nat} (h : qe p c = false) (hp : p c = false) : qe p (c + 1) = false := by rw [qe, h, hp]; rfl
theorem qe_yes {p : Nat → Bool} {n c : Nat} (hc : c < n) (hp : p c = true) : qe p n = true := qe_iff.mpr ⟨c, hc, hp⟩
def glh (I : qI) (g l : Nat) (c : Nat) : Bool := clv I (6 * g + c) && chd I (6 * g + c) l
theorem lp_G_liveCopyHolds {L g l : Nat} (hg : g < 2) (hl : l ≤ 187) (I : qI) : ∀ f c, c + f = 6 → qe (glh I g l) c = false → qE M_G_liveCopyHolds 1 2 [some (.inr (some (gp g))), some (.inl ((l : Nat) : Int)), some (.inl ((c : Nat) : Int))] [] L I (rI (bi (qe (glh I g l) 6)) L I) := by
  intro f
  induction f with
  | zero =>
    intro c hc hk
    obtain rfl : c = 6 := by omega
    refine q_iload_n (pc := 2) dG_liveCopyHolds_2 rfl ?_
    refine q_bipush (pc := 3) dG_liveCopyHolds_3 (by decide) (by decide) ?_
    refine q_icmp_ge (tgt := 42) (pc := 5) dG_liveCopyHolds_5 (by decide) (fun h5 => ?_) (fun h5 => ?_)
    · refine q_iconst (pc := 42) dG_liveCopyHolds_42 (by decide) ?_
      refine q_zret rfl (by first | exact Or.inl rfl | exact Or.inr rfl) (pc := 43) dG_liveCopyHolds_43 ?_
      exact ⟨by rw [hk]; rfl, rfl, rfl⟩
    · omega
  | succ f ih =>
    intro c hc hk
    have hx : 6 * g + c < 12 := by omega
    refine q_iload_n (pc := 2) dG_liveCopyHolds_2 rfl ?_
    refine q_bipush (pc := 3) dG_liveCopyHolds_3 (by decide) (by decide) ?_
    refine q_icmp_ge (tgt := 42) (pc := 5) dG_liveCopyHolds_5 (by decide) (fun h5 => ?_) (fun h5 => ?_)
    · omega
    · refine q_aload_n (pc := 8) dG_liveCopyHolds_8 rfl ?_
      refine q_getR (f := 0) (pc := 9) dG_liveCopyHolds_9 lay_3 (by decide) (s_gp L g hg) (by decide) fl_G11 rfl rfl ?_
      refine q_iload_n (pc := 12) dG_liveCopyHolds_12 rfl ?_
      refine q_aald (i := c) (pc := 13) dG_liveCopyHolds_13 ⟨by decide, by decide, rfl⟩ (s_cps L g hg) rfl (by omega) (v_cps (by omega)) ?_
      refine q_callV1 (pc := 14) dG_liveCopyHolds_14 ((ct_C_isLive hx I)) cd_C_isLive in_C_isLive se_C_isLive ml_G20 (s_cp L _ hx) (by decide) rfl rfl (Nat.le_of_ble_eq_true rfl) ⟨by decide, by decide⟩ ⟨by decide, by decide⟩ rfl ?_
      refine q_if_eq (tgt := 36) (pc := 17) dG_liveCopyHolds_17 (by decide) (fun h17 => ?_) (fun h17 => ?_)
      · refine q_iinc (pc := 36) dG_liveCopyHolds_36 rfl (by decide) rfl ⟨by omega, by omega⟩ ?_
        refine q_goto (tgt := 2) (pc := 39) dG_liveCopyHolds_39 (by decide) ?_
        exact ih (c + 1) (by omega) (qe_no hk (by have := bi_eq h17; simp [glh, clv, this]))
      · refine q_aload_n (pc := 20) dG_liveCopyHolds_20 rfl ?_
        refine q_getR (f := 0) (pc := 21) dG_liveCopyHolds_21 lay_3 (by decide) (s_gp L g hg) (by decide) fl_G11 rfl rfl ?_
        refine q_iload_n (pc := 24) dG_liveCopyHolds_24 rfl ?_
        refine q_aald (i := c) (pc := 25) dG_liveCopyHolds_25 ⟨by decide, by decide, rfl⟩ (s_cps L g hg) rfl (by omega) (v_cps (by omega)) ?_
        refine q_getR (f := 1) (pc := 26) dG_liveCopyHolds_26 lay_4 (by decide) (s_cp L _ hx) (by decide) fl_G24 rfl rfl ?_
        refine q_iload_n (pc := 29) dG_liveCopyHolds_29 rfl ?_
        refine q_zald (i := l) (pc := 30) dG_liveCopyHolds_30 (s_hd L _ hx) rfl (by omega) rfl ?_
        refine q_if_eq (tgt := 36) (pc := 31) dG_liveCopyHolds_31 (by decide) (fun h31 => ?_) (fun h31 => ?_)
        · refine q_iinc (pc := 36) dG_liveCopyHolds_36 rfl (by decide) rfl ⟨by omega, by omega⟩ ?_
          refine q_goto (tgt := 2) (pc := 39) dG_liveCopyHolds_39 (by decide) ?_
          exact ih (c + 1) (by omega) (qe_no hk (by simp [glh, chd, h31]))
        · refine q_iconst (pc := 34) dG_liveCopyHolds_34 (by decide) ?_
          refine q_zret rfl (by first | exact Or.inl rfl | exact Or.inr rfl) (pc := 35) dG_liveCopyHolds_35 ?_
          exact ⟨by rw [qe_yes (c := c) (by omega) (by have := bi_ne h17; simp only [glh, clv, this, chd, Bool.true_and]; simpa using h31)]; rfl, rfl, rfl⟩
theorem ct_G_liveCopyHolds {L g l : Nat} (hg : g < 2) (hl : l ≤ 187) (I : qI) : qT M_G_liveCopyHolds 1 [.inr (some (gp g)), .inl ((l : Nat) : Int)] L I (rI (bi (qe (glh I g l) 6)) L I) := by
  refine q_enter (by decide) (Nat.le_of_ble_eq_true rfl) ?_
  refine q_iconst (pc := 0) dG_liveCopyHolds_0 (by decide) ?_
  refine q_istore_n (pc := 1) dG_liveCopyHolds_1 (by decide) ?_
  exact lp_G_liveCopyHolds hg hl I 6 0 (by omega) rfl
def gsv (I : qI) (g m : Nat) (c : Nat) : Bool := clv I (6 * g + c) && qa (call_ I (6 * g + c)) m
theorem lp_G_serves {L g m : Nat} (hg : g < 2) (hm : m ≤ 187) (I : qI) : ∀ f c, c + f = 6 → qe (gsv I g m) c = false → qE M_G_serves 1 2 [some (.inr (some (gp g))), some (.inl ((m : Nat) : Int)), some (.inr (some 2)), some (.inl ((c : Nat) : Int))] [] L I (rI (bi (qe (gsv I g m) 6)) L I) := by
  intro f
  induction f with
  | zero =>
    intro c hc hk
    obtain rfl : c = 6 := by omega
    refine q_iload_n (pc := 2) dG_serves_2 rfl ?_
    refine q_bipush (pc := 3) dG_serves_3 (by decide) (by decide) ?_
    refine q_icmp_ge (tgt := 42) (pc := 5) dG_serves_5 (by decide) (fun h5 => ?_) (fun h5 => ?_)
    · refine q_iconst (pc := 42) dG_serves_42 (by decide) ?_
      refine q_zret rfl (by first | exact Or.inl rfl | exact Or.inr rfl) (pc := 43) dG_serves_43 ?_
      exact ⟨by rw [hk]; rfl, rfl, rfl⟩
    · omega
  | succ f ih =>
    intro c hc hk
    have hx : 6 * g + c < 12 := by omega
    refine q_iload_n (pc := 2) dG_serves_2 rfl ?_
    refine q_bipush (pc := 3) dG_serves_3 (by decide) (by decide) ?_
    refine q_icmp_ge (tgt := 42) (pc := 5) dG_serves_5 (by decide) (fun h5 => ?_) (fun h5 => ?_)
    · omega
    · refine q_aload_n (pc := 8) dG_serves_8 rfl ?_
      refine q_getR (f := 0) (pc := 9) dG_serves_9 lay_3 (by decide) (s_gp L g hg) (by decide) fl_G11 rfl rfl ?_
      refine q_iload_n (pc := 12) dG_serves_12 rfl ?_
      refine q_aald (i := c) (pc := 13) dG_serves_13 ⟨by decide, by decide, rfl⟩ (s_cps L g hg) rfl (by omega) (v_cps (by omega)) ?_
      refine q_callV1 (pc := 14) dG_serves_14 ((ct_C_isLive hx I)) cd_C_isLive in_C_isLive se_C_isLive ml_G20 (s_cp L _ hx) (by decide) rfl rfl (Nat.le_of_ble_eq_true rfl) ⟨by decide, by decide⟩ ⟨by decide, by decide⟩ rfl ?_
      refine q_if_eq (tgt := 36) (pc := 17) dG_serves_17 (by decide) (fun h17 => ?_) (fun h17 => ?_)
      · refine q_iinc (pc := 36) dG_serves_36 rfl (by decide) rfl ⟨by omega, by omega⟩ ?_
        refine q_goto (tgt := 2) (pc := 39) dG_serves_39 (by decide) ?_
        exact ih (c + 1) (by omega) (qe_no hk (by have := bi_eq h17; simp [gsv, clv, this]))
      · refine q_aload_n (pc := 20) dG_serves_20 rfl ?_
        refine q_getR (f := 0) (pc := 21) dG_serves_21 lay_3 (by decide) (s_gp L g hg) (by decide) fl_G11 rfl rfl ?_
        refine q_iload_n (pc := 24) dG_serves_24 rfl ?_
        refine q_aald (i := c) (pc := 25) dG_serves_25 ⟨by decide, by decide, rfl⟩ (s_cps L g hg) rfl (by omega) (v_cps (by omega)) ?_
        refine q_iload_n (pc := 26) dG_serves_26 rfl ?_
        refine q_aload_n (pc := 27) dG_serves_27 rfl ?_
        refine q_callV1 (pc := 28) dG_serves_28 ((ct_C_holdsAllUpTo hx hm I)) cd_C_holdsAllUpTo in_C_holdsAllUpTo se_C_holdsAllUpTo ml_G28 (s_cp L _ hx) (by decide) rfl rfl (Nat.le_of_ble_eq_true rfl) ⟨by decide, by decide⟩ ⟨by decide, by decide⟩ rfl ?_
        refine q_if_eq (tgt := 36) (pc := 31) dG_serves_31 (by decide) (fun h31 => ?_) (fun h31 => ?_)
        · refine q_iinc (pc := 36) dG_serves_36 rfl (by decide) rfl ⟨by omega, by omega⟩ ?_
          refine q_goto (tgt := 2) (pc := 39) dG_serves_39 (by decide) ?_
          exact ih (c + 1) (by omega) (qe_no hk (by have := bi_eq h31; simp [gsv, this]))
        · refine q_iconst (pc := 34) dG_serves_34 (by decide) ?_
          refine q_zret rfl (by first | exact Or.inl rfl | exact Or.inr rfl) (pc := 35) dG_serves_35 ?_
          exact ⟨by rw [qe_yes (c := c) (by omega) (by have h1 := bi_ne h17; have h2 := bi_ne h31; simp only [gsv, clv, h1, h2]; rfl)]; rfl, rfl, rfl⟩
theorem ct_G_serves {L g m : Nat} (hg : g < 2) (hm : m ≤ 187) (I : qI) : qT M_G_serves 1 [.inr (some (gp g)), .inl ((m : Nat) : Int), .inr (some 2)] L I (rI (bi (qe (gsv I g m) 6)) L I) := by
  refine q_enter (by decide) (Nat.le_of_ble_eq_true rfl) ?_
  refine q_iconst (pc := 0) dG_serves_0 (by decide) ?_
  refine q_istore_n (pc := 1) dG_serves_1 (by decide) ?_
  exact lp_G_serves hg hm I 6 0 (by omega) rfl
def grq (I : qI) (g : Nat) (v : Int) (c : Nat) : Bool := decide (v ≤ I (cp (6 * g + c)) 4)
theorem lp_G_copiesThatReported {L g : Nat} (hg : g < 2) (v : Int) (I : qI) : ∀ f c k, c + f = 6 → k = qz (grq I g v) c → qE M_G_copiesThatReported 0 4 [some (.inr (some (gp g))), some (.inl v), some (.inl ((k : Nat) : Int)), some (.inl ((c : Nat) : Int))] [] L I (rI (qz (grq I g v) 6 : Nat) L I) := by
  intro f
  induction f with
  | zero =>
    intro c k hc hk
    refine q_iload_n (pc := 4) dG_copiesThatReported_4 rfl ?_
    refine q_bipush (pc := 5) dG_copiesThatReported_5 (by decide) (by decide) ?_
    refine q_icmp_ge (tgt := 32) (pc := 7) dG_copiesThatReported_7 (by decide) (fun h7 => ?_) (fun h7 => ?_)
    · refine q_iload_n (pc := 32) dG_copiesThatReported_32 rfl ?_
      refine q_iret rfl (pc := 33) dG_copiesThatReported_33 ?_
      exact ⟨by rw [hk, show c = 6 by omega], rfl, rfl⟩
    · omega
  | succ f ih =>
    intro c k hc hk
    have hkl := qz_le (grq I g v) c
    have hx : 6 * g + c < 12 := by omega
    refine q_iload_n (pc := 4) dG_copiesThatReported_4 rfl ?_
    refine q_bipush (pc := 5) dG_copiesThatReported_5 (by decide) (by decide) ?_
    refine q_icmp_ge (tgt := 32) (pc := 7) dG_copiesThatReported_7 (by decide) (fun h7 => ?_) (fun h7 => ?_)
    · omega
    · refine q_aload_n (pc := 10) dG_copiesThatReported_10 rfl ?_
      refine q_getR (f := 0) (pc := 11) dG_copiesThatReported_11 lay_3 (by decide) (s_gp L g hg) (by decide) fl_G11 rfl rfl ?_
      refine q_iload_n (pc := 14) dG_copiesThatReported_14 rfl ?_
      refine q_aald (i := c) (pc := 15) dG_copiesThatReported_15 ⟨by decide, by decide, rfl⟩ (s_cps L g hg) rfl (by omega) (v_cps (by omega)) ?_
      refine q_getI (f := 4) (pc := 16) dG_copiesThatReported_16 lay_4 (by decide) (s_cp L _ hx) (by decide) fl_G32 rfl rfl ?_
      refine q_iload_n (pc := 19) dG_copiesThatReported_19 rfl ?_
      refine q_icmp_lt (tgt := 26) (pc := 20) dG_copiesThatReported_20 (by decide) (fun h20 => ?_) (fun h20 => ?_)
      · refine q_iinc (pc := 26) dG_copiesThatReported_26 rfl (by decide) rfl ⟨by omega, by omega⟩ ?_
        refine q_goto (tgt := 4) (pc := 29) dG_copiesThatReported_29 (by decide) ?_
        exact ih (c + 1) k (by omega) (by rw [qz, if_neg (by unfold grq; rw [decide_eq_false (by omega)]; decide), hk]; rfl)
      · refine q_iinc (pc := 23) dG_copiesThatReported_23 rfl (by decide) rfl ⟨by omega, by omega⟩ ?_
        refine q_iinc (pc := 26) dG_copiesThatReported_26 rfl (by decide) rfl ⟨by omega, by omega⟩ ?_
        refine q_goto (tgt := 4) (pc := 29) dG_copiesThatReported_29 (by decide) ?_
        exact ih (c + 1) (k + 1) (by omega) (by rw [qz, if_pos (by unfold grq; rw [decide_eq_true (by omega)]), hk])
theorem ct_G_copiesThatReported {L g : Nat} (hg : g < 2) (v : Int) (I : qI) : qT M_G_copiesThatReported 0 [.inr (some (gp g)), .inl v] L I (rI (qz (grq I g v) 6 : Nat) L I) := by
  refine q_enter (by decide) (Nat.le_of_ble_eq_true rfl) ?_
  refine q_iconst (pc := 0) dG_copiesThatReported_0 (by decide) ?_
  refine q_istore_n (pc := 1) dG_copiesThatReported_1 (by decide) ?_
  refine q_iconst (pc := 2) dG_copiesThatReported_2 (by decide) ?_
  refine q_istore_n (pc := 3) dG_copiesThatReported_3 (by decide) ?_
  exact lp_G_copiesThatReported hg v I 6 0 0 (by omega) rfl
/-- the greatest reported point of the first c copies that four have reached -/
def gqp (I : qI) (g : Nat) : Nat → Int
  | 0 => 0
  | c + 1 => if gqp I g c < I (cp (6 * g + c)) 4 ∧ 4 ≤ qz (grq I g (I (cp (6 * g + c)) 4)) 6 then I (cp (6 * g + c)) 4 else gqp I g c
theorem lp_G_quorumPoint {L g : Nat} (hg : g < 2) (I : qI) : ∀ f c z, c + f = 6 → qE M_G_quorumPoint 1 4 [some (.inr (some (gp g))), some (.inl (gqp I g c)), some (.inl ((c : Nat) : Int)), z] [] L I (rI (gqp I g 6) L I) := by
  intro f
  induction f with
  | zero =>
    intro c z hc
    refine q_iload_n (pc := 4) dG_quorumPoint_4 rfl ?_
    refine q_bipush (pc := 5) dG_quorumPoint_5 (by decide) (by decide) ?_
    refine q_icmp_ge (tgt := 42) (pc := 7) dG_quorumPoint_7 (by decide) (fun h7 => ?_) (fun h7 => ?_)
    · refine q_iload_n (pc := 42) dG_quorumPoint_42 rfl ?_
      refine q_iret rfl (pc := 43) dG_quorumPoint_43 ?_
      exact ⟨by rw [show c = 6 by omega], rfl, rfl⟩
    · omega
  | succ f ih =>
    intro c z hc
    have hx : 6 * g + c < 12 := by omega
    refine q_iload_n (pc := 4) dG_quorumPoint_4 rfl ?_
    refine q_bipush (pc := 5) dG_quorumPoint_5 (by decide) (by decide) ?_
    refine q_icmp_ge (tgt := 42) (pc := 7) dG_quorumPoint_7 (by decide) (fun h7 => ?_) (fun h7 => ?_)
    · omega
    · refine q_aload_n (pc := 10) dG_quorumPoint_10 rfl ?_
      refine q_getR (f := 0) (pc := 11) dG_quorumPoint_11 lay_3 (by decide) (s_gp L g hg) (by decide) fl_G11 rfl rfl ?_
      refine q_iload_n (pc := 14) dG_quorumPoint_14 rfl ?_
      refine q_aald (i := c) (pc := 15) dG_quorumPoint_15 ⟨by decide, by decide, rfl⟩ (s_cps L g hg) rfl (by omega) (v_cps (by omega)) ?_
      refine q_getI (f := 4) (pc := 16) dG_quorumPoint_16 lay_4 (by decide) (s_cp L _ hx) (by decide) fl_G32 rfl rfl ?_
      refine q_istore_n (pc := 19) dG_quorumPoint_19 (by decide) ?_
      refine q_iload_n (pc := 20) dG_quorumPoint_20 rfl ?_
      refine q_iload_n (pc := 21) dG_quorumPoint_21 rfl ?_
      refine q_icmp_le (tgt := 36) (pc := 22) dG_quorumPoint_22 (by decide) (fun h22 => ?_) (fun h22 => ?_)
      · refine q_iinc (pc := 36) dG_quorumPoint_36 rfl (by decide) rfl ⟨by omega, by omega⟩ ?_
        refine q_goto (tgt := 4) (pc := 39) dG_quorumPoint_39 (by decide) ?_
        have e : gqp I g (c + 1) = gqp I g c := by rw [gqp, if_neg (by omega)]
        have h := ih (c + 1) (some (.inl (I (cp (6 * g + c)) 4))) (by omega)
        rw [e] at h
        exact h
      · refine q_aload_n (pc := 25) dG_quorumPoint_25 rfl ?_
        refine q_iload_n (pc := 26) dG_quorumPoint_26 rfl ?_
        refine q_callV1 (pc := 27) dG_quorumPoint_27 ((ct_G_copiesThatReported hg _ I)) cd_G_copiesThatReported in_G_copiesThatReported se_G_copiesThatReported ml_G36 (s_gp L g hg) (by decide) rfl rfl (Nat.le_of_ble_eq_true rfl) ⟨by decide, by decide⟩ ⟨by decide, by decide⟩ rfl ?_
        refine q_iconst (pc := 30) dG_quorumPoint_30 (by decide) ?_
        refine q_icmp_lt (tgt := 36) (pc := 31) dG_quorumPoint_31 (by decide) (fun h31 => ?_) (fun h31 => ?_)
        · refine q_iinc (pc := 36) dG_quorumPoint_36 rfl (by decide) rfl ⟨by omega, by omega⟩ ?_
          refine q_goto (tgt := 4) (pc := 39) dG_quorumPoint_39 (by decide) ?_
          have e : gqp I g (c + 1) = gqp I g c := by rw [gqp, if_neg (by omega)]
          have h := ih (c + 1) (some (.inl (I (cp (6 * g + c)) 4))) (by omega)
          rw [e] at h
          exact h
        · refine q_iload_n (pc := 34) dG_quorumPoint_34 rfl ?_
          refine q_istore_n (pc := 35) dG_quorumPoint_35 (by decide) ?_
          refine q_iinc (pc := 36) dG_quorumPoint_36 rfl (by decide) rfl ⟨by omega, by omega⟩ ?_
          refine q_goto (tgt := 4) (pc := 39) dG_quorumPoint_39 (by decide) ?_
          have e : gqp I g (c + 1) = I (cp (6 * g + c)) 4 := by rw [gqp, if_pos (by omega)]
          have h := ih (c + 1) (some (.inl (I (cp (6 * g + c)) 4))) (by omega)
          rw [e] at h
          exact h
theorem ct_G_quorumPoint {L g : Nat} (hg : g < 2) (I : qI) : qT M_G_quorumPoint 1 [.inr (some (gp g))] L I (rI (gqp I g 6) L I) := by
  refine q_enter (by decide) (Nat.le_of_ble_eq_true rfl) ?_
  refine q_iconst (pc := 0) dG_quorumPoint_0 (by decide) ?_
  refine q_istore_n (pc := 1) dG_quorumPoint_1 (by decide) ?_
  refine q_iconst (pc := 2) dG_quorumPoint_2 (by decide) ?_
  refine q_istore_n (pc := 3) dG_quorumPoint_3 (by decide) ?_
  exact lp_G_quorumPoint hg I 6 0 _ (by omega)
theorem qtake_st {I : qI} {c d x : Nat} : qtake I c d (cp x) 2 = I (cp x) 2 := by
  unfold qtake q_up qtk
  rw [if_neg (by omega), if_neg]
  rintro ⟨h, -⟩
  exact cp_ne h
/-- x takes of all live copies of the group, f of them, from c on -/
def grp (g x : Nat) : Nat → Nat → qI → qI
  | 0, _, I => I
  | f + 1, c, I => grp g x f (c + 1) (if I (cp (6 * g + c)) 2 = 0 then qtake I x (6 * g + c) else I)
theorem lp_G_repair {L g x : Nat} (hg : g < 2) (hx : x < 12) : ∀ f c I, c + f = 6 → I (cp x) 2 = 2 → qE M_G_repair 2 20 [some (.inr (some (gp g))), some (.inr (some (cp x))), some (.inl ((c : Nat) : Int))] [] L I (rI 1 L (q_up (grp g x f c I) (cp x) 2 0)) := by
  intro f
  induction f with
  | zero =>
    intro c I hc hs
    refine q_iload_n (pc := 20) dG_repair_20 rfl ?_
    refine q_bipush (pc := 21) dG_repair_21 (by decide) (by decide) ?_
    refine q_icmp_ge (tgt := 55) (pc := 23) dG_repair_23 (by decide) (fun h23 => ?_) (fun h23 => ?_)
    · refine q_aload_n (pc := 55) dG_repair_55 rfl ?_
      refine q_iconst (pc := 56) dG_repair_56 (by decide) ?_
      refine q_putI (f := 2) (pc := 57) dG_repair_57 lay_4 typ_4 (by decide) (s_cp L x hx) (by decide) fl_G40 rfl (Or.inl rfl) (Or.inl rfl) rfl ?_
      refine q_iconst (pc := 60) dG_repair_60 (by decide) ?_
      refine q_zret rfl (by first | exact Or.inl rfl | exact Or.inr rfl) (pc := 61) dG_repair_61 ?_
      exact ⟨rfl, rfl, rfl⟩
    · omega
  | succ f ih =>
    intro c I hc hs
    have hy : 6 * g + c < 12 := by omega
    refine q_iload_n (pc := 20) dG_repair_20 rfl ?_
    refine q_bipush (pc := 21) dG_repair_21 (by decide) (by decide) ?_
    refine q_icmp_ge (tgt := 55) (pc := 23) dG_repair_23 (by decide) (fun h23 => ?_) (fun h23 => ?_)
    · omega
    · refine q_aload_n (pc := 26) dG_repair_26 rfl ?_
      refine q_getR (f := 0) (pc := 27) dG_repair_27 lay_3 (by decide) (s_gp L g hg) (by decide) fl_G11 rfl rfl ?_
      refine q_iload_n (pc := 30) dG_repair_30 rfl ?_
      refine q_aald (i := c) (pc := 31) dG_repair_31 ⟨by decide, by decide, rfl⟩ (s_cps L g hg) rfl (by omega) (v_cps (by omega)) ?_
      refine q_callV1 (pc := 32) dG_repair_32 ((ct_C_isLive hy I)) cd_C_isLive in_C_isLive se_C_isLive ml_G20 (s_cp L _ hy) (by decide) rfl rfl (Nat.le_of_ble_eq_true rfl) ⟨by decide, by decide⟩ ⟨by decide, by decide⟩ rfl ?_
      refine q_if_eq (tgt := 49) (pc := 35) dG_repair_35 (by decide) (fun h35 => ?_) (fun h35 => ?_)
      · refine q_iinc (pc := 49) dG_repair_49 rfl (by decide) rfl ⟨by omega, by omega⟩ ?_
        refine q_goto (tgt := 20) (pc := 52) dG_repair_52 (by decide) ?_
        have e : grp g x (f + 1) c I = grp g x f (c + 1) I := by
          have := bi_eq h35
          rw [grp, if_neg (by simpa using this)]
        rw [e]
        exact ih (c + 1) I (by omega) hs
      · have h9 : I (cp (6 * g + c)) 2 = 0 := by have := bi_ne h35; simpa using this
        have hne : x ≠ 6 * g + c := by rintro rfl; omega
        refine q_aload_n (pc := 38) dG_repair_38 rfl ?_
        refine q_aload_n (pc := 39) dG_repair_39 rfl ?_
        refine q_getR (f := 0) (pc := 40) dG_repair_40 lay_3 (by decide) (s_gp L g hg) (by decide) fl_G11 rfl rfl ?_
        refine q_iload_n (pc := 43) dG_repair_43 rfl ?_
        refine q_aald (i := c) (pc := 44) dG_repair_44 ⟨by decide, by decide, rfl⟩ (s_cps L g hg) rfl (by omega) (v_cps (by omega)) ?_
        refine q_callV1 (pc := 45) dG_repair_45 ((ct_C_takeAllOf hx hy hne I)) cd_C_takeAllOf in_C_takeAllOf se_C_takeAllOf ml_G47 (s_cp L x hx) (by decide) rfl rfl (Nat.le_of_ble_eq_true rfl) ⟨by decide, by decide⟩ ⟨by decide, by decide⟩ rfl ?_
        refine q_pop (pc := 48) dG_repair_48 ?_
        refine q_iinc (pc := 49) dG_repair_49 rfl (by decide) rfl ⟨by omega, by omega⟩ ?_
        refine q_goto (tgt := 20) (pc := 52) dG_repair_52 (by decide) ?_
        have e : grp g x (f + 1) c I = grp g x f (c + 1) (qtake I x (6 * g + c)) := by rw [grp, if_pos h9]
        rw [e]
        exact ih (c + 1) _ (by omega) (by rw [qtake_st]; exact hs)
def gok (I : qI) (g x : Nat) : Bool := decide (I (cp x) 2 = 2) && decide (3 ≤ qz (fun c => clv I (6 * g + c)) 6)
theorem ct_G_repair {L g x : Nat} (hg : g < 2) (hx : x < 12) (I : qI) : qT M_G_repair 2 [.inr (some (gp g)), .inr (some (cp x))] L I (rI (bi (gok I g x)) L (if gok I g x = true then q_up (grp g x 6 0 I) (cp x) 2 0 else I)) := by
  refine q_enter (by decide) (Nat.le_of_ble_eq_true rfl) ?_
  refine q_aload_n (pc := 0) dG_repair_0 rfl ?_
  refine q_getI (f := 2) (pc := 1) dG_repair_1 lay_4 (by decide) (s_cp L x hx) (by decide) fl_G40 rfl rfl ?_
  refine q_iconst (pc := 4) dG_repair_4 (by decide) ?_
  refine q_icmp_ne (tgt := 16) (pc := 5) dG_repair_5 (by decide) (fun h5 => ?_) (fun h5 => ?_)
  · refine q_iconst (pc := 16) dG_repair_16 (by decide) ?_
    refine q_zret rfl (by first | exact Or.inl rfl | exact Or.inr rfl) (pc := 17) dG_repair_17 ?_
    have e : gok I g x = false := by simp [gok, h5]
    exact ⟨by rw [e]; rfl, rfl, by rw [e]; rfl⟩
  · refine q_aload_n (pc := 8) dG_repair_8 rfl ?_
    refine q_callV1 (pc := 9) dG_repair_9 ((ct_G_liveCopies hg I)) cd_G_liveCopies in_G_liveCopies se_G_liveCopies ml_G43 (s_gp L g hg) (by decide) rfl rfl (Nat.le_of_ble_eq_true rfl) ⟨by decide, by decide⟩ ⟨by decide, by decide⟩ rfl ?_
    refine q_iconst (pc := 12) dG_repair_12 (by decide) ?_
    refine q_icmp_ge (tgt := 18) (pc := 13) dG_repair_13 (by decide) (fun h13 => ?_) (fun h13 => ?_)
    · have e : gok I g x = true := by
        unfold gok
        rw [decide_eq_true h5, decide_eq_true (by omega)]
        rfl
      rw [e]
      refine q_iconst (pc := 18) dG_repair_18 (by decide) ?_
      refine q_istore_n (pc := 19) dG_repair_19 (by decide) ?_
      exact lp_G_repair hg hx 6 0 I (by omega) h5
    · refine q_iconst (pc := 16) dG_repair_16 (by decide) ?_
      refine q_zret rfl (by first | exact Or.inl rfl | exact Or.inr rfl) (pc := 17) dG_repair_17 ?_
      have e : gok I g x = false := by
        unfold gok
        rw [decide_eq_false (p := 3 ≤ _) (by omega)]
        simp
      exact ⟨by rw [e]; rfl, rfl, by rw [e]; rfl⟩
def gdr (g m : Nat) : Nat → Nat → qI → qI
  | 0, _, I => I
  | f + 1, c, I => gdr g m f (c + 1) (qdrop I (6 * g + c) m 188)
theorem lp_G_dropAfter {L g m : Nat} (hg : g < 2) (hm : m ≤ 187) : ∀ f c I, c + f = 6 → qE M_G_dropAfter 1 2 [some (.inr (some (gp g))), some (.inl ((m : Nat) : Int)), some (.inl ((c : Nat) : Int))] [] L I (rV L (gdr g m f c I)) := by
  intro f
  induction f with
  | zero =>
    intro c I hc
    refine q_iload_n (pc := 2) dG_dropAfter_2 rfl ?_
    refine q_bipush (pc := 3) dG_dropAfter_3 (by decide) (by decide) ?_
    refine q_icmp_ge (tgt := 24) (pc := 5) dG_dropAfter_5 (by decide) (fun h5 => ?_) (fun h5 => ?_)
    · refine q_vret rfl (pc := 24) dG_dropAfter_24 ?_
      exact ⟨rfl, rfl, rfl⟩
    · omega
  | succ f ih =>
    intro c I hc
    have hy : 6 * g + c < 12 := by omega
    refine q_iload_n (pc := 2) dG_dropAfter_2 rfl ?_
    refine q_bipush (pc := 3) dG_dropAfter_3 (by decide) (by decide) ?_
    refine q_icmp_ge (tgt := 24) (pc := 5) dG_dropAfter_5 (by decide) (fun h5 => ?_) (fun h5 => ?_)
    · omega
    · refine q_aload_n (pc := 8) dG_dropAfter_8 rfl ?_
      refine q_getR (f := 0) (pc := 9) dG_dropAfter_9 lay_3 (by decide) (s_gp L g hg) (by decide) fl_G11 rfl rfl ?_
      refine q_iload_n (pc := 12) dG_dropAfter_12 rfl ?_
      refine q_aald (i := c) (pc := 13) dG_dropAfter_13 ⟨by decide, by decide, rfl⟩ (s_cps L g hg) rfl (by omega) (v_cps (by omega)) ?_
      refine q_iload_n (pc := 14) dG_dropAfter_14 rfl ?_
      refine q_callV0 (pc := 15) dG_dropAfter_15 ((ct_C_dropAfter hy hm I)) cd_C_dropAfter in_C_dropAfter se_C_dropAfter ml_G51 (s_cp L _ hy) (by decide) rfl rfl (Nat.le_of_ble_eq_true rfl) ⟨by decide, by decide⟩ ⟨by decide, by decide⟩ rfl ?_
      refine q_iinc (pc := 18) dG_dropAfter_18 rfl (by decide) rfl ⟨by omega, by omega⟩ ?_
      refine q_goto (tgt := 2) (pc := 21) dG_dropAfter_21 (by decide) ?_
      exact ih (c + 1) _ (by omega)
theorem ct_G_dropAfter {L g m : Nat} (hg : g < 2) (hm : m ≤ 187) (I : qI) : qT M_G_dropAfter 1 [.inr (some (gp g)), .inl ((m : Nat) : Int)] L I (rV L (gdr g m 6 0 I)) := by
  refine q_enter (by decide) (Nat.le_of_ble_eq_true rfl) ?_
  refine q_iconst (pc := 0) dG_dropAfter_0 (by decide) ?_
  refine q_istore_n (pc := 1) dG_dropAfter_1 (by decide) ?_
  exact lp_G_dropAfter hg hm 6 0 I (by omega)
def gfg (g : Nat) : Nat → Nat → qI → qI
  | 0, _, I => I
  | f + 1, c, I => gfg g f (c + 1) (q_up I (cp (6 * g + c)) 4 0)
theorem lp_G_forgetReports {L g : Nat} (hg : g < 2) : ∀ f c I, c + f = 6 → qE M_G_forgetReports 0 2 [some (.inr (some (gp g))), some (.inl ((c : Nat) : Int))] [] L I (rV L (gfg g f c I)) := by
  intro f
  induction f with
  | zero =>
    intro c I hc
    refine q_iload_n (pc := 2) dG_forgetReports_2 rfl ?_
    refine q_bipush (pc := 3) dG_forgetReports_3 (by decide) (by decide) ?_
    refine q_icmp_ge (tgt := 24) (pc := 5) dG_forgetReports_5 (by decide) (fun h5 => ?_) (fun h5 => ?_)
    · refine q_vret rfl (pc := 24) dG_forgetReports_24 ?_
      exact ⟨rfl, rfl, rfl⟩
    · omega
  | succ f ih =>
    intro c I hc
    have hy : 6 * g + c < 12 := by omega
    refine q_iload_n (pc := 2) dG_forgetReports_2 rfl ?_
    refine q_bipush (pc := 3) dG_forgetReports_3 (by decide) (by decide) ?_
    refine q_icmp_ge (tgt := 24) (pc := 5) dG_forgetReports_5 (by decide) (fun h5 => ?_) (fun h5 => ?_)
    · omega
    · refine q_aload_n (pc := 8) dG_forgetReports_8 rfl ?_
      refine q_getR (f := 0) (pc := 9) dG_forgetReports_9 lay_3 (by decide) (s_gp L g hg) (by decide) fl_G11 rfl rfl ?_
      refine q_iload_n (pc := 12) dG_forgetReports_12 rfl ?_
      refine q_aald (i := c) (pc := 13) dG_forgetReports_13 ⟨by decide, by decide, rfl⟩ (s_cps L g hg) rfl (by omega) (v_cps (by omega)) ?_
      refine q_iconst (pc := 14) dG_forgetReports_14 (by decide) ?_
      refine q_putI (f := 4) (pc := 15) dG_forgetReports_15 lay_4 typ_4 (by decide) (s_cp L _ hy) (by decide) fl_G32 rfl (Or.inl rfl) (Or.inl rfl) rfl ?_
      refine q_iinc (pc := 18) dG_forgetReports_18 rfl (by decide) rfl ⟨by omega, by omega⟩ ?_
      refine q_goto (tgt := 2) (pc := 21) dG_forgetReports_21 (by decide) ?_
      exact ih (c + 1) _ (by omega)
theorem ct_G_forgetReports {L g : Nat} (hg : g < 2) (I : qI) : qT M_G_forgetReports 0 [.inr (some (gp g))] L I (rV L (gfg g 6 0 I)) := by
  refine q_enter (by decide) (Nat.le_of_ble_eq_true rfl) ?_
  refine q_iconst (pc := 0) dG_forgetReports_0 (by decide) ?_
  refine q_istore_n (pc := 1) dG_forgetReports_1 (by decide) ?_
  exact lp_G_forgetReports hg 6 0 I (by omega)
def gtl (g n : Nat) : Nat → Nat → qI → qI
  | 0, _, I => I
  | f + 1, c, I => gtl g n f (c + 1) (if I (cp (6 * g + c)) 2 = 0 then q_up I (cp (6 * g + c)) 4 (crc I (6 * g + c) n : Nat) else I)
theorem lp_G_tellReaches {L g n : Nat} (hg : g < 2) (hn2 : n ≤ 187) : ∀ f c I, I 2 6 = (n : Int) → c + f = 6 → qE M_G_tellReaches 2 2 [some (.inr (some (gp g))), some (.inr (some 2)), some (.inl ((c : Nat) : Int))] [] L I (rV L (gtl g n f c I)) := by
  intro f
  induction f with
  | zero =>
    intro c I hn hc
    refine q_iload_n (pc := 2) dG_tellReaches_2 rfl ?_
    refine q_bipush (pc := 3) dG_tellReaches_3 (by decide) (by decide) ?_
    refine q_icmp_ge (tgt := 36) (pc := 5) dG_tellReaches_5 (by decide) (fun h5 => ?_) (fun h5 => ?_)
    · refine q_vret rfl (pc := 36) dG_tellReaches_36 ?_
      exact ⟨rfl, rfl, rfl⟩
    · omega
  | succ f ih =>
    intro c I hn hc
    have hy : 6 * g + c < 12 := by omega
    refine q_iload_n (pc := 2) dG_tellReaches_2 rfl ?_
    refine q_bipush (pc := 3) dG_tellReaches_3 (by decide) (by decide) ?_
    refine q_icmp_ge (tgt := 36) (pc := 5) dG_tellReaches_5 (by decide) (fun h5 => ?_) (fun h5 => ?_)
    · omega
    · refine q_aload_n (pc := 8) dG_tellReaches_8 rfl ?_
      refine q_getR (f := 0) (pc := 9) dG_tellReaches_9 lay_3 (by decide) (s_gp L g hg) (by decide) fl_G11 rfl rfl ?_
      refine q_iload_n (pc := 12) dG_tellReaches_12 rfl ?_
      refine q_aald (i := c) (pc := 13) dG_tellReaches_13 ⟨by decide, by decide, rfl⟩ (s_cps L g hg) rfl (by omega) (v_cps (by omega)) ?_
      refine q_callV1 (pc := 14) dG_tellReaches_14 ((ct_C_isLive hy I)) cd_C_isLive in_C_isLive se_C_isLive ml_G20 (s_cp L _ hy) (by decide) rfl rfl (Nat.le_of_ble_eq_true rfl) ⟨by decide, by decide⟩ ⟨by decide, by decide⟩ rfl ?_
      refine q_if_eq (tgt := 30) (pc := 17) dG_tellReaches_17 (by decide) (fun h17 => ?_) (fun h17 => ?_)
      · refine q_iinc (pc := 30) dG_tellReaches_30 rfl (by decide) rfl ⟨by omega, by omega⟩ ?_
        refine q_goto (tgt := 2) (pc := 33) dG_tellReaches_33 (by decide) ?_
        have e : gtl g n (f + 1) c I = gtl g n f (c + 1) I := by
          have := bi_eq h17
          rw [gtl, if_neg (by simpa using this)]
        rw [e]
        exact ih (c + 1) I hn (by omega)
      · refine q_aload_n (pc := 20) dG_tellReaches_20 rfl ?_
        refine q_getR (f := 0) (pc := 21) dG_tellReaches_21 lay_3 (by decide) (s_gp L g hg) (by decide) fl_G11 rfl rfl ?_
        refine q_iload_n (pc := 24) dG_tellReaches_24 rfl ?_
        refine q_aald (i := c) (pc := 25) dG_tellReaches_25 ⟨by decide, by decide, rfl⟩ (s_cps L g hg) rfl (by omega) (v_cps (by omega)) ?_
        refine q_aload_n (pc := 26) dG_tellReaches_26 rfl ?_
        refine q_callV0 (pc := 27) dG_tellReaches_27 ((ct_C_tellReach hy I hn hn2)) cd_C_tellReach in_C_tellReach se_C_tellReach ml_G54 (s_cp L _ hy) (by decide) rfl rfl (Nat.le_of_ble_eq_true rfl) ⟨by decide, by decide⟩ ⟨by decide, by decide⟩ rfl ?_
        refine q_iinc (pc := 30) dG_tellReaches_30 rfl (by decide) rfl ⟨by omega, by omega⟩ ?_
        refine q_goto (tgt := 2) (pc := 33) dG_tellReaches_33 (by decide) ?_
        have e : gtl g n (f + 1) c I = gtl g n f (c + 1) (q_up I (cp (6 * g + c)) 4 (crc I (6 * g + c) n : Nat)) := by
          have := bi_ne h17
          rw [gtl, if_pos (by simpa using this)]
        rw [e]
        have hb := cp_bd hy
        exact ih (c + 1) _ (by unfold q_up; rw [if_neg (by omega)]; exact hn) (by omega)
theorem ct_G_tellReaches {L g n : Nat} (hg : g < 2) (I : qI) (hn : I 2 6 = (n : Int)) (hn2 : n ≤ 187) : qT M_G_tellReaches 2 [.inr (some (gp g)), .inr (some 2)] L I (rV L (gtl g n 6 0 I)) := by
  refine q_enter (by decide) (Nat.le_of_ble_eq_true rfl) ?_
  refine q_iconst (pc := 0) dG_tellReaches_0 (by decide) ?_
  refine q_istore_n (pc := 1) dG_tellReaches_1 (by decide) ?_
  exact lp_G_tellReaches hg hn2 6 0 I hn (by omega)
end
section
/-! The system's own methods, first half. -/
theorem tm2 (p : Nat) : (p : Int).tmod 2 = ((p % 2 : Nat) : Int) := by
  rw [Int.tmod_eq_emod_of_nonneg (by omega)]; omega
theorem td4 (p : Nat) : (p : Int).tdiv 4 = ((p / 4 : Nat) : Int) := by
  rw [Int.tdiv_eq_ediv_of_nonneg (by omega)]; omega
theorem bi_t {b : Bool} (h : b = true) : bi b = 1 := by rw [h]; rfl
theorem bi_f {b : Bool} (h : b = false) : bi b = 0 := by rw [h]; rfl
/-- an answer and the numbers behind it -/
abbrev rP (X : Int × qI) (L : Nat) : qP := q_is (some (.inl X.1)) (S0 L) X.2
theorem rP_of {X : Int × qI} {L : Nat} {x : Int} {I : qI} (h : X = (x, I)) : rP X L (some (.inl x)) (S0 L) I := by rw [h]; exact ⟨rfl, rfl, rfl⟩
def qrt (I : qI) (t : Int) : Int := if I 1 5 = 0 then -2 else if tac I t = true then 0 else -3
theorem ct_Q_refusalOfTransaction {L T : Nat} (t : Int) (I : qI) (hT : I 9 2 = (T : Int)) (hT2 : T ≤ 60) : qT M_Q_refusalOfTransaction 1 [.inr (some 1), .inl t] L I (rI (qrt I t) L I) := by
  refine q_enter (by decide) (Nat.le_of_ble_eq_true rfl) ?_
  refine q_aload_n (pc := 0) dQ_refusalOfTransaction_0 rfl ?_
  refine q_getI (f := 5) (pc := 1) dQ_refusalOfTransaction_1 lay_0 (by decide) rfl (by decide) fl_Q43 rfl rfl ?_
  refine q_if_ne (tgt := 10) (pc := 4) dQ_refusalOfTransaction_4 (by decide) (fun h4 => ?_) (fun h4 => ?_)
  · refine q_aload_n (pc := 10) dQ_refusalOfTransaction_10 rfl ?_
    refine q_getR (f := 1) (pc := 11) dQ_refusalOfTransaction_11 lay_0 (by decide) rfl (by decide) fl_Q19 rfl rfl ?_
    refine q_iload_n (pc := 14) dQ_refusalOfTransaction_14 rfl ?_
    refine q_callV1 (pc := 15) dQ_refusalOfTransaction_15 ((ct_T_isActive t I hT hT2)) cd_T_isActive in_T_isActive se_T_isActive ml_Q108 rfl (by decide) rfl rfl (Nat.le_of_ble_eq_true rfl) ⟨by decide, by decide⟩ ⟨by decide, by decide⟩ rfl ?_
    refine q_if_eq (tgt := 25) (pc := 18) dQ_refusalOfTransaction_18 (by decide) (fun h18 => ?_) (fun h18 => ?_)
    · refine q_bipush (pc := 25) dQ_refusalOfTransaction_25 (by decide) (by decide) ?_
      refine q_iret rfl (pc := 27) dQ_refusalOfTransaction_27 ?_
      exact ⟨by unfold qrt; rw [if_neg h4, if_neg (by rw [bi_eq h18]; decide)], rfl, rfl⟩
    · refine q_iconst (pc := 21) dQ_refusalOfTransaction_21 (by decide) ?_
      refine q_goto (tgt := 27) (pc := 22) dQ_refusalOfTransaction_22 (by decide) ?_
      refine q_iret rfl (pc := 27) dQ_refusalOfTransaction_27 ?_
      exact ⟨by unfold qrt; rw [if_neg h4, if_pos (bi_ne h18)], rfl, rfl⟩
  · refine q_bipush (pc := 7) dQ_refusalOfTransaction_7 (by decide) (by decide) ?_
    refine q_iret rfl (pc := 9) dQ_refusalOfTransaction_9 ?_
    exact ⟨by unfold qrt; rw [if_pos h4], rfl, rfl⟩
def may (I : qI) (t : Int) (k : Nat) : Bool := decide (I 11 k = 0 ∨ I 11 k = t)
def qrk (I : qI) (t : Int) (a b : Nat) : Int := if qrt I t = 0 then (if may I t a = true ∧ may I t b = true then 0 else -4) else qrt I t
theorem ct_Q_refusalOfKeys {L T a b : Nat} (t : Int) (I : qI) (hT : I 9 2 = (T : Int)) (hT2 : T ≤ 60) (ha : a < 32) (hb : b < 32) : qT M_Q_refusalOfKeys 2 [.inr (some 1), .inl t, .inl ((a : Nat) : Int), .inl ((b : Nat) : Int)] L I (rI (qrk I t a b) L I) := by
  refine q_enter (by decide) (Nat.le_of_ble_eq_true rfl) ?_
  refine q_aload_n (pc := 0) dQ_refusalOfKeys_0 rfl ?_
  refine q_iload_n (pc := 1) dQ_refusalOfKeys_1 rfl ?_
  refine q_callV1 (pc := 2) dQ_refusalOfKeys_2 ((ct_Q_refusalOfTransaction t I hT hT2)) cd_Q_refusalOfTransaction in_Q_refusalOfTransaction se_Q_refusalOfTransaction ml_Q92 rfl (by decide) rfl rfl (Nat.le_of_ble_eq_true rfl) ⟨by decide, by decide⟩ ⟨by decide, by decide⟩ rfl ?_
  refine q_istore (pc := 5) dQ_refusalOfKeys_5 (by decide) ?_
  refine q_iload (pc := 7) dQ_refusalOfKeys_7 rfl ?_
  refine q_if_eq (tgt := 15) (pc := 9) dQ_refusalOfKeys_9 (by decide) (fun h9 => ?_) (fun h9 => ?_)
  · refine q_aload_n (pc := 15) dQ_refusalOfKeys_15 rfl ?_
    refine q_getR (f := 1) (pc := 16) dQ_refusalOfKeys_16 lay_0 (by decide) rfl (by decide) fl_Q19 rfl rfl ?_
    refine q_iload_n (pc := 19) dQ_refusalOfKeys_19 rfl ?_
    refine q_iload_n (pc := 20) dQ_refusalOfKeys_20 rfl ?_
    refine q_callV1 (pc := 21) dQ_refusalOfKeys_21 ((ct_T_mayHold t I ha)) cd_T_mayHold in_T_mayHold se_T_mayHold ml_Q236 rfl (by decide) rfl rfl (Nat.le_of_ble_eq_true rfl) ⟨by decide, by decide⟩ ⟨by decide, by decide⟩ rfl ?_
    refine q_if_eq (tgt := 43) (pc := 24) dQ_refusalOfKeys_24 (by decide) (fun h24 => ?_) (fun h24 => ?_)
    · refine q_bipush (pc := 43) dQ_refusalOfKeys_43 (by decide) (by decide) ?_
      refine q_iret rfl (pc := 45) dQ_refusalOfKeys_45 ?_
      exact ⟨by unfold qrk; rw [if_pos h9, if_neg (by have : may I t a = false := bi_eq h24; simp [this])], rfl, rfl⟩
    · refine q_aload_n (pc := 27) dQ_refusalOfKeys_27 rfl ?_
      refine q_getR (f := 1) (pc := 28) dQ_refusalOfKeys_28 lay_0 (by decide) rfl (by decide) fl_Q19 rfl rfl ?_
      refine q_iload_n (pc := 31) dQ_refusalOfKeys_31 rfl ?_
      refine q_iload_n (pc := 32) dQ_refusalOfKeys_32 rfl ?_
      refine q_callV1 (pc := 33) dQ_refusalOfKeys_33 ((ct_T_mayHold t I hb)) cd_T_mayHold in_T_mayHold se_T_mayHold ml_Q236 rfl (by decide) rfl rfl (Nat.le_of_ble_eq_true rfl) ⟨by decide, by decide⟩ ⟨by decide, by decide⟩ rfl ?_
      refine q_if_eq (tgt := 43) (pc := 36) dQ_refusalOfKeys_36 (by decide) (fun h36 => ?_) (fun h36 => ?_)
      · refine q_bipush (pc := 43) dQ_refusalOfKeys_43 (by decide) (by decide) ?_
        refine q_iret rfl (pc := 45) dQ_refusalOfKeys_45 ?_
        exact ⟨by unfold qrk; rw [if_pos h9, if_neg (by have : may I t b = false := bi_eq h36; simp [this])], rfl, rfl⟩
      · refine q_iconst (pc := 39) dQ_refusalOfKeys_39 (by decide) ?_
        refine q_goto (tgt := 45) (pc := 40) dQ_refusalOfKeys_40 (by decide) ?_
        refine q_iret rfl (pc := 45) dQ_refusalOfKeys_45 ?_
        exact ⟨by unfold qrk; rw [if_pos h9, if_pos ⟨bi_ne h24, bi_ne h36⟩], rfl, rfl⟩
  · refine q_iload (pc := 12) dQ_refusalOfKeys_12 rfl ?_
    refine q_iret rfl (pc := 14) dQ_refusalOfKeys_14 ?_
    exact ⟨by unfold qrk; rw [if_neg h9], rfl, rfl⟩
def qrc (I : qI) (t : Int) (a b : Nat) : Int := if qrk I t a b = 0 then (if I 2 6 < 150 then 0 else -5) else qrk I t a b
theorem ct_Q_refusalOfChanges {L T a b : Nat} (t : Int) (I : qI) (hT : I 9 2 = (T : Int)) (hT2 : T ≤ 60) (ha : a < 32) (hb : b < 32) : qT M_Q_refusalOfChanges 3 [.inr (some 1), .inl t, .inl ((a : Nat) : Int), .inl ((b : Nat) : Int)] L I (rI (qrc I t a b) L I) := by
  refine q_enter (by decide) (Nat.le_of_ble_eq_true rfl) ?_
  refine q_aload_n (pc := 0) dQ_refusalOfChanges_0 rfl ?_
  refine q_iload_n (pc := 1) dQ_refusalOfChanges_1 rfl ?_
  refine q_iload_n (pc := 2) dQ_refusalOfChanges_2 rfl ?_
  refine q_iload_n (pc := 3) dQ_refusalOfChanges_3 rfl ?_
  refine q_callV1 (pc := 4) dQ_refusalOfChanges_4 ((ct_Q_refusalOfKeys t I hT hT2 ha hb)) cd_Q_refusalOfKeys in_Q_refusalOfKeys se_Q_refusalOfKeys ml_Q66 rfl (by decide) rfl rfl (Nat.le_of_ble_eq_true rfl) ⟨by decide, by decide⟩ ⟨by decide, by decide⟩ rfl ?_
  refine q_istore (pc := 7) dQ_refusalOfChanges_7 (by decide) ?_
  refine q_iload (pc := 9) dQ_refusalOfChanges_9 rfl ?_
  refine q_if_eq (tgt := 17) (pc := 11) dQ_refusalOfChanges_11 (by decide) (fun h11 => ?_) (fun h11 => ?_)
  · refine q_aload_n (pc := 17) dQ_refusalOfChanges_17 rfl ?_
    refine q_getR (f := 0) (pc := 18) dQ_refusalOfChanges_18 lay_0 (by decide) rfl (by decide) fl_Q10 rfl rfl ?_
    refine q_getI (f := 6) (pc := 21) dQ_refusalOfChanges_21 lay_1 (by decide) rfl (by decide) fl_Q55 rfl rfl ?_
    refine q_sipush (pc := 24) dQ_refusalOfChanges_24 (by decide) (by decide) ?_
    refine q_icmp_lt (tgt := 35) (pc := 27) dQ_refusalOfChanges_27 (by decide) (fun h27 => ?_) (fun h27 => ?_)
    · refine q_iconst (pc := 35) dQ_refusalOfChanges_35 (by decide) ?_
      refine q_iret rfl (pc := 36) dQ_refusalOfChanges_36 ?_
      exact ⟨by unfold qrc; rw [if_pos h11, if_pos h27], rfl, rfl⟩
    · refine q_bipush (pc := 30) dQ_refusalOfChanges_30 (by decide) (by decide) ?_
      refine q_goto (tgt := 36) (pc := 32) dQ_refusalOfChanges_32 (by decide) ?_
      refine q_iret rfl (pc := 36) dQ_refusalOfChanges_36 ?_
      exact ⟨by unfold qrc; rw [if_pos h11, if_neg h27], rfl, rfl⟩
  · refine q_iload (pc := 14) dQ_refusalOfChanges_14 rfl ?_
    refine q_iret rfl (pc := 16) dQ_refusalOfChanges_16 ?_
    exact ⟨by unfold qrc; rw [if_neg h11], rfl, rfl⟩
def isC (g c : Int) : Prop := 0 ≤ g ∧ g < 2 ∧ 0 ≤ c ∧ c < 6
theorem isC_nat {g c : Int} (h : isC g c) : ∃ a b : Nat, a < 2 ∧ b < 6 ∧ g = (a : Int) ∧ c = (b : Int) := by
  obtain ⟨h1, h2, h3, h4⟩ := h
  exact ⟨g.toNat, c.toNat, by omega, by omega, by omega, by omega⟩
/-- why a copy's call is refused, for a copy that is there -/
def qcr (I : qI) (x : Nat) : Int := if I 1 5 = 0 then -2 else if I (cp x) 2 = 0 then 0 else -7
theorem ct_Q_refusalOfCopy0 {L : Nat} {g c : Int} (I : qI) (h : ¬ isC g c) : qT M_Q_refusalOfCopy 1 [.inr (some 1), .inl g, .inl c] L I (rI (-1) L I) := by
  refine q_enter (by decide) (Nat.le_of_ble_eq_true rfl) ?_
  refine q_iload_n (pc := 0) dQ_refusalOfCopy_0 rfl ?_
  refine q_iload_n (pc := 1) dQ_refusalOfCopy_1 rfl ?_
  refine q_callS1 (pc := 2) dQ_refusalOfCopy_2 ((ct_Q_isCopy g c I)) cd_Q_isCopy st_Q_isCopy ml_Q142 rfl (Nat.le_of_ble_eq_true rfl) ⟨by decide, by decide⟩ ⟨by decide, by decide⟩ rfl ?_
  refine q_if_ne (tgt := 10) (pc := 5) dQ_refusalOfCopy_5 (by decide) (fun h5 => ?_) (fun h5 => ?_)
  · exact absurd (of_decide_eq_true (bi_ne h5)) h
  · refine q_iconst (pc := 8) dQ_refusalOfCopy_8 (by decide) ?_
    refine q_iret rfl (pc := 9) dQ_refusalOfCopy_9 ?_
    exact ⟨rfl, rfl, rfl⟩
theorem ct_Q_refusalOfCopy {L g c : Nat} (I : qI) (hg : g < 2) (hc : c < 6) : qT M_Q_refusalOfCopy 1 [.inr (some 1), .inl ((g : Nat) : Int), .inl ((c : Nat) : Int)] L I (rI (qcr I (6 * g + c)) L I) := by
  refine q_enter (by decide) (Nat.le_of_ble_eq_true rfl) ?_
  have hx : 6 * g + c < 12 := by omega
  refine q_iload_n (pc := 0) dQ_refusalOfCopy_0 rfl ?_
  refine q_iload_n (pc := 1) dQ_refusalOfCopy_1 rfl ?_
  refine q_callS1 (pc := 2) dQ_refusalOfCopy_2 ((ct_Q_isCopy g c I)) cd_Q_isCopy st_Q_isCopy ml_Q142 rfl (Nat.le_of_ble_eq_true rfl) ⟨by decide, by decide⟩ ⟨by decide, by decide⟩ rfl ?_
  refine q_if_ne (tgt := 10) (pc := 5) dQ_refusalOfCopy_5 (by decide) (fun h5 => ?_) (fun h5 => ?_)
  · refine q_aload_n (pc := 10) dQ_refusalOfCopy_10 rfl ?_
    refine q_getI (f := 5) (pc := 11) dQ_refusalOfCopy_11 lay_0 (by decide) rfl (by decide) fl_Q43 rfl rfl ?_
    refine q_if_ne (tgt := 20) (pc := 14) dQ_refusalOfCopy_14 (by decide) (fun h14 => ?_) (fun h14 => ?_)
    · refine q_aload_n (pc := 20) dQ_refusalOfCopy_20 rfl ?_
      refine q_getR (f := 2) (pc := 21) dQ_refusalOfCopy_21 lay_0 (by decide) rfl (by decide) fl_Q25 rfl rfl ?_
      refine q_iload_n (pc := 24) dQ_refusalOfCopy_24 rfl ?_
      refine q_aald (i := g) (pc := 25) dQ_refusalOfCopy_25 ⟨by decide, by decide, rfl⟩ (s_gs L) rfl (by omega) (v_gs g hg) ?_
      refine q_getR (f := 0) (pc := 26) dQ_refusalOfCopy_26 lay_3 (by decide) (s_gp L g hg) (by decide) fl_Q123 rfl rfl ?_
      refine q_iload_n (pc := 29) dQ_refusalOfCopy_29 rfl ?_
      refine q_aald (i := c) (pc := 30) dQ_refusalOfCopy_30 ⟨by decide, by decide, rfl⟩ (s_cps L g hg) rfl (by omega) (v_cps hc) ?_
      refine q_callV1 (pc := 31) dQ_refusalOfCopy_31 ((ct_C_isLive hx I)) cd_C_isLive in_C_isLive se_C_isLive ml_Q127 (s_cp L _ hx) (by decide) rfl rfl (Nat.le_of_ble_eq_true rfl) ⟨by decide, by decide⟩ ⟨by decide, by decide⟩ rfl ?_
      refine q_if_eq (tgt := 41) (pc := 34) dQ_refusalOfCopy_34 (by decide) (fun h34 => ?_) (fun h34 => ?_)
      · refine q_bipush (pc := 41) dQ_refusalOfCopy_41 (by decide) (by decide) ?_
        refine q_iret rfl (pc := 43) dQ_refusalOfCopy_43 ?_
        exact ⟨by unfold qcr; rw [if_neg h14, if_neg (by have := bi_eq h34; simpa using this)], rfl, rfl⟩
      · refine q_iconst (pc := 37) dQ_refusalOfCopy_37 (by decide) ?_
        refine q_goto (tgt := 43) (pc := 38) dQ_refusalOfCopy_38 (by decide) ?_
        refine q_iret rfl (pc := 43) dQ_refusalOfCopy_43 ?_
        exact ⟨by unfold qcr; rw [if_neg h14, if_pos (by have := bi_ne h34; simpa using this)], rfl, rfl⟩
    · refine q_bipush (pc := 17) dQ_refusalOfCopy_17 (by decide) (by decide) ?_
      refine q_iret rfl (pc := 19) dQ_refusalOfCopy_19 ?_
      exact ⟨by unfold qcr; rw [if_pos h14], rfl, rfl⟩
  · have := bi_eq h5
    rw [decide_eq_false_iff_not] at this
    omega
theorem ct_Q_isAheadOfDurable {L n : Nat} (p : Int) (I : qI) (hn : I 2 6 = (n : Int)) (hn2 : n ≤ 187) : qT M_Q_isAheadOfDurable 2 [.inr (some 1), .inl p] L I (rI (bi (decide (I 1 6 < (ql (llt I p) n : Int)))) L I) := by
  refine q_enter (by decide) (Nat.le_of_ble_eq_true rfl) ?_
  refine q_aload_n (pc := 0) dQ_isAheadOfDurable_0 rfl ?_
  refine q_getR (f := 0) (pc := 1) dQ_isAheadOfDurable_1 lay_0 (by decide) rfl (by decide) fl_Q10 rfl rfl ?_
  refine q_iload_n (pc := 4) dQ_isAheadOfDurable_4 rfl ?_
  refine q_callV1 (pc := 5) dQ_isAheadOfDurable_5 ((ct_L_latestOf p I hn hn2)) cd_L_latestOf in_L_latestOf se_L_latestOf ml_Q258 rfl (by decide) rfl rfl (Nat.le_of_ble_eq_true rfl) ⟨by decide, by decide⟩ ⟨by decide, by decide⟩ rfl ?_
  refine q_aload_n (pc := 8) dQ_isAheadOfDurable_8 rfl ?_
  refine q_getI (f := 6) (pc := 9) dQ_isAheadOfDurable_9 lay_0 (by decide) rfl (by decide) fl_Q47 rfl rfl ?_
  refine q_icmp_le (tgt := 19) (pc := 12) dQ_isAheadOfDurable_12 (by decide) (fun h12 => ?_) (fun h12 => ?_)
  · refine q_iconst (pc := 19) dQ_isAheadOfDurable_19 (by decide) ?_
    refine q_zret rfl (by first | exact Or.inl rfl | exact Or.inr rfl) (pc := 20) dQ_isAheadOfDurable_20 ?_
    exact ⟨by rw [decide_eq_false (by omega)]; rfl, rfl, rfl⟩
  · refine q_iconst (pc := 15) dQ_isAheadOfDurable_15 (by decide) ?_
    refine q_goto (tgt := 20) (pc := 16) dQ_isAheadOfDurable_16 (by decide) ?_
    refine q_zret rfl (by first | exact Or.inl rfl | exact Or.inr rfl) (pc := 20) dQ_isAheadOfDurable_20 ?_
    exact ⟨by rw [decide_eq_true (by omega)]; rfl, rfl, rfl⟩
/-- the page that may go, f pages from i on -/
def pmg (I : qI) (n : Nat) (o : Int) : Nat → Nat → Int
  | 0, _ => -1
  | f + 1, i => if ¬ I 42 i = o ∧ ¬ I 1 6 < (ql (llt I (I 42 i)) n : Int) then I 42 i else pmg I n o f (i + 1)
theorem lp_Q_pageThatMayGo {L n k : Nat} (o : Int) (I : qI) (hn : I 2 6 = (n : Int)) (hn2 : n ≤ 187) (hk : I 41 1 = (k : Int)) (hk2 : k ≤ 4) : ∀ f i z, i + f = k → qE M_Q_pageThatMayGo 3 2 [some (.inr (some 1)), some (.inl o), some (.inl ((i : Nat) : Int)), z] [] L I (rI (pmg I n o f i) L I) := by
  intro f
  induction f with
  | zero =>
    intro i z hi
    refine q_iload_n (pc := 2) dQ_pageThatMayGo_2 rfl ?_
    refine q_aload_n (pc := 3) dQ_pageThatMayGo_3 rfl ?_
    refine q_getR (f := 3) (pc := 4) dQ_pageThatMayGo_4 lay_0 (by decide) rfl (by decide) fl_Q35 rfl rfl ?_
    refine q_getI (f := 1) (pc := 7) dQ_pageThatMayGo_7 lay_5 (by decide) rfl (by decide) fl_Q252 rfl rfl ?_
    refine q_icmp_ge (tgt := 44) (pc := 10) dQ_pageThatMayGo_10 (by decide) (fun h10 => ?_) (fun h10 => ?_)
    · refine q_iconst (pc := 44) dQ_pageThatMayGo_44 (by decide) ?_
      refine q_iret rfl (pc := 45) dQ_pageThatMayGo_45 ?_
      exact ⟨rfl, rfl, rfl⟩
    · omega
  | succ f ih =>
    intro i z hi
    refine q_iload_n (pc := 2) dQ_pageThatMayGo_2 rfl ?_
    refine q_aload_n (pc := 3) dQ_pageThatMayGo_3 rfl ?_
    refine q_getR (f := 3) (pc := 4) dQ_pageThatMayGo_4 lay_0 (by decide) rfl (by decide) fl_Q35 rfl rfl ?_
    refine q_getI (f := 1) (pc := 7) dQ_pageThatMayGo_7 lay_5 (by decide) rfl (by decide) fl_Q252 rfl rfl ?_
    refine q_icmp_ge (tgt := 44) (pc := 10) dQ_pageThatMayGo_10 (by decide) (fun h10 => ?_) (fun h10 => ?_)
    · omega
    · refine q_aload_n (pc := 13) dQ_pageThatMayGo_13 rfl ?_
      refine q_getR (f := 3) (pc := 14) dQ_pageThatMayGo_14 lay_0 (by decide) rfl (by decide) fl_Q35 rfl rfl ?_
      refine q_getR (f := 0) (pc := 17) dQ_pageThatMayGo_17 lay_5 (by decide) rfl (by decide) fl_Q255 rfl rfl ?_
      refine q_iload_n (pc := 20) dQ_pageThatMayGo_20 rfl ?_
      refine q_iald (i := i) (pc := 21) dQ_pageThatMayGo_21 rfl rfl (by omega) rfl ?_
      refine q_istore_n (pc := 22) dQ_pageThatMayGo_22 (by decide) ?_
      refine q_iload_n (pc := 23) dQ_pageThatMayGo_23 rfl ?_
      refine q_iload_n (pc := 24) dQ_pageThatMayGo_24 rfl ?_
      refine q_icmp_eq (tgt := 38) (pc := 25) dQ_pageThatMayGo_25 (by decide) (fun h25 => ?_) (fun h25 => ?_)
      · refine q_iinc (pc := 38) dQ_pageThatMayGo_38 rfl (by decide) rfl ⟨by omega, by omega⟩ ?_
        refine q_goto (tgt := 2) (pc := 41) dQ_pageThatMayGo_41 (by decide) ?_
        have e : pmg I n o (f + 1) i = pmg I n o f (i + 1) := by rw [pmg, if_neg (by simp [h25])]
        rw [e]
        exact ih (i + 1) _ (by omega)
      · refine q_aload_n (pc := 28) dQ_pageThatMayGo_28 rfl ?_
        refine q_iload_n (pc := 29) dQ_pageThatMayGo_29 rfl ?_
        refine q_callV1 (pc := 30) dQ_pageThatMayGo_30 ((ct_Q_isAheadOfDurable _ I hn hn2)) cd_Q_isAheadOfDurable in_Q_isAheadOfDurable se_Q_isAheadOfDurable ml_Q248 rfl (by decide) rfl rfl (Nat.le_of_ble_eq_true rfl) ⟨by decide, by decide⟩ ⟨by decide, by decide⟩ rfl ?_
        refine q_if_ne (tgt := 38) (pc := 33) dQ_pageThatMayGo_33 (by decide) (fun h33 => ?_) (fun h33 => ?_)
        · refine q_iinc (pc := 38) dQ_pageThatMayGo_38 rfl (by decide) rfl ⟨by omega, by omega⟩ ?_
          refine q_goto (tgt := 2) (pc := 41) dQ_pageThatMayGo_41 (by decide) ?_
          have e : pmg I n o (f + 1) i = pmg I n o f (i + 1) := by
            have := of_decide_eq_true (bi_ne h33)
            rw [pmg, if_neg (fun h => h.2 this)]
          rw [e]
          exact ih (i + 1) _ (by omega)
        · refine q_iload_n (pc := 36) dQ_pageThatMayGo_36 rfl ?_
          refine q_iret rfl (pc := 37) dQ_pageThatMayGo_37 ?_
          exact ⟨by have := of_decide_eq_false (bi_eq h33); rw [pmg, if_pos ⟨h25, this⟩], rfl, rfl⟩
theorem ct_Q_pageThatMayGo {L n k : Nat} (o : Int) (I : qI) (hn : I 2 6 = (n : Int)) (hn2 : n ≤ 187) (hk : I 41 1 = (k : Int)) (hk2 : k ≤ 4) : qT M_Q_pageThatMayGo 3 [.inr (some 1), .inl o] L I (rI (pmg I n o k 0) L I) := by
  refine q_enter (by decide) (Nat.le_of_ble_eq_true rfl) ?_
  refine q_iconst (pc := 0) dQ_pageThatMayGo_0 (by decide) ?_
  refine q_istore_n (pc := 1) dQ_pageThatMayGo_1 (by decide) ?_
  exact lp_Q_pageThatMayGo o I hn hn2 hk hk2 k 0 _ (by omega)
theorem hrm_le (p : Int) : ∀ f i w I, (hrm p f i w I).2 ≤ w + f
  | 0, i, w, I => Nat.le_refl _
  | f + 1, i, w, I => by
    rw [hrm]
    split
    · have := hrm_le p f (i + 1) w I; omega
    · have := hrm_le p f (i + 1) (w + 1) (q_up I 42 w (I 42 i)); omega
theorem hrm_off (p : Int) : ∀ f i w I a, a ≠ 42 → (hrm p f i w I).1 a = I a
  | 0, i, w, I, a, h => rfl
  | f + 1, i, w, I, a, h => by
    rw [hrm]
    split
    · exact hrm_off p f (i + 1) w I a h
    · rw [hrm_off p f (i + 1) (w + 1) _ a h, q_up_off a h]
theorem hrem_off {I : qI} {k a : Nat} {p : Int} (h1 : a ≠ 42) (h2 : a ≠ 41) : hrem I k p a = I a := by
  unfold hrem
  rw [q_up_off a h2, hrm_off p k 0 0 I a h1]
theorem hrem_k {I : qI} {k : Nat} {p : Int} : hrem I k p 41 1 = ((hrm p k 0 0 I).2 : Int) := by simp [hrem, q_up]
/-- a page is touched: the answer, and the cache behind it -/
def qtch (I : qI) (n k d p : Nat) (o : Int) : Int × qI :=
  if 0 < hrk I p k 0 then (0, happ (hrem I k p) (hrm p k 0 0 I).2 p)
  else if (d : Int) < (ql (llt I p) n : Int) ∨ (k = 4 ∧ pmg I n o k 0 = -1) then (-6, I)
  else if qe (gsv I (p % 2) d) 6 = false then (-7, I)
  else if k = 4 then (0, happ (hrem I k (pmg I n o k 0)) (hrm (pmg I n o k 0) k 0 0 I).2 p)
  else (0, happ I k p)
theorem ct_Q_touch {L n k d p : Nat} (o : Int) (I : qI) (hn : I 2 6 = (n : Int)) (hn2 : n ≤ 187) (hk : I 41 1 = (k : Int)) (hk2 : k ≤ 4) (hd : I 1 6 = (d : Int)) (hd2 : d ≤ 187) : qT M_Q_touch 4 [.inr (some 1), .inl ((p : Nat) : Int), .inl o] L I (rP (qtch I n k d p o) L) := by
  refine q_enter (by decide) (Nat.le_of_ble_eq_true rfl) ?_
  have hle := fun q : Int => hrm_le q k 0 0 I
  have hg : p % 2 < 2 := by omega
  refine q_aload_n (pc := 0) dQ_touch_0 rfl ?_
  refine q_getR (f := 3) (pc := 1) dQ_touch_1 lay_0 (by decide) rfl (by decide) fl_Q35 rfl rfl ?_
  refine q_iload_n (pc := 4) dQ_touch_4 rfl ?_
  refine q_callV1 (pc := 5) dQ_touch_5 ((ct_H_rankOf p I hk hk2)) cd_H_rankOf in_H_rankOf se_H_rankOf ml_Q233 rfl (by decide) rfl rfl (Nat.le_of_ble_eq_true rfl) ⟨by decide, by decide⟩ ⟨by decide, by decide⟩ rfl ?_
  refine q_if_le (tgt := 29) (pc := 8) dQ_touch_8 (by decide) (fun h8 => ?_) (fun h8 => ?_)
  · refine q_aload_n (pc := 29) dQ_touch_29 rfl ?_
    refine q_iload_n (pc := 30) dQ_touch_30 rfl ?_
    refine q_callV1 (pc := 31) dQ_touch_31 ((ct_Q_pageThatMayGo o I hn hn2 hk hk2)) cd_Q_pageThatMayGo in_Q_pageThatMayGo se_Q_pageThatMayGo ml_Q245 rfl (by decide) rfl rfl (Nat.le_of_ble_eq_true rfl) ⟨by decide, by decide⟩ ⟨by decide, by decide⟩ rfl ?_
    refine q_istore_n (pc := 34) dQ_touch_34 (by decide) ?_
    refine q_aload_n (pc := 35) dQ_touch_35 rfl ?_
    refine q_iload_n (pc := 36) dQ_touch_36 rfl ?_
    refine q_callV1 (pc := 37) dQ_touch_37 ((ct_Q_isAheadOfDurable p I hn hn2)) cd_Q_isAheadOfDurable in_Q_isAheadOfDurable se_Q_isAheadOfDurable ml_Q248 rfl (by decide) rfl rfl (Nat.le_of_ble_eq_true rfl) ⟨by decide, by decide⟩ ⟨by decide, by decide⟩ rfl ?_
    refine q_if_ne (tgt := 58) (pc := 40) dQ_touch_40 (by decide) (fun h40 => ?_) (fun h40 => ?_)
    · refine q_bipush (pc := 58) dQ_touch_58 (by decide) (by decide) ?_
      refine q_iret rfl (pc := 60) dQ_touch_60 ?_
      refine rP_of ?_
      have := of_decide_eq_true (bi_ne h40)
      unfold qtch
      rw [if_neg (by omega), if_pos (Or.inl (by omega))]
    · have h40' := of_decide_eq_false (bi_eq h40)
      refine q_aload_n (pc := 43) dQ_touch_43 rfl ?_
      refine q_getR (f := 3) (pc := 44) dQ_touch_44 lay_0 (by decide) rfl (by decide) fl_Q35 rfl rfl ?_
      refine q_callV1 (pc := 47) dQ_touch_47 ((ct_H_isFull I)) cd_H_isFull in_H_isFull se_H_isFull ml_Q251 rfl (by decide) rfl rfl (Nat.le_of_ble_eq_true rfl) ⟨by decide, by decide⟩ ⟨by decide, by decide⟩ rfl ?_
      refine q_if_eq (tgt := 61) (pc := 50) dQ_touch_50 (by decide) (fun h50 => ?_) (fun h50 => ?_)
      · have h50' := of_decide_eq_false (bi_eq h50)
        refine q_aload_n (pc := 61) dQ_touch_61 rfl ?_
        refine q_getR (f := 2) (pc := 62) dQ_touch_62 lay_0 (by decide) rfl (by decide) fl_Q25 rfl rfl ?_
        refine q_iload_n (pc := 65) dQ_touch_65 rfl ?_
        refine q_callS1 (pc := 66) dQ_touch_66 ((ct_Q_groupOfPage _ I)) cd_Q_groupOfPage st_Q_groupOfPage ml_Q212 rfl (Nat.le_of_ble_eq_true rfl) ⟨by decide, by decide⟩ ⟨by decide, by decide⟩ rfl ?_
        rw [tm2]
        refine q_aald (i := (p % 2)) (pc := 69) dQ_touch_69 ⟨by decide, by decide, rfl⟩ (s_gs L) rfl (by omega) (v_gs _ hg) ?_
        refine q_aload_n (pc := 70) dQ_touch_70 rfl ?_
        refine q_getI (f := 6) (pc := 71) dQ_touch_71 lay_0 (by decide) rfl (by decide) fl_Q47 rfl rfl ?_
        refine q_aload_n (pc := 74) dQ_touch_74 rfl ?_
        refine q_getR (f := 0) (pc := 75) dQ_touch_75 lay_0 (by decide) rfl (by decide) fl_Q10 rfl rfl ?_
        rw [hd]
        refine q_callV1 (pc := 78) dQ_touch_78 ((ct_G_serves hg hd2 I)) cd_G_serves in_G_serves se_G_serves ml_Q215 (s_gp L _ hg) (by decide) rfl rfl (Nat.le_of_ble_eq_true rfl) ⟨by decide, by decide⟩ ⟨by decide, by decide⟩ rfl ?_
        refine q_if_ne (tgt := 87) (pc := 81) dQ_touch_81 (by decide) (fun h81 => ?_) (fun h81 => ?_)
        · refine q_aload_n (pc := 87) dQ_touch_87 rfl ?_
          refine q_getR (f := 3) (pc := 88) dQ_touch_88 lay_0 (by decide) rfl (by decide) fl_Q35 rfl rfl ?_
          refine q_callV1 (pc := 91) dQ_touch_91 ((ct_H_isFull I)) cd_H_isFull in_H_isFull se_H_isFull ml_Q251 rfl (by decide) rfl rfl (Nat.le_of_ble_eq_true rfl) ⟨by decide, by decide⟩ ⟨by decide, by decide⟩ rfl ?_
          refine q_if_eq (tgt := 105) (pc := 94) dQ_touch_94 (by decide) (fun h94 => ?_) (fun h94 => ?_)
          · refine q_aload_n (pc := 105) dQ_touch_105 rfl ?_
            refine q_getR (f := 3) (pc := 106) dQ_touch_106 lay_0 (by decide) rfl (by decide) fl_Q35 rfl rfl ?_
            refine q_iload_n (pc := 109) dQ_touch_109 rfl ?_
            refine q_callV0 (pc := 110) dQ_touch_110 ((ct_H_append p I hk hk2)) cd_H_append in_H_append se_H_append ml_Q242 rfl (by decide) rfl rfl (Nat.le_of_ble_eq_true rfl) ⟨by decide, by decide⟩ ⟨by decide, by decide⟩ rfl ?_
            refine q_iconst (pc := 113) dQ_touch_113 (by decide) ?_
            refine q_iret rfl (pc := 114) dQ_touch_114 ?_
            refine rP_of ?_
            unfold qtch
            rw [if_neg (by omega), if_neg (by omega), if_neg (by rw [bi_ne h81]; decide), if_neg (by omega)]
          · exact absurd (of_decide_eq_true (bi_ne h94)) h50'
        · refine q_bipush (pc := 84) dQ_touch_84 (by decide) (by decide) ?_
          refine q_iret rfl (pc := 86) dQ_touch_86 ?_
          refine rP_of ?_
          unfold qtch
          rw [if_neg (by omega), if_neg (by omega), if_pos (bi_eq h81)]
      · have h50' := of_decide_eq_true (bi_ne h50)
        refine q_iload_n (pc := 53) dQ_touch_53 rfl ?_
        refine q_iconst (pc := 54) dQ_touch_54 (by decide) ?_
        refine q_icmp_ne (tgt := 61) (pc := 55) dQ_touch_55 (by decide) (fun h55 => ?_) (fun h55 => ?_)
        · refine q_aload_n (pc := 61) dQ_touch_61 rfl ?_
          refine q_getR (f := 2) (pc := 62) dQ_touch_62 lay_0 (by decide) rfl (by decide) fl_Q25 rfl rfl ?_
          refine q_iload_n (pc := 65) dQ_touch_65 rfl ?_
          refine q_callS1 (pc := 66) dQ_touch_66 ((ct_Q_groupOfPage _ I)) cd_Q_groupOfPage st_Q_groupOfPage ml_Q212 rfl (Nat.le_of_ble_eq_true rfl) ⟨by decide, by decide⟩ ⟨by decide, by decide⟩ rfl ?_
          rw [tm2]
          refine q_aald (i := (p % 2)) (pc := 69) dQ_touch_69 ⟨by decide, by decide, rfl⟩ (s_gs L) rfl (by omega) (v_gs _ hg) ?_
          refine q_aload_n (pc := 70) dQ_touch_70 rfl ?_
          refine q_getI (f := 6) (pc := 71) dQ_touch_71 lay_0 (by decide) rfl (by decide) fl_Q47 rfl rfl ?_
          refine q_aload_n (pc := 74) dQ_touch_74 rfl ?_
          refine q_getR (f := 0) (pc := 75) dQ_touch_75 lay_0 (by decide) rfl (by decide) fl_Q10 rfl rfl ?_
          rw [hd]
          refine q_callV1 (pc := 78) dQ_touch_78 ((ct_G_serves hg hd2 I)) cd_G_serves in_G_serves se_G_serves ml_Q215 (s_gp L _ hg) (by decide) rfl rfl (Nat.le_of_ble_eq_true rfl) ⟨by decide, by decide⟩ ⟨by decide, by decide⟩ rfl ?_
          refine q_if_ne (tgt := 87) (pc := 81) dQ_touch_81 (by decide) (fun h81 => ?_) (fun h81 => ?_)
          · refine q_aload_n (pc := 87) dQ_touch_87 rfl ?_
            refine q_getR (f := 3) (pc := 88) dQ_touch_88 lay_0 (by decide) rfl (by decide) fl_Q35 rfl rfl ?_
            refine q_callV1 (pc := 91) dQ_touch_91 ((ct_H_isFull I)) cd_H_isFull in_H_isFull se_H_isFull ml_Q251 rfl (by decide) rfl rfl (Nat.le_of_ble_eq_true rfl) ⟨by decide, by decide⟩ ⟨by decide, by decide⟩ rfl ?_
            refine q_if_eq (tgt := 105) (pc := 94) dQ_touch_94 (by decide) (fun h94 => ?_) (fun h94 => ?_)
            · exact absurd h50' (of_decide_eq_false (bi_eq h94))
            · have h9 := hle (pmg I n o k 0)
              refine q_aload_n (pc := 97) dQ_touch_97 rfl ?_
              refine q_getR (f := 3) (pc := 98) dQ_touch_98 lay_0 (by decide) rfl (by decide) fl_Q35 rfl rfl ?_
              refine q_iload_n (pc := 101) dQ_touch_101 rfl ?_
              refine q_callV0 (pc := 102) dQ_touch_102 ((ct_H_remove _ I hk hk2)) cd_H_remove in_H_remove se_H_remove ml_Q239 rfl (by decide) rfl rfl (Nat.le_of_ble_eq_true rfl) ⟨by decide, by decide⟩ ⟨by decide, by decide⟩ rfl ?_
              refine q_aload_n (pc := 105) dQ_touch_105 rfl ?_
              refine q_getR (f := 3) (pc := 106) dQ_touch_106 lay_0 (by decide) rfl (by decide) fl_Q35 rfl rfl ?_
              refine q_iload_n (pc := 109) dQ_touch_109 rfl ?_
              refine q_callV0 (pc := 110) dQ_touch_110 ((ct_H_append p _ hrem_k (by omega))) cd_H_append in_H_append se_H_append ml_Q242 rfl (by decide) rfl rfl (Nat.le_of_ble_eq_true rfl) ⟨by decide, by decide⟩ ⟨by decide, by decide⟩ rfl ?_
              refine q_iconst (pc := 113) dQ_touch_113 (by decide) ?_
              refine q_iret rfl (pc := 114) dQ_touch_114 ?_
              refine rP_of ?_
              unfold qtch
              rw [if_neg (by omega), if_neg (by omega), if_neg (by rw [bi_ne h81]; decide), if_pos (by omega)]
          · refine q_bipush (pc := 84) dQ_touch_84 (by decide) (by decide) ?_
            refine q_iret rfl (pc := 86) dQ_touch_86 ?_
            refine rP_of ?_
            unfold qtch
            rw [if_neg (by omega), if_neg (by omega), if_pos (bi_eq h81)]
        · refine q_bipush (pc := 58) dQ_touch_58 (by decide) (by decide) ?_
          refine q_iret rfl (pc := 60) dQ_touch_60 ?_
          refine rP_of ?_
          unfold qtch
          rw [if_neg (by omega), if_pos (Or.inr ⟨by omega, h55⟩)]
  · have h9 := hle p
    refine q_aload_n (pc := 11) dQ_touch_11 rfl ?_
    refine q_getR (f := 3) (pc := 12) dQ_touch_12 lay_0 (by decide) rfl (by decide) fl_Q35 rfl rfl ?_
    refine q_iload_n (pc := 15) dQ_touch_15 rfl ?_
    refine q_callV0 (pc := 16) dQ_touch_16 ((ct_H_remove _ I hk hk2)) cd_H_remove in_H_remove se_H_remove ml_Q239 rfl (by decide) rfl rfl (Nat.le_of_ble_eq_true rfl) ⟨by decide, by decide⟩ ⟨by decide, by decide⟩ rfl ?_
    refine q_aload_n (pc := 19) dQ_touch_19 rfl ?_
    refine q_getR (f := 3) (pc := 20) dQ_touch_20 lay_0 (by decide) rfl (by decide) fl_Q35 rfl rfl ?_
    refine q_iload_n (pc := 23) dQ_touch_23 rfl ?_
    refine q_callV0 (pc := 24) dQ_touch_24 ((ct_H_append p _ hrem_k (by omega))) cd_H_append in_H_append se_H_append ml_Q242 rfl (by decide) rfl rfl (Nat.le_of_ble_eq_true rfl) ⟨by decide, by decide⟩ ⟨by decide, by decide⟩ rfl ?_
    refine q_iconst (pc := 27) dQ_touch_27 (by decide) ?_
    refine q_iret rfl (pc := 28) dQ_touch_28 ?_
    refine rP_of ?_
    unfold qtch
    rw [if_pos (by omega)]
def qcm (I : qI) (l : Nat) : Bool := decide ((l : Int) ≤ if I 7 l = 0 then gqp I 0 6 else gqp I 1 6)
theorem lp_Q_completePoint {L n : Nat} (I : qI) (hn : I 2 6 = (n : Int)) (hn2 : n ≤ 187) : ∀ f l, l + f = n → qE M_Q_completePoint 2 25 [some (.inr (some 1)), some (.inl (gqp I 0 6)), some (.inl (gqp I 1 6)), some (.inl ((l : Nat) : Int)), some (.inl ((l + 1 : Nat) : Int))] [] L I (rI (qp (qcm I) f l : Nat) L I) := by
  intro f
  induction f with
  | zero =>
    intro l hl
    refine q_iload (pc := 25) dQ_completePoint_25 rfl ?_
    refine q_aload_n (pc := 27) dQ_completePoint_27 rfl ?_
    refine q_getR (f := 0) (pc := 28) dQ_completePoint_28 lay_0 (by decide) rfl (by decide) fl_Q10 rfl rfl ?_
    refine q_getI (f := 6) (pc := 31) dQ_completePoint_31 lay_1 (by decide) rfl (by decide) fl_Q55 rfl rfl ?_
    refine q_icmp_gt (tgt := 72) (pc := 34) dQ_completePoint_34 (by decide) (fun h34 => ?_) (fun h34 => ?_)
    · refine q_iload_n (pc := 72) dQ_completePoint_72 rfl ?_
      refine q_iret rfl (pc := 73) dQ_completePoint_73 ?_
      exact ⟨rfl, rfl, rfl⟩
    · omega
  | succ f ih =>
    intro l hl
    refine q_iload (pc := 25) dQ_completePoint_25 rfl ?_
    refine q_aload_n (pc := 27) dQ_completePoint_27 rfl ?_
    refine q_getR (f := 0) (pc := 28) dQ_completePoint_28 lay_0 (by decide) rfl (by decide) fl_Q10 rfl rfl ?_
    refine q_getI (f := 6) (pc := 31) dQ_completePoint_31 lay_1 (by decide) rfl (by decide) fl_Q55 rfl rfl ?_
    refine q_icmp_gt (tgt := 72) (pc := 34) dQ_completePoint_34 (by decide) (fun h34 => ?_) (fun h34 => ?_)
    · omega
    · refine q_iload (pc := 37) dQ_completePoint_37 rfl ?_
      refine q_aload_n (pc := 39) dQ_completePoint_39 rfl ?_
      refine q_getR (f := 0) (pc := 40) dQ_completePoint_40 lay_0 (by decide) rfl (by decide) fl_Q10 rfl rfl ?_
      refine q_getR (f := 4) (pc := 43) dQ_completePoint_43 lay_1 (by decide) rfl (by decide) fl_Q120 rfl rfl ?_
      refine q_iload (pc := 46) dQ_completePoint_46 rfl ?_
      refine q_iald (i := (l + 1)) (pc := 48) dQ_completePoint_48 rfl rfl (by omega) rfl ?_
      refine q_if_ne (tgt := 56) (pc := 49) dQ_completePoint_49 (by decide) (fun h49 => ?_) (fun h49 => ?_)
      · refine q_iload_n (pc := 56) dQ_completePoint_56 rfl ?_
        refine q_icmp_le (tgt := 63) (pc := 57) dQ_completePoint_57 (by decide) (fun h57 => ?_) (fun h57 => ?_)
        · refine q_iload (pc := 63) dQ_completePoint_63 rfl ?_
          refine q_istore_n (pc := 65) dQ_completePoint_65 (by decide) ?_
          refine q_iinc (pc := 66) dQ_completePoint_66 rfl (by decide) rfl ⟨by omega, by omega⟩ ?_
          refine q_goto (tgt := 25) (pc := 69) dQ_completePoint_69 (by decide) ?_
          have e : qp (qcm I) (f + 1) l = qp (qcm I) f (l + 1) := by
            rw [qp, if_pos (by unfold qcm; rw [if_neg h49, decide_eq_true h57])]
          rw [e]
          exact ih (l + 1) (by omega)
        · refine q_goto (tgt := 72) (pc := 60) dQ_completePoint_60 (by decide) ?_
          refine q_iload_n (pc := 72) dQ_completePoint_72 rfl ?_
          refine q_iret rfl (pc := 73) dQ_completePoint_73 ?_
          exact ⟨by rw [qp, if_neg (by unfold qcm; rw [if_neg h49, decide_eq_false h57]; decide)], rfl, rfl⟩
      · refine q_iload_n (pc := 52) dQ_completePoint_52 rfl ?_
        refine q_goto (tgt := 57) (pc := 53) dQ_completePoint_53 (by decide) ?_
        refine q_icmp_le (tgt := 63) (pc := 57) dQ_completePoint_57 (by decide) (fun h57 => ?_) (fun h57 => ?_)
        · refine q_iload (pc := 63) dQ_completePoint_63 rfl ?_
          refine q_istore_n (pc := 65) dQ_completePoint_65 (by decide) ?_
          refine q_iinc (pc := 66) dQ_completePoint_66 rfl (by decide) rfl ⟨by omega, by omega⟩ ?_
          refine q_goto (tgt := 25) (pc := 69) dQ_completePoint_69 (by decide) ?_
          have e : qp (qcm I) (f + 1) l = qp (qcm I) f (l + 1) := by
            rw [qp, if_pos (by unfold qcm; rw [if_pos h49, decide_eq_true h57])]
          rw [e]
          exact ih (l + 1) (by omega)
        · refine q_goto (tgt := 72) (pc := 60) dQ_completePoint_60 (by decide) ?_
          refine q_iload_n (pc := 72) dQ_completePoint_72 rfl ?_
          refine q_iret rfl (pc := 73) dQ_completePoint_73 ?_
          exact ⟨by rw [qp, if_neg (by unfold qcm; rw [if_pos h49, decide_eq_false h57]; decide)], rfl, rfl⟩
theorem ct_Q_completePoint {L n : Nat} (I : qI) (hn : I 2 6 = (n : Int)) (hn2 : n ≤ 187) : qT M_Q_completePoint 2 [.inr (some 1)] L I (rI (qp (qcm I) n 0 : Nat) L I) := by
  refine q_enter (by decide) (Nat.le_of_ble_eq_true rfl) ?_
  refine q_aload_n (pc := 0) dQ_completePoint_0 rfl ?_
  refine q_getR (f := 2) (pc := 1) dQ_completePoint_1 lay_0 (by decide) rfl (by decide) fl_Q25 rfl rfl ?_
  refine q_iconst (pc := 4) dQ_completePoint_4 (by decide) ?_
  refine q_aald (i := 0) (pc := 5) dQ_completePoint_5 ⟨by decide, by decide, rfl⟩ (s_gs L) rfl (by omega) (v_gs 0 (by omega)) ?_
  refine q_callV1 (pc := 6) dQ_completePoint_6 ((ct_G_quorumPoint (g := 0) (by omega) I)) cd_G_quorumPoint in_G_quorumPoint se_G_quorumPoint ml_Q261 (s_gp L 0 (by omega)) (by decide) rfl rfl (Nat.le_of_ble_eq_true rfl) ⟨by decide, by decide⟩ ⟨by decide, by decide⟩ rfl ?_
  refine q_istore_n (pc := 9) dQ_completePoint_9 (by decide) ?_
  refine q_aload_n (pc := 10) dQ_completePoint_10 rfl ?_
  refine q_getR (f := 2) (pc := 11) dQ_completePoint_11 lay_0 (by decide) rfl (by decide) fl_Q25 rfl rfl ?_
  refine q_iconst (pc := 14) dQ_completePoint_14 (by decide) ?_
  refine q_aald (i := 1) (pc := 15) dQ_completePoint_15 ⟨by decide, by decide, rfl⟩ (s_gs L) rfl (by omega) (v_gs 1 (by omega)) ?_
  refine q_callV1 (pc := 16) dQ_completePoint_16 ((ct_G_quorumPoint (g := 1) (by omega) I)) cd_G_quorumPoint in_G_quorumPoint se_G_quorumPoint ml_Q261 (s_gp L 1 (by omega)) (by decide) rfl rfl (Nat.le_of_ble_eq_true rfl) ⟨by decide, by decide⟩ ⟨by decide, by decide⟩ rfl ?_
  refine q_istore_n (pc := 19) dQ_completePoint_19 (by decide) ?_
  refine q_iconst (pc := 20) dQ_completePoint_20 (by decide) ?_
  refine q_istore_n (pc := 21) dQ_completePoint_21 (by decide) ?_
  refine q_iconst (pc := 22) dQ_completePoint_22 (by decide) ?_
  refine q_istore (pc := 23) dQ_completePoint_23 (by decide) ?_
  exact lp_Q_completePoint I hn hn2 n 0 (by omega)
def qrs (I : qI) (n : Nat) : qI := q_up I 1 6 (qmax (I 1 6) (ql (lcl I) (qp (qcm I) n 0) : Nat))
theorem ct_Q_raiseDurable {L n : Nat} (I : qI) (hn : I 2 6 = (n : Int)) (hn2 : n ≤ 187) : qT M_Q_raiseDurable 3 [.inr (some 1)] L I (rV L (qrs I n)) := by
  refine q_enter (by decide) (Nat.le_of_ble_eq_true rfl) ?_
  have h1 := qp_le (qcm I) n 0
  refine q_aload_n (pc := 0) dQ_raiseDurable_0 rfl ?_
  refine q_aload_n (pc := 1) dQ_raiseDurable_1 rfl ?_
  refine q_getI (f := 6) (pc := 2) dQ_raiseDurable_2 lay_0 (by decide) rfl (by decide) fl_Q47 rfl rfl ?_
  refine q_aload_n (pc := 5) dQ_raiseDurable_5 rfl ?_
  refine q_getR (f := 0) (pc := 6) dQ_raiseDurable_6 lay_0 (by decide) rfl (by decide) fl_Q10 rfl rfl ?_
  refine q_aload_n (pc := 9) dQ_raiseDurable_9 rfl ?_
  refine q_callV1 (pc := 10) dQ_raiseDurable_10 ((ct_Q_completePoint I hn hn2)) cd_Q_completePoint in_Q_completePoint se_Q_completePoint ml_Q196 rfl (by decide) rfl rfl (Nat.le_of_ble_eq_true rfl) ⟨by decide, by decide⟩ ⟨by decide, by decide⟩ rfl ?_
  refine q_callV1 (pc := 13) dQ_raiseDurable_13 ((ct_L_lastCloseUpTo I (by omega))) cd_L_lastCloseUpTo in_L_lastCloseUpTo se_L_lastCloseUpTo ml_Q178 rfl (by decide) rfl rfl (Nat.le_of_ble_eq_true rfl) ⟨by decide, by decide⟩ ⟨by decide, by decide⟩ rfl ?_
  refine q_max (pc := 16) dQ_raiseDurable_16 mw_Q264 mx_1 mt_0 mx_2 ⟨by decide, by decide⟩ ⟨by decide, by decide⟩ (Nat.le_of_ble_eq_true rfl) ?_
  refine q_putI (f := 6) (pc := 19) dQ_raiseDurable_19 lay_0 typ_0 (by decide) rfl (by decide) fl_Q47 rfl (Or.inl rfl) (Or.inl rfl) rfl ?_
  refine q_vret rfl (pc := 22) dQ_raiseDurable_22 ?_
  exact ⟨rfl, rfl, rfl⟩
end
