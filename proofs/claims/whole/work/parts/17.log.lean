/-! The log, and the small static methods. -/
theorem ql_y {p : Nat → Bool} {l : Nat} (h : p (l + 1) = true) : ql p (l + 1) = l + 1 := by rw [ql, if_pos h]
theorem ql_n {p : Nat → Bool} {l : Nat} (h : ¬ p (l + 1) = true) : ql p (l + 1) = ql p l := by rw [ql, if_neg h]
theorem ct_Q_pageOf {L : Nat} (k : Int) (I : qI) : qT M_Q_pageOf 0 [.inl k] L I (rI (k.tdiv 4) L I) := by
  refine q_enter (by decide) (Nat.le_of_ble_eq_true rfl) ?_
  refine q_iload_n (pc := 0) dQ_pageOf_0 rfl ?_
  refine q_iconst (pc := 1) dQ_pageOf_1 (by decide) ?_
  refine q_idiv (pc := 2) dQ_pageOf_2 (by decide) ?_
  refine q_iret rfl (pc := 3) dQ_pageOf_3 ?_
  exact ⟨rfl, rfl, rfl⟩
theorem ct_Q_groupOfPage {L : Nat} (k : Int) (I : qI) : qT M_Q_groupOfPage 0 [.inl k] L I (rI (k.tmod 2) L I) := by
  refine q_enter (by decide) (Nat.le_of_ble_eq_true rfl) ?_
  refine q_iload_n (pc := 0) dQ_groupOfPage_0 rfl ?_
  refine q_iconst (pc := 1) dQ_groupOfPage_1 (by decide) ?_
  refine q_irem (pc := 2) dQ_groupOfPage_2 (by decide) ?_
  refine q_iret rfl (pc := 3) dQ_groupOfPage_3 ?_
  exact ⟨rfl, rfl, rfl⟩
theorem ct_Q_isKey {L : Nat} (k : Int) (I : qI) : qT M_Q_isKey 0 [.inl k] L I (rI (bi (decide (0 ≤ k ∧ k < 32))) L I) := by
  refine q_enter (by decide) (Nat.le_of_ble_eq_true rfl) ?_
  refine q_iload_n (pc := 0) dQ_isKey_0 rfl ?_
  refine q_if_lt (tgt := 14) (pc := 1) dQ_isKey_1 (by decide) (fun h1 => ?_) (fun h1 => ?_)
  · refine q_iconst (pc := 14) dQ_isKey_14 (by decide) ?_
    refine q_zret rfl (by first | exact Or.inl rfl | exact Or.inr rfl) (pc := 15) dQ_isKey_15 ?_
    exact ⟨by rw [decide_eq_false (by omega)]; rfl, rfl, rfl⟩
  · refine q_iload_n (pc := 4) dQ_isKey_4 rfl ?_
    refine q_bipush (pc := 5) dQ_isKey_5 (by decide) (by decide) ?_
    refine q_icmp_ge (tgt := 14) (pc := 7) dQ_isKey_7 (by decide) (fun h7 => ?_) (fun h7 => ?_)
    · refine q_iconst (pc := 14) dQ_isKey_14 (by decide) ?_
      refine q_zret rfl (by first | exact Or.inl rfl | exact Or.inr rfl) (pc := 15) dQ_isKey_15 ?_
      exact ⟨by rw [decide_eq_false (by omega)]; rfl, rfl, rfl⟩
    · refine q_iconst (pc := 10) dQ_isKey_10 (by decide) ?_
      refine q_goto (tgt := 15) (pc := 11) dQ_isKey_11 (by decide) ?_
      refine q_zret rfl (by first | exact Or.inl rfl | exact Or.inr rfl) (pc := 15) dQ_isKey_15 ?_
      exact ⟨by rw [decide_eq_true (by omega)]; rfl, rfl, rfl⟩
theorem ct_Q_isReplica {L : Nat} (k : Int) (I : qI) : qT M_Q_isReplica 0 [.inl k] L I (rI (bi (decide (0 ≤ k ∧ k < 2))) L I) := by
  refine q_enter (by decide) (Nat.le_of_ble_eq_true rfl) ?_
  refine q_iload_n (pc := 0) dQ_isReplica_0 rfl ?_
  refine q_if_lt (tgt := 13) (pc := 1) dQ_isReplica_1 (by decide) (fun h1 => ?_) (fun h1 => ?_)
  · refine q_iconst (pc := 13) dQ_isReplica_13 (by decide) ?_
    refine q_zret rfl (by first | exact Or.inl rfl | exact Or.inr rfl) (pc := 14) dQ_isReplica_14 ?_
    exact ⟨by rw [decide_eq_false (by omega)]; rfl, rfl, rfl⟩
  · refine q_iload_n (pc := 4) dQ_isReplica_4 rfl ?_
    refine q_iconst (pc := 5) dQ_isReplica_5 (by decide) ?_
    refine q_icmp_ge (tgt := 13) (pc := 6) dQ_isReplica_6 (by decide) (fun h6 => ?_) (fun h6 => ?_)
    · refine q_iconst (pc := 13) dQ_isReplica_13 (by decide) ?_
      refine q_zret rfl (by first | exact Or.inl rfl | exact Or.inr rfl) (pc := 14) dQ_isReplica_14 ?_
      exact ⟨by rw [decide_eq_false (by omega)]; rfl, rfl, rfl⟩
    · refine q_iconst (pc := 9) dQ_isReplica_9 (by decide) ?_
      refine q_goto (tgt := 14) (pc := 10) dQ_isReplica_10 (by decide) ?_
      refine q_zret rfl (by first | exact Or.inl rfl | exact Or.inr rfl) (pc := 14) dQ_isReplica_14 ?_
      exact ⟨by rw [decide_eq_true (by omega)]; rfl, rfl, rfl⟩
theorem ct_Q_isCopy {L : Nat} (g c : Int) (I : qI) : qT M_Q_isCopy 0 [.inl g, .inl c] L I (rI (bi (decide (0 ≤ g ∧ g < 2 ∧ 0 ≤ c ∧ c < 6))) L I) := by
  refine q_enter (by decide) (Nat.le_of_ble_eq_true rfl) ?_
  refine q_iload_n (pc := 0) dQ_isCopy_0 rfl ?_
  refine q_if_lt (tgt := 23) (pc := 1) dQ_isCopy_1 (by decide) (fun h1 => ?_) (fun h1 => ?_)
  · refine q_iconst (pc := 23) dQ_isCopy_23 (by decide) ?_
    refine q_zret rfl (by first | exact Or.inl rfl | exact Or.inr rfl) (pc := 24) dQ_isCopy_24 ?_
    exact ⟨by rw [decide_eq_false (by omega)]; rfl, rfl, rfl⟩
  · refine q_iload_n (pc := 4) dQ_isCopy_4 rfl ?_
    refine q_iconst (pc := 5) dQ_isCopy_5 (by decide) ?_
    refine q_icmp_ge (tgt := 23) (pc := 6) dQ_isCopy_6 (by decide) (fun h6 => ?_) (fun h6 => ?_)
    · refine q_iconst (pc := 23) dQ_isCopy_23 (by decide) ?_
      refine q_zret rfl (by first | exact Or.inl rfl | exact Or.inr rfl) (pc := 24) dQ_isCopy_24 ?_
      exact ⟨by rw [decide_eq_false (by omega)]; rfl, rfl, rfl⟩
    · refine q_iload_n (pc := 9) dQ_isCopy_9 rfl ?_
      refine q_if_lt (tgt := 23) (pc := 10) dQ_isCopy_10 (by decide) (fun h10 => ?_) (fun h10 => ?_)
      · refine q_iconst (pc := 23) dQ_isCopy_23 (by decide) ?_
        refine q_zret rfl (by first | exact Or.inl rfl | exact Or.inr rfl) (pc := 24) dQ_isCopy_24 ?_
        exact ⟨by rw [decide_eq_false (by omega)]; rfl, rfl, rfl⟩
      · refine q_iload_n (pc := 13) dQ_isCopy_13 rfl ?_
        refine q_bipush (pc := 14) dQ_isCopy_14 (by decide) (by decide) ?_
        refine q_icmp_ge (tgt := 23) (pc := 16) dQ_isCopy_16 (by decide) (fun h16 => ?_) (fun h16 => ?_)
        · refine q_iconst (pc := 23) dQ_isCopy_23 (by decide) ?_
          refine q_zret rfl (by first | exact Or.inl rfl | exact Or.inr rfl) (pc := 24) dQ_isCopy_24 ?_
          exact ⟨by rw [decide_eq_false (by omega)]; rfl, rfl, rfl⟩
        · refine q_iconst (pc := 19) dQ_isCopy_19 (by decide) ?_
          refine q_goto (tgt := 24) (pc := 20) dQ_isCopy_20 (by decide) ?_
          refine q_zret rfl (by first | exact Or.inl rfl | exact Or.inr rfl) (pc := 24) dQ_isCopy_24 ?_
          exact ⟨by rw [decide_eq_true (by omega)]; rfl, rfl, rfl⟩
theorem ct_L_has {L : Nat} (l : Int) (I : qI) : qT M_L_has 0 [.inr (some 2), .inl l] L I (rI (bi (decide (1 ≤ l ∧ l ≤ I 2 6))) L I) := by
  refine q_enter (by decide) (Nat.le_of_ble_eq_true rfl) ?_
  refine q_iload_n (pc := 0) dL_has_0 rfl ?_
  refine q_iconst (pc := 1) dL_has_1 (by decide) ?_
  refine q_icmp_lt (tgt := 17) (pc := 2) dL_has_2 (by decide) (fun h2 => ?_) (fun h2 => ?_)
  · refine q_iconst (pc := 17) dL_has_17 (by decide) ?_
    refine q_zret rfl (by first | exact Or.inl rfl | exact Or.inr rfl) (pc := 18) dL_has_18 ?_
    exact ⟨by rw [decide_eq_false (by omega)]; rfl, rfl, rfl⟩
  · refine q_iload_n (pc := 5) dL_has_5 rfl ?_
    refine q_aload_n (pc := 6) dL_has_6 rfl ?_
    refine q_getI (f := 6) (pc := 7) dL_has_7 lay_1 (by decide) rfl (by decide) fl_L30 rfl rfl ?_
    refine q_icmp_gt (tgt := 17) (pc := 10) dL_has_10 (by decide) (fun h10 => ?_) (fun h10 => ?_)
    · refine q_iconst (pc := 17) dL_has_17 (by decide) ?_
      refine q_zret rfl (by first | exact Or.inl rfl | exact Or.inr rfl) (pc := 18) dL_has_18 ?_
      exact ⟨by rw [decide_eq_false (by omega)]; rfl, rfl, rfl⟩
    · refine q_iconst (pc := 13) dL_has_13 (by decide) ?_
      refine q_goto (tgt := 18) (pc := 14) dL_has_14 (by decide) ?_
      refine q_zret rfl (by first | exact Or.inl rfl | exact Or.inr rfl) (pc := 18) dL_has_18 ?_
      exact ⟨by rw [decide_eq_true (by omega)]; rfl, rfl, rfl⟩
/-- one record more -/
def ladd (I : qI) (n : Nat) (kd t k v g : Int) : qI := q_up (q_up (q_up (q_up (q_up (q_up I 2 6 ((n + 1 : Nat) : Int)) 3 (n + 1) kd) 4 (n + 1) t) 5 (n + 1) k) 6 (n + 1) v) 7 (n + 1) g
theorem ct_L_add {L n : Nat} (kd t k v g : Int) (I : qI) (hn : I 2 6 = (n : Int)) (hn2 : n < 187) : qT M_L_add 0 [.inr (some 2), .inl kd, .inl t, .inl k, .inl v, .inl g] L I (rI ((n + 1 : Nat) : Int) L (ladd I n kd t k v g)) := by
  refine q_enter (by decide) (Nat.le_of_ble_eq_true rfl) ?_
  have e0 : I 2 6 + 1 = ((n + 1 : Nat) : Int) := by rw [hn]; rfl
  refine q_aload_n (pc := 0) dL_add_0 rfl ?_
  refine q_getI (f := 6) (pc := 1) dL_add_1 lay_1 (by decide) rfl (by decide) fl_L30 rfl rfl ?_
  refine q_sipush (pc := 4) dL_add_4 (by decide) (by decide) ?_
  refine q_icmp_lt (tgt := 13) (pc := 7) dL_add_7 (by decide) (fun h7 => ?_) (fun h7 => ?_)
  · refine q_aload_n (pc := 13) dL_add_13 rfl ?_
    refine q_dup (pc := 14) dL_add_14 ?_
    refine q_getI (f := 6) (pc := 15) dL_add_15 lay_1 (by decide) rfl (by decide) fl_L30 rfl rfl ?_
    refine q_iconst (pc := 18) dL_add_18 (by decide) ?_
    refine q_iadd (pc := 19) dL_add_19 e0 ⟨by omega, by omega⟩ ?_
    refine q_putI (f := 6) (pc := 20) dL_add_20 lay_1 typ_1 (by decide) rfl (by decide) fl_L30 rfl (Or.inl rfl) (Or.inl rfl) rfl ?_
    refine q_aload_n (pc := 23) dL_add_23 rfl ?_
    refine q_getR (f := 0) (pc := 24) dL_add_24 lay_1 (by decide) rfl (by decide) fl_L11 rfl rfl ?_
    refine q_aload_n (pc := 27) dL_add_27 rfl ?_
    refine q_getI (f := 6) (pc := 28) dL_add_28 lay_1 (by decide) rfl (by decide) fl_L30 rfl rfl ?_
    refine q_iload_n (pc := 31) dL_add_31 rfl ?_
    refine q_iast (i := (n + 1)) (pc := 32) dL_add_32 rfl (by simp [q_up]) (by omega) rfl ?_
    refine q_aload_n (pc := 33) dL_add_33 rfl ?_
    refine q_getR (f := 1) (pc := 34) dL_add_34 lay_1 (by decide) rfl (by decide) fl_L15 rfl rfl ?_
    refine q_aload_n (pc := 37) dL_add_37 rfl ?_
    refine q_getI (f := 6) (pc := 38) dL_add_38 lay_1 (by decide) rfl (by decide) fl_L30 rfl rfl ?_
    refine q_iload_n (pc := 41) dL_add_41 rfl ?_
    refine q_iast (i := (n + 1)) (pc := 42) dL_add_42 rfl (by simp [q_up]) (by omega) rfl ?_
    refine q_aload_n (pc := 43) dL_add_43 rfl ?_
    refine q_getR (f := 2) (pc := 44) dL_add_44 lay_1 (by decide) rfl (by decide) fl_L18 rfl rfl ?_
    refine q_aload_n (pc := 47) dL_add_47 rfl ?_
    refine q_getI (f := 6) (pc := 48) dL_add_48 lay_1 (by decide) rfl (by decide) fl_L30 rfl rfl ?_
    refine q_iload_n (pc := 51) dL_add_51 rfl ?_
    refine q_iast (i := (n + 1)) (pc := 52) dL_add_52 rfl (by simp [q_up]) (by omega) rfl ?_
    refine q_aload_n (pc := 53) dL_add_53 rfl ?_
    refine q_getR (f := 3) (pc := 54) dL_add_54 lay_1 (by decide) rfl (by decide) fl_L21 rfl rfl ?_
    refine q_aload_n (pc := 57) dL_add_57 rfl ?_
    refine q_getI (f := 6) (pc := 58) dL_add_58 lay_1 (by decide) rfl (by decide) fl_L30 rfl rfl ?_
    refine q_iload (pc := 61) dL_add_61 rfl ?_
    refine q_iast (i := (n + 1)) (pc := 63) dL_add_63 rfl (by simp [q_up]) (by omega) rfl ?_
    refine q_aload_n (pc := 64) dL_add_64 rfl ?_
    refine q_getR (f := 4) (pc := 65) dL_add_65 lay_1 (by decide) rfl (by decide) fl_L24 rfl rfl ?_
    refine q_aload_n (pc := 68) dL_add_68 rfl ?_
    refine q_getI (f := 6) (pc := 69) dL_add_69 lay_1 (by decide) rfl (by decide) fl_L30 rfl rfl ?_
    refine q_iload (pc := 72) dL_add_72 rfl ?_
    refine q_iast (i := (n + 1)) (pc := 74) dL_add_74 rfl (by simp [q_up]) (by omega) rfl ?_
    refine q_aload_n (pc := 75) dL_add_75 rfl ?_
    refine q_getI (f := 6) (pc := 76) dL_add_76 lay_1 (by decide) rfl (by decide) fl_L30 rfl rfl ?_
    refine q_iret rfl (pc := 79) dL_add_79 ?_
    exact ⟨by simp [q_up], rfl, rfl⟩
  · omega
theorem ct_L_addChange {L n : Nat} (t k v z : Int) (I : qI) (hn : I 2 6 = (n : Int)) (hn2 : n < 187) : qT M_L_addChange 1 [.inr (some 2), .inl t, .inl k, .inl v, .inl z] L I (rI ((n + 1 : Nat) : Int) L (ladd I n (if z = 0 then 0 else 1) t k v ((k.tdiv 4).tmod 2))) := by
  refine q_enter (by decide) (Nat.le_of_ble_eq_true rfl) ?_
  refine q_aload_n (pc := 0) dL_addChange_0 rfl ?_
  refine q_iload (pc := 1) dL_addChange_1 rfl ?_
  refine q_if_eq (tgt := 10) (pc := 3) dL_addChange_3 (by decide) (fun h3 => ?_) (fun h3 => ?_)
  · refine q_iconst (pc := 10) dL_addChange_10 (by decide) ?_
    refine q_iload_n (pc := 11) dL_addChange_11 rfl ?_
    refine q_iload_n (pc := 12) dL_addChange_12 rfl ?_
    refine q_iload_n (pc := 13) dL_addChange_13 rfl ?_
    refine q_iload_n (pc := 14) dL_addChange_14 rfl ?_
    refine q_callS1 (pc := 15) dL_addChange_15 ((ct_Q_pageOf k I)) cd_Q_pageOf st_Q_pageOf ml_L34 rfl (Nat.le_of_ble_eq_true rfl) ⟨by decide, by decide⟩ ⟨by decide, by decide⟩ rfl ?_
    refine q_callS1 (pc := 18) dL_addChange_18 ((ct_Q_groupOfPage _ I)) cd_Q_groupOfPage st_Q_groupOfPage ml_L38 rfl (Nat.le_of_ble_eq_true rfl) ⟨by decide, by decide⟩ ⟨by decide, by decide⟩ rfl ?_
    refine q_callV1 (pc := 21) dL_addChange_21 ((ct_L_add 0 t k v _ I hn hn2)) cd_L_add in_L_add se_L_add ml_L41 rfl (by decide) rfl rfl (Nat.le_of_ble_eq_true rfl) ⟨by decide, by decide⟩ ⟨by decide, by decide⟩ rfl ?_
    refine q_iret rfl (pc := 24) dL_addChange_24 ?_
    exact ⟨rfl, rfl, by rw [if_pos h3]⟩
  · refine q_iconst (pc := 6) dL_addChange_6 (by decide) ?_
    refine q_goto (tgt := 11) (pc := 7) dL_addChange_7 (by decide) ?_
    refine q_iload_n (pc := 11) dL_addChange_11 rfl ?_
    refine q_iload_n (pc := 12) dL_addChange_12 rfl ?_
    refine q_iload_n (pc := 13) dL_addChange_13 rfl ?_
    refine q_iload_n (pc := 14) dL_addChange_14 rfl ?_
    refine q_callS1 (pc := 15) dL_addChange_15 ((ct_Q_pageOf k I)) cd_Q_pageOf st_Q_pageOf ml_L34 rfl (Nat.le_of_ble_eq_true rfl) ⟨by decide, by decide⟩ ⟨by decide, by decide⟩ rfl ?_
    refine q_callS1 (pc := 18) dL_addChange_18 ((ct_Q_groupOfPage _ I)) cd_Q_groupOfPage st_Q_groupOfPage ml_L38 rfl (Nat.le_of_ble_eq_true rfl) ⟨by decide, by decide⟩ ⟨by decide, by decide⟩ rfl ?_
    refine q_callV1 (pc := 21) dL_addChange_21 ((ct_L_add 1 t k v _ I hn hn2)) cd_L_add in_L_add se_L_add ml_L41 rfl (by decide) rfl rfl (Nat.le_of_ble_eq_true rfl) ⟨by decide, by decide⟩ ⟨by decide, by decide⟩ rfl ?_
    refine q_iret rfl (pc := 24) dL_addChange_24 ?_
    exact ⟨rfl, rfl, by rw [if_neg h3]⟩
def lend (I : qI) (n t : Nat) (z : Int) : qI := q_up (ladd I n (if z = 0 then 3 else 2) t (-1) 0 ((t : Int).tmod 2)) 8 t ((n + 1 : Nat) : Int)
theorem ct_L_addEnd {L n t : Nat} (z : Int) (I : qI) (ht : t ≤ 60) (hn : I 2 6 = (n : Int)) (hn2 : n < 187) : qT M_L_addEnd 1 [.inr (some 2), .inl ((t : Nat) : Int), .inl z] L I (rI ((n + 1 : Nat) : Int) L (lend I n t z)) := by
  refine q_enter (by decide) (Nat.le_of_ble_eq_true rfl) ?_
  have e0 : (if (0 : Int) < ((n + 1 : Nat) : Int) then ((n + 1 : Nat) : Int) else 0) = ((n + 1 : Nat) : Int) := if_pos (by omega)
  refine q_aload_n (pc := 0) dL_addEnd_0 rfl ?_
  refine q_iload_n (pc := 1) dL_addEnd_1 rfl ?_
  refine q_if_eq (tgt := 9) (pc := 2) dL_addEnd_2 (by decide) (fun h2 => ?_) (fun h2 => ?_)
  · refine q_iconst (pc := 9) dL_addEnd_9 (by decide) ?_
    refine q_iload_n (pc := 10) dL_addEnd_10 rfl ?_
    refine q_iconst (pc := 11) dL_addEnd_11 (by decide) ?_
    refine q_iconst (pc := 12) dL_addEnd_12 (by decide) ?_
    refine q_iload_n (pc := 13) dL_addEnd_13 rfl ?_
    refine q_iconst (pc := 14) dL_addEnd_14 (by decide) ?_
    refine q_irem (pc := 15) dL_addEnd_15 (by decide) ?_
    refine q_callV1 (pc := 16) dL_addEnd_16 ((ct_L_add 3 t (-1) 0 _ I hn hn2)) cd_L_add in_L_add se_L_add ml_L41 rfl (by decide) rfl rfl (Nat.le_of_ble_eq_true rfl) ⟨by decide, by decide⟩ ⟨by decide, by decide⟩ rfl ?_
    refine q_istore_n (pc := 19) dL_addEnd_19 (by decide) ?_
    refine q_aload_n (pc := 20) dL_addEnd_20 rfl ?_
    refine q_getR (f := 5) (pc := 21) dL_addEnd_21 lay_1 (by decide) rfl (by decide) fl_L27 rfl rfl ?_
    refine q_iload_n (pc := 24) dL_addEnd_24 rfl ?_
    refine q_iconst (pc := 25) dL_addEnd_25 (by decide) ?_
    refine q_iload_n (pc := 26) dL_addEnd_26 rfl ?_
    refine q_max (pc := 27) dL_addEnd_27 mw_L45 mx_1 mt_0 mx_2 ⟨by decide, by decide⟩ ⟨by decide, by decide⟩ (Nat.le_of_ble_eq_true rfl) ?_
    refine q_iast (i := t) (pc := 30) dL_addEnd_30 rfl rfl (by omega) rfl ?_
    rw [e0]
    refine q_iload_n (pc := 31) dL_addEnd_31 rfl ?_
    refine q_iret rfl (pc := 32) dL_addEnd_32 ?_
    exact ⟨rfl, rfl, by unfold lend; rw [if_pos h2]⟩
  · refine q_iconst (pc := 5) dL_addEnd_5 (by decide) ?_
    refine q_goto (tgt := 10) (pc := 6) dL_addEnd_6 (by decide) ?_
    refine q_iload_n (pc := 10) dL_addEnd_10 rfl ?_
    refine q_iconst (pc := 11) dL_addEnd_11 (by decide) ?_
    refine q_iconst (pc := 12) dL_addEnd_12 (by decide) ?_
    refine q_iload_n (pc := 13) dL_addEnd_13 rfl ?_
    refine q_iconst (pc := 14) dL_addEnd_14 (by decide) ?_
    refine q_irem (pc := 15) dL_addEnd_15 (by decide) ?_
    refine q_callV1 (pc := 16) dL_addEnd_16 ((ct_L_add 2 t (-1) 0 _ I hn hn2)) cd_L_add in_L_add se_L_add ml_L41 rfl (by decide) rfl rfl (Nat.le_of_ble_eq_true rfl) ⟨by decide, by decide⟩ ⟨by decide, by decide⟩ rfl ?_
    refine q_istore_n (pc := 19) dL_addEnd_19 (by decide) ?_
    refine q_aload_n (pc := 20) dL_addEnd_20 rfl ?_
    refine q_getR (f := 5) (pc := 21) dL_addEnd_21 lay_1 (by decide) rfl (by decide) fl_L27 rfl rfl ?_
    refine q_iload_n (pc := 24) dL_addEnd_24 rfl ?_
    refine q_iconst (pc := 25) dL_addEnd_25 (by decide) ?_
    refine q_iload_n (pc := 26) dL_addEnd_26 rfl ?_
    refine q_max (pc := 27) dL_addEnd_27 mw_L45 mx_1 mt_0 mx_2 ⟨by decide, by decide⟩ ⟨by decide, by decide⟩ (Nat.le_of_ble_eq_true rfl) ?_
    refine q_iast (i := t) (pc := 30) dL_addEnd_30 rfl rfl (by omega) rfl ?_
    rw [e0]
    refine q_iload_n (pc := 31) dL_addEnd_31 rfl ?_
    refine q_iret rfl (pc := 32) dL_addEnd_32 ?_
    exact ⟨rfl, rfl, by unfold lend; rw [if_neg h2]⟩
theorem ct_L_isEnd {L l : Nat} (I : qI) (hl : l ≤ 187) : qT M_L_isEnd 0 [.inr (some 2), .inl ((l : Nat) : Int)] L I (rI (bi (decide (I 3 l = 2 ∨ I 3 l = 3))) L I) := by
  refine q_enter (by decide) (Nat.le_of_ble_eq_true rfl) ?_
  refine q_aload_n (pc := 0) dL_isEnd_0 rfl ?_
  refine q_getR (f := 0) (pc := 1) dL_isEnd_1 lay_1 (by decide) rfl (by decide) fl_L11 rfl rfl ?_
  refine q_iload_n (pc := 4) dL_isEnd_4 rfl ?_
  refine q_iald (i := l) (pc := 5) dL_isEnd_5 rfl rfl (by omega) rfl ?_
  refine q_iconst (pc := 6) dL_isEnd_6 (by decide) ?_
  refine q_icmp_eq (tgt := 20) (pc := 7) dL_isEnd_7 (by decide) (fun h7 => ?_) (fun h7 => ?_)
  · refine q_iconst (pc := 20) dL_isEnd_20 (by decide) ?_
    refine q_goto (tgt := 25) (pc := 21) dL_isEnd_21 (by decide) ?_
    refine q_zret rfl (by first | exact Or.inl rfl | exact Or.inr rfl) (pc := 25) dL_isEnd_25 ?_
    exact ⟨by simp [bi, h7], rfl, rfl⟩
  · refine q_aload_n (pc := 10) dL_isEnd_10 rfl ?_
    refine q_getR (f := 0) (pc := 11) dL_isEnd_11 lay_1 (by decide) rfl (by decide) fl_L11 rfl rfl ?_
    refine q_iload_n (pc := 14) dL_isEnd_14 rfl ?_
    refine q_iald (i := l) (pc := 15) dL_isEnd_15 rfl rfl (by omega) rfl ?_
    refine q_iconst (pc := 16) dL_isEnd_16 (by decide) ?_
    refine q_icmp_ne (tgt := 24) (pc := 17) dL_isEnd_17 (by decide) (fun h17 => ?_) (fun h17 => ?_)
    · refine q_iconst (pc := 24) dL_isEnd_24 (by decide) ?_
      refine q_zret rfl (by first | exact Or.inl rfl | exact Or.inr rfl) (pc := 25) dL_isEnd_25 ?_
      exact ⟨by simp [bi, h7, h17], rfl, rfl⟩
    · refine q_iconst (pc := 20) dL_isEnd_20 (by decide) ?_
      refine q_goto (tgt := 25) (pc := 21) dL_isEnd_21 (by decide) ?_
      refine q_zret rfl (by first | exact Or.inl rfl | exact Or.inr rfl) (pc := 25) dL_isEnd_25 ?_
      exact ⟨by simp [bi, h17], rfl, rfl⟩
theorem ct_L_commits {L l : Nat} (I : qI) (hl : l ≤ 187) : qT M_L_commits 0 [.inr (some 2), .inl ((l : Nat) : Int)] L I (rI (bi (decide (I 3 l = 2))) L I) := by
  refine q_enter (by decide) (Nat.le_of_ble_eq_true rfl) ?_
  refine q_aload_n (pc := 0) dL_commits_0 rfl ?_
  refine q_getR (f := 0) (pc := 1) dL_commits_1 lay_1 (by decide) rfl (by decide) fl_L11 rfl rfl ?_
  refine q_iload_n (pc := 4) dL_commits_4 rfl ?_
  refine q_iald (i := l) (pc := 5) dL_commits_5 rfl rfl (by omega) rfl ?_
  refine q_iconst (pc := 6) dL_commits_6 (by decide) ?_
  refine q_icmp_ne (tgt := 14) (pc := 7) dL_commits_7 (by decide) (fun h7 => ?_) (fun h7 => ?_)
  · refine q_iconst (pc := 14) dL_commits_14 (by decide) ?_
    refine q_zret rfl (by first | exact Or.inl rfl | exact Or.inr rfl) (pc := 15) dL_commits_15 ?_
    exact ⟨by simp [bi, h7], rfl, rfl⟩
  · refine q_iconst (pc := 10) dL_commits_10 (by decide) ?_
    refine q_goto (tgt := 15) (pc := 11) dL_commits_11 (by decide) ?_
    refine q_zret rfl (by first | exact Or.inl rfl | exact Or.inr rfl) (pc := 15) dL_commits_15 ?_
    exact ⟨by simp [bi, h7], rfl, rfl⟩
def lcl (I : qI) (l : Nat) : Bool := decide (I 3 l ≠ 0)
theorem ct_L_lastCloseUpTo {L m : Nat} (I : qI) (hm : m ≤ 187) : qT M_L_lastCloseUpTo 0 [.inr (some 2), .inl ((m : Nat) : Int)] L I (rI (ql (lcl I) m : Nat) L I) := by
  refine q_enter (by decide) (Nat.le_of_ble_eq_true rfl) ?_
  refine q_iload_n (pc := 0) dL_lastCloseUpTo_0 rfl ?_
  refine q_istore_n (pc := 1) dL_lastCloseUpTo_1 (by decide) ?_
  have lp : ∀ l : Nat, l ≤ 187 → qE M_L_lastCloseUpTo 0 2 [some (.inr (some 2)), some (.inl ((m : Nat) : Int)), some (.inl ((l : Nat) : Int))] [] L I (rI (ql (lcl I) l : Nat) L I) := by
    intro l
    induction l with
    | zero =>
      intro hl
      refine q_iload_n (pc := 2) dL_lastCloseUpTo_2 rfl ?_
      refine q_iconst (pc := 3) dL_lastCloseUpTo_3 (by decide) ?_
      refine q_icmp_lt (tgt := 24) (pc := 4) dL_lastCloseUpTo_4 (by decide) (fun h4 => ?_) (fun h4 => ?_)
      · refine q_iconst (pc := 24) dL_lastCloseUpTo_24 (by decide) ?_
        refine q_iret rfl (pc := 25) dL_lastCloseUpTo_25 ?_
        exact ⟨rfl, rfl, rfl⟩
      · omega
    | succ l ih =>
      intro hl
      refine q_iload_n (pc := 2) dL_lastCloseUpTo_2 rfl ?_
      refine q_iconst (pc := 3) dL_lastCloseUpTo_3 (by decide) ?_
      refine q_icmp_lt (tgt := 24) (pc := 4) dL_lastCloseUpTo_4 (by decide) (fun h4 => ?_) (fun h4 => ?_)
      · omega
      · refine q_aload_n (pc := 7) dL_lastCloseUpTo_7 rfl ?_
        refine q_getR (f := 0) (pc := 8) dL_lastCloseUpTo_8 lay_1 (by decide) rfl (by decide) fl_L11 rfl rfl ?_
        refine q_iload_n (pc := 11) dL_lastCloseUpTo_11 rfl ?_
        refine q_iald (i := (l + 1)) (pc := 12) dL_lastCloseUpTo_12 rfl rfl (by omega) rfl ?_
        refine q_if_eq (tgt := 18) (pc := 13) dL_lastCloseUpTo_13 (by decide) (fun h13 => ?_) (fun h13 => ?_)
        · refine q_iinc (pc := 18) dL_lastCloseUpTo_18 rfl (by decide) (show ((l + 1 : Nat) : Int) + (-1) = (l : Int) by omega) ⟨by omega, by omega⟩ ?_
          refine q_goto (tgt := 2) (pc := 21) dL_lastCloseUpTo_21 (by decide) ?_
          have e : ql (lcl I) (l + 1) = ql (lcl I) l := by rw [ql, if_neg (by simp [lcl, h13])]
          rw [e]
          exact ih (by omega)
        · refine q_iload_n (pc := 16) dL_lastCloseUpTo_16 rfl ?_
          refine q_iret rfl (pc := 17) dL_lastCloseUpTo_17 ?_
          exact ⟨by rw [ql, if_pos (by simp [lcl, h13])], rfl, rfl⟩
  exact lp m hm
def lky (I : qI) (k : Int) (l : Nat) : Bool := decide (I 5 l = k)
def lval (I : qI) (k : Int) (m : Nat) : Int := if ql (lky I k) m = 0 then 0 else I 6 (ql (lky I k) m)
theorem ct_L_valueUpTo {L m : Nat} (k : Int) (I : qI) (hm : m ≤ 187) : qT M_L_valueUpTo 0 [.inr (some 2), .inl k, .inl ((m : Nat) : Int)] L I (rI (lval I k m) L I) := by
  refine q_enter (by decide) (Nat.le_of_ble_eq_true rfl) ?_
  refine q_iload_n (pc := 0) dL_valueUpTo_0 rfl ?_
  refine q_istore_n (pc := 1) dL_valueUpTo_1 (by decide) ?_
  have lp : ∀ l : Nat, l ≤ 187 → qE M_L_valueUpTo 0 2 [some (.inr (some 2)), some (.inl k), some (.inl ((m : Nat) : Int)), some (.inl ((l : Nat) : Int))] [] L I (rI (lval I k l) L I) := by
    intro l
    induction l with
    | zero =>
      intro hl
      refine q_iload_n (pc := 2) dL_valueUpTo_2 rfl ?_
      refine q_iconst (pc := 3) dL_valueUpTo_3 (by decide) ?_
      refine q_icmp_lt (tgt := 30) (pc := 4) dL_valueUpTo_4 (by decide) (fun h4 => ?_) (fun h4 => ?_)
      · refine q_iconst (pc := 30) dL_valueUpTo_30 (by decide) ?_
        refine q_iret rfl (pc := 31) dL_valueUpTo_31 ?_
        exact ⟨rfl, rfl, rfl⟩
      · omega
    | succ l ih =>
      intro hl
      refine q_iload_n (pc := 2) dL_valueUpTo_2 rfl ?_
      refine q_iconst (pc := 3) dL_valueUpTo_3 (by decide) ?_
      refine q_icmp_lt (tgt := 30) (pc := 4) dL_valueUpTo_4 (by decide) (fun h4 => ?_) (fun h4 => ?_)
      · omega
      · refine q_aload_n (pc := 7) dL_valueUpTo_7 rfl ?_
        refine q_getR (f := 2) (pc := 8) dL_valueUpTo_8 lay_1 (by decide) rfl (by decide) fl_L18 rfl rfl ?_
        refine q_iload_n (pc := 11) dL_valueUpTo_11 rfl ?_
        refine q_iald (i := (l + 1)) (pc := 12) dL_valueUpTo_12 rfl rfl (by omega) rfl ?_
        refine q_iload_n (pc := 13) dL_valueUpTo_13 rfl ?_
        refine q_icmp_ne (tgt := 24) (pc := 14) dL_valueUpTo_14 (by decide) (fun h14 => ?_) (fun h14 => ?_)
        · refine q_iinc (pc := 24) dL_valueUpTo_24 rfl (by decide) (show ((l + 1 : Nat) : Int) + (-1) = (l : Int) by omega) ⟨by omega, by omega⟩ ?_
          refine q_goto (tgt := 2) (pc := 27) dL_valueUpTo_27 (by decide) ?_
          have e : lval I k (l + 1) = lval I k l := by unfold lval; rw [ql_n (by simp [lky, h14])]
          rw [e]
          exact ih (by omega)
        · refine q_aload_n (pc := 17) dL_valueUpTo_17 rfl ?_
          refine q_getR (f := 3) (pc := 18) dL_valueUpTo_18 lay_1 (by decide) rfl (by decide) fl_L21 rfl rfl ?_
          refine q_iload_n (pc := 21) dL_valueUpTo_21 rfl ?_
          refine q_iald (i := (l + 1)) (pc := 22) dL_valueUpTo_22 rfl rfl (by omega) rfl ?_
          refine q_iret rfl (pc := 23) dL_valueUpTo_23 ?_
          exact ⟨by unfold lval; rw [ql_y (by simp [lky, h14]), if_neg (by omega)], rfl, rfl⟩
  exact lp m hm
/-- t has its end up to m -/
def led (I : qI) (m : Nat) (t : Int) : Bool := decide (0 < I 8 t.toNat ∧ I 8 t.toNat ≤ (m : Int))
theorem ct_L_isEndedBy {L m : Nat} (t : Int) (I : qI) (ht : 0 ≤ t ∧ t ≤ 60) : qT M_L_isEndedBy 0 [.inr (some 2), .inl t, .inl ((m : Nat) : Int)] L I (rI (bi (led I m t)) L I) := by
  refine q_enter (by decide) (Nat.le_of_ble_eq_true rfl) ?_
  refine q_aload_n (pc := 0) dL_isEndedBy_0 rfl ?_
  refine q_getR (f := 5) (pc := 1) dL_isEndedBy_1 lay_1 (by decide) rfl (by decide) fl_L27 rfl rfl ?_
  refine q_iload_n (pc := 4) dL_isEndedBy_4 rfl ?_
  refine q_iald (i := t.toNat) (pc := 5) dL_isEndedBy_5 rfl (by omega) (by omega) rfl ?_
  refine q_if_le (tgt := 23) (pc := 6) dL_isEndedBy_6 (by decide) (fun h6 => ?_) (fun h6 => ?_)
  · refine q_iconst (pc := 23) dL_isEndedBy_23 (by decide) ?_
    refine q_zret rfl (by first | exact Or.inl rfl | exact Or.inr rfl) (pc := 24) dL_isEndedBy_24 ?_
    exact ⟨by unfold led; rw [decide_eq_false (by omega)]; rfl, rfl, rfl⟩
  · refine q_aload_n (pc := 9) dL_isEndedBy_9 rfl ?_
    refine q_getR (f := 5) (pc := 10) dL_isEndedBy_10 lay_1 (by decide) rfl (by decide) fl_L27 rfl rfl ?_
    refine q_iload_n (pc := 13) dL_isEndedBy_13 rfl ?_
    refine q_iald (i := t.toNat) (pc := 14) dL_isEndedBy_14 rfl (by omega) (by omega) rfl ?_
    refine q_iload_n (pc := 15) dL_isEndedBy_15 rfl ?_
    refine q_icmp_gt (tgt := 23) (pc := 16) dL_isEndedBy_16 (by decide) (fun h16 => ?_) (fun h16 => ?_)
    · refine q_iconst (pc := 23) dL_isEndedBy_23 (by decide) ?_
      refine q_zret rfl (by first | exact Or.inl rfl | exact Or.inr rfl) (pc := 24) dL_isEndedBy_24 ?_
      exact ⟨by unfold led; rw [decide_eq_false (by omega)]; rfl, rfl, rfl⟩
    · refine q_iconst (pc := 19) dL_isEndedBy_19 (by decide) ?_
      refine q_goto (tgt := 24) (pc := 20) dL_isEndedBy_20 (by decide) ?_
      refine q_zret rfl (by first | exact Or.inl rfl | exact Or.inr rfl) (pc := 24) dL_isEndedBy_24 ?_
      exact ⟨by unfold led; rw [decide_eq_true (by omega)]; rfl, rfl, rfl⟩
def lev (I : qI) (k : Int) (m : Nat) (l : Nat) : Bool := decide (I 5 l = k) && led I m (I 4 l)
def leval (I : qI) (k : Int) (m l : Nat) : Int := if ql (lev I k m) l = 0 then 0 else I 6 (ql (lev I k m) l)
theorem bi_ne {b : Bool} (h : ¬ bi b = 0) : b = true := by cases b <;> simp [bi] at h ⊢
theorem bi_eq {b : Bool} (h : bi b = 0) : b = false := by cases b <;> simp [bi] at h ⊢
theorem ct_L_endedValueUpTo {L m : Nat} (k : Int) (I : qI) (hm : m ≤ 187) (ho : ∀ l, 1 ≤ l → l ≤ m → 0 ≤ I 4 l ∧ I 4 l ≤ 60) : qT M_L_endedValueUpTo 1 [.inr (some 2), .inl k, .inl ((m : Nat) : Int)] L I (rI (leval I k m m) L I) := by
  refine q_enter (by decide) (Nat.le_of_ble_eq_true rfl) ?_
  refine q_iload_n (pc := 0) dL_endedValueUpTo_0 rfl ?_
  refine q_istore_n (pc := 1) dL_endedValueUpTo_1 (by decide) ?_
  have lp : ∀ l : Nat, l ≤ m → qE M_L_endedValueUpTo 1 2 [some (.inr (some 2)), some (.inl k), some (.inl ((m : Nat) : Int)), some (.inl ((l : Nat) : Int))] [] L I (rI (leval I k m l) L I) := by
    intro l
    induction l with
    | zero =>
      intro hl
      refine q_iload_n (pc := 2) dL_endedValueUpTo_2 rfl ?_
      refine q_iconst (pc := 3) dL_endedValueUpTo_3 (by decide) ?_
      refine q_icmp_lt (tgt := 44) (pc := 4) dL_endedValueUpTo_4 (by decide) (fun h4 => ?_) (fun h4 => ?_)
      · refine q_iconst (pc := 44) dL_endedValueUpTo_44 (by decide) ?_
        refine q_iret rfl (pc := 45) dL_endedValueUpTo_45 ?_
        exact ⟨rfl, rfl, rfl⟩
      · omega
    | succ l ih =>
      intro hl
      refine q_iload_n (pc := 2) dL_endedValueUpTo_2 rfl ?_
      refine q_iconst (pc := 3) dL_endedValueUpTo_3 (by decide) ?_
      refine q_icmp_lt (tgt := 44) (pc := 4) dL_endedValueUpTo_4 (by decide) (fun h4 => ?_) (fun h4 => ?_)
      · omega
      · refine q_aload_n (pc := 7) dL_endedValueUpTo_7 rfl ?_
        refine q_getR (f := 2) (pc := 8) dL_endedValueUpTo_8 lay_1 (by decide) rfl (by decide) fl_L18 rfl rfl ?_
        refine q_iload_n (pc := 11) dL_endedValueUpTo_11 rfl ?_
        refine q_iald (i := (l + 1)) (pc := 12) dL_endedValueUpTo_12 rfl rfl (by omega) rfl ?_
        refine q_iload_n (pc := 13) dL_endedValueUpTo_13 rfl ?_
        refine q_icmp_ne (tgt := 38) (pc := 14) dL_endedValueUpTo_14 (by decide) (fun h14 => ?_) (fun h14 => ?_)
        · refine q_iinc (pc := 38) dL_endedValueUpTo_38 rfl (by decide) (show ((l + 1 : Nat) : Int) + (-1) = (l : Int) by omega) ⟨by omega, by omega⟩ ?_
          refine q_goto (tgt := 2) (pc := 41) dL_endedValueUpTo_41 (by decide) ?_
          have e : leval I k m (l + 1) = leval I k m l := by unfold leval; rw [ql_n (by simp [lev, h14])]
          rw [e]
          exact ih (by omega)
        · refine q_aload_n (pc := 17) dL_endedValueUpTo_17 rfl ?_
          refine q_aload_n (pc := 18) dL_endedValueUpTo_18 rfl ?_
          refine q_getR (f := 1) (pc := 19) dL_endedValueUpTo_19 lay_1 (by decide) rfl (by decide) fl_L15 rfl rfl ?_
          refine q_iload_n (pc := 22) dL_endedValueUpTo_22 rfl ?_
          refine q_iald (i := (l + 1)) (pc := 23) dL_endedValueUpTo_23 rfl rfl (by omega) rfl ?_
          refine q_iload_n (pc := 24) dL_endedValueUpTo_24 rfl ?_
          refine q_callV1 (pc := 25) dL_endedValueUpTo_25 ((ct_L_isEndedBy _ I (ho (l + 1) (by omega) hl))) cd_L_isEndedBy in_L_isEndedBy se_L_isEndedBy ml_L68 rfl (by decide) rfl rfl (Nat.le_of_ble_eq_true rfl) ⟨by decide, by decide⟩ ⟨by decide, by decide⟩ rfl ?_
          refine q_if_eq (tgt := 38) (pc := 28) dL_endedValueUpTo_28 (by decide) (fun h28 => ?_) (fun h28 => ?_)
          · refine q_iinc (pc := 38) dL_endedValueUpTo_38 rfl (by decide) (show ((l + 1 : Nat) : Int) + (-1) = (l : Int) by omega) ⟨by omega, by omega⟩ ?_
            refine q_goto (tgt := 2) (pc := 41) dL_endedValueUpTo_41 (by decide) ?_
            have e : leval I k m (l + 1) = leval I k m l := by unfold leval; rw [ql_n (by simp [lev, bi_eq h28])]
            rw [e]
            exact ih (by omega)
          · refine q_aload_n (pc := 31) dL_endedValueUpTo_31 rfl ?_
            refine q_getR (f := 3) (pc := 32) dL_endedValueUpTo_32 lay_1 (by decide) rfl (by decide) fl_L21 rfl rfl ?_
            refine q_iload_n (pc := 35) dL_endedValueUpTo_35 rfl ?_
            refine q_iald (i := (l + 1)) (pc := 36) dL_endedValueUpTo_36 rfl rfl (by omega) rfl ?_
            refine q_iret rfl (pc := 37) dL_endedValueUpTo_37 ?_
            exact ⟨by unfold leval; rw [ql_y (by simp [lev, h14, bi_ne h28]), if_neg (by omega)], rfl, rfl⟩
  exact lp m (Nat.le_refl _)
def llt (I : qI) (p : Int) (l : Nat) : Bool := decide (¬ (I 3 l = 2 ∨ I 3 l = 3)) && decide ((I 5 l).tdiv 4 = p)
theorem ct_L_latestOf {L n : Nat} (p : Int) (I : qI) (hn : I 2 6 = (n : Int)) (hn2 : n ≤ 187) : qT M_L_latestOf 1 [.inr (some 2), .inl p] L I (rI (ql (llt I p) n : Nat) L I) := by
  refine q_enter (by decide) (Nat.le_of_ble_eq_true rfl) ?_
  refine q_aload_n (pc := 0) dL_latestOf_0 rfl ?_
  refine q_getI (f := 6) (pc := 1) dL_latestOf_1 lay_1 (by decide) rfl (by decide) fl_L30 rfl rfl ?_
  refine q_istore_n (pc := 4) dL_latestOf_4 (by decide) ?_
  rw [hn]
  have lp : ∀ l : Nat, l ≤ 187 → qE M_L_latestOf 1 5 [some (.inr (some 2)), some (.inl p), some (.inl ((l : Nat) : Int))] [] L I (rI (ql (llt I p) l : Nat) L I) := by
    intro l
    induction l with
    | zero =>
      intro hl
      refine q_iload_n (pc := 5) dL_latestOf_5 rfl ?_
      refine q_iconst (pc := 6) dL_latestOf_6 (by decide) ?_
      refine q_icmp_lt (tgt := 39) (pc := 7) dL_latestOf_7 (by decide) (fun h7 => ?_) (fun h7 => ?_)
      · refine q_iconst (pc := 39) dL_latestOf_39 (by decide) ?_
        refine q_iret rfl (pc := 40) dL_latestOf_40 ?_
        exact ⟨rfl, rfl, rfl⟩
      · omega
    | succ l ih =>
      intro hl
      refine q_iload_n (pc := 5) dL_latestOf_5 rfl ?_
      refine q_iconst (pc := 6) dL_latestOf_6 (by decide) ?_
      refine q_icmp_lt (tgt := 39) (pc := 7) dL_latestOf_7 (by decide) (fun h7 => ?_) (fun h7 => ?_)
      · omega
      · refine q_aload_n (pc := 10) dL_latestOf_10 rfl ?_
        refine q_iload_n (pc := 11) dL_latestOf_11 rfl ?_
        refine q_callV1 (pc := 12) dL_latestOf_12 ((ct_L_isEnd (l := l + 1) I hl)) cd_L_isEnd in_L_isEnd se_L_isEnd ml_L72 rfl (by decide) rfl rfl (Nat.le_of_ble_eq_true rfl) ⟨by decide, by decide⟩ ⟨by decide, by decide⟩ rfl ?_
        refine q_if_ne (tgt := 33) (pc := 15) dL_latestOf_15 (by decide) (fun h15 => ?_) (fun h15 => ?_)
        · refine q_iinc (pc := 33) dL_latestOf_33 rfl (by decide) (show ((l + 1 : Nat) : Int) + (-1) = (l : Int) by omega) ⟨by omega, by omega⟩ ?_
          refine q_goto (tgt := 5) (pc := 36) dL_latestOf_36 (by decide) ?_
          have e : ql (llt I p) (l + 1) = ql (llt I p) l := by
            have h := bi_ne h15
            rw [decide_eq_true_eq] at h
            rw [ql, if_neg (by unfold llt; rw [decide_eq_false (not_not_intro h)]; simp)]
          rw [e]
          exact ih (by omega)
        · refine q_aload_n (pc := 18) dL_latestOf_18 rfl ?_
          refine q_getR (f := 2) (pc := 19) dL_latestOf_19 lay_1 (by decide) rfl (by decide) fl_L18 rfl rfl ?_
          refine q_iload_n (pc := 22) dL_latestOf_22 rfl ?_
          refine q_iald (i := (l + 1)) (pc := 23) dL_latestOf_23 rfl rfl (by omega) rfl ?_
          refine q_callS1 (pc := 24) dL_latestOf_24 ((ct_Q_pageOf _ I)) cd_Q_pageOf st_Q_pageOf ml_L34 rfl (Nat.le_of_ble_eq_true rfl) ⟨by decide, by decide⟩ ⟨by decide, by decide⟩ rfl ?_
          refine q_iload_n (pc := 27) dL_latestOf_27 rfl ?_
          refine q_icmp_ne (tgt := 33) (pc := 28) dL_latestOf_28 (by decide) (fun h28 => ?_) (fun h28 => ?_)
          · refine q_iinc (pc := 33) dL_latestOf_33 rfl (by decide) (show ((l + 1 : Nat) : Int) + (-1) = (l : Int) by omega) ⟨by omega, by omega⟩ ?_
            refine q_goto (tgt := 5) (pc := 36) dL_latestOf_36 (by decide) ?_
            have e : ql (llt I p) (l + 1) = ql (llt I p) l := by
              rw [ql, if_neg (by simp [llt, h28])]
            rw [e]
            exact ih (by omega)
          · refine q_iload_n (pc := 31) dL_latestOf_31 rfl ?_
            refine q_iret rfl (pc := 32) dL_latestOf_32 ?_
            refine ⟨?_, rfl, rfl⟩
            have h := bi_eq h15
            rw [decide_eq_false_iff_not] at h
            rw [ql, if_pos (by unfold llt; rw [decide_eq_true h, decide_eq_true h28]; rfl)]
  exact lp n hn2
def lch (I : qI) (t : Int) (l : Nat) : Bool := decide (I 4 l = t) && decide (¬ (I 3 l = 2 ∨ I 3 l = 3))
theorem ct_L_hasChangeOf {L n : Nat} (t : Int) (I : qI) (hn : I 2 6 = (n : Int)) (hn2 : n ≤ 187) : qT M_L_hasChangeOf 1 [.inr (some 2), .inl t] L I (rI (bi (decide (qf (lch I t) n 1 ≠ 0))) L I) := by
  refine q_enter (by decide) (Nat.le_of_ble_eq_true rfl) ?_
  refine q_iconst (pc := 0) dL_hasChangeOf_0 (by decide) ?_
  refine q_istore_n (pc := 1) dL_hasChangeOf_1 (by decide) ?_
  have lp : ∀ f l : Nat, l + f = n + 1 → 1 ≤ l → qE M_L_hasChangeOf 1 2 [some (.inr (some 2)), some (.inl t), some (.inl ((l : Nat) : Int))] [] L I (rI (bi (decide (qf (lch I t) f l ≠ 0))) L I) := by
    intro f
    induction f with
    | zero =>
      intro l hl h1
      refine q_iload_n (pc := 2) dL_hasChangeOf_2 rfl ?_
      refine q_aload_n (pc := 3) dL_hasChangeOf_3 rfl ?_
      refine q_getI (f := 6) (pc := 4) dL_hasChangeOf_4 lay_1 (by decide) rfl (by decide) fl_L30 rfl rfl ?_
      refine q_icmp_gt (tgt := 36) (pc := 7) dL_hasChangeOf_7 (by decide) (fun h7 => ?_) (fun h7 => ?_)
      · refine q_iconst (pc := 36) dL_hasChangeOf_36 (by decide) ?_
        refine q_zret rfl (by first | exact Or.inl rfl | exact Or.inr rfl) (pc := 37) dL_hasChangeOf_37 ?_
        exact ⟨rfl, rfl, rfl⟩
      · omega
    | succ f ih =>
      intro l hl h1
      refine q_iload_n (pc := 2) dL_hasChangeOf_2 rfl ?_
      refine q_aload_n (pc := 3) dL_hasChangeOf_3 rfl ?_
      refine q_getI (f := 6) (pc := 4) dL_hasChangeOf_4 lay_1 (by decide) rfl (by decide) fl_L30 rfl rfl ?_
      refine q_icmp_gt (tgt := 36) (pc := 7) dL_hasChangeOf_7 (by decide) (fun h7 => ?_) (fun h7 => ?_)
      · omega
      · refine q_aload_n (pc := 10) dL_hasChangeOf_10 rfl ?_
        refine q_getR (f := 1) (pc := 11) dL_hasChangeOf_11 lay_1 (by decide) rfl (by decide) fl_L15 rfl rfl ?_
        refine q_iload_n (pc := 14) dL_hasChangeOf_14 rfl ?_
        refine q_iald (i := l) (pc := 15) dL_hasChangeOf_15 rfl rfl (by omega) rfl ?_
        refine q_iload_n (pc := 16) dL_hasChangeOf_16 rfl ?_
        refine q_icmp_ne (tgt := 30) (pc := 17) dL_hasChangeOf_17 (by decide) (fun h17 => ?_) (fun h17 => ?_)
        · refine q_iinc (pc := 30) dL_hasChangeOf_30 rfl (by decide) rfl ⟨by omega, by omega⟩ ?_
          refine q_goto (tgt := 2) (pc := 33) dL_hasChangeOf_33 (by decide) ?_
          have e : qf (lch I t) (f + 1) l = qf (lch I t) f (l + 1) := by rw [qf, if_neg (by simp [lch, h17])]
          rw [e]
          exact ih (l + 1) (by omega) (by omega)
        · refine q_aload_n (pc := 20) dL_hasChangeOf_20 rfl ?_
          refine q_iload_n (pc := 21) dL_hasChangeOf_21 rfl ?_
          refine q_callV1 (pc := 22) dL_hasChangeOf_22 ((ct_L_isEnd (l := l) I (by omega))) cd_L_isEnd in_L_isEnd se_L_isEnd ml_L72 rfl (by decide) rfl rfl (Nat.le_of_ble_eq_true rfl) ⟨by decide, by decide⟩ ⟨by decide, by decide⟩ rfl ?_
          refine q_if_ne (tgt := 30) (pc := 25) dL_hasChangeOf_25 (by decide) (fun h25 => ?_) (fun h25 => ?_)
          · refine q_iinc (pc := 30) dL_hasChangeOf_30 rfl (by decide) rfl ⟨by omega, by omega⟩ ?_
            refine q_goto (tgt := 2) (pc := 33) dL_hasChangeOf_33 (by decide) ?_
            have e : qf (lch I t) (f + 1) l = qf (lch I t) f (l + 1) := by
              have h := bi_ne h25
              rw [decide_eq_true_eq] at h
              rw [qf, if_neg (by unfold lch; rw [decide_eq_false (p := ¬ (I 3 l = 2 ∨ I 3 l = 3)) (not_not_intro h)]; simp)]
            rw [e]
            exact ih (l + 1) (by omega) (by omega)
          · refine q_iconst (pc := 28) dL_hasChangeOf_28 (by decide) ?_
            refine q_zret rfl (by first | exact Or.inl rfl | exact Or.inr rfl) (pc := 29) dL_hasChangeOf_29 ?_
            have h := bi_eq h25
            rw [decide_eq_false_iff_not] at h
            have e : qf (lch I t) (f + 1) l = l := by rw [qf, if_pos (by unfold lch; rw [decide_eq_true h17, decide_eq_true h]; rfl)]
            exact ⟨by rw [e, decide_eq_true (by omega)]; rfl, rfl, rfl⟩
  exact lp n 1 (by omega) (by omega)
def lfp (I : qI) (t k : Int) (l : Nat) : Bool := decide (I 4 l = t) && decide (I 5 l = k)
theorem ct_L_firstChange {L n : Nat} (t k : Int) (I : qI) (hn : I 2 6 = (n : Int)) (hn2 : n ≤ 187) : qT M_L_firstChange 0 [.inr (some 2), .inl t, .inl k] L I (rI (qf (lfp I t k) n 1 : Nat) L I) := by
  refine q_enter (by decide) (Nat.le_of_ble_eq_true rfl) ?_
  refine q_iconst (pc := 0) dL_firstChange_0 (by decide) ?_
  refine q_istore_n (pc := 1) dL_firstChange_1 (by decide) ?_
  have lp : ∀ f l : Nat, l + f = n + 1 → 1 ≤ l → qE M_L_firstChange 0 2 [some (.inr (some 2)), some (.inl t), some (.inl k), some (.inl ((l : Nat) : Int))] [] L I (rI (qf (lfp I t k) f l : Nat) L I) := by
    intro f
    induction f with
    | zero =>
      intro l hl h1
      refine q_iload_n (pc := 2) dL_firstChange_2 rfl ?_
      refine q_aload_n (pc := 3) dL_firstChange_3 rfl ?_
      refine q_getI (f := 6) (pc := 4) dL_firstChange_4 lay_1 (by decide) rfl (by decide) fl_L30 rfl rfl ?_
      refine q_icmp_gt (tgt := 38) (pc := 7) dL_firstChange_7 (by decide) (fun h7 => ?_) (fun h7 => ?_)
      · refine q_iconst (pc := 38) dL_firstChange_38 (by decide) ?_
        refine q_iret rfl (pc := 39) dL_firstChange_39 ?_
        exact ⟨rfl, rfl, rfl⟩
      · omega
    | succ f ih =>
      intro l hl h1
      refine q_iload_n (pc := 2) dL_firstChange_2 rfl ?_
      refine q_aload_n (pc := 3) dL_firstChange_3 rfl ?_
      refine q_getI (f := 6) (pc := 4) dL_firstChange_4 lay_1 (by decide) rfl (by decide) fl_L30 rfl rfl ?_
      refine q_icmp_gt (tgt := 38) (pc := 7) dL_firstChange_7 (by decide) (fun h7 => ?_) (fun h7 => ?_)
      · omega
      · refine q_aload_n (pc := 10) dL_firstChange_10 rfl ?_
        refine q_getR (f := 1) (pc := 11) dL_firstChange_11 lay_1 (by decide) rfl (by decide) fl_L15 rfl rfl ?_
        refine q_iload_n (pc := 14) dL_firstChange_14 rfl ?_
        refine q_iald (i := l) (pc := 15) dL_firstChange_15 rfl rfl (by omega) rfl ?_
        refine q_iload_n (pc := 16) dL_firstChange_16 rfl ?_
        refine q_icmp_ne (tgt := 32) (pc := 17) dL_firstChange_17 (by decide) (fun h17 => ?_) (fun h17 => ?_)
        · refine q_iinc (pc := 32) dL_firstChange_32 rfl (by decide) rfl ⟨by omega, by omega⟩ ?_
          refine q_goto (tgt := 2) (pc := 35) dL_firstChange_35 (by decide) ?_
          have e : qf (lfp I t k) (f + 1) l = qf (lfp I t k) f (l + 1) := by rw [qf, if_neg (by simp [lfp, h17])]
          rw [e]
          exact ih (l + 1) (by omega) (by omega)
        · refine q_aload_n (pc := 20) dL_firstChange_20 rfl ?_
          refine q_getR (f := 2) (pc := 21) dL_firstChange_21 lay_1 (by decide) rfl (by decide) fl_L18 rfl rfl ?_
          refine q_iload_n (pc := 24) dL_firstChange_24 rfl ?_
          refine q_iald (i := l) (pc := 25) dL_firstChange_25 rfl rfl (by omega) rfl ?_
          refine q_iload_n (pc := 26) dL_firstChange_26 rfl ?_
          refine q_icmp_ne (tgt := 32) (pc := 27) dL_firstChange_27 (by decide) (fun h27 => ?_) (fun h27 => ?_)
          · refine q_iinc (pc := 32) dL_firstChange_32 rfl (by decide) rfl ⟨by omega, by omega⟩ ?_
            refine q_goto (tgt := 2) (pc := 35) dL_firstChange_35 (by decide) ?_
            have e : qf (lfp I t k) (f + 1) l = qf (lfp I t k) f (l + 1) := by rw [qf, if_neg (by simp [lfp, h27])]
            rw [e]
            exact ih (l + 1) (by omega) (by omega)
          · refine q_iload_n (pc := 30) dL_firstChange_30 rfl ?_
            refine q_iret rfl (pc := 31) dL_firstChange_31 ?_
            exact ⟨by rw [qf, if_pos (by simp [lfp, h17, h27])], rfl, rfl⟩
  exact lp n 1 (by omega) (by omega)
def lune (I : qI) (m : Nat) (l : Nat) : Bool := !led I m (I 4 l)
def llow (I : qI) (m : Nat) : Nat := if qf (lune I m) m 1 = 0 then m else qf (lune I m) m 1 - 1
theorem ct_L_lowOf {L m : Nat} (I : qI) (hm : m ≤ 187) (ho : ∀ l, 1 ≤ l → l ≤ m → 0 ≤ I 4 l ∧ I 4 l ≤ 60) : qT M_L_lowOf 1 [.inr (some 2), .inl ((m : Nat) : Int)] L I (rI (llow I m : Nat) L I) := by
  refine q_enter (by decide) (Nat.le_of_ble_eq_true rfl) ?_
  refine q_iconst (pc := 0) dL_lowOf_0 (by decide) ?_
  refine q_istore_n (pc := 1) dL_lowOf_1 (by decide) ?_
  have lp : ∀ f l : Nat, l + f = m + 1 → 1 ≤ l → qE M_L_lowOf 1 2 [some (.inr (some 2)), some (.inl ((m : Nat) : Int)), some (.inl ((l : Nat) : Int))] [] L I (rI ((if qf (lune I m) f l = 0 then m else qf (lune I m) f l - 1 : Nat) : Int) L I) := by
    intro f
    induction f with
    | zero =>
      intro l hl h1
      refine q_iload_n (pc := 2) dL_lowOf_2 rfl ?_
      refine q_iload_n (pc := 3) dL_lowOf_3 rfl ?_
      refine q_icmp_gt (tgt := 31) (pc := 4) dL_lowOf_4 (by decide) (fun h4 => ?_) (fun h4 => ?_)
      · refine q_iload_n (pc := 31) dL_lowOf_31 rfl ?_
        refine q_iret rfl (pc := 32) dL_lowOf_32 ?_
        exact ⟨rfl, rfl, rfl⟩
      · omega
    | succ f ih =>
      intro l hl h1
      refine q_iload_n (pc := 2) dL_lowOf_2 rfl ?_
      refine q_iload_n (pc := 3) dL_lowOf_3 rfl ?_
      refine q_icmp_gt (tgt := 31) (pc := 4) dL_lowOf_4 (by decide) (fun h4 => ?_) (fun h4 => ?_)
      · omega
      · refine q_aload_n (pc := 7) dL_lowOf_7 rfl ?_
        refine q_aload_n (pc := 8) dL_lowOf_8 rfl ?_
        refine q_getR (f := 1) (pc := 9) dL_lowOf_9 lay_1 (by decide) rfl (by decide) fl_L15 rfl rfl ?_
        refine q_iload_n (pc := 12) dL_lowOf_12 rfl ?_
        refine q_iald (i := l) (pc := 13) dL_lowOf_13 rfl rfl (by omega) rfl ?_
        refine q_iload_n (pc := 14) dL_lowOf_14 rfl ?_
        refine q_callV1 (pc := 15) dL_lowOf_15 ((ct_L_isEndedBy _ I (ho l h1 (by omega)))) cd_L_isEndedBy in_L_isEndedBy se_L_isEndedBy ml_L68 rfl (by decide) rfl rfl (Nat.le_of_ble_eq_true rfl) ⟨by decide, by decide⟩ ⟨by decide, by decide⟩ rfl ?_
        refine q_if_ne (tgt := 25) (pc := 18) dL_lowOf_18 (by decide) (fun h18 => ?_) (fun h18 => ?_)
        · refine q_iinc (pc := 25) dL_lowOf_25 rfl (by decide) rfl ⟨by omega, by omega⟩ ?_
          refine q_goto (tgt := 2) (pc := 28) dL_lowOf_28 (by decide) ?_
          have e : qf (lune I m) (f + 1) l = qf (lune I m) f (l + 1) := by rw [qf, if_neg (by simp [lune, bi_ne h18])]
          rw [e]
          exact ih (l + 1) (by omega) (by omega)
        · refine q_iload_n (pc := 21) dL_lowOf_21 rfl ?_
          refine q_iconst (pc := 22) dL_lowOf_22 (by decide) ?_
          refine q_isub (pc := 23) dL_lowOf_23 (show (l : Int) - 1 = ((l - 1 : Nat) : Int) by omega) ⟨by omega, by omega⟩ ?_
          refine q_iret rfl (pc := 24) dL_lowOf_24 ?_
          have e : qf (lune I m) (f + 1) l = l := by rw [qf, if_pos (by simp [lune, bi_eq h18])]
          exact ⟨by rw [e, if_neg (by omega)], rfl, rfl⟩
  exact lp m 1 (by omega) (by omega)
