/-! The cache and the transactions. -/
theorem ct_H_isFull {L : Nat} (I : qI) : qT M_H_isFull 0 [.inr (some 41)] L I (rI (bi (decide (4 ≤ I 41 1))) L I) := by
  refine q_enter (by decide) (Nat.le_of_ble_eq_true rfl) ?_
  refine q_aload_n (pc := 0) dH_isFull_0 rfl ?_
  refine q_getI (f := 1) (pc := 1) dH_isFull_1 lay_5 (by decide) rfl (by decide) fl_H13 rfl rfl ?_
  refine q_iconst (pc := 4) dH_isFull_4 (by decide) ?_
  refine q_icmp_lt (tgt := 12) (pc := 5) dH_isFull_5 (by decide) (fun h5 => ?_) (fun h5 => ?_)
  · refine q_iconst (pc := 12) dH_isFull_12 (by decide) ?_
    refine q_zret rfl (by first | exact Or.inl rfl | exact Or.inr rfl) (pc := 13) dH_isFull_13 ?_
    exact ⟨by simp [bi]; omega, rfl, rfl⟩
  · refine q_iconst (pc := 8) dH_isFull_8 (by decide) ?_
    refine q_goto (tgt := 13) (pc := 9) dH_isFull_9 (by decide) ?_
    refine q_zret rfl (by first | exact Or.inl rfl | exact Or.inr rfl) (pc := 13) dH_isFull_13 ?_
    exact ⟨by simp [bi]; omega, rfl, rfl⟩
/-- a page's rank, f pages from i on -/
def hrk (I : qI) (p : Int) : Nat → Nat → Nat
  | 0, _ => 0
  | f + 1, i => if I 42 i = p then f + 1 else hrk I p f (i + 1)
theorem lp_H_rankOf {L k : Nat} (p : Int) (I : qI) (hk : I 41 1 = (k : Int)) (hk2 : k ≤ 4) : ∀ f i, i + f = k → qE M_H_rankOf 0 2 [some (.inr (some 41)), some (.inl p), some (.inl ((i : Nat) : Int))] [] L I (rI (hrk I p f i : Nat) L I) := by
  intro f
  induction f with
  | zero =>
    intro i hi
    refine q_iload_n (pc := 2) dH_rankOf_2 rfl ?_
    refine q_aload_n (pc := 3) dH_rankOf_3 rfl ?_
    refine q_getI (f := 1) (pc := 4) dH_rankOf_4 lay_5 (by decide) rfl (by decide) fl_H13 rfl rfl ?_
    refine q_icmp_ge (tgt := 33) (pc := 7) dH_rankOf_7 (by decide) (fun h7 => ?_) (fun h7 => ?_)
    · refine q_iconst (pc := 33) dH_rankOf_33 (by decide) ?_
      refine q_iret rfl (pc := 34) dH_rankOf_34 ?_
      exact ⟨rfl, rfl, rfl⟩
    · omega
  | succ f ih =>
    intro i hi
    refine q_iload_n (pc := 2) dH_rankOf_2 rfl ?_
    refine q_aload_n (pc := 3) dH_rankOf_3 rfl ?_
    refine q_getI (f := 1) (pc := 4) dH_rankOf_4 lay_5 (by decide) rfl (by decide) fl_H13 rfl rfl ?_
    refine q_icmp_ge (tgt := 33) (pc := 7) dH_rankOf_7 (by decide) (fun h7 => ?_) (fun h7 => ?_)
    · omega
    · refine q_aload_n (pc := 10) dH_rankOf_10 rfl ?_
      refine q_getR (f := 0) (pc := 11) dH_rankOf_11 lay_5 (by decide) rfl (by decide) fl_H9 rfl rfl ?_
      refine q_iload_n (pc := 14) dH_rankOf_14 rfl ?_
      refine q_iald (i := i) (pc := 15) dH_rankOf_15 rfl rfl (by omega) rfl ?_
      refine q_iload_n (pc := 16) dH_rankOf_16 rfl ?_
      refine q_icmp_ne (tgt := 27) (pc := 17) dH_rankOf_17 (by decide) (fun h17 => ?_) (fun h17 => ?_)
      · refine q_iinc (pc := 27) dH_rankOf_27 rfl (by decide) rfl ⟨by omega, by omega⟩ ?_
        refine q_goto (tgt := 2) (pc := 30) dH_rankOf_30 (by decide) ?_
        have e : hrk I p (f + 1) i = hrk I p f (i + 1) := by rw [hrk, if_neg h17]
        rw [e]
        exact ih (i + 1) (by omega)
      · refine q_aload_n (pc := 20) dH_rankOf_20 rfl ?_
        refine q_getI (f := 1) (pc := 21) dH_rankOf_21 lay_5 (by decide) rfl (by decide) fl_H13 rfl rfl ?_
        refine q_iload_n (pc := 24) dH_rankOf_24 rfl ?_
        refine q_isub (pc := 25) dH_rankOf_25 rfl ⟨by omega, by omega⟩ ?_
        refine q_iret rfl (pc := 26) dH_rankOf_26 ?_
        exact ⟨by rw [hrk, if_pos h17, hk]; congr 2; omega, rfl, rfl⟩
theorem ct_H_rankOf {L k : Nat} (p : Int) (I : qI) (hk : I 41 1 = (k : Int)) (hk2 : k ≤ 4) : qT M_H_rankOf 0 [.inr (some 41), .inl p] L I (rI (hrk I p k 0 : Nat) L I) := by
  refine q_enter (by decide) (Nat.le_of_ble_eq_true rfl) ?_
  refine q_iconst (pc := 0) dH_rankOf_0 (by decide) ?_
  refine q_istore_n (pc := 1) dH_rankOf_1 (by decide) ?_
  exact lp_H_rankOf p I hk hk2 k 0 (by omega)
def happ (I : qI) (k : Nat) (p : Int) : qI := if k < 4 then q_up (q_up I 42 k p) 41 1 ((k : Int) + 1) else I
theorem ct_H_append {L k : Nat} (p : Int) (I : qI) (hk : I 41 1 = (k : Int)) (hk2 : k ≤ 4) : qT M_H_append 0 [.inr (some 41), .inl p] L I (rV L (happ I k p)) := by
  refine q_enter (by decide) (Nat.le_of_ble_eq_true rfl) ?_
  refine q_aload_n (pc := 0) dH_append_0 rfl ?_
  refine q_getI (f := 1) (pc := 1) dH_append_1 lay_5 (by decide) rfl (by decide) fl_H13 rfl rfl ?_
  refine q_iconst (pc := 4) dH_append_4 (by decide) ?_
  refine q_icmp_ge (tgt := 28) (pc := 5) dH_append_5 (by decide) (fun h5 => ?_) (fun h5 => ?_)
  · refine q_vret rfl (pc := 28) dH_append_28 ?_
    exact ⟨rfl, rfl, by unfold happ; rw [if_neg (by omega)]⟩
  · have e : q_up I 42 k p 41 1 = (k : Int) := by simp [q_up, hk]
    refine q_aload_n (pc := 8) dH_append_8 rfl ?_
    refine q_getR (f := 0) (pc := 9) dH_append_9 lay_5 (by decide) rfl (by decide) fl_H9 rfl rfl ?_
    refine q_aload_n (pc := 12) dH_append_12 rfl ?_
    refine q_getI (f := 1) (pc := 13) dH_append_13 lay_5 (by decide) rfl (by decide) fl_H13 rfl rfl ?_
    refine q_iload_n (pc := 16) dH_append_16 rfl ?_
    refine q_iast (i := k) (pc := 17) dH_append_17 rfl hk (by omega) rfl ?_
    refine q_aload_n (pc := 18) dH_append_18 rfl ?_
    refine q_dup (pc := 19) dH_append_19 ?_
    refine q_getI (f := 1) (pc := 20) dH_append_20 lay_5 (by decide) rfl (by decide) fl_H13 rfl rfl ?_
    refine q_iconst (pc := 23) dH_append_23 (by decide) ?_
    refine q_iadd (pc := 24) dH_append_24 rfl ⟨by omega, by omega⟩ ?_
    refine q_putI (f := 1) (pc := 25) dH_append_25 lay_5 typ_5 (by decide) rfl (by decide) fl_H13 rfl (Or.inl rfl) (Or.inl rfl) rfl ?_
    refine q_vret rfl (pc := 28) dH_append_28 ?_
    exact ⟨rfl, rfl, by unfold happ; rw [if_pos (by omega), e]⟩
/-- the pages but p, from i on, are written from w on -/
def hrm (p : Int) : Nat → Nat → Nat → qI → qI × Nat
  | 0, _, w, I => (I, w)
  | f + 1, i, w, I => if I 42 i = p then hrm p f (i + 1) w I else hrm p f (i + 1) (w + 1) (q_up I 42 w (I 42 i))
theorem lp_H_remove {L k : Nat} (p : Int) (hk2 : k ≤ 4) : ∀ f i w I, I 41 1 = (k : Int) → i + f = k → w ≤ i → qE M_H_remove 0 4 [some (.inr (some 41)), some (.inl p), some (.inl ((w : Nat) : Int)), some (.inl ((i : Nat) : Int))] [] L I (rV L (q_up (hrm p f i w I).1 41 1 ((hrm p f i w I).2 : Nat))) := by
  intro f
  induction f with
  | zero =>
    intro i w I hk hi hw
    refine q_iload_n (pc := 4) dH_remove_4 rfl ?_
    refine q_aload_n (pc := 5) dH_remove_5 rfl ?_
    refine q_getI (f := 1) (pc := 6) dH_remove_6 lay_5 (by decide) rfl (by decide) fl_H13 rfl rfl ?_
    refine q_icmp_ge (tgt := 43) (pc := 9) dH_remove_9 (by decide) (fun h9 => ?_) (fun h9 => ?_)
    · refine q_aload_n (pc := 43) dH_remove_43 rfl ?_
      refine q_iload_n (pc := 44) dH_remove_44 rfl ?_
      refine q_putI (f := 1) (pc := 45) dH_remove_45 lay_5 typ_5 (by decide) rfl (by decide) fl_H13 rfl (Or.inl rfl) (Or.inl rfl) rfl ?_
      refine q_vret rfl (pc := 48) dH_remove_48 ?_
      exact ⟨rfl, rfl, rfl⟩
    · omega
  | succ f ih =>
    intro i w I hk hi hw
    refine q_iload_n (pc := 4) dH_remove_4 rfl ?_
    refine q_aload_n (pc := 5) dH_remove_5 rfl ?_
    refine q_getI (f := 1) (pc := 6) dH_remove_6 lay_5 (by decide) rfl (by decide) fl_H13 rfl rfl ?_
    refine q_icmp_ge (tgt := 43) (pc := 9) dH_remove_9 (by decide) (fun h9 => ?_) (fun h9 => ?_)
    · omega
    · refine q_aload_n (pc := 12) dH_remove_12 rfl ?_
      refine q_getR (f := 0) (pc := 13) dH_remove_13 lay_5 (by decide) rfl (by decide) fl_H9 rfl rfl ?_
      refine q_iload_n (pc := 16) dH_remove_16 rfl ?_
      refine q_iald (i := i) (pc := 17) dH_remove_17 rfl rfl (by omega) rfl ?_
      refine q_iload_n (pc := 18) dH_remove_18 rfl ?_
      refine q_icmp_eq (tgt := 37) (pc := 19) dH_remove_19 (by decide) (fun h19 => ?_) (fun h19 => ?_)
      · refine q_iinc (pc := 37) dH_remove_37 rfl (by decide) rfl ⟨by omega, by omega⟩ ?_
        refine q_goto (tgt := 4) (pc := 40) dH_remove_40 (by decide) ?_
        have e : hrm p (f + 1) i w I = hrm p f (i + 1) w I := by rw [hrm, if_pos h19]
        rw [e]
        exact ih (i + 1) w I hk (by omega) (by omega)
      · refine q_aload_n (pc := 22) dH_remove_22 rfl ?_
        refine q_getR (f := 0) (pc := 23) dH_remove_23 lay_5 (by decide) rfl (by decide) fl_H9 rfl rfl ?_
        refine q_iload_n (pc := 26) dH_remove_26 rfl ?_
        refine q_aload_n (pc := 27) dH_remove_27 rfl ?_
        refine q_getR (f := 0) (pc := 28) dH_remove_28 lay_5 (by decide) rfl (by decide) fl_H9 rfl rfl ?_
        refine q_iload_n (pc := 31) dH_remove_31 rfl ?_
        refine q_iald (i := i) (pc := 32) dH_remove_32 rfl rfl (by omega) rfl ?_
        refine q_iast (i := w) (pc := 33) dH_remove_33 rfl rfl (by omega) rfl ?_
        refine q_iinc (pc := 34) dH_remove_34 rfl (by decide) rfl ⟨by omega, by omega⟩ ?_
        refine q_iinc (pc := 37) dH_remove_37 rfl (by decide) rfl ⟨by omega, by omega⟩ ?_
        refine q_goto (tgt := 4) (pc := 40) dH_remove_40 (by decide) ?_
        have e : hrm p (f + 1) i w I = hrm p f (i + 1) (w + 1) (q_up I 42 w (I 42 i)) := by rw [hrm, if_neg h19]
        rw [e]
        exact ih (i + 1) (w + 1) _ (by simp [q_up, hk]) (by omega) (by omega)
def hrem (I : qI) (k : Nat) (p : Int) : qI := q_up (hrm p k 0 0 I).1 41 1 ((hrm p k 0 0 I).2 : Nat)
theorem ct_H_remove {L k : Nat} (p : Int) (I : qI) (hk : I 41 1 = (k : Int)) (hk2 : k ≤ 4) : qT M_H_remove 0 [.inr (some 41), .inl p] L I (rV L (hrem I k p)) := by
  refine q_enter (by decide) (Nat.le_of_ble_eq_true rfl) ?_
  refine q_iconst (pc := 0) dH_remove_0 (by decide) ?_
  refine q_istore_n (pc := 1) dH_remove_1 (by decide) ?_
  refine q_iconst (pc := 2) dH_remove_2 (by decide) ?_
  refine q_istore_n (pc := 3) dH_remove_3 (by decide) ?_
  exact lp_H_remove p hk2 k 0 0 I hk (by omega) (by omega)
theorem ct_H_clear {L : Nat} (I : qI) : qT M_H_clear 0 [.inr (some 41)] L I (rV L (q_up I 41 1 0)) := by
  refine q_enter (by decide) (Nat.le_of_ble_eq_true rfl) ?_
  refine q_aload_n (pc := 0) dH_clear_0 rfl ?_
  refine q_iconst (pc := 1) dH_clear_1 (by decide) ?_
  refine q_putI (f := 1) (pc := 2) dH_clear_2 lay_5 typ_5 (by decide) rfl (by decide) fl_H13 rfl (Or.inl rfl) (Or.inl rfl) rfl ?_
  refine q_vret rfl (pc := 5) dH_clear_5 ?_
  exact ⟨rfl, rfl, rfl⟩
theorem ct_T_isFull {L : Nat} (I : qI) : qT M_T_isFull 0 [.inr (some 9)] L I (rI (bi (decide (4 ≤ I 9 3 ∨ 60 ≤ I 9 2))) L I) := by
  refine q_enter (by decide) (Nat.le_of_ble_eq_true rfl) ?_
  refine q_aload_n (pc := 0) dT_isFull_0 rfl ?_
  refine q_getI (f := 3) (pc := 1) dT_isFull_1 lay_2 (by decide) rfl (by decide) fl_T23 rfl rfl ?_
  refine q_iconst (pc := 4) dT_isFull_4 (by decide) ?_
  refine q_icmp_ge (tgt := 17) (pc := 5) dT_isFull_5 (by decide) (fun h5 => ?_) (fun h5 => ?_)
  · refine q_iconst (pc := 17) dT_isFull_17 (by decide) ?_
    refine q_goto (tgt := 22) (pc := 18) dT_isFull_18 (by decide) ?_
    refine q_zret rfl (by first | exact Or.inl rfl | exact Or.inr rfl) (pc := 22) dT_isFull_22 ?_
    exact ⟨by simp [bi, h5], rfl, rfl⟩
  · refine q_aload_n (pc := 8) dT_isFull_8 rfl ?_
    refine q_getI (f := 2) (pc := 9) dT_isFull_9 lay_2 (by decide) rfl (by decide) fl_T19 rfl rfl ?_
    refine q_bipush (pc := 12) dT_isFull_12 (by decide) (by decide) ?_
    refine q_icmp_lt (tgt := 21) (pc := 14) dT_isFull_14 (by decide) (fun h14 => ?_) (fun h14 => ?_)
    · refine q_iconst (pc := 21) dT_isFull_21 (by decide) ?_
      refine q_zret rfl (by first | exact Or.inl rfl | exact Or.inr rfl) (pc := 22) dT_isFull_22 ?_
      exact ⟨by have : ¬ (4 ≤ I 9 3 ∨ 60 ≤ I 9 2) := by omega
                simp [bi, this], rfl, rfl⟩
    · refine q_iconst (pc := 17) dT_isFull_17 (by decide) ?_
      refine q_goto (tgt := 22) (pc := 18) dT_isFull_18 (by decide) ?_
      refine q_zret rfl (by first | exact Or.inl rfl | exact Or.inr rfl) (pc := 22) dT_isFull_22 ?_
      exact ⟨by have : 60 ≤ I 9 2 := by omega
                simp [bi, this], rfl, rfl⟩
def tst (I : qI) (T : Nat) : qI := q_up (q_up (q_up I 9 2 ((T : Int) + 1)) 10 (T + 1) 1) 9 3 (I 9 3 + 1)
theorem ct_T_start {L T : Nat} (I : qI) (hT : I 9 2 = (T : Int)) (hT2 : T < 60) (hA : -100 ≤ I 9 3 ∧ I 9 3 ≤ 100) : qT M_T_start 0 [.inr (some 9)] L I (rI ((T + 1 : Nat) : Int) L (tst I T)) := by
  refine q_enter (by decide) (Nat.le_of_ble_eq_true rfl) ?_
  have e1 : q_up I 9 2 (I 9 2 + 1) 9 2 = ((T + 1 : Nat) : Int) := by simp [q_up, hT]
  have e2 : q_up (q_up I 9 2 (I 9 2 + 1)) 10 (T + 1) 1 9 3 = I 9 3 := by simp [q_up]
  refine q_aload_n (pc := 0) dT_start_0 rfl ?_
  refine q_dup (pc := 1) dT_start_1 ?_
  refine q_getI (f := 2) (pc := 2) dT_start_2 lay_2 (by decide) rfl (by decide) fl_T19 rfl rfl ?_
  refine q_iconst (pc := 5) dT_start_5 (by decide) ?_
  refine q_iadd (pc := 6) dT_start_6 rfl ⟨by omega, by omega⟩ ?_
  refine q_putI (f := 2) (pc := 7) dT_start_7 lay_2 typ_2 (by decide) rfl (by decide) fl_T19 rfl (Or.inl rfl) (Or.inl rfl) rfl ?_
  refine q_aload_n (pc := 10) dT_start_10 rfl ?_
  refine q_getR (f := 0) (pc := 11) dT_start_11 lay_2 (by decide) rfl (by decide) fl_T9 rfl rfl ?_
  refine q_aload_n (pc := 14) dT_start_14 rfl ?_
  refine q_getI (f := 2) (pc := 15) dT_start_15 lay_2 (by decide) rfl (by decide) fl_T19 rfl rfl ?_
  refine q_iconst (pc := 18) dT_start_18 (by decide) ?_
  refine q_zast (i := (T + 1)) (pc := 19) dT_start_19 rfl e1 (by omega) rfl (by first | exact Or.inl rfl | exact Or.inr rfl) ?_
  refine q_aload_n (pc := 20) dT_start_20 rfl ?_
  refine q_dup (pc := 21) dT_start_21 ?_
  refine q_getI (f := 3) (pc := 22) dT_start_22 lay_2 (by decide) rfl (by decide) fl_T23 rfl rfl ?_
  refine q_iconst (pc := 25) dT_start_25 (by decide) ?_
  refine q_iadd (pc := 26) dT_start_26 rfl ⟨by omega, by omega⟩ ?_
  refine q_putI (f := 3) (pc := 27) dT_start_27 lay_2 typ_2 (by decide) rfl (by decide) fl_T23 rfl (Or.inl rfl) (Or.inl rfl) rfl ?_
  refine q_aload_n (pc := 30) dT_start_30 rfl ?_
  refine q_getI (f := 2) (pc := 31) dT_start_31 lay_2 (by decide) rfl (by decide) fl_T19 rfl rfl ?_
  refine q_iret rfl (pc := 34) dT_start_34 ?_
  exact ⟨by simp [q_up, hT], rfl, by unfold tst; rw [e2, hT]⟩
def tac (I : qI) (t : Int) : Bool := decide (1 ≤ t ∧ t ≤ I 9 2 ∧ I 10 t.toNat ≠ 0)
theorem ct_T_isActive {L T : Nat} (t : Int) (I : qI) (hT : I 9 2 = (T : Int)) (hT2 : T ≤ 60) : qT M_T_isActive 0 [.inr (some 9), .inl t] L I (rI (bi (tac I t)) L I) := by
  refine q_enter (by decide) (Nat.le_of_ble_eq_true rfl) ?_
  refine q_iload_n (pc := 0) dT_isActive_0 rfl ?_
  refine q_iconst (pc := 1) dT_isActive_1 (by decide) ?_
  refine q_icmp_lt (tgt := 26) (pc := 2) dT_isActive_2 (by decide) (fun h2 => ?_) (fun h2 => ?_)
  · refine q_iconst (pc := 26) dT_isActive_26 (by decide) ?_
    refine q_zret rfl (by first | exact Or.inl rfl | exact Or.inr rfl) (pc := 27) dT_isActive_27 ?_
    exact ⟨by have : ¬ (1 ≤ t) := by omega
              simp [tac, bi, this], rfl, rfl⟩
  · refine q_iload_n (pc := 5) dT_isActive_5 rfl ?_
    refine q_aload_n (pc := 6) dT_isActive_6 rfl ?_
    refine q_getI (f := 2) (pc := 7) dT_isActive_7 lay_2 (by decide) rfl (by decide) fl_T19 rfl rfl ?_
    refine q_icmp_gt (tgt := 26) (pc := 10) dT_isActive_10 (by decide) (fun h10 => ?_) (fun h10 => ?_)
    · refine q_iconst (pc := 26) dT_isActive_26 (by decide) ?_
      refine q_zret rfl (by first | exact Or.inl rfl | exact Or.inr rfl) (pc := 27) dT_isActive_27 ?_
      exact ⟨by have : ¬ (t ≤ I 9 2) := by omega
                simp [tac, bi, this], rfl, rfl⟩
    · refine q_aload_n (pc := 13) dT_isActive_13 rfl ?_
      refine q_getR (f := 0) (pc := 14) dT_isActive_14 lay_2 (by decide) rfl (by decide) fl_T9 rfl rfl ?_
      refine q_iload_n (pc := 17) dT_isActive_17 rfl ?_
      refine q_zald (i := t.toNat) (pc := 18) dT_isActive_18 rfl (by omega) (by omega) rfl ?_
      refine q_if_eq (tgt := 26) (pc := 19) dT_isActive_19 (by decide) (fun h19 => ?_) (fun h19 => ?_)
      · refine q_iconst (pc := 26) dT_isActive_26 (by decide) ?_
        refine q_zret rfl (by first | exact Or.inl rfl | exact Or.inr rfl) (pc := 27) dT_isActive_27 ?_
        exact ⟨by simp [tac, bi, h19], rfl, rfl⟩
      · refine q_iconst (pc := 22) dT_isActive_22 (by decide) ?_
        refine q_goto (tgt := 27) (pc := 23) dT_isActive_23 (by decide) ?_
        refine q_zret rfl (by first | exact Or.inl rfl | exact Or.inr rfl) (pc := 27) dT_isActive_27 ?_
        exact ⟨by have h1 : 1 ≤ t := by omega
                  have h2 : t ≤ I 9 2 := by omega
                  simp [tac, bi, h19, h1, h2], rfl, rfl⟩
theorem ct_T_mayHold {L k : Nat} (t : Int) (I : qI) (hk : k < 32) : qT M_T_mayHold 0 [.inr (some 9), .inl t, .inl ((k : Nat) : Int)] L I (rI (bi (decide (I 11 k = 0 ∨ I 11 k = t))) L I) := by
  refine q_enter (by decide) (Nat.le_of_ble_eq_true rfl) ?_
  refine q_aload_n (pc := 0) dT_mayHold_0 rfl ?_
  refine q_getR (f := 1) (pc := 1) dT_mayHold_1 lay_2 (by decide) rfl (by decide) fl_T15 rfl rfl ?_
  refine q_iload_n (pc := 4) dT_mayHold_4 rfl ?_
  refine q_iald (i := k) (pc := 5) dT_mayHold_5 rfl rfl (by omega) rfl ?_
  refine q_if_eq (tgt := 19) (pc := 6) dT_mayHold_6 (by decide) (fun h6 => ?_) (fun h6 => ?_)
  · refine q_iconst (pc := 19) dT_mayHold_19 (by decide) ?_
    refine q_goto (tgt := 24) (pc := 20) dT_mayHold_20 (by decide) ?_
    refine q_zret rfl (by first | exact Or.inl rfl | exact Or.inr rfl) (pc := 24) dT_mayHold_24 ?_
    exact ⟨by simp [bi, h6], rfl, rfl⟩
  · refine q_aload_n (pc := 9) dT_mayHold_9 rfl ?_
    refine q_getR (f := 1) (pc := 10) dT_mayHold_10 lay_2 (by decide) rfl (by decide) fl_T15 rfl rfl ?_
    refine q_iload_n (pc := 13) dT_mayHold_13 rfl ?_
    refine q_iald (i := k) (pc := 14) dT_mayHold_14 rfl rfl (by omega) rfl ?_
    refine q_iload_n (pc := 15) dT_mayHold_15 rfl ?_
    refine q_icmp_ne (tgt := 23) (pc := 16) dT_mayHold_16 (by decide) (fun h16 => ?_) (fun h16 => ?_)
    · refine q_iconst (pc := 23) dT_mayHold_23 (by decide) ?_
      refine q_zret rfl (by first | exact Or.inl rfl | exact Or.inr rfl) (pc := 24) dT_mayHold_24 ?_
      exact ⟨by simp [bi, h6, h16], rfl, rfl⟩
    · refine q_iconst (pc := 19) dT_mayHold_19 (by decide) ?_
      refine q_goto (tgt := 24) (pc := 20) dT_mayHold_20 (by decide) ?_
      refine q_zret rfl (by first | exact Or.inl rfl | exact Or.inr rfl) (pc := 24) dT_mayHold_24 ?_
      exact ⟨by simp [bi, h16], rfl, rfl⟩
theorem ct_T_hold {L k : Nat} (t : Int) (I : qI) (hk : k < 32) : qT M_T_hold 0 [.inr (some 9), .inl t, .inl ((k : Nat) : Int)] L I (rV L (q_up I 11 k t)) := by
  refine q_enter (by decide) (Nat.le_of_ble_eq_true rfl) ?_
  refine q_aload_n (pc := 0) dT_hold_0 rfl ?_
  refine q_getR (f := 1) (pc := 1) dT_hold_1 lay_2 (by decide) rfl (by decide) fl_T15 rfl rfl ?_
  refine q_iload_n (pc := 4) dT_hold_4 rfl ?_
  refine q_iload_n (pc := 5) dT_hold_5 rfl ?_
  refine q_iast (i := k) (pc := 6) dT_hold_6 rfl rfl (by omega) rfl ?_
  refine q_vret rfl (pc := 7) dT_hold_7 ?_
  exact ⟨rfl, rfl, rfl⟩
/-- the keys below m that t holds are let go -/
def tfr (I : qI) (t : Int) (m : Nat) : qI := fun a j => if a = 11 ∧ j < m ∧ I 11 j = t then 0 else I a j
theorem tfr_up {I : qI} {t : Int} {m : Nat} (h : I 11 m = t) : q_up (tfr I t m) 11 m 0 = tfr I t (m + 1) := by
  funext a j
  unfold q_up tfr
  by_cases ha : a = 11
  · by_cases hj : j = m
    · subst hj; simp [ha, h]
    · have : (j < m + 1) = (j < m) := by apply propext; omega
      simp [ha, hj, this]
  · simp [ha]
theorem tfr_no {I : qI} {t : Int} {m : Nat} (h : ¬ I 11 m = t) : tfr I t (m + 1) = tfr I t m := by
  funext a j
  unfold tfr
  by_cases hj : j = m
  · subst hj; simp [h]
  · have : (j < m + 1) = (j < m) := by apply propext; omega
    simp only [this]
theorem tfr_m {I : qI} {t : Int} {m : Nat} : tfr I t m 11 m = I 11 m := by simp [tfr]
theorem lp_T_finish {L : Nat} (t : Int) (I : qI) : ∀ f m, m + f = 32 → qE M_T_finish 0 19 [some (.inr (some 9)), some (.inl t), some (.inl ((m : Nat) : Int))] [] L (tfr I t m) (rV L (tfr I t 32)) := by
  intro f
  induction f with
  | zero =>
    intro m hm
    refine q_iload_n (pc := 19) dT_finish_19 rfl ?_
    refine q_bipush (pc := 20) dT_finish_20 (by decide) (by decide) ?_
    refine q_icmp_ge (tgt := 48) (pc := 22) dT_finish_22 (by decide) (fun h22 => ?_) (fun h22 => ?_)
    · refine q_vret rfl (pc := 48) dT_finish_48 ?_
      exact ⟨rfl, rfl, by rw [show m = 32 by omega]⟩
    · omega
  | succ f ih =>
    intro m hm
    refine q_iload_n (pc := 19) dT_finish_19 rfl ?_
    refine q_bipush (pc := 20) dT_finish_20 (by decide) (by decide) ?_
    refine q_icmp_ge (tgt := 48) (pc := 22) dT_finish_22 (by decide) (fun h22 => ?_) (fun h22 => ?_)
    · omega
    · refine q_aload_n (pc := 25) dT_finish_25 rfl ?_
      refine q_getR (f := 1) (pc := 26) dT_finish_26 lay_2 (by decide) rfl (by decide) fl_T15 rfl rfl ?_
      refine q_iload_n (pc := 29) dT_finish_29 rfl ?_
      refine q_iald (i := m) (pc := 30) dT_finish_30 rfl rfl (by omega) rfl ?_
      refine q_iload_n (pc := 31) dT_finish_31 rfl ?_
      refine q_icmp_ne (tgt := 42) (pc := 32) dT_finish_32 (by decide) (fun h32 => ?_) (fun h32 => ?_)
      · refine q_iinc (pc := 42) dT_finish_42 rfl (by decide) rfl ⟨by omega, by omega⟩ ?_
        refine q_goto (tgt := 19) (pc := 45) dT_finish_45 (by decide) ?_
        rw [tfr_m] at h32
        rw [← tfr_no h32]
        exact ih (m + 1) (by omega)
      · refine q_aload_n (pc := 35) dT_finish_35 rfl ?_
        refine q_getR (f := 1) (pc := 36) dT_finish_36 lay_2 (by decide) rfl (by decide) fl_T15 rfl rfl ?_
        refine q_iload_n (pc := 39) dT_finish_39 rfl ?_
        refine q_iconst (pc := 40) dT_finish_40 (by decide) ?_
        refine q_iast (i := m) (pc := 41) dT_finish_41 rfl rfl (by omega) rfl ?_
        refine q_iinc (pc := 42) dT_finish_42 rfl (by decide) rfl ⟨by omega, by omega⟩ ?_
        refine q_goto (tgt := 19) (pc := 45) dT_finish_45 (by decide) ?_
        rw [tfr_m] at h32
        rw [tfr_up h32]
        exact ih (m + 1) (by omega)
def tfin (I : qI) (t : Nat) : qI := tfr (q_up (q_up I 10 t 0) 9 3 (I 9 3 - 1)) (t : Int) 32
theorem ct_T_finish {L t : Nat} (ht : t ≤ 60) (I : qI) (hA : -100 ≤ I 9 3 ∧ I 9 3 ≤ 100) : qT M_T_finish 0 [.inr (some 9), .inl ((t : Nat) : Int)] L I (rV L (tfin I t)) := by
  refine q_enter (by decide) (Nat.le_of_ble_eq_true rfl) ?_
  have e2 : q_up I 10 t 0 9 3 = I 9 3 := by simp [q_up]
  refine q_aload_n (pc := 0) dT_finish_0 rfl ?_
  refine q_getR (f := 0) (pc := 1) dT_finish_1 lay_2 (by decide) rfl (by decide) fl_T9 rfl rfl ?_
  refine q_iload_n (pc := 4) dT_finish_4 rfl ?_
  refine q_iconst (pc := 5) dT_finish_5 (by decide) ?_
  refine q_zast (i := t) (pc := 6) dT_finish_6 rfl rfl (by omega) rfl (by first | exact Or.inl rfl | exact Or.inr rfl) ?_
  refine q_aload_n (pc := 7) dT_finish_7 rfl ?_
  refine q_dup (pc := 8) dT_finish_8 ?_
  refine q_getI (f := 3) (pc := 9) dT_finish_9 lay_2 (by decide) rfl (by decide) fl_T23 rfl rfl ?_
  refine q_iconst (pc := 12) dT_finish_12 (by decide) ?_
  refine q_isub (pc := 13) dT_finish_13 rfl ⟨by omega, by omega⟩ ?_
  refine q_putI (f := 3) (pc := 14) dT_finish_14 lay_2 typ_2 (by decide) rfl (by decide) fl_T23 rfl (Or.inl rfl) (Or.inl rfl) rfl ?_
  refine q_iconst (pc := 17) dT_finish_17 (by decide) ?_
  refine q_istore_n (pc := 18) dT_finish_18 (by decide) ?_
  rw [e2]
  have e : ∀ J : qI, J = tfr J (t : Int) 0 := fun J => by
    funext a j
    simp [tfr]
  have h := lp_T_finish (L := L) (t : Int) (q_up (q_up I 10 t 0) 9 3 (I 9 3 - 1)) 32 0 (by omega)
  rw [← e] at h
  exact h
/-- all active ones of t, f of them, are finished -/
def tfa : Nat → Nat → qI → qI
  | 0, _, I => I
  | f + 1, t, I => tfa f (t + 1) (if I 10 t = 0 then I else tfin I t)
theorem tfin_T {I : qI} {t : Nat} : tfin I t 9 2 = I 9 2 := by simp [tfin, tfr, q_up]
theorem tfin_A {I : qI} {t : Nat} : tfin I t 9 3 = I 9 3 - 1 := by simp [tfin, tfr, q_up]
theorem lp_T_finishAll {L T : Nat} (hT2 : T ≤ 60) : ∀ f t I, I 9 2 = (T : Int) → t + f = T + 1 → 1 ≤ t → -(t : Int) ≤ I 9 3 ∧ I 9 3 ≤ 10 → qE M_T_finishAll 1 2 [some (.inr (some 9)), some (.inl ((t : Nat) : Int))] [] L I (rV L (tfa f t I)) := by
  intro f
  induction f with
  | zero =>
    intro t I hT ht h1 hA
    refine q_iload_n (pc := 2) dT_finishAll_2 rfl ?_
    refine q_aload_n (pc := 3) dT_finishAll_3 rfl ?_
    refine q_getI (f := 2) (pc := 4) dT_finishAll_4 lay_2 (by decide) rfl (by decide) fl_T19 rfl rfl ?_
    refine q_icmp_gt (tgt := 30) (pc := 7) dT_finishAll_7 (by decide) (fun h7 => ?_) (fun h7 => ?_)
    · refine q_vret rfl (pc := 30) dT_finishAll_30 ?_
      exact ⟨rfl, rfl, rfl⟩
    · omega
  | succ f ih =>
    intro t I hT ht h1 hA
    refine q_iload_n (pc := 2) dT_finishAll_2 rfl ?_
    refine q_aload_n (pc := 3) dT_finishAll_3 rfl ?_
    refine q_getI (f := 2) (pc := 4) dT_finishAll_4 lay_2 (by decide) rfl (by decide) fl_T19 rfl rfl ?_
    refine q_icmp_gt (tgt := 30) (pc := 7) dT_finishAll_7 (by decide) (fun h7 => ?_) (fun h7 => ?_)
    · omega
    · refine q_aload_n (pc := 10) dT_finishAll_10 rfl ?_
      refine q_getR (f := 0) (pc := 11) dT_finishAll_11 lay_2 (by decide) rfl (by decide) fl_T9 rfl rfl ?_
      refine q_iload_n (pc := 14) dT_finishAll_14 rfl ?_
      refine q_zald (i := t) (pc := 15) dT_finishAll_15 rfl rfl (by omega) rfl ?_
      refine q_if_eq (tgt := 24) (pc := 16) dT_finishAll_16 (by decide) (fun h16 => ?_) (fun h16 => ?_)
      · refine q_iinc (pc := 24) dT_finishAll_24 rfl (by decide) rfl ⟨by omega, by omega⟩ ?_
        refine q_goto (tgt := 2) (pc := 27) dT_finishAll_27 (by decide) ?_
        have e : tfa (f + 1) t I = tfa f (t + 1) I := by rw [tfa, if_pos h16]
        rw [e]
        exact ih (t + 1) I hT (by omega) (by omega) ⟨by omega, by omega⟩
      · refine q_aload_n (pc := 19) dT_finishAll_19 rfl ?_
        refine q_iload_n (pc := 20) dT_finishAll_20 rfl ?_
        refine q_callV0 (pc := 21) dT_finishAll_21 ((ct_T_finish (t := t) (by omega) I ⟨by omega, by omega⟩)) cd_T_finish in_T_finish se_T_finish ml_T26 rfl (by decide) rfl rfl (Nat.le_of_ble_eq_true rfl) ⟨by decide, by decide⟩ ⟨by decide, by decide⟩ rfl ?_
        refine q_iinc (pc := 24) dT_finishAll_24 rfl (by decide) rfl ⟨by omega, by omega⟩ ?_
        refine q_goto (tgt := 2) (pc := 27) dT_finishAll_27 (by decide) ?_
        have e : tfa (f + 1) t I = tfa f (t + 1) (tfin I t) := by rw [tfa, if_neg h16]
        rw [e]
        exact ih (t + 1) _ (by rw [tfin_T, hT]) (by omega) (by omega) (by rw [tfin_A]; exact ⟨by omega, by omega⟩)
theorem ct_T_finishAll {L T : Nat} (I : qI) (hT : I 9 2 = (T : Int)) (hT2 : T ≤ 60) (hA : 0 ≤ I 9 3 ∧ I 9 3 ≤ 10) : qT M_T_finishAll 1 [.inr (some 9)] L I (rV L (tfa T 1 I)) := by
  refine q_enter (by decide) (Nat.le_of_ble_eq_true rfl) ?_
  refine q_iconst (pc := 0) dT_finishAll_0 (by decide) ?_
  refine q_istore_n (pc := 1) dT_finishAll_1 (by decide) ?_
  exact lp_T_finishAll hT2 T 1 I hT (by omega) (by omega) ⟨by omega, by omega⟩
