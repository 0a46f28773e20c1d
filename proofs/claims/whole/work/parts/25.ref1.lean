/-! The reference, first part. -/
theorem ct_M_isKey {L : Nat} (k : Int) (I : qI) : qT M_M_isKey 0 [.inl k] L I (rI (bi (decide (0 ≤ k ∧ k < 32))) L I) := by
  refine q_enter (by decide) (Nat.le_of_ble_eq_true rfl) ?_
  refine q_iload_n (pc := 0) dM_isKey_0 rfl ?_
  refine q_if_lt (tgt := 14) (pc := 1) dM_isKey_1 (by decide) (fun h1 => ?_) (fun h1 => ?_)
  · refine q_iconst (pc := 14) dM_isKey_14 (by decide) ?_
    refine q_zret rfl (by first | exact Or.inl rfl | exact Or.inr rfl) (pc := 15) dM_isKey_15 ?_
    exact ⟨by rw [decide_eq_false (by omega)]; rfl, rfl, rfl⟩
  · refine q_iload_n (pc := 4) dM_isKey_4 rfl ?_
    refine q_bipush (pc := 5) dM_isKey_5 (by decide) (by decide) ?_
    refine q_icmp_gt (tgt := 14) (pc := 7) dM_isKey_7 (by decide) (fun h7 => ?_) (fun h7 => ?_)
    · refine q_iconst (pc := 14) dM_isKey_14 (by decide) ?_
      refine q_zret rfl (by first | exact Or.inl rfl | exact Or.inr rfl) (pc := 15) dM_isKey_15 ?_
      exact ⟨by rw [decide_eq_false (by omega)]; rfl, rfl, rfl⟩
    · refine q_iconst (pc := 10) dM_isKey_10 (by decide) ?_
      refine q_goto (tgt := 15) (pc := 11) dM_isKey_11 (by decide) ?_
      refine q_zret rfl (by first | exact Or.inl rfl | exact Or.inr rfl) (pc := 15) dM_isKey_15 ?_
      exact ⟨by rw [decide_eq_true (by omega)]; rfl, rfl, rfl⟩
theorem ct_M_isCopy {L : Nat} (g c : Int) (I : qI) : qT M_M_isCopy 0 [.inl g, .inl c] L I (rI (bi (decide (0 ≤ g ∧ g < 2 ∧ 0 ≤ c ∧ c < 6))) L I) := by
  refine q_enter (by decide) (Nat.le_of_ble_eq_true rfl) ?_
  have tl : g = 0 ∨ g = 1 → qE M_M_isCopy 0 9 [some (.inl g), some (.inl c)] [] L I (rI (bi (decide (0 ≤ g ∧ g < 2 ∧ 0 ≤ c ∧ c < 6))) L I) := by
    intro hg
    refine q_iload_n (pc := 9) dM_isCopy_9 rfl ?_
    refine q_if_lt (tgt := 22) (pc := 10) dM_isCopy_10 (by decide) (fun h10 => ?_) (fun h10 => ?_)
    · refine q_iconst (pc := 22) dM_isCopy_22 (by decide) ?_
      refine q_zret rfl (by first | exact Or.inl rfl | exact Or.inr rfl) (pc := 23) dM_isCopy_23 ?_
      exact ⟨by rw [decide_eq_false (by omega)]; rfl, rfl, rfl⟩
    · refine q_iload_n (pc := 13) dM_isCopy_13 rfl ?_
      refine q_iconst (pc := 14) dM_isCopy_14 (by decide) ?_
      refine q_icmp_gt (tgt := 22) (pc := 15) dM_isCopy_15 (by decide) (fun h15 => ?_) (fun h15 => ?_)
      · refine q_iconst (pc := 22) dM_isCopy_22 (by decide) ?_
        refine q_zret rfl (by first | exact Or.inl rfl | exact Or.inr rfl) (pc := 23) dM_isCopy_23 ?_
        exact ⟨by rw [decide_eq_false (by omega)]; rfl, rfl, rfl⟩
      · refine q_iconst (pc := 18) dM_isCopy_18 (by decide) ?_
        refine q_goto (tgt := 23) (pc := 19) dM_isCopy_19 (by decide) ?_
        refine q_zret rfl (by first | exact Or.inl rfl | exact Or.inr rfl) (pc := 23) dM_isCopy_23 ?_
        exact ⟨by rw [decide_eq_true (by omega)]; rfl, rfl, rfl⟩
  refine q_iload_n (pc := 0) dM_isCopy_0 rfl ?_
  refine q_if_eq (tgt := 9) (pc := 1) dM_isCopy_1 (by decide) (fun h1 => ?_) (fun h1 => ?_)
  · exact tl (Or.inl h1)
  · refine q_iload_n (pc := 4) dM_isCopy_4 rfl ?_
    refine q_iconst (pc := 5) dM_isCopy_5 (by decide) ?_
    refine q_icmp_ne (tgt := 22) (pc := 6) dM_isCopy_6 (by decide) (fun h6 => ?_) (fun h6 => ?_)
    · refine q_iconst (pc := 22) dM_isCopy_22 (by decide) ?_
      refine q_zret rfl (by first | exact Or.inl rfl | exact Or.inr rfl) (pc := 23) dM_isCopy_23 ?_
      exact ⟨by rw [decide_eq_false (by omega)]; rfl, rfl, rfl⟩
    · exact tl (Or.inr h6)
/-- a record's group -/
def mg (I : qI) (l : Nat) : Int := if 0 < I 48 l then (I 45 l).tmod 2 else ((I 46 l).tdiv 4).tmod 2
theorem ct_M_groupOf {L l : Nat} (I : qI) (hl : l < 200) : qT M_M_groupOf 0 [.inr (some 44), .inl ((l : Nat) : Int)] L I (rI (mg I l) L I) := by
  refine q_enter (by decide) (Nat.le_of_ble_eq_true rfl) ?_
  refine q_aload_n (pc := 0) dM_groupOf_0 rfl ?_
  refine q_getR (f := 4) (pc := 1) dM_groupOf_1 lay_6 (by decide) rfl (by decide) fl_M19 rfl rfl ?_
  refine q_iload_n (pc := 4) dM_groupOf_4 rfl ?_
  refine q_iald (i := l) (pc := 5) dM_groupOf_5 rfl rfl (by omega) rfl ?_
  refine q_if_le (tgt := 20) (pc := 6) dM_groupOf_6 (by decide) (fun h6 => ?_) (fun h6 => ?_)
  · refine q_aload_n (pc := 20) dM_groupOf_20 rfl ?_
    refine q_getR (f := 2) (pc := 21) dM_groupOf_21 lay_6 (by decide) rfl (by decide) fl_M13 rfl rfl ?_
    refine q_iload_n (pc := 24) dM_groupOf_24 rfl ?_
    refine q_iald (i := l) (pc := 25) dM_groupOf_25 rfl rfl (by omega) rfl ?_
    refine q_iconst (pc := 26) dM_groupOf_26 (by decide) ?_
    refine q_idiv (pc := 27) dM_groupOf_27 (by decide) ?_
    refine q_iconst (pc := 28) dM_groupOf_28 (by decide) ?_
    refine q_irem (pc := 29) dM_groupOf_29 (by decide) ?_
    refine q_iret rfl (pc := 30) dM_groupOf_30 ?_
    exact ⟨by unfold mg; rw [if_neg (by omega)], rfl, rfl⟩
  · refine q_aload_n (pc := 9) dM_groupOf_9 rfl ?_
    refine q_getR (f := 1) (pc := 10) dM_groupOf_10 lay_6 (by decide) rfl (by decide) fl_M7 rfl rfl ?_
    refine q_iload_n (pc := 13) dM_groupOf_13 rfl ?_
    refine q_iald (i := l) (pc := 14) dM_groupOf_14 rfl rfl (by omega) rfl ?_
    refine q_iconst (pc := 15) dM_groupOf_15 (by decide) ?_
    refine q_irem (pc := 16) dM_groupOf_16 (by decide) ?_
    refine q_goto (tgt := 30) (pc := 17) dM_groupOf_17 (by decide) ?_
    refine q_iret rfl (pc := 30) dM_groupOf_30 ?_
    exact ⟨by unfold mg; rw [if_pos (by omega)], rfl, rfl⟩
def mac (I : qI) (t : Int) : Bool := decide (1 ≤ t ∧ t ≤ I 44 12 ∧ I 54 t.toNat ≠ 0)
theorem ct_M_isActive {L T : Nat} (t : Int) (I : qI) (hT : I 44 12 = (T : Int)) (hT2 : T ≤ 60) : qT M_M_isActive 0 [.inr (some 44), .inl t] L I (rI (bi (mac I t)) L I) := by
  refine q_enter (by decide) (Nat.le_of_ble_eq_true rfl) ?_
  refine q_iload_n (pc := 0) dM_isActive_0 rfl ?_
  refine q_iconst (pc := 1) dM_isActive_1 (by decide) ?_
  refine q_icmp_lt (tgt := 26) (pc := 2) dM_isActive_2 (by decide) (fun h2 => ?_) (fun h2 => ?_)
  · refine q_iconst (pc := 26) dM_isActive_26 (by decide) ?_
    refine q_zret rfl (by first | exact Or.inl rfl | exact Or.inr rfl) (pc := 27) dM_isActive_27 ?_
    exact ⟨by have : ¬ (1 ≤ t) := by omega
              simp [mac, bi, this], rfl, rfl⟩
  · refine q_iload_n (pc := 5) dM_isActive_5 rfl ?_
    refine q_aload_n (pc := 6) dM_isActive_6 rfl ?_
    refine q_getI (f := 12) (pc := 7) dM_isActive_7 lay_6 (by decide) rfl (by decide) fl_M50 rfl rfl ?_
    refine q_icmp_gt (tgt := 26) (pc := 10) dM_isActive_10 (by decide) (fun h10 => ?_) (fun h10 => ?_)
    · refine q_iconst (pc := 26) dM_isActive_26 (by decide) ?_
      refine q_zret rfl (by first | exact Or.inl rfl | exact Or.inr rfl) (pc := 27) dM_isActive_27 ?_
      exact ⟨by have : ¬ (t ≤ I 44 12) := by omega
                simp [mac, bi, this], rfl, rfl⟩
    · refine q_aload_n (pc := 13) dM_isActive_13 rfl ?_
      refine q_getR (f := 13) (pc := 14) dM_isActive_14 lay_6 (by decide) rfl (by decide) fl_M38 rfl rfl ?_
      refine q_iload_n (pc := 17) dM_isActive_17 rfl ?_
      refine q_zald (i := t.toNat) (pc := 18) dM_isActive_18 rfl (by omega) (by omega) rfl ?_
      refine q_if_eq (tgt := 26) (pc := 19) dM_isActive_19 (by decide) (fun h19 => ?_) (fun h19 => ?_)
      · refine q_iconst (pc := 26) dM_isActive_26 (by decide) ?_
        refine q_zret rfl (by first | exact Or.inl rfl | exact Or.inr rfl) (pc := 27) dM_isActive_27 ?_
        exact ⟨by simp [mac, bi, h19], rfl, rfl⟩
      · refine q_iconst (pc := 22) dM_isActive_22 (by decide) ?_
        refine q_goto (tgt := 27) (pc := 23) dM_isActive_23 (by decide) ?_
        refine q_zret rfl (by first | exact Or.inl rfl | exact Or.inr rfl) (pc := 27) dM_isActive_27 ?_
        exact ⟨by have h1 : 1 ≤ t := by omega
                  have h2 : t ≤ I 44 12 := by omega
                  simp [mac, bi, h19, h1, h2], rfl, rfl⟩
def mck (I : qI) (k : Int) (l : Nat) : Bool := decide (I 48 l = 0) && decide (I 46 l = k)
theorem lp_M_changeUpTo {L n m : Nat} (k : Int) (I : qI) (hn : I 44 0 = (n : Int)) (hn2 : n < 200) (hm : m ≤ n) : ∀ f l, l + f = m → qE M_M_changeUpTo 0 5 [some (.inr (some 44)), some (.inl k), some (.inl ((m : Nat) : Int)), some (.inl ((ql (mck I k) l : Nat) : Int)), some (.inl ((l + 1 : Nat) : Int))] [] L I (rI (ql (mck I k) m : Nat) L I) := by
  intro f
  induction f with
  | zero =>
    intro l hl
    refine q_iload (pc := 5) dM_changeUpTo_5 rfl ?_
    refine q_iload_n (pc := 7) dM_changeUpTo_7 rfl ?_
    refine q_icmp_gt (tgt := 54) (pc := 8) dM_changeUpTo_8 (by decide) (fun h8 => ?_) (fun h8 => ?_)
    · refine q_iload_n (pc := 54) dM_changeUpTo_54 rfl ?_
      refine q_iret rfl (pc := 55) dM_changeUpTo_55 ?_
      exact ⟨by rw [show l = m by omega], rfl, rfl⟩
    · omega
  | succ f ih =>
    intro l hl
    have hlq := ql_le (mck I k) l
    have h9 := ih (l + 1) (by omega)
    refine q_iload (pc := 5) dM_changeUpTo_5 rfl ?_
    refine q_iload_n (pc := 7) dM_changeUpTo_7 rfl ?_
    refine q_icmp_gt (tgt := 54) (pc := 8) dM_changeUpTo_8 (by decide) (fun h8 => ?_) (fun h8 => ?_)
    · omega
    · refine q_iload (pc := 11) dM_changeUpTo_11 rfl ?_
      refine q_aload_n (pc := 13) dM_changeUpTo_13 rfl ?_
      refine q_getI (f := 0) (pc := 14) dM_changeUpTo_14 lay_6 (by decide) rfl (by decide) fl_M54 rfl rfl ?_
      refine q_icmp_gt (tgt := 54) (pc := 17) dM_changeUpTo_17 (by decide) (fun h17 => ?_) (fun h17 => ?_)
      · omega
      · refine q_aload_n (pc := 20) dM_changeUpTo_20 rfl ?_
        refine q_getR (f := 4) (pc := 21) dM_changeUpTo_21 lay_6 (by decide) rfl (by decide) fl_M19 rfl rfl ?_
        refine q_iload (pc := 24) dM_changeUpTo_24 rfl ?_
        refine q_iald (i := (l + 1)) (pc := 26) dM_changeUpTo_26 rfl rfl (by omega) rfl ?_
        refine q_if_ne (tgt := 46) (pc := 27) dM_changeUpTo_27 (by decide) (fun h27 => ?_) (fun h27 => ?_)
        · refine q_iload_n (pc := 46) dM_changeUpTo_46 rfl ?_
          refine q_istore_n (pc := 47) dM_changeUpTo_47 (by decide) ?_
          refine q_iinc (pc := 48) dM_changeUpTo_48 rfl (by decide) rfl ⟨by omega, by omega⟩ ?_
          refine q_goto (tgt := 5) (pc := 51) dM_changeUpTo_51 (by decide) ?_
          rw [ql_n (by simp [mck, h27])] at h9
          exact h9
        · refine q_aload_n (pc := 30) dM_changeUpTo_30 rfl ?_
          refine q_getR (f := 2) (pc := 31) dM_changeUpTo_31 lay_6 (by decide) rfl (by decide) fl_M13 rfl rfl ?_
          refine q_iload (pc := 34) dM_changeUpTo_34 rfl ?_
          refine q_iald (i := (l + 1)) (pc := 36) dM_changeUpTo_36 rfl rfl (by omega) rfl ?_
          refine q_iload_n (pc := 37) dM_changeUpTo_37 rfl ?_
          refine q_icmp_ne (tgt := 46) (pc := 38) dM_changeUpTo_38 (by decide) (fun h38 => ?_) (fun h38 => ?_)
          · refine q_iload_n (pc := 46) dM_changeUpTo_46 rfl ?_
            refine q_istore_n (pc := 47) dM_changeUpTo_47 (by decide) ?_
            refine q_iinc (pc := 48) dM_changeUpTo_48 rfl (by decide) rfl ⟨by omega, by omega⟩ ?_
            refine q_goto (tgt := 5) (pc := 51) dM_changeUpTo_51 (by decide) ?_
            rw [ql_n (by simp [mck, h38])] at h9
            exact h9
          · refine q_iload (pc := 41) dM_changeUpTo_41 rfl ?_
            refine q_goto (tgt := 47) (pc := 43) dM_changeUpTo_43 (by decide) ?_
            refine q_istore_n (pc := 47) dM_changeUpTo_47 (by decide) ?_
            refine q_iinc (pc := 48) dM_changeUpTo_48 rfl (by decide) rfl ⟨by omega, by omega⟩ ?_
            refine q_goto (tgt := 5) (pc := 51) dM_changeUpTo_51 (by decide) ?_
            rw [ql_y (by simp [mck, h27, h38])] at h9
            exact h9
theorem ct_M_changeUpTo {L n m : Nat} (k : Int) (I : qI) (hn : I 44 0 = (n : Int)) (hn2 : n < 200) (hm : m ≤ n) : qT M_M_changeUpTo 0 [.inr (some 44), .inl k, .inl ((m : Nat) : Int)] L I (rI (ql (mck I k) m : Nat) L I) := by
  refine q_enter (by decide) (Nat.le_of_ble_eq_true rfl) ?_
  refine q_iconst (pc := 0) dM_changeUpTo_0 (by decide) ?_
  refine q_istore_n (pc := 1) dM_changeUpTo_1 (by decide) ?_
  refine q_iconst (pc := 2) dM_changeUpTo_2 (by decide) ?_
  refine q_istore (pc := 3) dM_changeUpTo_3 (by decide) ?_
  exact lp_M_changeUpTo k I hn hn2 hm m 0 (by omega)
def mval (I : qI) (k : Int) (m : Nat) : Int := if ql (mck I k) m = 0 then 0 else I 47 (ql (mck I k) m)
theorem ct_M_valueUpTo {L n m : Nat} (k : Int) (I : qI) (hn : I 44 0 = (n : Int)) (hn2 : n < 200) (hm : m ≤ n) : qT M_M_valueUpTo 1 [.inr (some 44), .inl k, .inl ((m : Nat) : Int)] L I (rI (mval I k m) L I) := by
  have hlq := ql_le (mck I k) m
  refine q_enter (by decide) (Nat.le_of_ble_eq_true rfl) ?_
  refine q_aload_n (pc := 0) dM_valueUpTo_0 rfl ?_
  refine q_iload_n (pc := 1) dM_valueUpTo_1 rfl ?_
  refine q_iload_n (pc := 2) dM_valueUpTo_2 rfl ?_
  refine q_callV1 (pc := 3) dM_valueUpTo_3 ((ct_M_changeUpTo k I hn hn2 hm)) cd_M_changeUpTo in_M_changeUpTo se_M_changeUpTo ml_M57 rfl (by decide) rfl rfl (Nat.le_of_ble_eq_true rfl) ⟨by decide, by decide⟩ ⟨by decide, by decide⟩ rfl ?_
  refine q_istore_n (pc := 6) dM_valueUpTo_6 (by decide) ?_
  refine q_iload_n (pc := 7) dM_valueUpTo_7 rfl ?_
  refine q_if_ne (tgt := 15) (pc := 8) dM_valueUpTo_8 (by decide) (fun h8 => ?_) (fun h8 => ?_)
  · refine q_aload_n (pc := 15) dM_valueUpTo_15 rfl ?_
    refine q_getR (f := 3) (pc := 16) dM_valueUpTo_16 lay_6 (by decide) rfl (by decide) fl_M16 rfl rfl ?_
    refine q_iload_n (pc := 19) dM_valueUpTo_19 rfl ?_
    refine q_iald (i := (ql (mck I k) m)) (pc := 20) dM_valueUpTo_20 rfl rfl (by omega) rfl ?_
    refine q_iret rfl (pc := 21) dM_valueUpTo_21 ?_
    exact ⟨by unfold mval; rw [if_neg (by omega)], rfl, rfl⟩
  · refine q_iconst (pc := 11) dM_valueUpTo_11 (by decide) ?_
    refine q_goto (tgt := 21) (pc := 12) dM_valueUpTo_12 (by decide) ?_
    refine q_iret rfl (pc := 21) dM_valueUpTo_21 ?_
    exact ⟨by unfold mval; rw [if_pos (by omega)], rfl, rfl⟩
/-- the latest change of the first i keys of a page -/
def mlm (I : qI) (n p : Nat) : Nat → Nat
  | 0 => 0
  | i + 1 => if mlm I n p i < ql (mck I ((4 * p + i : Nat) : Int)) n then ql (mck I ((4 * p + i : Nat) : Int)) n else mlm I n p i
theorem mlm_le (I : qI) (n p : Nat) : ∀ i, mlm I n p i ≤ n
  | 0 => Nat.zero_le _
  | i + 1 => by
    have := mlm_le I n p i
    have := ql_le (mck I ((4 * p + i : Nat) : Int)) n
    unfold mlm
    split <;> omega
theorem lp_M_latest {L n p : Nat} (I : qI) (hn : I 44 0 = (n : Int)) (hn2 : n < 200) (hp : p ≤ 1000) : ∀ f i z, i + f = 4 → qE M_M_latest 1 6 [some (.inr (some 44)), some (.inl ((p : Nat) : Int)), some (.inl ((mlm I n p i : Nat) : Int)), some (.inl ((4 * p + i : Nat) : Int)), z] [] L I (rI (mlm I n p 4 : Nat) L I) := by
  intro f
  induction f with
  | zero =>
    intro i z hi
    refine q_iload_n (pc := 6) dM_latest_6 rfl ?_
    refine q_iconst (pc := 7) dM_latest_7 (by decide) ?_
    refine q_iload_n (pc := 8) dM_latest_8 rfl ?_
    refine q_imul (pc := 9) dM_latest_9 (show (4 : Int) * (p : Int) = ((4 * p : Nat) : Int) by omega) ⟨by omega, by omega⟩ ?_
    refine q_iconst (pc := 10) dM_latest_10 (by decide) ?_
    refine q_iadd (pc := 11) dM_latest_11 rfl ⟨by omega, by omega⟩ ?_
    refine q_icmp_ge (tgt := 45) (pc := 12) dM_latest_12 (by decide) (fun h12 => ?_) (fun h12 => ?_)
    · refine q_iload_n (pc := 45) dM_latest_45 rfl ?_
      refine q_iret rfl (pc := 46) dM_latest_46 ?_
      exact ⟨by rw [show i = 4 by omega], rfl, rfl⟩
    · omega
  | succ f ih =>
    intro i z hi
    have h9 := fun z => ih (i + 1) z (by omega)
    have hl1 := mlm_le I n p i
    have hl2 := ql_le (mck I ((4 * p + i : Nat) : Int)) n
    refine q_iload_n (pc := 6) dM_latest_6 rfl ?_
    refine q_iconst (pc := 7) dM_latest_7 (by decide) ?_
    refine q_iload_n (pc := 8) dM_latest_8 rfl ?_
    refine q_imul (pc := 9) dM_latest_9 (show (4 : Int) * (p : Int) = ((4 * p : Nat) : Int) by omega) ⟨by omega, by omega⟩ ?_
    refine q_iconst (pc := 10) dM_latest_10 (by decide) ?_
    refine q_iadd (pc := 11) dM_latest_11 rfl ⟨by omega, by omega⟩ ?_
    refine q_icmp_ge (tgt := 45) (pc := 12) dM_latest_12 (by decide) (fun h12 => ?_) (fun h12 => ?_)
    · omega
    · refine q_aload_n (pc := 15) dM_latest_15 rfl ?_
      refine q_iload_n (pc := 16) dM_latest_16 rfl ?_
      refine q_aload_n (pc := 17) dM_latest_17 rfl ?_
      refine q_getI (f := 0) (pc := 18) dM_latest_18 lay_6 (by decide) rfl (by decide) fl_M54 rfl rfl ?_
      rw [hn]
      refine q_callV1 (pc := 21) dM_latest_21 ((ct_M_changeUpTo ((4 * p + i : Nat) : Int) I hn hn2 (Nat.le_refl n))) cd_M_changeUpTo in_M_changeUpTo se_M_changeUpTo ml_M57 rfl (by decide) rfl rfl (Nat.le_of_ble_eq_true rfl) ⟨by decide, by decide⟩ ⟨by decide, by decide⟩ rfl ?_
      refine q_istore (pc := 24) dM_latest_24 (by decide) ?_
      refine q_iload (pc := 26) dM_latest_26 rfl ?_
      refine q_iload_n (pc := 28) dM_latest_28 rfl ?_
      refine q_icmp_le (tgt := 37) (pc := 29) dM_latest_29 (by decide) (fun h29 => ?_) (fun h29 => ?_)
      · refine q_iload_n (pc := 37) dM_latest_37 rfl ?_
        refine q_istore_n (pc := 38) dM_latest_38 (by decide) ?_
        refine q_iinc (pc := 39) dM_latest_39 rfl (by decide) rfl ⟨by omega, by omega⟩ ?_
        refine q_goto (tgt := 6) (pc := 42) dM_latest_42 (by decide) ?_
        have e : mlm I n p (i + 1) = mlm I n p i := by rw [mlm, if_neg (by omega)]
        rw [e] at h9
        exact h9 _
      · refine q_iload (pc := 32) dM_latest_32 rfl ?_
        refine q_goto (tgt := 38) (pc := 34) dM_latest_34 (by decide) ?_
        refine q_istore_n (pc := 38) dM_latest_38 (by decide) ?_
        refine q_iinc (pc := 39) dM_latest_39 rfl (by decide) rfl ⟨by omega, by omega⟩ ?_
        refine q_goto (tgt := 6) (pc := 42) dM_latest_42 (by decide) ?_
        have e : mlm I n p (i + 1) = ql (mck I ((4 * p + i : Nat) : Int)) n := by rw [mlm, if_pos (by omega)]
        rw [e] at h9
        exact h9 _
theorem ct_M_latest {L n p : Nat} (I : qI) (hn : I 44 0 = (n : Int)) (hn2 : n < 200) (hp : p ≤ 1000) : qT M_M_latest 1 [.inr (some 44), .inl ((p : Nat) : Int)] L I (rI (mlm I n p 4 : Nat) L I) := by
  refine q_enter (by decide) (Nat.le_of_ble_eq_true rfl) ?_
  refine q_iconst (pc := 0) dM_latest_0 (by decide) ?_
  refine q_istore_n (pc := 1) dM_latest_1 (by decide) ?_
  refine q_iconst (pc := 2) dM_latest_2 (by decide) ?_
  refine q_iload_n (pc := 3) dM_latest_3 rfl ?_
  refine q_imul (pc := 4) dM_latest_4 (show (4 : Int) * (p : Int) = ((4 * p + 0 : Nat) : Int) by omega) ⟨by omega, by omega⟩ ?_
  refine q_istore_n (pc := 5) dM_latest_5 (by decide) ?_
  exact lp_M_latest I hn hn2 hp 4 0 _ (by omega)
/-- the row m of what the first c copies hold is cleared -/
def mhz (J : qI) (m c : Nat) : qI := fun a j => if a = 50 ∧ j % 200 = m ∧ j / 200 < c then 0 else J a j
theorem mhz_up {J : qI} {m c : Nat} (hm : m < 200) : q_up (mhz J m c) 50 (200 * c + m) 0 = mhz J m (c + 1) := by
  funext a j
  unfold q_up mhz
  by_cases ha : a = 50
  · by_cases hj : j = 200 * c + m
    · subst hj
      have h1 : (200 * c + m) % 200 = m := by omega
      have h2 : (200 * c + m) / 200 = c := by omega
      simp [ha, h1, h2]
    · simp only [ha, hj, and_false, if_false, true_and]
      by_cases h1 : j % 200 = m
      · have : (j / 200 < c + 1) = (j / 200 < c) := by apply propext; omega
        simp only [this]
      · simp [h1]
  · simp [ha]
theorem mhz_off {J : qI} {m c a : Nat} (h : a ≠ 50) : mhz J m c a = J a := by funext j; simp [mhz, h]
def mad0 (I : qI) (n : Nat) (t k v e z : Int) : qI := q_up (q_up (q_up (q_up (q_up (q_up I 44 0 ((n + 1 : Nat) : Int)) 45 (n + 1) t) 46 (n + 1) k) 47 (n + 1) v) 48 (n + 1) e) 49 (n + 1) z
def mad (I : qI) (n : Nat) (t k v e z : Int) : qI := mhz (mad0 I n t k v e z) (n + 1) 12
theorem mad0_n {I : qI} {n : Nat} {t k v e z : Int} : mad0 I n t k v e z 44 0 = ((n + 1 : Nat) : Int) := by simp [mad0, q_up]
theorem mad_n {I : qI} {n : Nat} {t k v e z : Int} : mad I n t k v e z 44 0 = ((n + 1 : Nat) : Int) := by
  unfold mad
  rw [mhz_off (by decide), mad0_n]
theorem lp_M_add {L m : Nat} (x1 x2 x3 x4 x5 : Option qV) (J : qI) (hn : J 44 0 = (m : Int)) (hm : m < 200) : ∀ f c, c + f = 12 → qE M_M_add 0 65 [some (.inr (some 44)), x1, x2, x3, x4, x5, some (.inl ((c : Nat) : Int))] [] L (mhz J m c) (rI (m : Int) L (mhz J m 12)) := by
  intro f
  induction f with
  | zero =>
    intro c hc
    refine q_iload (pc := 65) dM_add_65 rfl ?_
    refine q_bipush (pc := 67) dM_add_67 (by decide) (by decide) ?_
    refine q_icmp_ge (tgt := 95) (pc := 69) dM_add_69 (by decide) (fun h69 => ?_) (fun h69 => ?_)
    · refine q_aload_n (pc := 95) dM_add_95 rfl ?_
      refine q_getI (f := 0) (pc := 96) dM_add_96 lay_6 (by decide) rfl (by decide) fl_M54 rfl rfl ?_
      refine q_iret rfl (pc := 99) dM_add_99 ?_
      obtain rfl : c = 12 := by omega
      exact ⟨by rw [mhz_off (by decide), hn], rfl, rfl⟩
    · omega
  | succ f ih =>
    intro c hc
    have e : mhz J m c 44 0 = (m : Int) := by rw [mhz_off (by decide), hn]
    refine q_iload (pc := 65) dM_add_65 rfl ?_
    refine q_bipush (pc := 67) dM_add_67 (by decide) (by decide) ?_
    refine q_icmp_ge (tgt := 95) (pc := 69) dM_add_69 (by decide) (fun h69 => ?_) (fun h69 => ?_)
    · omega
    · refine q_aload_n (pc := 72) dM_add_72 rfl ?_
      refine q_getR (f := 6) (pc := 73) dM_add_73 lay_6 (by decide) rfl (by decide) fl_M26 rfl rfl ?_
      refine q_sipush (pc := 76) dM_add_76 (by decide) (by decide) ?_
      refine q_iload (pc := 79) dM_add_79 rfl ?_
      refine q_imul (pc := 81) dM_add_81 (show (200 : Int) * (c : Int) = ((200 * c : Nat) : Int) by omega) ⟨by omega, by omega⟩ ?_
      refine q_aload_n (pc := 82) dM_add_82 rfl ?_
      refine q_getI (f := 0) (pc := 83) dM_add_83 lay_6 (by decide) rfl (by decide) fl_M54 rfl rfl ?_
      rw [e]
      refine q_iadd (pc := 86) dM_add_86 (show ((200 * c : Nat) : Int) + (m : Int) = ((200 * c + m : Nat) : Int) by omega) ⟨by omega, by omega⟩ ?_
      refine q_iconst (pc := 87) dM_add_87 (by decide) ?_
      refine q_zast (i := (200 * c + m)) (pc := 88) dM_add_88 rfl rfl (by omega) rfl (by first | exact Or.inl rfl | exact Or.inr rfl) ?_
      refine q_iinc (pc := 89) dM_add_89 rfl (by decide) rfl ⟨by omega, by omega⟩ ?_
      refine q_goto (tgt := 65) (pc := 92) dM_add_92 (by decide) ?_
      rw [mhz_up hm]
      exact ih (c + 1) (by omega)
theorem ct_M_add {L n : Nat} (t k v e z : Int) (I : qI) (hn : I 44 0 = (n : Int)) (hn2 : n < 199) (hz : z = 0 ∨ z = 1) : qT M_M_add 0 [.inr (some 44), .inl t, .inl k, .inl v, .inl e, .inl z] L I (rI ((n + 1 : Nat) : Int) L (mad I n t k v e z)) := by
  refine q_enter (by decide) (Nat.le_of_ble_eq_true rfl) ?_
  have e0 : I 44 0 + 1 = ((n + 1 : Nat) : Int) := by rw [hn]; rfl
  refine q_aload_n (pc := 0) dM_add_0 rfl ?_
  refine q_dup (pc := 1) dM_add_1 ?_
  refine q_getI (f := 0) (pc := 2) dM_add_2 lay_6 (by decide) rfl (by decide) fl_M54 rfl rfl ?_
  refine q_iconst (pc := 5) dM_add_5 (by decide) ?_
  refine q_iadd (pc := 6) dM_add_6 e0 ⟨by omega, by omega⟩ ?_
  refine q_putI (f := 0) (pc := 7) dM_add_7 lay_6 typ_6 (by decide) rfl (by decide) fl_M54 rfl (Or.inl rfl) (Or.inl rfl) rfl ?_
  refine q_aload_n (pc := 10) dM_add_10 rfl ?_
  refine q_getR (f := 1) (pc := 11) dM_add_11 lay_6 (by decide) rfl (by decide) fl_M7 rfl rfl ?_
  refine q_aload_n (pc := 14) dM_add_14 rfl ?_
  refine q_getI (f := 0) (pc := 15) dM_add_15 lay_6 (by decide) rfl (by decide) fl_M54 rfl rfl ?_
  refine q_iload_n (pc := 18) dM_add_18 rfl ?_
  refine q_iast (i := (n + 1)) (pc := 19) dM_add_19 rfl (by simp [q_up]) (by omega) rfl ?_
  refine q_aload_n (pc := 20) dM_add_20 rfl ?_
  refine q_getR (f := 2) (pc := 21) dM_add_21 lay_6 (by decide) rfl (by decide) fl_M13 rfl rfl ?_
  refine q_aload_n (pc := 24) dM_add_24 rfl ?_
  refine q_getI (f := 0) (pc := 25) dM_add_25 lay_6 (by decide) rfl (by decide) fl_M54 rfl rfl ?_
  refine q_iload_n (pc := 28) dM_add_28 rfl ?_
  refine q_iast (i := (n + 1)) (pc := 29) dM_add_29 rfl (by simp [q_up]) (by omega) rfl ?_
  refine q_aload_n (pc := 30) dM_add_30 rfl ?_
  refine q_getR (f := 3) (pc := 31) dM_add_31 lay_6 (by decide) rfl (by decide) fl_M16 rfl rfl ?_
  refine q_aload_n (pc := 34) dM_add_34 rfl ?_
  refine q_getI (f := 0) (pc := 35) dM_add_35 lay_6 (by decide) rfl (by decide) fl_M54 rfl rfl ?_
  refine q_iload_n (pc := 38) dM_add_38 rfl ?_
  refine q_iast (i := (n + 1)) (pc := 39) dM_add_39 rfl (by simp [q_up]) (by omega) rfl ?_
  refine q_aload_n (pc := 40) dM_add_40 rfl ?_
  refine q_getR (f := 4) (pc := 41) dM_add_41 lay_6 (by decide) rfl (by decide) fl_M19 rfl rfl ?_
  refine q_aload_n (pc := 44) dM_add_44 rfl ?_
  refine q_getI (f := 0) (pc := 45) dM_add_45 lay_6 (by decide) rfl (by decide) fl_M54 rfl rfl ?_
  refine q_iload (pc := 48) dM_add_48 rfl ?_
  refine q_iast (i := (n + 1)) (pc := 50) dM_add_50 rfl (by simp [q_up]) (by omega) rfl ?_
  refine q_aload_n (pc := 51) dM_add_51 rfl ?_
  refine q_getR (f := 5) (pc := 52) dM_add_52 lay_6 (by decide) rfl (by decide) fl_M22 rfl rfl ?_
  refine q_aload_n (pc := 55) dM_add_55 rfl ?_
  refine q_getI (f := 0) (pc := 56) dM_add_56 lay_6 (by decide) rfl (by decide) fl_M54 rfl rfl ?_
  refine q_iload (pc := 59) dM_add_59 rfl ?_
  refine q_zast (i := (n + 1)) (pc := 61) dM_add_61 rfl (by simp [q_up]) (by omega) rfl hz ?_
  refine q_iconst (pc := 62) dM_add_62 (by decide) ?_
  refine q_istore (pc := 63) dM_add_63 (by decide) ?_
  have e1 : mad0 I n t k v e z = mhz (mad0 I n t k v e z) (n + 1) 0 := by
    funext a j
    simp [mhz]
  have h := fun x1 x2 x3 x4 x5 => lp_M_add (L := L) x1 x2 x3 x4 x5 (mad0 I n t k v e z) mad0_n (by omega) 12 0 (by omega)
  rw [← e1] at h
  exact h _ _ _ _ _
/-- the keys below m that t holds are let go -/
def mfr (I : qI) (t : Int) (m : Nat) : qI := fun a j => if a = 55 ∧ j < m ∧ I 55 j = t then 0 else I a j
theorem mfr_up {I : qI} {t : Int} {m : Nat} (h : I 55 m = t) : q_up (mfr I t m) 55 m 0 = mfr I t (m + 1) := by
  funext a j
  unfold q_up mfr
  by_cases ha : a = 55
  · by_cases hj : j = m
    · subst hj; simp [ha, h]
    · have : (j < m + 1) = (j < m) := by apply propext; omega
      simp [ha, hj, this]
  · simp [ha]
theorem mfr_no {I : qI} {t : Int} {m : Nat} (h : ¬ I 55 m = t) : q_up (mfr I t m) 55 m (I 55 m) = mfr I t (m + 1) := by
  funext a j
  unfold q_up mfr
  by_cases ha : a = 55
  · by_cases hj : j = m
    · subst hj; simp [ha, h]
    · have : (j < m + 1) = (j < m) := by apply propext; omega
      simp [ha, hj, this]
  · simp [ha]
theorem mfr_m {I : qI} {t : Int} {m : Nat} : mfr I t m 55 m = I 55 m := by simp [mfr]
theorem mfr_off {I : qI} {t : Int} {m a : Nat} (h : a ≠ 55) : mfr I t m a = I a := by funext j; simp [mfr, h]
def mfin0 (I : qI) (t : Nat) : qI := mfr (q_up I 54 t 0) (t : Int) 32
def mfin (I : qI) (n t : Nat) (e : Int) : qI := mad (mfin0 I t) n t 0 0 e 1
theorem lp_M_finish {L n t : Nat} (e : Int) (J : qI) (hn : J 44 0 = (n : Int)) (hn2 : n < 199) : ∀ f m, m + f = 32 → qE M_M_finish 1 9 [some (.inr (some 44)), some (.inl ((t : Nat) : Int)), some (.inl e), some (.inl ((m : Nat) : Int))] [] L (mfr J t m) (rI ((n + 1 : Nat) : Int) L (mad (mfr J t 32) n t 0 0 e 1)) := by
  intro f
  induction f with
  | zero =>
    intro m hm
    obtain rfl : m = 32 := by omega
    refine q_iload_n (pc := 9) dM_finish_9 rfl ?_
    refine q_bipush (pc := 10) dM_finish_10 (by decide) (by decide) ?_
    refine q_icmp_ge (tgt := 47) (pc := 12) dM_finish_12 (by decide) (fun h12 => ?_) (fun h12 => ?_)
    · refine q_aload_n (pc := 47) dM_finish_47 rfl ?_
      refine q_iload_n (pc := 48) dM_finish_48 rfl ?_
      refine q_iconst (pc := 49) dM_finish_49 (by decide) ?_
      refine q_iconst (pc := 50) dM_finish_50 (by decide) ?_
      refine q_iload_n (pc := 51) dM_finish_51 rfl ?_
      refine q_iconst (pc := 52) dM_finish_52 (by decide) ?_
      refine q_callV1 (pc := 53) dM_finish_53 ((ct_M_add t 0 0 e 1 _ (by rw [mfr_off (by decide)]; exact hn) hn2 (Or.inr rfl))) cd_M_add in_M_add se_M_add ml_M61 rfl (by decide) rfl rfl (Nat.le_of_ble_eq_true rfl) ⟨by decide, by decide⟩ ⟨by decide, by decide⟩ rfl ?_
      refine q_iret rfl (pc := 56) dM_finish_56 ?_
      exact ⟨rfl, rfl, rfl⟩
    · omega
  | succ f ih =>
    intro m hm
    have h9 := ih (m + 1) (by omega)
    refine q_iload_n (pc := 9) dM_finish_9 rfl ?_
    refine q_bipush (pc := 10) dM_finish_10 (by decide) (by decide) ?_
    refine q_icmp_ge (tgt := 47) (pc := 12) dM_finish_12 (by decide) (fun h12 => ?_) (fun h12 => ?_)
    · omega
    · refine q_aload_n (pc := 15) dM_finish_15 rfl ?_
      refine q_getR (f := 14) (pc := 16) dM_finish_16 lay_6 (by decide) rfl (by decide) fl_M41 rfl rfl ?_
      refine q_iload_n (pc := 19) dM_finish_19 rfl ?_
      refine q_aload_n (pc := 20) dM_finish_20 rfl ?_
      refine q_getR (f := 14) (pc := 21) dM_finish_21 lay_6 (by decide) rfl (by decide) fl_M41 rfl rfl ?_
      refine q_iload_n (pc := 24) dM_finish_24 rfl ?_
      refine q_iald (i := m) (pc := 25) dM_finish_25 rfl rfl (by omega) rfl ?_
      refine q_iload_n (pc := 26) dM_finish_26 rfl ?_
      refine q_icmp_ne (tgt := 34) (pc := 27) dM_finish_27 (by decide) (fun h27 => ?_) (fun h27 => ?_)
      · rw [mfr_m] at h27
        refine q_aload_n (pc := 34) dM_finish_34 rfl ?_
        refine q_getR (f := 14) (pc := 35) dM_finish_35 lay_6 (by decide) rfl (by decide) fl_M41 rfl rfl ?_
        refine q_iload_n (pc := 38) dM_finish_38 rfl ?_
        refine q_iald (i := m) (pc := 39) dM_finish_39 rfl rfl (by omega) rfl ?_
        rw [mfr_m]
        refine q_iast (i := m) (pc := 40) dM_finish_40 rfl rfl (by omega) rfl ?_
        refine q_iinc (pc := 41) dM_finish_41 rfl (by decide) rfl ⟨by omega, by omega⟩ ?_
        refine q_goto (tgt := 9) (pc := 44) dM_finish_44 (by decide) ?_
        rw [mfr_no h27]
        exact h9
      · rw [mfr_m] at h27
        refine q_iconst (pc := 30) dM_finish_30 (by decide) ?_
        refine q_goto (tgt := 40) (pc := 31) dM_finish_31 (by decide) ?_
        refine q_iast (i := m) (pc := 40) dM_finish_40 rfl rfl (by omega) rfl ?_
        refine q_iinc (pc := 41) dM_finish_41 rfl (by decide) rfl ⟨by omega, by omega⟩ ?_
        refine q_goto (tgt := 9) (pc := 44) dM_finish_44 (by decide) ?_
        rw [mfr_up h27]
        exact h9
theorem ct_M_finish {L n t : Nat} (e : Int) (I : qI) (hn : I 44 0 = (n : Int)) (hn2 : n < 199) (ht : t ≤ 60) : qT M_M_finish 1 [.inr (some 44), .inl ((t : Nat) : Int), .inl e] L I (rI ((n + 1 : Nat) : Int) L (mfin I n t e)) := by
  refine q_enter (by decide) (Nat.le_of_ble_eq_true rfl) ?_
  refine q_aload_n (pc := 0) dM_finish_0 rfl ?_
  refine q_getR (f := 13) (pc := 1) dM_finish_1 lay_6 (by decide) rfl (by decide) fl_M38 rfl rfl ?_
  refine q_iload_n (pc := 4) dM_finish_4 rfl ?_
  refine q_iconst (pc := 5) dM_finish_5 (by decide) ?_
  refine q_zast (i := t) (pc := 6) dM_finish_6 rfl rfl (by omega) rfl (by first | exact Or.inl rfl | exact Or.inr rfl) ?_
  refine q_iconst (pc := 7) dM_finish_7 (by decide) ?_
  refine q_istore_n (pc := 8) dM_finish_8 (by decide) ?_
  have e1 : q_up I 54 t 0 = mfr (q_up I 54 t 0) (t : Int) 0 := by
    funext a j
    simp [mfr]
  have h := lp_M_finish (L := L) (t := t) e (q_up I 54 t 0) (by rw [q_up_off 44 (by decide)]; exact hn) hn2 32 0 (by omega)
  rw [← e1] at h
  exact h
def mfp (I : qI) (t k : Int) (l : Nat) : Bool := decide (I 45 l = t) && (decide (I 48 l = 0) && decide (I 46 l = k))
theorem ct_M_firstChange {L n : Nat} (t k : Int) (I : qI) (hn : I 44 0 = (n : Int)) (hn2 : n < 200) : qT M_M_firstChange 0 [.inr (some 44), .inl t, .inl k] L I (rI (qf (mfp I t k) n 1 : Nat) L I) := by
  refine q_enter (by decide) (Nat.le_of_ble_eq_true rfl) ?_
  refine q_iconst (pc := 0) dM_firstChange_0 (by decide) ?_
  refine q_istore_n (pc := 1) dM_firstChange_1 (by decide) ?_
  have lp : ∀ f l : Nat, l + f = n + 1 → 1 ≤ l → qE M_M_firstChange 0 2 [some (.inr (some 44)), some (.inl t), some (.inl k), some (.inl ((l : Nat) : Int))] [] L I (rI (qf (mfp I t k) f l : Nat) L I) := by
    intro f
    induction f with
    | zero =>
      intro l hl h1
      refine q_iload_n (pc := 2) dM_firstChange_2 rfl ?_
      refine q_aload_n (pc := 3) dM_firstChange_3 rfl ?_
      refine q_getI (f := 0) (pc := 4) dM_firstChange_4 lay_6 (by decide) rfl (by decide) fl_M54 rfl rfl ?_
      refine q_icmp_gt (tgt := 47) (pc := 7) dM_firstChange_7 (by decide) (fun h7 => ?_) (fun h7 => ?_)
      · refine q_iconst (pc := 47) dM_firstChange_47 (by decide) ?_
        refine q_iret rfl (pc := 48) dM_firstChange_48 ?_
        exact ⟨rfl, rfl, rfl⟩
      · omega
    | succ f ih =>
      intro l hl h1
      have h9 := ih (l + 1) (by omega) (by omega)
      have no : ¬ mfp I t k l = true → qf (mfp I t k) (f + 1) l = qf (mfp I t k) f (l + 1) := fun h => by rw [qf, if_neg h]
      refine q_iload_n (pc := 2) dM_firstChange_2 rfl ?_
      refine q_aload_n (pc := 3) dM_firstChange_3 rfl ?_
      refine q_getI (f := 0) (pc := 4) dM_firstChange_4 lay_6 (by decide) rfl (by decide) fl_M54 rfl rfl ?_
      refine q_icmp_gt (tgt := 47) (pc := 7) dM_firstChange_7 (by decide) (fun h7 => ?_) (fun h7 => ?_)
      · omega
      · refine q_aload_n (pc := 10) dM_firstChange_10 rfl ?_
        refine q_getR (f := 1) (pc := 11) dM_firstChange_11 lay_6 (by decide) rfl (by decide) fl_M7 rfl rfl ?_
        refine q_iload_n (pc := 14) dM_firstChange_14 rfl ?_
        refine q_iald (i := l) (pc := 15) dM_firstChange_15 rfl rfl (by omega) rfl ?_
        refine q_iload_n (pc := 16) dM_firstChange_16 rfl ?_
        refine q_icmp_ne (tgt := 41) (pc := 17) dM_firstChange_17 (by decide) (fun h17 => ?_) (fun h17 => ?_)
        · refine q_iinc (pc := 41) dM_firstChange_41 rfl (by decide) rfl ⟨by omega, by omega⟩ ?_
          refine q_goto (tgt := 2) (pc := 44) dM_firstChange_44 (by decide) ?_
          rw [no (by simp [mfp, h17])]
          exact h9
        · refine q_aload_n (pc := 20) dM_firstChange_20 rfl ?_
          refine q_getR (f := 4) (pc := 21) dM_firstChange_21 lay_6 (by decide) rfl (by decide) fl_M19 rfl rfl ?_
          refine q_iload_n (pc := 24) dM_firstChange_24 rfl ?_
          refine q_iald (i := l) (pc := 25) dM_firstChange_25 rfl rfl (by omega) rfl ?_
          refine q_if_ne (tgt := 41) (pc := 26) dM_firstChange_26 (by decide) (fun h26 => ?_) (fun h26 => ?_)
          · refine q_iinc (pc := 41) dM_firstChange_41 rfl (by decide) rfl ⟨by omega, by omega⟩ ?_
            refine q_goto (tgt := 2) (pc := 44) dM_firstChange_44 (by decide) ?_
            rw [no (by simp [mfp, h26])]
            exact h9
          · refine q_aload_n (pc := 29) dM_firstChange_29 rfl ?_
            refine q_getR (f := 2) (pc := 30) dM_firstChange_30 lay_6 (by decide) rfl (by decide) fl_M13 rfl rfl ?_
            refine q_iload_n (pc := 33) dM_firstChange_33 rfl ?_
            refine q_iald (i := l) (pc := 34) dM_firstChange_34 rfl rfl (by omega) rfl ?_
            refine q_iload_n (pc := 35) dM_firstChange_35 rfl ?_
            refine q_icmp_ne (tgt := 41) (pc := 36) dM_firstChange_36 (by decide) (fun h36 => ?_) (fun h36 => ?_)
            · refine q_iinc (pc := 41) dM_firstChange_41 rfl (by decide) rfl ⟨by omega, by omega⟩ ?_
              refine q_goto (tgt := 2) (pc := 44) dM_firstChange_44 (by decide) ?_
              rw [no (by simp [mfp, h36])]
              exact h9
            · refine q_iload_n (pc := 39) dM_firstChange_39 rfl ?_
              refine q_iret rfl (pc := 40) dM_firstChange_40 ?_
              exact ⟨by rw [qf, if_pos (by simp [mfp, h17, h26, h36])], rfl, rfl⟩
  exact lp n 1 (by omega) (by omega)
def mep (I : qI) (t : Int) (l : Nat) : Bool := decide (I 45 l = t) && decide (0 < I 48 l)
theorem ct_M_endOf {L n m : Nat} (t : Int) (I : qI) (hn : I 44 0 = (n : Int)) (hn2 : n < 200) (hm : m ≤ n) : qT M_M_endOf 0 [.inr (some 44), .inl t, .inl ((m : Nat) : Int)] L I (rI (qf (mep I t) m 1 : Nat) L I) := by
  refine q_enter (by decide) (Nat.le_of_ble_eq_true rfl) ?_
  refine q_iconst (pc := 0) dM_endOf_0 (by decide) ?_
  refine q_istore_n (pc := 1) dM_endOf_1 (by decide) ?_
  have lp : ∀ f l : Nat, l + f = m + 1 → 1 ≤ l → qE M_M_endOf 0 2 [some (.inr (some 44)), some (.inl t), some (.inl ((m : Nat) : Int)), some (.inl ((l : Nat) : Int))] [] L I (rI (qf (mep I t) f l : Nat) L I) := by
    intro f
    induction f with
    | zero =>
      intro l hl h1
      refine q_iload_n (pc := 2) dM_endOf_2 rfl ?_
      refine q_iload_n (pc := 3) dM_endOf_3 rfl ?_
      refine q_icmp_gt (tgt := 42) (pc := 4) dM_endOf_4 (by decide) (fun h4 => ?_) (fun h4 => ?_)
      · refine q_iconst (pc := 42) dM_endOf_42 (by decide) ?_
        refine q_iret rfl (pc := 43) dM_endOf_43 ?_
        exact ⟨rfl, rfl, rfl⟩
      · omega
    | succ f ih =>
      intro l hl h1
      have h9 := ih (l + 1) (by omega) (by omega)
      have no : ¬ mep I t l = true → qf (mep I t) (f + 1) l = qf (mep I t) f (l + 1) := fun h => by rw [qf, if_neg h]
      refine q_iload_n (pc := 2) dM_endOf_2 rfl ?_
      refine q_iload_n (pc := 3) dM_endOf_3 rfl ?_
      refine q_icmp_gt (tgt := 42) (pc := 4) dM_endOf_4 (by decide) (fun h4 => ?_) (fun h4 => ?_)
      · omega
      · refine q_iload_n (pc := 7) dM_endOf_7 rfl ?_
        refine q_aload_n (pc := 8) dM_endOf_8 rfl ?_
        refine q_getI (f := 0) (pc := 9) dM_endOf_9 lay_6 (by decide) rfl (by decide) fl_M54 rfl rfl ?_
        refine q_icmp_gt (tgt := 42) (pc := 12) dM_endOf_12 (by decide) (fun h12 => ?_) (fun h12 => ?_)
        · omega
        · refine q_aload_n (pc := 15) dM_endOf_15 rfl ?_
          refine q_getR (f := 1) (pc := 16) dM_endOf_16 lay_6 (by decide) rfl (by decide) fl_M7 rfl rfl ?_
          refine q_iload_n (pc := 19) dM_endOf_19 rfl ?_
          refine q_iald (i := l) (pc := 20) dM_endOf_20 rfl rfl (by omega) rfl ?_
          refine q_iload_n (pc := 21) dM_endOf_21 rfl ?_
          refine q_icmp_ne (tgt := 36) (pc := 22) dM_endOf_22 (by decide) (fun h22 => ?_) (fun h22 => ?_)
          · refine q_iinc (pc := 36) dM_endOf_36 rfl (by decide) rfl ⟨by omega, by omega⟩ ?_
            refine q_goto (tgt := 2) (pc := 39) dM_endOf_39 (by decide) ?_
            rw [no (by simp [mep, h22])]
            exact h9
          · refine q_aload_n (pc := 25) dM_endOf_25 rfl ?_
            refine q_getR (f := 4) (pc := 26) dM_endOf_26 lay_6 (by decide) rfl (by decide) fl_M19 rfl rfl ?_
            refine q_iload_n (pc := 29) dM_endOf_29 rfl ?_
            refine q_iald (i := l) (pc := 30) dM_endOf_30 rfl rfl (by omega) rfl ?_
            refine q_if_le (tgt := 36) (pc := 31) dM_endOf_31 (by decide) (fun h31 => ?_) (fun h31 => ?_)
            · refine q_iinc (pc := 36) dM_endOf_36 rfl (by decide) rfl ⟨by omega, by omega⟩ ?_
              refine q_goto (tgt := 2) (pc := 39) dM_endOf_39 (by decide) ?_
              rw [no (by unfold mep; rw [decide_eq_false (p := 0 < _) (by omega)]; simp)]
              exact h9
            · refine q_iload_n (pc := 34) dM_endOf_34 rfl ?_
              refine q_iret rfl (pc := 35) dM_endOf_35 ?_
              exact ⟨by rw [qf, if_pos (by unfold mep; rw [decide_eq_true h22, decide_eq_true (by omega)]; rfl)], rfl, rfl⟩
  exact lp m 1 (by omega) (by omega)
