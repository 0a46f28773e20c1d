/-! The reference, fifth part. -/
theorem mac_nat {I : qI} {T : Nat} {t : Int} (hT : I 44 12 = (T : Int)) (h : mac I t = true) : ∃ s : Nat, 1 ≤ s ∧ s ≤ T ∧ t = (s : Int) ∧ I 54 s ≠ 0 := by
  have := of_decide_eq_true h
  exact ⟨t.toNat, by omega, by omega, by omega, this.2.2⟩
theorem ct_M_commit0 {L n T k d : Nat} (t : Int) (I : qI) (h : mw I n T k d) (h0 : mrt I t ≠ 0) : qT M_M_commit 2 [.inr (some 44), .inl t] L I (rI (mrt I t) L I) := by
  obtain ⟨-, ⟨hT, hT2⟩, -⟩ := h
  refine q_enter (by decide) (Nat.le_of_ble_eq_true rfl) ?_
  refine q_aload_n (pc := 0) dM_commit_0 rfl ?_
  refine q_getI (f := 10) (pc := 1) dM_commit_1 lay_6 (by decide) rfl (by decide) fl_M117 rfl rfl ?_
  refine q_if_eq (tgt := 10) (pc := 4) dM_commit_4 (by decide) (fun h4 => ?_) (fun h4 => ?_)
  · refine q_aload_n (pc := 10) dM_commit_10 rfl ?_
    refine q_iload_n (pc := 11) dM_commit_11 rfl ?_
    refine q_callV1 (pc := 12) dM_commit_12 ((ct_M_isActive t I hT hT2)) cd_M_isActive in_M_isActive se_M_isActive ml_M125 rfl (by decide) rfl rfl (Nat.le_of_ble_eq_true rfl) ⟨by decide, by decide⟩ ⟨by decide, by decide⟩ rfl ?_
    refine q_if_eq (tgt := 27) (pc := 15) dM_commit_15 (by decide) (fun h15 => ?_) (fun h15 => ?_)
    · refine q_bipush (pc := 27) dM_commit_27 (by decide) (by decide) ?_
      refine q_iret rfl (pc := 29) dM_commit_29 ?_
      exact ⟨by unfold mrt; rw [if_neg (not_not_intro h4), if_neg (by rw [bi_eq h15]; decide)], rfl, rfl⟩
    · exact absurd (by unfold mrt; rw [if_neg (not_not_intro h4), if_pos (bi_ne h15)]) h0
  · refine q_bipush (pc := 7) dM_commit_7 (by decide) (by decide) ?_
    refine q_iret rfl (pc := 9) dM_commit_9 ?_
    exact ⟨by unfold mrt; rw [if_pos h4], rfl, rfl⟩
theorem ct_M_commit {L n T k d t : Nat} (I : qI) (h : mw I n T k d) (h0 : mrt I (t : Int) = 0) (ht : t ≤ 60) : qT M_M_commit 2 [.inr (some 44), .inl ((t : Nat) : Int)] L I (rI ((n + 1 : Nat) : Int) L (mfin I n t 1)) := by
  obtain ⟨⟨hn, hn2⟩, ⟨hT, hT2⟩, -⟩ := h
  refine q_enter (by decide) (Nat.le_of_ble_eq_true rfl) ?_
  unfold mrt at h0
  refine q_aload_n (pc := 0) dM_commit_0 rfl ?_
  refine q_getI (f := 10) (pc := 1) dM_commit_1 lay_6 (by decide) rfl (by decide) fl_M117 rfl rfl ?_
  refine q_if_eq (tgt := 10) (pc := 4) dM_commit_4 (by decide) (fun h4 => ?_) (fun h4 => ?_)
  · refine q_aload_n (pc := 10) dM_commit_10 rfl ?_
    refine q_iload_n (pc := 11) dM_commit_11 rfl ?_
    refine q_callV1 (pc := 12) dM_commit_12 ((ct_M_isActive t I hT hT2)) cd_M_isActive in_M_isActive se_M_isActive ml_M125 rfl (by decide) rfl rfl (Nat.le_of_ble_eq_true rfl) ⟨by decide, by decide⟩ ⟨by decide, by decide⟩ rfl ?_
    refine q_if_eq (tgt := 27) (pc := 15) dM_commit_15 (by decide) (fun h15 => ?_) (fun h15 => ?_)
    · rw [if_neg (not_not_intro h4), if_neg (by rw [bi_eq h15]; decide)] at h0
      omega
    · refine q_aload_n (pc := 18) dM_commit_18 rfl ?_
      refine q_iload_n (pc := 19) dM_commit_19 rfl ?_
      refine q_iconst (pc := 20) dM_commit_20 (by decide) ?_
      refine q_callV1 (pc := 21) dM_commit_21 ((ct_M_finish 1 I hn (by omega) ht)) cd_M_finish in_M_finish se_M_finish ml_M71 rfl (by decide) rfl rfl (Nat.le_of_ble_eq_true rfl) ⟨by decide, by decide⟩ ⟨by decide, by decide⟩ rfl ?_
      refine q_goto (tgt := 29) (pc := 24) dM_commit_24 (by decide) ?_
      refine q_iret rfl (pc := 29) dM_commit_29 ?_
      exact ⟨rfl, rfl, rfl⟩
  · rw [if_pos h4] at h0
    omega
def mnN (I : qI) : Nat := (I 44 0).toNat
theorem mnN_of {I : qI} {n : Nat} (h : I 44 0 = (n : Int)) : mnN I = n := by unfold mnN; rw [h]; rfl
/-- one key of a roll back, of a log that had b records -/
def mrb1 (I : qI) (b t k : Nat) : qI := if qf (mfp I t k) (mnN I) 1 = 0 ∨ b < qf (mfp I t k) (mnN I) 1 then I else mad I (mnN I) t k (mval I k (qf (mfp I t k) (mnN I) 1 - 1)) 0 0
def mrb (b t : Nat) : Nat → Nat → qI → qI
  | 0, _, I => I
  | f + 1, k, I => mrb b t f (k + 1) (mrb1 I b t k)
theorem mrb1_n {I : qI} {b t k n : Nat} (h : I 44 0 = (n : Int)) : ∃ m : Nat, n ≤ m ∧ m ≤ n + 1 ∧ mrb1 I b t k 44 0 = (m : Int) := by
  unfold mrb1
  split
  · exact ⟨n, by omega, by omega, h⟩
  · exact ⟨n + 1, by omega, by omega, by rw [mad_n, mnN_of h]⟩
theorem mrb_n {b t : Nat} : ∀ {f k : Nat} {I : qI} {n : Nat}, I 44 0 = (n : Int) → ∃ m : Nat, n ≤ m ∧ mrb b t f k I 44 0 = (m : Int)
  | 0, k, I, n, h => ⟨n, by omega, h⟩
  | f + 1, k, I, n, h => by
    obtain ⟨m, h1, h2, h3⟩ := mrb1_n (b := b) (t := t) (k := k) h
    obtain ⟨m', h4, h5⟩ := mrb_n (b := b) (t := t) (f := f) (k := k + 1) h3
    exact ⟨m', by omega, h5⟩
theorem lp_M_rollBack {L t b : Nat} (ht : t ≤ 60) : ∀ (f k : Nat) (I : qI) (n : Nat) (y z : Option qV), I 44 0 = (n : Int) → k + f = 32 → (mrb b t f k I) 44 0 ≤ 186 → qE M_M_rollBack 2 7 [some (.inr (some 44)), some (.inl ((t : Nat) : Int)), some (.inl ((b : Nat) : Int)), some (.inl ((k : Nat) : Int)), y, z] [] L I (rI ((mnN (mrb b t f k I) + 1 : Nat) : Int) L (mfin (mrb b t f k I) (mnN (mrb b t f k I)) t 2)) := by
  intro f
  induction f with
  | zero =>
    intro k I n y z hn hk hB
    have hB : I 44 0 ≤ 186 := hB
    refine q_iload_n (pc := 7) dM_rollBack_7 rfl ?_
    refine q_bipush (pc := 8) dM_rollBack_8 (by decide) (by decide) ?_
    refine q_icmp_ge (tgt := 60) (pc := 10) dM_rollBack_10 (by decide) (fun h10 => ?_) (fun h10 => ?_)
    · refine q_aload_n (pc := 60) dM_rollBack_60 rfl ?_
      refine q_iload_n (pc := 61) dM_rollBack_61 rfl ?_
      refine q_iconst (pc := 62) dM_rollBack_62 (by decide) ?_
      refine q_callV1 (pc := 63) dM_rollBack_63 ((ct_M_finish 2 I hn (by omega) ht)) cd_M_finish in_M_finish se_M_finish ml_M71 rfl (by decide) rfl rfl (Nat.le_of_ble_eq_true rfl) ⟨by decide, by decide⟩ ⟨by decide, by decide⟩ rfl ?_
      refine q_iret rfl (pc := 66) dM_rollBack_66 ?_
      exact ⟨by rw [show mrb b t 0 k I = I from rfl, mnN_of hn], rfl, by rw [show mrb b t 0 k I = I from rfl, mnN_of hn]⟩
    · omega
  | succ f ih =>
    intro k I n y z hn hk hB
    obtain ⟨m, hm1, hm2, hm3⟩ := mrb1_n (b := b) (t := t) (k := k) hn
    obtain ⟨m', hm4, hm5⟩ := mrb_n (b := b) (t := t) (f := f) (k := k + 1) hm3
    have hB' : (mrb b t f (k + 1) (mrb1 I b t k)) 44 0 ≤ 186 := hB
    have hn9 : n ≤ 186 := by omega
    have hfl := qf_has (p := mfp I t k) (f := n) (l := 1)
    have no : (qf (mfp I t k) n 1 = 0 ∨ b < qf (mfp I t k) n 1) → ∀ y z, qE M_M_rollBack 2 7 [some (.inr (some 44)), some (.inl ((t : Nat) : Int)), some (.inl ((b : Nat) : Int)), some (.inl ((k + 1 : Nat) : Int)), y, z] [] L I (rI ((mnN (mrb b t (f + 1) k I) + 1 : Nat) : Int) L (mfin (mrb b t (f + 1) k I) (mnN (mrb b t (f + 1) k I)) t 2)) := by
      intro h y z
      have e : mrb1 I b t k = I := by unfold mrb1; rw [mnN_of hn, if_pos h]
      have e2 : mrb b t (f + 1) k I = mrb b t f (k + 1) I := by show mrb b t f (k + 1) (mrb1 I b t k) = _; rw [e]
      rw [e2]
      rw [e] at hB'
      exact ih (k + 1) I n y z hn (by omega) hB'
    refine q_iload_n (pc := 7) dM_rollBack_7 rfl ?_
    refine q_bipush (pc := 8) dM_rollBack_8 (by decide) (by decide) ?_
    refine q_icmp_ge (tgt := 60) (pc := 10) dM_rollBack_10 (by decide) (fun h10 => ?_) (fun h10 => ?_)
    · omega
    · refine q_aload_n (pc := 13) dM_rollBack_13 rfl ?_
      refine q_iload_n (pc := 14) dM_rollBack_14 rfl ?_
      refine q_iload_n (pc := 15) dM_rollBack_15 rfl ?_
      refine q_callV1 (pc := 16) dM_rollBack_16 ((ct_M_firstChange t k I hn (by omega))) cd_M_firstChange in_M_firstChange se_M_firstChange ml_M65 rfl (by decide) rfl rfl (Nat.le_of_ble_eq_true rfl) ⟨by decide, by decide⟩ ⟨by decide, by decide⟩ rfl ?_
      refine q_istore (pc := 19) dM_rollBack_19 (by decide) ?_
      refine q_iload (pc := 21) dM_rollBack_21 rfl ?_
      refine q_if_le (tgt := 54) (pc := 23) dM_rollBack_23 (by decide) (fun h23 => ?_) (fun h23 => ?_)
      · refine q_iinc (pc := 54) dM_rollBack_54 rfl (by decide) rfl ⟨by omega, by omega⟩ ?_
        refine q_goto (tgt := 7) (pc := 57) dM_rollBack_57 (by decide) ?_
        exact no (Or.inl (by omega)) _ _
      · refine q_iload (pc := 26) dM_rollBack_26 rfl ?_
        refine q_iload_n (pc := 28) dM_rollBack_28 rfl ?_
        refine q_icmp_gt (tgt := 54) (pc := 29) dM_rollBack_29 (by decide) (fun h29 => ?_) (fun h29 => ?_)
        · refine q_iinc (pc := 54) dM_rollBack_54 rfl (by decide) rfl ⟨by omega, by omega⟩ ?_
          refine q_goto (tgt := 7) (pc := 57) dM_rollBack_57 (by decide) ?_
          exact no (Or.inr (by omega)) _ _
        · have e : mrb1 I b t k = mad I n t k (mval I k (qf (mfp I t k) n 1 - 1)) 0 0 := by unfold mrb1; rw [mnN_of hn, if_neg (by omega)]
          have e2 : mrb b t (f + 1) k I = mrb b t f (k + 1) (mad I n t k (mval I k (qf (mfp I t k) n 1 - 1)) 0 0) := by show mrb b t f (k + 1) (mrb1 I b t k) = _; rw [e]
          rw [e] at hB' hm3
          have en : mad I n t k (mval I k (qf (mfp I t k) n 1 - 1)) 0 0 44 0 = ((n + 1 : Nat) : Int) := mad_n
          refine q_aload_n (pc := 32) dM_rollBack_32 rfl ?_
          refine q_iload_n (pc := 33) dM_rollBack_33 rfl ?_
          refine q_iload (pc := 34) dM_rollBack_34 rfl ?_
          refine q_iconst (pc := 36) dM_rollBack_36 (by decide) ?_
          refine q_isub (pc := 37) dM_rollBack_37 (show ((qf (mfp I t k) n 1 : Nat) : Int) - 1 = ((qf (mfp I t k) n 1 - 1 : Nat) : Int) by omega) ⟨by omega, by omega⟩ ?_
          refine q_callV1 (pc := 38) dM_rollBack_38 ((ct_M_valueUpTo k I hn (by omega) (by omega))) cd_M_valueUpTo in_M_valueUpTo se_M_valueUpTo ml_M68 rfl (by decide) rfl rfl (Nat.le_of_ble_eq_true rfl) ⟨by decide, by decide⟩ ⟨by decide, by decide⟩ rfl ?_
          refine q_istore (pc := 41) dM_rollBack_41 (by decide) ?_
          refine q_aload_n (pc := 43) dM_rollBack_43 rfl ?_
          refine q_iload_n (pc := 44) dM_rollBack_44 rfl ?_
          refine q_iload_n (pc := 45) dM_rollBack_45 rfl ?_
          refine q_iload (pc := 46) dM_rollBack_46 rfl ?_
          refine q_iconst (pc := 48) dM_rollBack_48 (by decide) ?_
          refine q_iconst (pc := 49) dM_rollBack_49 (by decide) ?_
          refine q_callV1 (pc := 50) dM_rollBack_50 ((ct_M_add t k _ 0 0 I hn (by omega) (Or.inl rfl))) cd_M_add in_M_add se_M_add ml_M61 rfl (by decide) rfl rfl (Nat.le_of_ble_eq_true rfl) ⟨by decide, by decide⟩ ⟨by decide, by decide⟩ rfl ?_
          refine q_pop (pc := 53) dM_rollBack_53 ?_
          refine q_iinc (pc := 54) dM_rollBack_54 rfl (by decide) rfl ⟨by omega, by omega⟩ ?_
          refine q_goto (tgt := 7) (pc := 57) dM_rollBack_57 (by decide) ?_
          rw [e2]
          exact ih (k + 1) _ (n + 1) _ _ en (by omega) hB'
def mroll (I : qI) (t : Nat) : qI := mfin (mrb (mnN I) t 32 0 I) (mnN (mrb (mnN I) t 32 0 I)) t 2
theorem ct_M_rollBack {L t n : Nat} (ht : t ≤ 60) (I : qI) (hn : I 44 0 = (n : Int)) (hB : (mrb n t 32 0 I) 44 0 ≤ 186) : qT M_M_rollBack 2 [.inr (some 44), .inl ((t : Nat) : Int)] L I (rI ((mnN (mrb n t 32 0 I) + 1 : Nat) : Int) L (mroll I t)) := by
  refine q_enter (by decide) (Nat.le_of_ble_eq_true rfl) ?_
  unfold mroll
  rw [mnN_of hn]
  refine q_aload_n (pc := 0) dM_rollBack_0 rfl ?_
  refine q_getI (f := 0) (pc := 1) dM_rollBack_1 lay_6 (by decide) rfl (by decide) fl_M54 rfl rfl ?_
  rw [hn]
  refine q_istore_n (pc := 4) dM_rollBack_4 (by decide) ?_
  refine q_iconst (pc := 5) dM_rollBack_5 (by decide) ?_
  refine q_istore_n (pc := 6) dM_rollBack_6 (by decide) ?_
  exact lp_M_rollBack ht 32 0 I n _ _ hn (by omega) hB
theorem ct_M_abort0 {L n T k d : Nat} (t : Int) (I : qI) (h : mw I n T k d) (h0 : mrt I t ≠ 0) : qT M_M_abort 3 [.inr (some 44), .inl t] L I (rI (mrt I t) L I) := by
  obtain ⟨-, ⟨hT, hT2⟩, -⟩ := h
  refine q_enter (by decide) (Nat.le_of_ble_eq_true rfl) ?_
  refine q_aload_n (pc := 0) dM_abort_0 rfl ?_
  refine q_getI (f := 10) (pc := 1) dM_abort_1 lay_6 (by decide) rfl (by decide) fl_M117 rfl rfl ?_
  refine q_if_eq (tgt := 10) (pc := 4) dM_abort_4 (by decide) (fun h4 => ?_) (fun h4 => ?_)
  · refine q_aload_n (pc := 10) dM_abort_10 rfl ?_
    refine q_iload_n (pc := 11) dM_abort_11 rfl ?_
    refine q_callV1 (pc := 12) dM_abort_12 ((ct_M_isActive t I hT hT2)) cd_M_isActive in_M_isActive se_M_isActive ml_M125 rfl (by decide) rfl rfl (Nat.le_of_ble_eq_true rfl) ⟨by decide, by decide⟩ ⟨by decide, by decide⟩ rfl ?_
    refine q_if_eq (tgt := 26) (pc := 15) dM_abort_15 (by decide) (fun h15 => ?_) (fun h15 => ?_)
    · refine q_bipush (pc := 26) dM_abort_26 (by decide) (by decide) ?_
      refine q_iret rfl (pc := 28) dM_abort_28 ?_
      exact ⟨by unfold mrt; rw [if_neg (not_not_intro h4), if_neg (by rw [bi_eq h15]; decide)], rfl, rfl⟩
    · exact absurd (by unfold mrt; rw [if_neg (not_not_intro h4), if_pos (bi_ne h15)]) h0
  · refine q_bipush (pc := 7) dM_abort_7 (by decide) (by decide) ?_
    refine q_iret rfl (pc := 9) dM_abort_9 ?_
    exact ⟨by unfold mrt; rw [if_pos h4], rfl, rfl⟩
theorem ct_M_abort {L n T k d t : Nat} (I : qI) (h : mw I n T k d) (h0 : mrt I (t : Int) = 0) (ht : t ≤ 60) (hB : (mrb n t 32 0 I) 44 0 ≤ 186) : qT M_M_abort 3 [.inr (some 44), .inl ((t : Nat) : Int)] L I (rI ((mnN (mrb n t 32 0 I) + 1 : Nat) : Int) L (mroll I t)) := by
  obtain ⟨⟨hn, hn2⟩, ⟨hT, hT2⟩, -⟩ := h
  refine q_enter (by decide) (Nat.le_of_ble_eq_true rfl) ?_
  unfold mrt at h0
  refine q_aload_n (pc := 0) dM_abort_0 rfl ?_
  refine q_getI (f := 10) (pc := 1) dM_abort_1 lay_6 (by decide) rfl (by decide) fl_M117 rfl rfl ?_
  refine q_if_eq (tgt := 10) (pc := 4) dM_abort_4 (by decide) (fun h4 => ?_) (fun h4 => ?_)
  · refine q_aload_n (pc := 10) dM_abort_10 rfl ?_
    refine q_iload_n (pc := 11) dM_abort_11 rfl ?_
    refine q_callV1 (pc := 12) dM_abort_12 ((ct_M_isActive t I hT hT2)) cd_M_isActive in_M_isActive se_M_isActive ml_M125 rfl (by decide) rfl rfl (Nat.le_of_ble_eq_true rfl) ⟨by decide, by decide⟩ ⟨by decide, by decide⟩ rfl ?_
    refine q_if_eq (tgt := 26) (pc := 15) dM_abort_15 (by decide) (fun h15 => ?_) (fun h15 => ?_)
    · rw [if_neg (not_not_intro h4), if_neg (by rw [bi_eq h15]; decide)] at h0
      omega
    · refine q_aload_n (pc := 18) dM_abort_18 rfl ?_
      refine q_iload_n (pc := 19) dM_abort_19 rfl ?_
      refine q_callV1 (pc := 20) dM_abort_20 ((ct_M_rollBack (n := n) ht I hn hB)) cd_M_rollBack in_M_rollBack se_M_rollBack ml_M134 rfl (by decide) rfl rfl (Nat.le_of_ble_eq_true rfl) ⟨by decide, by decide⟩ ⟨by decide, by decide⟩ rfl ?_
      refine q_goto (tgt := 28) (pc := 23) dM_abort_23 (by decide) ?_
      refine q_iret rfl (pc := 28) dM_abort_28 ?_
      exact ⟨rfl, rfl, rfl⟩
  · rw [if_pos h4] at h0
    omega
theorem ct_M_status {L n T k d : Nat} (t : Int) (I : qI) (h : mw I n T k d) : qT M_M_status 1 [.inr (some 44), .inl t] L I (rI (if t < 1 ∨ (T : Int) < t then 0 else if ¬ I 54 t.toNat = 0 then 1 else if qf (mep I t) n 1 = 0 then 5 else if I 48 (qf (mep I t) n 1) = 2 then 4 else if (qf (mep I t) n 1 : Int) ≤ I 44 11 then 3 else 2) L I) := by
  obtain ⟨⟨hn, hn2⟩, ⟨hT, hT2⟩, -⟩ := h
  have hfl := qf_has (p := mep I t) (f := n) (l := 1)
  refine q_enter (by decide) (Nat.le_of_ble_eq_true rfl) ?_
  refine q_iload_n (pc := 0) dM_status_0 rfl ?_
  refine q_iconst (pc := 1) dM_status_1 (by decide) ?_
  refine q_icmp_lt (tgt := 13) (pc := 2) dM_status_2 (by decide) (fun h2 => ?_) (fun h2 => ?_)
  · refine q_iconst (pc := 13) dM_status_13 (by decide) ?_
    refine q_iret rfl (pc := 14) dM_status_14 ?_
    exact ⟨by rw [if_pos (Or.inl h2)], rfl, rfl⟩
  · refine q_iload_n (pc := 5) dM_status_5 rfl ?_
    refine q_aload_n (pc := 6) dM_status_6 rfl ?_
    refine q_getI (f := 12) (pc := 7) dM_status_7 lay_6 (by decide) rfl (by decide) fl_M50 rfl rfl ?_
    refine q_icmp_le (tgt := 15) (pc := 10) dM_status_10 (by decide) (fun h10 => ?_) (fun h10 => ?_)
    · refine q_aload_n (pc := 15) dM_status_15 rfl ?_
      refine q_getR (f := 13) (pc := 16) dM_status_16 lay_6 (by decide) rfl (by decide) fl_M38 rfl rfl ?_
      refine q_iload_n (pc := 19) dM_status_19 rfl ?_
      refine q_zald (i := t.toNat) (pc := 20) dM_status_20 rfl (by omega) (by omega) rfl ?_
      refine q_if_eq (tgt := 26) (pc := 21) dM_status_21 (by decide) (fun h21 => ?_) (fun h21 => ?_)
      · refine q_aload_n (pc := 26) dM_status_26 rfl ?_
        refine q_iload_n (pc := 27) dM_status_27 rfl ?_
        refine q_aload_n (pc := 28) dM_status_28 rfl ?_
        refine q_getI (f := 0) (pc := 29) dM_status_29 lay_6 (by decide) rfl (by decide) fl_M54 rfl rfl ?_
        rw [hn]
        refine q_callV1 (pc := 32) dM_status_32 ((ct_M_endOf t I hn (by omega) (Nat.le_refl _))) cd_M_endOf in_M_endOf se_M_endOf ml_M137 rfl (by decide) rfl rfl (Nat.le_of_ble_eq_true rfl) ⟨by decide, by decide⟩ ⟨by decide, by decide⟩ rfl ?_
        refine q_istore_n (pc := 35) dM_status_35 (by decide) ?_
        refine q_iload_n (pc := 36) dM_status_36 rfl ?_
        refine q_if_ne (tgt := 44) (pc := 37) dM_status_37 (by decide) (fun h37 => ?_) (fun h37 => ?_)
        · refine q_aload_n (pc := 44) dM_status_44 rfl ?_
          refine q_getR (f := 4) (pc := 45) dM_status_45 lay_6 (by decide) rfl (by decide) fl_M19 rfl rfl ?_
          refine q_iload_n (pc := 48) dM_status_48 rfl ?_
          refine q_iald (i := (qf (mep I t) n 1)) (pc := 49) dM_status_49 rfl rfl (by omega) rfl ?_
          refine q_iconst (pc := 50) dM_status_50 (by decide) ?_
          refine q_icmp_ne (tgt := 58) (pc := 51) dM_status_51 (by decide) (fun h51 => ?_) (fun h51 => ?_)
          · refine q_iload_n (pc := 58) dM_status_58 rfl ?_
            refine q_aload_n (pc := 59) dM_status_59 rfl ?_
            refine q_getI (f := 11) (pc := 60) dM_status_60 lay_6 (by decide) rfl (by decide) fl_M94 rfl rfl ?_
            refine q_icmp_le (tgt := 70) (pc := 63) dM_status_63 (by decide) (fun h63 => ?_) (fun h63 => ?_)
            · refine q_iconst (pc := 70) dM_status_70 (by decide) ?_
              refine q_iret rfl (pc := 71) dM_status_71 ?_
              exact ⟨by rw [if_neg (by omega), if_neg (not_not_intro h21), if_neg (by omega), if_neg h51, if_pos h63], rfl, rfl⟩
            · refine q_iconst (pc := 66) dM_status_66 (by decide) ?_
              refine q_goto (tgt := 71) (pc := 67) dM_status_67 (by decide) ?_
              refine q_iret rfl (pc := 71) dM_status_71 ?_
              exact ⟨by rw [if_neg (by omega), if_neg (not_not_intro h21), if_neg (by omega), if_neg h51, if_neg h63], rfl, rfl⟩
          · refine q_iconst (pc := 54) dM_status_54 (by decide) ?_
            refine q_goto (tgt := 71) (pc := 55) dM_status_55 (by decide) ?_
            refine q_iret rfl (pc := 71) dM_status_71 ?_
            exact ⟨by rw [if_neg (by omega), if_neg (not_not_intro h21), if_neg (by omega), if_pos h51], rfl, rfl⟩
        · refine q_iconst (pc := 40) dM_status_40 (by decide) ?_
          refine q_goto (tgt := 71) (pc := 41) dM_status_41 (by decide) ?_
          refine q_iret rfl (pc := 71) dM_status_71 ?_
          exact ⟨by rw [if_neg (by omega), if_neg (not_not_intro h21), if_pos (by omega)], rfl, rfl⟩
      · refine q_iconst (pc := 24) dM_status_24 (by decide) ?_
        refine q_iret rfl (pc := 25) dM_status_25 ?_
        exact ⟨by rw [if_neg (by omega), if_pos h21], rfl, rfl⟩
    · refine q_iconst (pc := 13) dM_status_13 (by decide) ?_
      refine q_iret rfl (pc := 14) dM_status_14 ?_
      exact ⟨by rw [if_pos (Or.inr (by omega))], rfl, rfl⟩
theorem ct_M_deliver0 {L n T k d : Nat} {l c : Int} (I : qI) (h : mw I n T k d) (h0 : ¬ ((1 ≤ l ∧ l ≤ (n : Int)) ∧ 0 ≤ c ∧ c < 6)) : qT M_M_deliver 4 [.inr (some 44), .inl l, .inl c] L I (rI (-1) L I) := by
  obtain ⟨⟨hn, hn2⟩, -⟩ := h
  refine q_enter (by decide) (Nat.le_of_ble_eq_true rfl) ?_
  refine q_iload_n (pc := 0) dM_deliver_0 rfl ?_
  refine q_iconst (pc := 1) dM_deliver_1 (by decide) ?_
  refine q_icmp_lt (tgt := 22) (pc := 2) dM_deliver_2 (by decide) (fun h2 => ?_) (fun h2 => ?_)
  · refine q_iconst (pc := 22) dM_deliver_22 (by decide) ?_
    refine q_iret rfl (pc := 23) dM_deliver_23 ?_
    exact ⟨rfl, rfl, rfl⟩
  · refine q_iload_n (pc := 5) dM_deliver_5 rfl ?_
    refine q_aload_n (pc := 6) dM_deliver_6 rfl ?_
    refine q_getI (f := 0) (pc := 7) dM_deliver_7 lay_6 (by decide) rfl (by decide) fl_M54 rfl rfl ?_
    refine q_icmp_gt (tgt := 22) (pc := 10) dM_deliver_10 (by decide) (fun h10 => ?_) (fun h10 => ?_)
    · refine q_iconst (pc := 22) dM_deliver_22 (by decide) ?_
      refine q_iret rfl (pc := 23) dM_deliver_23 ?_
      exact ⟨rfl, rfl, rfl⟩
    · refine q_iload_n (pc := 13) dM_deliver_13 rfl ?_
      refine q_if_lt (tgt := 22) (pc := 14) dM_deliver_14 (by decide) (fun h14 => ?_) (fun h14 => ?_)
      · refine q_iconst (pc := 22) dM_deliver_22 (by decide) ?_
        refine q_iret rfl (pc := 23) dM_deliver_23 ?_
        exact ⟨rfl, rfl, rfl⟩
      · refine q_iload_n (pc := 17) dM_deliver_17 rfl ?_
        refine q_iconst (pc := 18) dM_deliver_18 (by decide) ?_
        refine q_icmp_le (tgt := 24) (pc := 19) dM_deliver_19 (by decide) (fun h19 => ?_) (fun h19 => ?_)
        · omega
        · refine q_iconst (pc := 22) dM_deliver_22 (by decide) ?_
          refine q_iret rfl (pc := 23) dM_deliver_23 ?_
          exact ⟨rfl, rfl, rfl⟩
def bDeliver (I : qI) (n x l : Nat) : Int × qI :=
  if I 51 x = 0 then ((if I 50 (200 * x + l) = 0 then 2 else 1), if ¬ I 44 10 = 0 then q_up I 50 (200 * x + l) 1 else mrep (q_up I 50 (200 * x + l) 1) x n) else (0, I)
theorem ct_M_deliver {L n T k d g c l : Nat} (I : qI) (h : mw I n T k d) (h1 : 1 ≤ l) (hl : l ≤ n) (hg : g < 2) (hc : c < 6) (hgl : mg I l = (g : Int)) : qT M_M_deliver 4 [.inr (some 44), .inl ((l : Nat) : Int), .inl ((c : Nat) : Int)] L I (rP (bDeliver I n (6 * g + c) l) L) := by
  obtain ⟨⟨hn, hn2⟩, -⟩ := h
  have hx : 6 * g + c < 12 := by omega
  refine q_enter (by decide) (Nat.le_of_ble_eq_true rfl) ?_
  refine q_iload_n (pc := 0) dM_deliver_0 rfl ?_
  refine q_iconst (pc := 1) dM_deliver_1 (by decide) ?_
  refine q_icmp_lt (tgt := 22) (pc := 2) dM_deliver_2 (by decide) (fun h2 => ?_) (fun h2 => ?_)
  · omega
  · refine q_iload_n (pc := 5) dM_deliver_5 rfl ?_
    refine q_aload_n (pc := 6) dM_deliver_6 rfl ?_
    refine q_getI (f := 0) (pc := 7) dM_deliver_7 lay_6 (by decide) rfl (by decide) fl_M54 rfl rfl ?_
    refine q_icmp_gt (tgt := 22) (pc := 10) dM_deliver_10 (by decide) (fun h10 => ?_) (fun h10 => ?_)
    · omega
    · refine q_iload_n (pc := 13) dM_deliver_13 rfl ?_
      refine q_if_lt (tgt := 22) (pc := 14) dM_deliver_14 (by decide) (fun h14 => ?_) (fun h14 => ?_)
      · omega
      · refine q_iload_n (pc := 17) dM_deliver_17 rfl ?_
        refine q_iconst (pc := 18) dM_deliver_18 (by decide) ?_
        refine q_icmp_le (tgt := 24) (pc := 19) dM_deliver_19 (by decide) (fun h19 => ?_) (fun h19 => ?_)
        · refine q_bipush (pc := 24) dM_deliver_24 (by decide) (by decide) ?_
          refine q_aload_n (pc := 26) dM_deliver_26 rfl ?_
          refine q_iload_n (pc := 27) dM_deliver_27 rfl ?_
          refine q_callV1 (pc := 28) dM_deliver_28 ((ct_M_groupOf (l := l) I (by omega))) cd_M_groupOf in_M_groupOf se_M_groupOf ml_M74 rfl (by decide) rfl rfl (Nat.le_of_ble_eq_true rfl) ⟨by decide, by decide⟩ ⟨by decide, by decide⟩ rfl ?_
          rw [hgl]
          refine q_imul (pc := 31) dM_deliver_31 (show (6 : Int) * (g : Int) = ((6 * g : Nat) : Int) by omega) ⟨by omega, by omega⟩ ?_
          refine q_iload_n (pc := 32) dM_deliver_32 rfl ?_
          refine q_iadd (pc := 33) dM_deliver_33 (show ((6 * g : Nat) : Int) + (c : Int) = ((6 * g + c : Nat) : Int) by omega) ⟨by omega, by omega⟩ ?_
          refine q_istore_n (pc := 34) dM_deliver_34 (by decide) ?_
          refine q_aload_n (pc := 35) dM_deliver_35 rfl ?_
          refine q_getR (f := 7) (pc := 36) dM_deliver_36 lay_6 (by decide) rfl (by decide) fl_M29 rfl rfl ?_
          refine q_iload_n (pc := 39) dM_deliver_39 rfl ?_
          refine q_iald (i := (6 * g + c)) (pc := 40) dM_deliver_40 rfl rfl (by omega) rfl ?_
          refine q_if_eq (tgt := 46) (pc := 41) dM_deliver_41 (by decide) (fun h41 => ?_) (fun h41 => ?_)
          · have e1 : q_up I 50 (200 * (6 * g + c) + l) 1 44 0 = (n : Int) := by rw [q_up_off 44 (by decide)]; exact hn
            have e2 : q_up I 50 (200 * (6 * g + c) + l) 1 44 10 = I 44 10 := by rw [q_up_off 44 (by decide)]
            refine q_aload_n (pc := 46) dM_deliver_46 rfl ?_
            refine q_getR (f := 6) (pc := 47) dM_deliver_47 lay_6 (by decide) rfl (by decide) fl_M26 rfl rfl ?_
            refine q_sipush (pc := 50) dM_deliver_50 (by decide) (by decide) ?_
            refine q_iload_n (pc := 53) dM_deliver_53 rfl ?_
            refine q_imul (pc := 54) dM_deliver_54 (show (200 : Int) * ((6 * g + c : Nat) : Int) = ((200 * (6 * g + c) : Nat) : Int) by omega) ⟨by omega, by omega⟩ ?_
            refine q_iload_n (pc := 55) dM_deliver_55 rfl ?_
            refine q_iadd (pc := 56) dM_deliver_56 (show ((200 * (6 * g + c) : Nat) : Int) + (l : Int) = ((200 * (6 * g + c) + l : Nat) : Int) by omega) ⟨by omega, by omega⟩ ?_
            refine q_zald (i := (200 * (6 * g + c) + l)) (pc := 57) dM_deliver_57 rfl rfl (by omega) rfl ?_
            refine q_istore (pc := 58) dM_deliver_58 (by decide) ?_
            refine q_aload_n (pc := 60) dM_deliver_60 rfl ?_
            refine q_getR (f := 6) (pc := 61) dM_deliver_61 lay_6 (by decide) rfl (by decide) fl_M26 rfl rfl ?_
            refine q_sipush (pc := 64) dM_deliver_64 (by decide) (by decide) ?_
            refine q_iload_n (pc := 67) dM_deliver_67 rfl ?_
            refine q_imul (pc := 68) dM_deliver_68 (show (200 : Int) * ((6 * g + c : Nat) : Int) = ((200 * (6 * g + c) : Nat) : Int) by omega) ⟨by omega, by omega⟩ ?_
            refine q_iload_n (pc := 69) dM_deliver_69 rfl ?_
            refine q_iadd (pc := 70) dM_deliver_70 (show ((200 * (6 * g + c) : Nat) : Int) + (l : Int) = ((200 * (6 * g + c) + l : Nat) : Int) by omega) ⟨by omega, by omega⟩ ?_
            refine q_iconst (pc := 71) dM_deliver_71 (by decide) ?_
            refine q_zast (i := (200 * (6 * g + c) + l)) (pc := 72) dM_deliver_72 rfl rfl (by omega) rfl (by first | exact Or.inl rfl | exact Or.inr rfl) ?_
            refine q_aload_n (pc := 73) dM_deliver_73 rfl ?_
            refine q_getI (f := 10) (pc := 74) dM_deliver_74 lay_6 (by decide) rfl (by decide) fl_M117 rfl rfl ?_
            refine q_if_ne (tgt := 85) (pc := 77) dM_deliver_77 (by decide) (fun h77 => ?_) (fun h77 => ?_)
            · rw [e2] at h77
              refine q_iload (pc := 85) dM_deliver_85 rfl ?_
              refine q_if_eq (tgt := 94) (pc := 87) dM_deliver_87 (by decide) (fun h87 => ?_) (fun h87 => ?_)
              · refine q_iconst (pc := 94) dM_deliver_94 (by decide) ?_
                refine q_iret rfl (pc := 95) dM_deliver_95 ?_
                exact rP_of (by unfold bDeliver; rw [if_pos h41, if_pos h87, if_pos h77])
              · refine q_iconst (pc := 90) dM_deliver_90 (by decide) ?_
                refine q_goto (tgt := 95) (pc := 91) dM_deliver_91 (by decide) ?_
                refine q_iret rfl (pc := 95) dM_deliver_95 ?_
                exact rP_of (by unfold bDeliver; rw [if_pos h41, if_neg h87, if_pos h77])
            · rw [e2] at h77
              refine q_aload_n (pc := 80) dM_deliver_80 rfl ?_
              refine q_iload_n (pc := 81) dM_deliver_81 rfl ?_
              refine q_callV0 (pc := 82) dM_deliver_82 ((ct_M_reportPoint hx _ e1 (by omega))) cd_M_reportPoint in_M_reportPoint se_M_reportPoint ml_M140 rfl (by decide) rfl rfl (Nat.le_of_ble_eq_true rfl) ⟨by decide, by decide⟩ ⟨by decide, by decide⟩ rfl ?_
              refine q_iload (pc := 85) dM_deliver_85 rfl ?_
              refine q_if_eq (tgt := 94) (pc := 87) dM_deliver_87 (by decide) (fun h87 => ?_) (fun h87 => ?_)
              · refine q_iconst (pc := 94) dM_deliver_94 (by decide) ?_
                refine q_iret rfl (pc := 95) dM_deliver_95 ?_
                exact rP_of (by unfold bDeliver; rw [if_pos h41, if_pos h87, if_neg (not_not_intro h77)])
              · refine q_iconst (pc := 90) dM_deliver_90 (by decide) ?_
                refine q_goto (tgt := 95) (pc := 91) dM_deliver_91 (by decide) ?_
                refine q_iret rfl (pc := 95) dM_deliver_95 ?_
                exact rP_of (by unfold bDeliver; rw [if_pos h41, if_neg h87, if_neg (not_not_intro h77)])
          · refine q_iconst (pc := 44) dM_deliver_44 (by decide) ?_
            refine q_iret rfl (pc := 45) dM_deliver_45 ?_
            exact rP_of (by unfold bDeliver; rw [if_neg h41])
        · omega
