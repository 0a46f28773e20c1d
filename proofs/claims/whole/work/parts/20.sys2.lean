/-! The system's own methods, second half. -/
/-- what the system's cells are like -/
def cw (I : qI) (n T k d : Nat) : Prop :=
  (I 2 6 = (n : Int) ∧ n ≤ 187) ∧ (I 9 2 = (T : Int) ∧ T ≤ 60) ∧ (I 41 1 = (k : Int) ∧ k ≤ 4) ∧ (I 1 6 = (d : Int) ∧ d ≤ n) ∧
  (∀ l, 1 ≤ l → l ≤ n → ∃ g : Nat, g < 2 ∧ I 7 l = (g : Int)) ∧ (∀ l, 1 ≤ l → l ≤ n → 0 ≤ I 4 l ∧ I 4 l ≤ 60) ∧ (0 ≤ I 9 3 ∧ I 9 3 ≤ 4) ∧
  (∀ t, 1 ≤ t → t ≤ 60 → ∃ e : Nat, e ≤ n ∧ I 8 t = (e : Int)) ∧ (∀ x, x < 12 → ∃ f : Nat, f ≤ 187 ∧ I (cp x) 3 = (f : Int)) ∧ (∀ r, r < 2 → ∃ v : Nat, v ≤ d ∧ I 43 r = (v : Int)) ∧
  (∀ l, 1 ≤ l → l ≤ n → 0 ≤ I 6 l ∧ I 6 l ≤ 9999)
def aBegin (I : qI) (n T : Nat) : Int × qI := if I 1 5 = 0 then (-2, I) else if (4 ≤ I 9 3 ∨ 60 ≤ (T : Int)) ∨ 150 ≤ (n : Int) then (-5, I) else (((T + 1 : Nat) : Int), tst I T)
theorem ct_Q_begin {L n T k d : Nat} (I : qI) (h : cw I n T k d) : qT M_Q_begin 1 [.inr (some 1)] L I (rP (aBegin I n T) L) := by
  obtain ⟨⟨hn, hn2⟩, ⟨hT, hT2⟩, -, -, -, -, hA, -⟩ := h
  refine q_enter (by decide) (Nat.le_of_ble_eq_true rfl) ?_
  refine q_aload_n (pc := 0) dQ_begin_0 rfl ?_
  refine q_getI (f := 5) (pc := 1) dQ_begin_1 lay_0 (by decide) rfl (by decide) fl_Q43 rfl rfl ?_
  refine q_if_ne (tgt := 10) (pc := 4) dQ_begin_4 (by decide) (fun h4 => ?_) (fun h4 => ?_)
  · refine q_aload_n (pc := 10) dQ_begin_10 rfl ?_
    refine q_getR (f := 1) (pc := 11) dQ_begin_11 lay_0 (by decide) rfl (by decide) fl_Q19 rfl rfl ?_
    refine q_callV1 (pc := 14) dQ_begin_14 ((ct_T_isFull I)) cd_T_isFull in_T_isFull se_T_isFull ml_Q51 rfl (by decide) rfl rfl (Nat.le_of_ble_eq_true rfl) ⟨by decide, by decide⟩ ⟨by decide, by decide⟩ rfl ?_
    refine q_if_ne (tgt := 33) (pc := 17) dQ_begin_17 (by decide) (fun h17 => ?_) (fun h17 => ?_)
    · refine q_bipush (pc := 33) dQ_begin_33 (by decide) (by decide) ?_
      refine q_iret rfl (pc := 35) dQ_begin_35 ?_
      refine rP_of ?_
      have := of_decide_eq_true (bi_ne h17)
      unfold aBegin
      rw [if_neg h4, if_pos (Or.inl (by omega))]
    · have h9 := of_decide_eq_false (bi_eq h17)
      refine q_aload_n (pc := 20) dQ_begin_20 rfl ?_
      refine q_getR (f := 0) (pc := 21) dQ_begin_21 lay_0 (by decide) rfl (by decide) fl_Q10 rfl rfl ?_
      refine q_getI (f := 6) (pc := 24) dQ_begin_24 lay_1 (by decide) rfl (by decide) fl_Q55 rfl rfl ?_
      refine q_sipush (pc := 27) dQ_begin_27 (by decide) (by decide) ?_
      refine q_icmp_lt (tgt := 36) (pc := 30) dQ_begin_30 (by decide) (fun h30 => ?_) (fun h30 => ?_)
      · refine q_aload_n (pc := 36) dQ_begin_36 rfl ?_
        refine q_getR (f := 1) (pc := 37) dQ_begin_37 lay_0 (by decide) rfl (by decide) fl_Q19 rfl rfl ?_
        refine q_callV1 (pc := 40) dQ_begin_40 ((ct_T_start I hT (by omega) ⟨by omega, by omega⟩)) cd_T_start in_T_start se_T_start ml_Q58 rfl (by decide) rfl rfl (Nat.le_of_ble_eq_true rfl) ⟨by decide, by decide⟩ ⟨by decide, by decide⟩ rfl ?_
        refine q_iret rfl (pc := 43) dQ_begin_43 ?_
        refine rP_of ?_
        unfold aBegin
        rw [if_neg h4, if_neg (by omega)]
      · refine q_bipush (pc := 33) dQ_begin_33 (by decide) (by decide) ?_
        refine q_iret rfl (pc := 35) dQ_begin_35 ?_
        refine rP_of ?_
        unfold aBegin
        rw [if_neg h4, if_pos (Or.inr (by omega))]
  · refine q_bipush (pc := 7) dQ_begin_7 (by decide) (by decide) ?_
    refine q_iret rfl (pc := 9) dQ_begin_9 ?_
    exact rP_of (by unfold aBegin; rw [if_pos h4])
theorem ct_Q_cached {L n T k d : Nat} (p : Int) (I : qI) (h : cw I n T k d) : qT M_Q_cached 1 [.inr (some 1), .inl p] L I (rI (hrk I p k 0 : Nat) L I) := by
  obtain ⟨-, -, ⟨hk, hk2⟩, -⟩ := h
  refine q_enter (by decide) (Nat.le_of_ble_eq_true rfl) ?_
  refine q_aload_n (pc := 0) dQ_cached_0 rfl ?_
  refine q_getR (f := 3) (pc := 1) dQ_cached_1 lay_0 (by decide) rfl (by decide) fl_Q35 rfl rfl ?_
  refine q_iload_n (pc := 4) dQ_cached_4 rfl ?_
  refine q_callV1 (pc := 5) dQ_cached_5 ((ct_H_rankOf p I hk hk2)) cd_H_rankOf in_H_rankOf se_H_rankOf ml_Q233 rfl (by decide) rfl rfl (Nat.le_of_ble_eq_true rfl) ⟨by decide, by decide⟩ ⟨by decide, by decide⟩ rfl ?_
  refine q_iret rfl (pc := 8) dQ_cached_8 ?_
  exact ⟨rfl, rfl, rfl⟩
theorem happ_off {I : qI} {k a : Nat} {p : Int} (h1 : a ≠ 42) (h2 : a ≠ 41) : happ I k p a = I a := by
  unfold happ
  split
  · rw [q_up_off a h2, q_up_off a h1]
  · rfl
theorem qtch_off {I : qI} {n k d p a : Nat} {o : Int} (h1 : a ≠ 42) (h2 : a ≠ 41) : (qtch I n k d p o).2 a = I a := by
  unfold qtch
  split
  · exact (happ_off h1 h2).trans (hrem_off h1 h2)
  split
  · rfl
  split
  · rfl
  split
  · exact (happ_off h1 h2).trans (hrem_off h1 h2)
  · exact happ_off h1 h2
theorem happ_k {I : qI} {k : Nat} {p : Int} (hk : I 41 1 = (k : Int)) (hk2 : k ≤ 4) : ∃ m : Nat, m ≤ 4 ∧ happ I k p 41 1 = (m : Int) := by
  unfold happ
  split
  · exact ⟨k + 1, by omega, by simp [q_up]⟩
  · exact ⟨k, hk2, hk⟩
theorem qtch_k {I : qI} {n k d p : Nat} {o : Int} (hk : I 41 1 = (k : Int)) (hk2 : k ≤ 4) : ∃ m : Nat, m ≤ 4 ∧ (qtch I n k d p o).2 41 1 = (m : Int) := by
  have hle := fun q : Int => hrm_le q k 0 0 I
  unfold qtch
  split
  · exact happ_k hrem_k (by have := hle p; omega)
  split
  · exact ⟨k, hk2, hk⟩
  split
  · exact ⟨k, hk2, hk⟩
  split
  · exact happ_k hrem_k (by have := hle (pmg I n o k 0); omega)
  · exact happ_k hk hk2
/-- a key that there is -/
theorem key_nat {k : Int} (h : 0 ≤ k ∧ k < 32) : ∃ a : Nat, a < 32 ∧ k = (a : Int) := ⟨k.toNat, by omega, by omega⟩
theorem ct_Q_read0 {L : Nat} (t : Int) {key : Int} (I : qI) (hk : ¬ (0 ≤ key ∧ key < 32)) : qT M_Q_read 5 [.inr (some 1), .inl t, .inl key] L I (rI (-1) L I) := by
  refine q_enter (by decide) (Nat.le_of_ble_eq_true rfl) ?_
  refine q_iload_n (pc := 0) dQ_read_0 rfl ?_
  refine q_callS1 (pc := 1) dQ_read_1 ((ct_Q_isKey key I)) cd_Q_isKey st_Q_isKey ml_Q62 rfl (Nat.le_of_ble_eq_true rfl) ⟨by decide, by decide⟩ ⟨by decide, by decide⟩ rfl ?_
  refine q_if_ne (tgt := 9) (pc := 4) dQ_read_4 (by decide) (fun h4 => ?_) (fun h4 => ?_)
  · exact absurd (of_decide_eq_true (bi_ne h4)) hk
  · refine q_iconst (pc := 7) dQ_read_7 (by decide) ?_
    refine q_iret rfl (pc := 8) dQ_read_8 ?_
    exact ⟨rfl, rfl, rfl⟩
def aRead (I : qI) (n k d : Nat) (t : Int) (a : Nat) : Int × qI :=
  if qrk I t a a = 0 then (if (qtch I n k d (a / 4) (-1)).1 = 0 then (lval (q_up (qtch I n k d (a / 4) (-1)).2 11 a t) a n, q_up (qtch I n k d (a / 4) (-1)).2 11 a t) else qtch I n k d (a / 4) (-1)) else (qrk I t a a, I)
theorem ct_Q_read {L n T k d a : Nat} (t : Int) (I : qI) (h : cw I n T k d) (ha : a < 32) : qT M_Q_read 5 [.inr (some 1), .inl t, .inl ((a : Nat) : Int)] L I (rP (aRead I n k d t a) L) := by
  obtain ⟨⟨hn, hn2⟩, ⟨hT, hT2⟩, ⟨hk, hk2⟩, ⟨hd, hd2⟩, -⟩ := h
  refine q_enter (by decide) (Nat.le_of_ble_eq_true rfl) ?_
  refine q_iload_n (pc := 0) dQ_read_0 rfl ?_
  refine q_callS1 (pc := 1) dQ_read_1 ((ct_Q_isKey a I)) cd_Q_isKey st_Q_isKey ml_Q62 rfl (Nat.le_of_ble_eq_true rfl) ⟨by decide, by decide⟩ ⟨by decide, by decide⟩ rfl ?_
  refine q_if_ne (tgt := 9) (pc := 4) dQ_read_4 (by decide) (fun h4 => ?_) (fun h4 => ?_)
  · refine q_aload_n (pc := 9) dQ_read_9 rfl ?_
    refine q_iload_n (pc := 10) dQ_read_10 rfl ?_
    refine q_iload_n (pc := 11) dQ_read_11 rfl ?_
    refine q_iload_n (pc := 12) dQ_read_12 rfl ?_
    refine q_callV1 (pc := 13) dQ_read_13 ((ct_Q_refusalOfKeys t I hT hT2 ha ha)) cd_Q_refusalOfKeys in_Q_refusalOfKeys se_Q_refusalOfKeys ml_Q66 rfl (by decide) rfl rfl (Nat.le_of_ble_eq_true rfl) ⟨by decide, by decide⟩ ⟨by decide, by decide⟩ rfl ?_
    refine q_istore_n (pc := 16) dQ_read_16 (by decide) ?_
    refine q_iload_n (pc := 17) dQ_read_17 rfl ?_
    refine q_if_ne (tgt := 31) (pc := 18) dQ_read_18 (by decide) (fun h18 => ?_) (fun h18 => ?_)
    · refine q_iload_n (pc := 31) dQ_read_31 rfl ?_
      refine q_if_eq (tgt := 37) (pc := 32) dQ_read_32 (by decide) (fun h32 => ?_) (fun h32 => ?_)
      · exact absurd h32 h18
      · refine q_iload_n (pc := 35) dQ_read_35 rfl ?_
        refine q_iret rfl (pc := 36) dQ_read_36 ?_
        exact rP_of (by unfold aRead; rw [if_neg h18])
    · refine q_aload_n (pc := 21) dQ_read_21 rfl ?_
      refine q_iload_n (pc := 22) dQ_read_22 rfl ?_
      refine q_callS1 (pc := 23) dQ_read_23 ((ct_Q_pageOf a I)) cd_Q_pageOf st_Q_pageOf ml_Q70 rfl (Nat.le_of_ble_eq_true rfl) ⟨by decide, by decide⟩ ⟨by decide, by decide⟩ rfl ?_
      rw [td4]
      refine q_iconst (pc := 26) dQ_read_26 (by decide) ?_
      refine q_callV1 (pc := 27) dQ_read_27 ((ct_Q_touch (-1) I hn hn2 hk hk2 hd (by omega))) cd_Q_touch in_Q_touch se_Q_touch ml_Q74 rfl (by decide) rfl rfl (Nat.le_of_ble_eq_true rfl) ⟨by decide, by decide⟩ ⟨by decide, by decide⟩ rfl ?_
      refine q_istore_n (pc := 30) dQ_read_30 (by decide) ?_
      refine q_iload_n (pc := 31) dQ_read_31 rfl ?_
      refine q_if_eq (tgt := 37) (pc := 32) dQ_read_32 (by decide) (fun h32 => ?_) (fun h32 => ?_)
      · have e : q_up (qtch I n k d (a / 4) (-1)).2 11 a t 2 6 = (n : Int) := by rw [q_up_off 2 (by decide), qtch_off (by decide) (by decide)]; exact hn
        refine q_aload_n (pc := 37) dQ_read_37 rfl ?_
        refine q_getR (f := 1) (pc := 38) dQ_read_38 lay_0 (by decide) rfl (by decide) fl_Q19 rfl rfl ?_
        refine q_iload_n (pc := 41) dQ_read_41 rfl ?_
        refine q_iload_n (pc := 42) dQ_read_42 rfl ?_
        refine q_callV0 (pc := 43) dQ_read_43 ((ct_T_hold t _ ha)) cd_T_hold in_T_hold se_T_hold ml_Q78 rfl (by decide) rfl rfl (Nat.le_of_ble_eq_true rfl) ⟨by decide, by decide⟩ ⟨by decide, by decide⟩ rfl ?_
        refine q_aload_n (pc := 46) dQ_read_46 rfl ?_
        refine q_getR (f := 0) (pc := 47) dQ_read_47 lay_0 (by decide) rfl (by decide) fl_Q10 rfl rfl ?_
        refine q_iload_n (pc := 50) dQ_read_50 rfl ?_
        refine q_aload_n (pc := 51) dQ_read_51 rfl ?_
        refine q_getR (f := 0) (pc := 52) dQ_read_52 lay_0 (by decide) rfl (by decide) fl_Q10 rfl rfl ?_
        refine q_getI (f := 6) (pc := 55) dQ_read_55 lay_1 (by decide) rfl (by decide) fl_Q55 rfl rfl ?_
        rw [e]
        refine q_callV1 (pc := 58) dQ_read_58 ((ct_L_valueUpTo a _ hn2)) cd_L_valueUpTo in_L_valueUpTo se_L_valueUpTo ml_Q82 rfl (by decide) rfl rfl (Nat.le_of_ble_eq_true rfl) ⟨by decide, by decide⟩ ⟨by decide, by decide⟩ rfl ?_
        refine q_iret rfl (pc := 61) dQ_read_61 ?_
        exact rP_of (by unfold aRead; rw [if_pos h18, if_pos h32])
      · refine q_iload_n (pc := 35) dQ_read_35 rfl ?_
        refine q_iret rfl (pc := 36) dQ_read_36 ?_
        exact rP_of (by unfold aRead; rw [if_pos h18, if_neg h32])
  · have := of_decide_eq_false (bi_eq h4)
    omega
theorem ct_Q_write0 {L : Nat} (t : Int) {key v : Int} (I : qI) (hk : ¬ ((0 ≤ key ∧ key < 32) ∧ 0 ≤ v ∧ v ≤ 9999)) : qT M_Q_write 5 [.inr (some 1), .inl t, .inl key, .inl v] L I (rI (-1) L I) := by
  refine q_enter (by decide) (Nat.le_of_ble_eq_true rfl) ?_
  refine q_iload_n (pc := 0) dQ_write_0 rfl ?_
  refine q_callS1 (pc := 1) dQ_write_1 ((ct_Q_isKey key I)) cd_Q_isKey st_Q_isKey ml_Q62 rfl (Nat.le_of_ble_eq_true rfl) ⟨by decide, by decide⟩ ⟨by decide, by decide⟩ rfl ?_
  refine q_if_eq (tgt := 18) (pc := 4) dQ_write_4 (by decide) (fun h4 => ?_) (fun h4 => ?_)
  · refine q_iconst (pc := 18) dQ_write_18 (by decide) ?_
    refine q_iret rfl (pc := 19) dQ_write_19 ?_
    exact ⟨rfl, rfl, rfl⟩
  · have h9 := of_decide_eq_true (bi_ne h4)
    refine q_iload_n (pc := 7) dQ_write_7 rfl ?_
    refine q_if_lt (tgt := 18) (pc := 8) dQ_write_8 (by decide) (fun h8 => ?_) (fun h8 => ?_)
    · refine q_iconst (pc := 18) dQ_write_18 (by decide) ?_
      refine q_iret rfl (pc := 19) dQ_write_19 ?_
      exact ⟨rfl, rfl, rfl⟩
    · refine q_iload_n (pc := 11) dQ_write_11 rfl ?_
      refine q_sipush (pc := 12) dQ_write_12 (by decide) (by decide) ?_
      refine q_icmp_le (tgt := 20) (pc := 15) dQ_write_15 (by decide) (fun h15 => ?_) (fun h15 => ?_)
      · omega
      · refine q_iconst (pc := 18) dQ_write_18 (by decide) ?_
        refine q_iret rfl (pc := 19) dQ_write_19 ?_
        exact ⟨rfl, rfl, rfl⟩
def aWrite (I : qI) (n k d : Nat) (t : Int) (a : Nat) (v : Int) : Int × qI :=
  if qrc I t a a = 0 then (if (qtch I n k d (a / 4) (-1)).1 = 0 then (((n + 1 : Nat) : Int), ladd (q_up (qtch I n k d (a / 4) (-1)).2 11 a t) n 1 t a v ((a / 4 % 2 : Nat) : Int)) else qtch I n k d (a / 4) (-1)) else (qrc I t a a, I)
theorem qrc_n {I : qI} {n a b : Nat} {t : Int} (hn : I 2 6 = (n : Int)) (h : qrc I t a b = 0) : n < 150 := by
  unfold qrc at h
  split at h
  · split at h
    · omega
    · omega
  · next h9 => exact absurd h h9
theorem ct_Q_write {L n T k d a : Nat} (t v : Int) (I : qI) (h : cw I n T k d) (ha : a < 32) (hv : 0 ≤ v ∧ v ≤ 9999) : qT M_Q_write 5 [.inr (some 1), .inl t, .inl ((a : Nat) : Int), .inl v] L I (rP (aWrite I n k d t a v) L) := by
  obtain ⟨⟨hn, hn2⟩, ⟨hT, hT2⟩, ⟨hk, hk2⟩, ⟨hd, hd2⟩, -⟩ := h
  refine q_enter (by decide) (Nat.le_of_ble_eq_true rfl) ?_
  refine q_iload_n (pc := 0) dQ_write_0 rfl ?_
  refine q_callS1 (pc := 1) dQ_write_1 ((ct_Q_isKey a I)) cd_Q_isKey st_Q_isKey ml_Q62 rfl (Nat.le_of_ble_eq_true rfl) ⟨by decide, by decide⟩ ⟨by decide, by decide⟩ rfl ?_
  refine q_if_eq (tgt := 18) (pc := 4) dQ_write_4 (by decide) (fun h4 => ?_) (fun h4 => ?_)
  · have := of_decide_eq_false (bi_eq h4)
    omega
  · refine q_iload_n (pc := 7) dQ_write_7 rfl ?_
    refine q_if_lt (tgt := 18) (pc := 8) dQ_write_8 (by decide) (fun h8 => ?_) (fun h8 => ?_)
    · omega
    · refine q_iload_n (pc := 11) dQ_write_11 rfl ?_
      refine q_sipush (pc := 12) dQ_write_12 (by decide) (by decide) ?_
      refine q_icmp_le (tgt := 20) (pc := 15) dQ_write_15 (by decide) (fun h15 => ?_) (fun h15 => ?_)
      · refine q_aload_n (pc := 20) dQ_write_20 rfl ?_
        refine q_iload_n (pc := 21) dQ_write_21 rfl ?_
        refine q_iload_n (pc := 22) dQ_write_22 rfl ?_
        refine q_iload_n (pc := 23) dQ_write_23 rfl ?_
        refine q_callV1 (pc := 24) dQ_write_24 ((ct_Q_refusalOfChanges t I hT hT2 ha ha)) cd_Q_refusalOfChanges in_Q_refusalOfChanges se_Q_refusalOfChanges ml_Q85 rfl (by decide) rfl rfl (Nat.le_of_ble_eq_true rfl) ⟨by decide, by decide⟩ ⟨by decide, by decide⟩ rfl ?_
        refine q_istore (pc := 27) dQ_write_27 (by decide) ?_
        refine q_iload (pc := 29) dQ_write_29 rfl ?_
        refine q_if_ne (tgt := 45) (pc := 31) dQ_write_31 (by decide) (fun h31 => ?_) (fun h31 => ?_)
        · refine q_iload (pc := 45) dQ_write_45 rfl ?_
          refine q_if_eq (tgt := 53) (pc := 47) dQ_write_47 (by decide) (fun h47 => ?_) (fun h47 => ?_)
          · exact absurd h47 h31
          · refine q_iload (pc := 50) dQ_write_50 rfl ?_
            refine q_iret rfl (pc := 52) dQ_write_52 ?_
            exact rP_of (by unfold aWrite; rw [if_neg h31])
        · have hn9 := qrc_n hn h31
          refine q_aload_n (pc := 34) dQ_write_34 rfl ?_
          refine q_iload_n (pc := 35) dQ_write_35 rfl ?_
          refine q_callS1 (pc := 36) dQ_write_36 ((ct_Q_pageOf a I)) cd_Q_pageOf st_Q_pageOf ml_Q70 rfl (Nat.le_of_ble_eq_true rfl) ⟨by decide, by decide⟩ ⟨by decide, by decide⟩ rfl ?_
          rw [td4]
          refine q_iconst (pc := 39) dQ_write_39 (by decide) ?_
          refine q_callV1 (pc := 40) dQ_write_40 ((ct_Q_touch (-1) I hn hn2 hk hk2 hd (by omega))) cd_Q_touch in_Q_touch se_Q_touch ml_Q74 rfl (by decide) rfl rfl (Nat.le_of_ble_eq_true rfl) ⟨by decide, by decide⟩ ⟨by decide, by decide⟩ rfl ?_
          refine q_istore (pc := 43) dQ_write_43 (by decide) ?_
          refine q_iload (pc := 45) dQ_write_45 rfl ?_
          refine q_if_eq (tgt := 53) (pc := 47) dQ_write_47 (by decide) (fun h47 => ?_) (fun h47 => ?_)
          · have e : q_up (qtch I n k d (a / 4) (-1)).2 11 a t 2 6 = (n : Int) := by rw [q_up_off 2 (by decide), qtch_off (by decide) (by decide)]; exact hn
            refine q_aload_n (pc := 53) dQ_write_53 rfl ?_
            refine q_getR (f := 1) (pc := 54) dQ_write_54 lay_0 (by decide) rfl (by decide) fl_Q19 rfl rfl ?_
            refine q_iload_n (pc := 57) dQ_write_57 rfl ?_
            refine q_iload_n (pc := 58) dQ_write_58 rfl ?_
            refine q_callV0 (pc := 59) dQ_write_59 ((ct_T_hold t _ ha)) cd_T_hold in_T_hold se_T_hold ml_Q78 rfl (by decide) rfl rfl (Nat.le_of_ble_eq_true rfl) ⟨by decide, by decide⟩ ⟨by decide, by decide⟩ rfl ?_
            refine q_aload_n (pc := 62) dQ_write_62 rfl ?_
            refine q_getR (f := 0) (pc := 63) dQ_write_63 lay_0 (by decide) rfl (by decide) fl_Q10 rfl rfl ?_
            refine q_iload_n (pc := 66) dQ_write_66 rfl ?_
            refine q_iload_n (pc := 67) dQ_write_67 rfl ?_
            refine q_iload_n (pc := 68) dQ_write_68 rfl ?_
            refine q_iconst (pc := 69) dQ_write_69 (by decide) ?_
            refine q_callV1 (pc := 70) dQ_write_70 ((ct_L_addChange t a v 1 _ e (by omega))) cd_L_addChange in_L_addChange se_L_addChange ml_Q88 rfl (by decide) rfl rfl (Nat.le_of_ble_eq_true rfl) ⟨by decide, by decide⟩ ⟨by decide, by decide⟩ rfl ?_
            refine q_iret rfl (pc := 73) dQ_write_73 ?_
            exact rP_of (by unfold aWrite; rw [if_pos h31, if_pos h47, td4, tm2]; rfl)
          · refine q_iload (pc := 50) dQ_write_50 rfl ?_
            refine q_iret rfl (pc := 52) dQ_write_52 ?_
            exact rP_of (by unfold aWrite; rw [if_pos h31, if_neg h47])
      · omega
theorem ct_Q_status {L n T k d : Nat} (t : Int) (I : qI) (h : cw I n T k d) : qT M_Q_status 1 [.inr (some 1), .inl t] L I (rI (if t < 1 ∨ (T : Int) < t then 0 else if tac I t = true then 1 else if I 8 t.toNat = 0 then 5 else if ¬ I 3 (I 8 t.toNat).toNat = 2 then 4 else if I 8 t.toNat ≤ I 1 6 then 3 else 2) L I) := by
  obtain ⟨⟨hn, hn2⟩, ⟨hT, hT2⟩, -, -, -, -, -, he, -⟩ := h
  refine q_enter (by decide) (Nat.le_of_ble_eq_true rfl) ?_
  refine q_iload_n (pc := 0) dQ_status_0 rfl ?_
  refine q_iconst (pc := 1) dQ_status_1 (by decide) ?_
  refine q_icmp_lt (tgt := 16) (pc := 2) dQ_status_2 (by decide) (fun h2 => ?_) (fun h2 => ?_)
  · refine q_iconst (pc := 16) dQ_status_16 (by decide) ?_
    refine q_iret rfl (pc := 17) dQ_status_17 ?_
    exact ⟨by rw [if_pos (Or.inl h2)], rfl, rfl⟩
  · refine q_iload_n (pc := 5) dQ_status_5 rfl ?_
    refine q_aload_n (pc := 6) dQ_status_6 rfl ?_
    refine q_getR (f := 1) (pc := 7) dQ_status_7 lay_0 (by decide) rfl (by decide) fl_Q19 rfl rfl ?_
    refine q_getI (f := 2) (pc := 10) dQ_status_10 lay_2 (by decide) rfl (by decide) fl_Q105 rfl rfl ?_
    refine q_icmp_le (tgt := 18) (pc := 13) dQ_status_13 (by decide) (fun h13 => ?_) (fun h13 => ?_)
    · refine q_aload_n (pc := 18) dQ_status_18 rfl ?_
      refine q_getR (f := 1) (pc := 19) dQ_status_19 lay_0 (by decide) rfl (by decide) fl_Q19 rfl rfl ?_
      refine q_iload_n (pc := 22) dQ_status_22 rfl ?_
      refine q_callV1 (pc := 23) dQ_status_23 ((ct_T_isActive t I hT hT2)) cd_T_isActive in_T_isActive se_T_isActive ml_Q108 rfl (by decide) rfl rfl (Nat.le_of_ble_eq_true rfl) ⟨by decide, by decide⟩ ⟨by decide, by decide⟩ rfl ?_
      refine q_if_eq (tgt := 31) (pc := 26) dQ_status_26 (by decide) (fun h26 => ?_) (fun h26 => ?_)
      · obtain ⟨e, he1, he2⟩ := he t.toNat (by omega) (by omega)
        refine q_aload_n (pc := 31) dQ_status_31 rfl ?_
        refine q_getR (f := 0) (pc := 32) dQ_status_32 lay_0 (by decide) rfl (by decide) fl_Q10 rfl rfl ?_
        refine q_getR (f := 5) (pc := 35) dQ_status_35 lay_1 (by decide) rfl (by decide) fl_Q111 rfl rfl ?_
        refine q_iload_n (pc := 38) dQ_status_38 rfl ?_
        refine q_iald (i := t.toNat) (pc := 39) dQ_status_39 rfl (by omega) (by omega) rfl ?_
        rw [he2]
        refine q_istore_n (pc := 40) dQ_status_40 (by decide) ?_
        refine q_iload_n (pc := 41) dQ_status_41 rfl ?_
        refine q_if_ne (tgt := 47) (pc := 42) dQ_status_42 (by decide) (fun h42 => ?_) (fun h42 => ?_)
        · refine q_aload_n (pc := 47) dQ_status_47 rfl ?_
          refine q_getR (f := 0) (pc := 48) dQ_status_48 lay_0 (by decide) rfl (by decide) fl_Q10 rfl rfl ?_
          refine q_iload_n (pc := 51) dQ_status_51 rfl ?_
          refine q_callV1 (pc := 52) dQ_status_52 ((ct_L_commits (l := e) I (by omega))) cd_L_commits in_L_commits se_L_commits ml_Q114 rfl (by decide) rfl rfl (Nat.le_of_ble_eq_true rfl) ⟨by decide, by decide⟩ ⟨by decide, by decide⟩ rfl ?_
          refine q_if_ne (tgt := 60) (pc := 55) dQ_status_55 (by decide) (fun h55 => ?_) (fun h55 => ?_)
          · refine q_iload_n (pc := 60) dQ_status_60 rfl ?_
            refine q_aload_n (pc := 61) dQ_status_61 rfl ?_
            refine q_getI (f := 6) (pc := 62) dQ_status_62 lay_0 (by decide) rfl (by decide) fl_Q47 rfl rfl ?_
            refine q_icmp_le (tgt := 72) (pc := 65) dQ_status_65 (by decide) (fun h65 => ?_) (fun h65 => ?_)
            · refine q_iconst (pc := 72) dQ_status_72 (by decide) ?_
              refine q_iret rfl (pc := 73) dQ_status_73 ?_
              exact ⟨by rw [if_neg (by omega), if_neg (by rw [bi_eq h26]; decide), if_neg h42, if_neg (by have := of_decide_eq_true (bi_ne h55); simpa using this), if_pos h65], rfl, rfl⟩
            · refine q_iconst (pc := 68) dQ_status_68 (by decide) ?_
              refine q_goto (tgt := 73) (pc := 69) dQ_status_69 (by decide) ?_
              refine q_iret rfl (pc := 73) dQ_status_73 ?_
              exact ⟨by rw [if_neg (by omega), if_neg (by rw [bi_eq h26]; decide), if_neg h42, if_neg (by have := of_decide_eq_true (bi_ne h55); simpa using this), if_neg h65], rfl, rfl⟩
          · refine q_iconst (pc := 58) dQ_status_58 (by decide) ?_
            refine q_iret rfl (pc := 59) dQ_status_59 ?_
            exact ⟨by rw [if_neg (by omega), if_neg (by rw [bi_eq h26]; decide), if_neg h42, if_pos (by have := of_decide_eq_false (bi_eq h55); simpa using this)], rfl, rfl⟩
        · refine q_iconst (pc := 45) dQ_status_45 (by decide) ?_
          refine q_iret rfl (pc := 46) dQ_status_46 ?_
          exact ⟨by rw [if_neg (by omega), if_neg (by rw [bi_eq h26]; decide), if_pos h42], rfl, rfl⟩
      · refine q_iconst (pc := 29) dQ_status_29 (by decide) ?_
        refine q_iret rfl (pc := 30) dQ_status_30 ?_
        exact ⟨by rw [if_neg (by omega), if_pos (bi_ne h26)], rfl, rfl⟩
    · refine q_iconst (pc := 16) dQ_status_16 (by decide) ?_
      refine q_iret rfl (pc := 17) dQ_status_17 ?_
      exact ⟨by rw [if_pos (Or.inr (by omega))], rfl, rfl⟩
theorem ct_Q_follow0 {L : Nat} {r : Int} (I : qI) (hr : ¬ (0 ≤ r ∧ r < 2)) : qT M_Q_follow 1 [.inr (some 1), .inl r] L I (rI (-1) L I) := by
  refine q_enter (by decide) (Nat.le_of_ble_eq_true rfl) ?_
  refine q_iload_n (pc := 0) dQ_follow_0 rfl ?_
  refine q_callS1 (pc := 1) dQ_follow_1 ((ct_Q_isReplica r I)) cd_Q_isReplica st_Q_isReplica ml_Q209 rfl (Nat.le_of_ble_eq_true rfl) ⟨by decide, by decide⟩ ⟨by decide, by decide⟩ rfl ?_
  refine q_if_ne (tgt := 9) (pc := 4) dQ_follow_4 (by decide) (fun h4 => ?_) (fun h4 => ?_)
  · exact absurd (of_decide_eq_true (bi_ne h4)) hr
  · refine q_iconst (pc := 7) dQ_follow_7 (by decide) ?_
    refine q_iret rfl (pc := 8) dQ_follow_8 ?_
    exact ⟨rfl, rfl, rfl⟩
theorem ct_Q_follow {L r : Nat} (I : qI) (hr : r < 2) : qT M_Q_follow 1 [.inr (some 1), .inl ((r : Nat) : Int)] L I (rP (if I 1 5 = 0 then (-2, I) else (I 1 6, q_up I 43 r (I 1 6))) L) := by
  refine q_enter (by decide) (Nat.le_of_ble_eq_true rfl) ?_
  refine q_iload_n (pc := 0) dQ_follow_0 rfl ?_
  refine q_callS1 (pc := 1) dQ_follow_1 ((ct_Q_isReplica r I)) cd_Q_isReplica st_Q_isReplica ml_Q209 rfl (Nat.le_of_ble_eq_true rfl) ⟨by decide, by decide⟩ ⟨by decide, by decide⟩ rfl ?_
  refine q_if_ne (tgt := 9) (pc := 4) dQ_follow_4 (by decide) (fun h4 => ?_) (fun h4 => ?_)
  · refine q_aload_n (pc := 9) dQ_follow_9 rfl ?_
    refine q_getI (f := 5) (pc := 10) dQ_follow_10 lay_0 (by decide) rfl (by decide) fl_Q43 rfl rfl ?_
    refine q_if_ne (tgt := 19) (pc := 13) dQ_follow_13 (by decide) (fun h13 => ?_) (fun h13 => ?_)
    · refine q_aload_n (pc := 19) dQ_follow_19 rfl ?_
      refine q_getR (f := 4) (pc := 20) dQ_follow_20 lay_0 (by decide) rfl (by decide) fl_Q39 rfl rfl ?_
      refine q_iload_n (pc := 23) dQ_follow_23 rfl ?_
      refine q_aload_n (pc := 24) dQ_follow_24 rfl ?_
      refine q_getI (f := 6) (pc := 25) dQ_follow_25 lay_0 (by decide) rfl (by decide) fl_Q47 rfl rfl ?_
      refine q_iast (i := r) (pc := 28) dQ_follow_28 rfl rfl (by omega) rfl ?_
      refine q_aload_n (pc := 29) dQ_follow_29 rfl ?_
      refine q_getI (f := 6) (pc := 30) dQ_follow_30 lay_0 (by decide) rfl (by decide) fl_Q47 rfl rfl ?_
      refine q_iret rfl (pc := 33) dQ_follow_33 ?_
      refine rP_of ?_
      rw [if_neg h13, q_up_off 1 (by decide)]
    · refine q_bipush (pc := 16) dQ_follow_16 (by decide) (by decide) ?_
      refine q_iret rfl (pc := 18) dQ_follow_18 ?_
      exact rP_of (by rw [if_pos h13])
  · have := of_decide_eq_false (bi_eq h4)
    omega
theorem ct_Q_view0 {L : Nat} {r key : Int} (I : qI) (hr : ¬ ((0 ≤ r ∧ r < 2) ∧ 0 ≤ key ∧ key < 32)) : qT M_Q_view 2 [.inr (some 1), .inl r, .inl key] L I (rI (-1) L I) := by
  refine q_enter (by decide) (Nat.le_of_ble_eq_true rfl) ?_
  refine q_iload_n (pc := 0) dQ_view_0 rfl ?_
  refine q_callS1 (pc := 1) dQ_view_1 ((ct_Q_isReplica r I)) cd_Q_isReplica st_Q_isReplica ml_Q209 rfl (Nat.le_of_ble_eq_true rfl) ⟨by decide, by decide⟩ ⟨by decide, by decide⟩ rfl ?_
  refine q_if_eq (tgt := 14) (pc := 4) dQ_view_4 (by decide) (fun h4 => ?_) (fun h4 => ?_)
  · refine q_iconst (pc := 14) dQ_view_14 (by decide) ?_
    refine q_iret rfl (pc := 15) dQ_view_15 ?_
    exact ⟨rfl, rfl, rfl⟩
  · have h9 := of_decide_eq_true (bi_ne h4)
    refine q_iload_n (pc := 7) dQ_view_7 rfl ?_
    refine q_callS1 (pc := 8) dQ_view_8 ((ct_Q_isKey key I)) cd_Q_isKey st_Q_isKey ml_Q62 rfl (Nat.le_of_ble_eq_true rfl) ⟨by decide, by decide⟩ ⟨by decide, by decide⟩ rfl ?_
    refine q_if_ne (tgt := 16) (pc := 11) dQ_view_11 (by decide) (fun h11 => ?_) (fun h11 => ?_)
    · have h8 := of_decide_eq_true (bi_ne h11)
      exact absurd ⟨h9, h8⟩ hr
    · refine q_iconst (pc := 14) dQ_view_14 (by decide) ?_
      refine q_iret rfl (pc := 15) dQ_view_15 ?_
      exact ⟨rfl, rfl, rfl⟩
theorem ct_Q_view {L n T k d r a v : Nat} (I : qI) (h : cw I n T k d) (hr : r < 2) (ha : a < 32) (hv : I 43 r = (v : Int)) (hv2 : v ≤ n) : qT M_Q_view 2 [.inr (some 1), .inl ((r : Nat) : Int), .inl ((a : Nat) : Int)] L I (rI (if qe (gsv I (a / 4 % 2) v) 6 = true then leval I a v v else -7) L I) := by
  obtain ⟨⟨hn, hn2⟩, ⟨hT, hT2⟩, -, -, -, ho, -⟩ := h
  refine q_enter (by decide) (Nat.le_of_ble_eq_true rfl) ?_
  have hg : a / 4 % 2 < 2 := by omega
  refine q_iload_n (pc := 0) dQ_view_0 rfl ?_
  refine q_callS1 (pc := 1) dQ_view_1 ((ct_Q_isReplica r I)) cd_Q_isReplica st_Q_isReplica ml_Q209 rfl (Nat.le_of_ble_eq_true rfl) ⟨by decide, by decide⟩ ⟨by decide, by decide⟩ rfl ?_
  refine q_if_eq (tgt := 14) (pc := 4) dQ_view_4 (by decide) (fun h4 => ?_) (fun h4 => ?_)
  · have := of_decide_eq_false (bi_eq h4)
    omega
  · refine q_iload_n (pc := 7) dQ_view_7 rfl ?_
    refine q_callS1 (pc := 8) dQ_view_8 ((ct_Q_isKey a I)) cd_Q_isKey st_Q_isKey ml_Q62 rfl (Nat.le_of_ble_eq_true rfl) ⟨by decide, by decide⟩ ⟨by decide, by decide⟩ rfl ?_
    refine q_if_ne (tgt := 16) (pc := 11) dQ_view_11 (by decide) (fun h11 => ?_) (fun h11 => ?_)
    · refine q_aload_n (pc := 16) dQ_view_16 rfl ?_
      refine q_getR (f := 2) (pc := 17) dQ_view_17 lay_0 (by decide) rfl (by decide) fl_Q25 rfl rfl ?_
      refine q_iload_n (pc := 20) dQ_view_20 rfl ?_
      refine q_callS1 (pc := 21) dQ_view_21 ((ct_Q_pageOf a I)) cd_Q_pageOf st_Q_pageOf ml_Q70 rfl (Nat.le_of_ble_eq_true rfl) ⟨by decide, by decide⟩ ⟨by decide, by decide⟩ rfl ?_
      refine q_callS1 (pc := 24) dQ_view_24 ((ct_Q_groupOfPage _ I)) cd_Q_groupOfPage st_Q_groupOfPage ml_Q212 rfl (Nat.le_of_ble_eq_true rfl) ⟨by decide, by decide⟩ ⟨by decide, by decide⟩ rfl ?_
      rw [td4, tm2]
      refine q_aald (i := (a / 4 % 2)) (pc := 27) dQ_view_27 ⟨by decide, by decide, rfl⟩ (s_gs L) rfl (by omega) (v_gs _ hg) ?_
      refine q_aload_n (pc := 28) dQ_view_28 rfl ?_
      refine q_getR (f := 4) (pc := 29) dQ_view_29 lay_0 (by decide) rfl (by decide) fl_Q39 rfl rfl ?_
      refine q_iload_n (pc := 32) dQ_view_32 rfl ?_
      refine q_iald (i := r) (pc := 33) dQ_view_33 rfl rfl (by omega) rfl ?_
      rw [hv]
      refine q_aload_n (pc := 34) dQ_view_34 rfl ?_
      refine q_getR (f := 0) (pc := 35) dQ_view_35 lay_0 (by decide) rfl (by decide) fl_Q10 rfl rfl ?_
      refine q_callV1 (pc := 38) dQ_view_38 ((ct_G_serves hg (by omega) I)) cd_G_serves in_G_serves se_G_serves ml_Q215 (s_gp L _ hg) (by decide) rfl rfl (Nat.le_of_ble_eq_true rfl) ⟨by decide, by decide⟩ ⟨by decide, by decide⟩ rfl ?_
      refine q_if_ne (tgt := 47) (pc := 41) dQ_view_41 (by decide) (fun h41 => ?_) (fun h41 => ?_)
      · refine q_aload_n (pc := 47) dQ_view_47 rfl ?_
        refine q_getR (f := 0) (pc := 48) dQ_view_48 lay_0 (by decide) rfl (by decide) fl_Q10 rfl rfl ?_
        refine q_iload_n (pc := 51) dQ_view_51 rfl ?_
        refine q_aload_n (pc := 52) dQ_view_52 rfl ?_
        refine q_getR (f := 4) (pc := 53) dQ_view_53 lay_0 (by decide) rfl (by decide) fl_Q39 rfl rfl ?_
        refine q_iload_n (pc := 56) dQ_view_56 rfl ?_
        refine q_iald (i := r) (pc := 57) dQ_view_57 rfl rfl (by omega) rfl ?_
        rw [hv]
        refine q_callV1 (pc := 58) dQ_view_58 ((ct_L_endedValueUpTo a I (by omega) (fun l a b => ho l a (by omega)))) cd_L_endedValueUpTo in_L_endedValueUpTo se_L_endedValueUpTo ml_Q219 rfl (by decide) rfl rfl (Nat.le_of_ble_eq_true rfl) ⟨by decide, by decide⟩ ⟨by decide, by decide⟩ rfl ?_
        refine q_iret rfl (pc := 61) dQ_view_61 ?_
        exact ⟨by rw [if_pos (bi_ne h41)], rfl, rfl⟩
      · refine q_bipush (pc := 44) dQ_view_44 (by decide) (by decide) ?_
        refine q_iret rfl (pc := 46) dQ_view_46 ?_
        exact ⟨by rw [if_neg (by rw [bi_eq h41]; decide)], rfl, rfl⟩
    · have := of_decide_eq_false (bi_eq h11)
      omega
