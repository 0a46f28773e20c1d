/-! The system's own methods, first half. -/
theorem tm2 (p : Nat) : (p : Int).tmod 2 = ((p % 2 : Nat) : Int) := by
  rw [Int.tmod_eq_emod_of_nonneg (by omega)]; omega
theorem td4 (p : Nat) : (p : Int).tdiv 4 = ((p / 4 : Nat) : Int) := by
  rw [Int.tdiv_eq_ediv_of_nonneg (by omega)]; omega
theorem bi_t {b : Bool} (h : b = true) : bi b = 1 := by rw [h]; rfl
theorem bi_f {b : Bool} (h : b = false) : bi b = 0 := by rw [h]; rfl
/-- an answer and the numbers behind it -/
abbrev rP (X : Int × qI) (L : Nat) : qP := q_is (some (.inl X.1)) (S0 L) X.2
theorem rP_of {X : Int × qI} {L : Nat} {x : Int} {I : qI} (h : X = (x, I)) : rP X L (some (.inl x)) (S0 L) I := by rw [h]; exact ⟨rfl, rfl, rfl⟩
def qrt (I : qI) (t : Int) : Int := if I 1 5 = 0 then -2 else if tac I t = true then 0 else -3
theorem ct_Q_refusalOfTransaction {L T : Nat} (t : Int) (I : qI) (hT : I 9 2 = (T : Int)) (hT2 : T ≤ 60) : qT M_Q_refusalOfTransaction 1 [.inr (some 1), .inl t] L I (rI (qrt I t) L I) := by
  refine q_enter (by decide) (Nat.le_of_ble_eq_true rfl) ?_
  refine q_aload_n (pc := 0) dQ_refusalOfTransaction_0 rfl ?_
  refine q_getI (f := 5) (pc := 1) dQ_refusalOfTransaction_1 lay_0 (by decide) rfl (by decide) fl_Q43 rfl rfl ?_
  refine q_if_ne (tgt := 10) (pc := 4) dQ_refusalOfTransaction_4 (by decide) (fun h4 => ?_) (fun h4 => ?_)
  · refine q_aload_n (pc := 10) dQ_refusalOfTransaction_10 rfl ?_
    refine q_getR (f := 1) (pc := 11) dQ_refusalOfTransaction_11 lay_0 (by decide) rfl (by decide) fl_Q19 rfl rfl ?_
    refine q_iload_n (pc := 14) dQ_refusalOfTransaction_14 rfl ?_
    refine q_callV1 (pc := 15) dQ_refusalOfTransaction_15 ((ct_T_isActive t I hT hT2)) cd_T_isActive in_T_isActive se_T_isActive ml_Q108 rfl (by decide) rfl rfl (Nat.le_of_ble_eq_true rfl) ⟨by decide, by decide⟩ ⟨by decide, by decide⟩ rfl ?_
    refine q_if_eq (tgt := 25) (pc := 18) dQ_refusalOfTransaction_18 (by decide) (fun h18 => ?_) (fun h18 => ?_)
    · refine q_bipush (pc := 25) dQ_refusalOfTransaction_25 (by decide) (by decide) ?_
      refine q_iret rfl (pc := 27) dQ_refusalOfTransaction_27 ?_
      exact ⟨by unfold qrt; rw [if_neg h4, if_neg (by rw [bi_eq h18]; decide)], rfl, rfl⟩
    · refine q_iconst (pc := 21) dQ_refusalOfTransaction_21 (by decide) ?_
      refine q_goto (tgt := 27) (pc := 22) dQ_refusalOfTransaction_22 (by decide) ?_
      refine q_iret rfl (pc := 27) dQ_refusalOfTransaction_27 ?_
      exact ⟨by unfold qrt; rw [if_neg h4, if_pos (bi_ne h18)], rfl, rfl⟩
  · refine q_bipush (pc := 7) dQ_refusalOfTransaction_7 (by decide) (by decide) ?_
    refine q_iret rfl (pc := 9) dQ_refusalOfTransaction_9 ?_
    exact ⟨by unfold qrt; rw [if_pos h4], rfl, rfl⟩
def may (I : qI) (t : Int) (k : Nat) : Bool := decide (I 11 k = 0 ∨ I 11 k = t)
def qrk (I : qI) (t : Int) (a b : Nat) : Int := if qrt I t = 0 then (if may I t a = true ∧ may I t b = true then 0 else -4) else qrt I t
theorem ct_Q_refusalOfKeys {L T a b : Nat} (t : Int) (I : qI) (hT : I 9 2 = (T : Int)) (hT2 : T ≤ 60) (ha : a < 32) (hb : b < 32) : qT M_Q_refusalOfKeys 2 [.inr (some 1), .inl t, .inl ((a : Nat) : Int), .inl ((b : Nat) : Int)] L I (rI (qrk I t a b) L I) := by
  refine q_enter (by decide) (Nat.le_of_ble_eq_true rfl) ?_
  refine q_aload_n (pc := 0) dQ_refusalOfKeys_0 rfl ?_
  refine q_iload_n (pc := 1) dQ_refusalOfKeys_1 rfl ?_
  refine q_callV1 (pc := 2) dQ_refusalOfKeys_2 ((ct_Q_refusalOfTransaction t I hT hT2)) cd_Q_refusalOfTransaction in_Q_refusalOfTransaction se_Q_refusalOfTransaction ml_Q92 rfl (by decide) rfl rfl (Nat.le_of_ble_eq_true rfl) ⟨by decide, by decide⟩ ⟨by decide, by decide⟩ rfl ?_
  refine q_istore (pc := 5) dQ_refusalOfKeys_5 (by decide) ?_
  refine q_iload (pc := 7) dQ_refusalOfKeys_7 rfl ?_
  refine q_if_eq (tgt := 15) (pc := 9) dQ_refusalOfKeys_9 (by decide) (fun h9 => ?_) (fun h9 => ?_)
  · refine q_aload_n (pc := 15) dQ_refusalOfKeys_15 rfl ?_
    refine q_getR (f := 1) (pc := 16) dQ_refusalOfKeys_16 lay_0 (by decide) rfl (by decide) fl_Q19 rfl rfl ?_
    refine q_iload_n (pc := 19) dQ_refusalOfKeys_19 rfl ?_
    refine q_iload_n (pc := 20) dQ_refusalOfKeys_20 rfl ?_
    refine q_callV1 (pc := 21) dQ_refusalOfKeys_21 ((ct_T_mayHold t I ha)) cd_T_mayHold in_T_mayHold se_T_mayHold ml_Q236 rfl (by decide) rfl rfl (Nat.le_of_ble_eq_true rfl) ⟨by decide, by decide⟩ ⟨by decide, by decide⟩ rfl ?_
    refine q_if_eq (tgt := 43) (pc := 24) dQ_refusalOfKeys_24 (by decide) (fun h24 => ?_) (fun h24 => ?_)
    · refine q_bipush (pc := 43) dQ_refusalOfKeys_43 (by decide) (by decide) ?_
      refine q_iret rfl (pc := 45) dQ_refusalOfKeys_45 ?_
      exact ⟨by unfold qrk; rw [if_pos h9, if_neg (by have : may I t a = false := bi_eq h24; simp [this])], rfl, rfl⟩
    · refine q_aload_n (pc := 27) dQ_refusalOfKeys_27 rfl ?_
      refine q_getR (f := 1) (pc := 28) dQ_refusalOfKeys_28 lay_0 (by decide) rfl (by decide) fl_Q19 rfl rfl ?_
      refine q_iload_n (pc := 31) dQ_refusalOfKeys_31 rfl ?_
      refine q_iload_n (pc := 32) dQ_refusalOfKeys_32 rfl ?_
      refine q_callV1 (pc := 33) dQ_refusalOfKeys_33 ((ct_T_mayHold t I hb)) cd_T_mayHold in_T_mayHold se_T_mayHold ml_Q236 rfl (by decide) rfl rfl (Nat.le_of_ble_eq_true rfl) ⟨by decide, by decide⟩ ⟨by decide, by decide⟩ rfl ?_
      refine q_if_eq (tgt := 43) (pc := 36) dQ_refusalOfKeys_36 (by decide) (fun h36 => ?_) (fun h36 => ?_)
      · refine q_bipush (pc := 43) dQ_refusalOfKeys_43 (by decide) (by decide) ?_
        refine q_iret rfl (pc := 45) dQ_refusalOfKeys_45 ?_
        exact ⟨by unfold qrk; rw [if_pos h9, if_neg (by have : may I t b = false := bi_eq h36; simp [this])], rfl, rfl⟩
      · refine q_iconst (pc := 39) dQ_refusalOfKeys_39 (by decide) ?_
        refine q_goto (tgt := 45) (pc := 40) dQ_refusalOfKeys_40 (by decide) ?_
        refine q_iret rfl (pc := 45) dQ_refusalOfKeys_45 ?_
        exact ⟨by unfold qrk; rw [if_pos h9, if_pos ⟨bi_ne h24, bi_ne h36⟩], rfl, rfl⟩
  · refine q_iload (pc := 12) dQ_refusalOfKeys_12 rfl ?_
    refine q_iret rfl (pc := 14) dQ_refusalOfKeys_14 ?_
    exact ⟨by unfold qrk; rw [if_neg h9], rfl, rfl⟩
def qrc (I : qI) (t : Int) (a b : Nat) : Int := if qrk I t a b = 0 then (if I 2 6 < 150 then 0 else -5) else qrk I t a b
theorem ct_Q_refusalOfChanges {L T a b : Nat} (t : Int) (I : qI) (hT : I 9 2 = (T : Int)) (hT2 : T ≤ 60) (ha : a < 32) (hb : b < 32) : qT M_Q_refusalOfChanges 3 [.inr (some 1), .inl t, .inl ((a : Nat) : Int), .inl ((b : Nat) : Int)] L I (rI (qrc I t a b) L I) := by
  refine q_enter (by decide) (Nat.le_of_ble_eq_true rfl) ?_
  refine q_aload_n (pc := 0) dQ_refusalOfChanges_0 rfl ?_
  refine q_iload_n (pc := 1) dQ_refusalOfChanges_1 rfl ?_
  refine q_iload_n (pc := 2) dQ_refusalOfChanges_2 rfl ?_
  refine q_iload_n (pc := 3) dQ_refusalOfChanges_3 rfl ?_
  refine q_callV1 (pc := 4) dQ_refusalOfChanges_4 ((ct_Q_refusalOfKeys t I hT hT2 ha hb)) cd_Q_refusalOfKeys in_Q_refusalOfKeys se_Q_refusalOfKeys ml_Q66 rfl (by decide) rfl rfl (Nat.le_of_ble_eq_true rfl) ⟨by decide, by decide⟩ ⟨by decide, by decide⟩ rfl ?_
  refine q_istore (pc := 7) dQ_refusalOfChanges_7 (by decide) ?_
  refine q_iload (pc := 9) dQ_refusalOfChanges_9 rfl ?_
  refine q_if_eq (tgt := 17) (pc := 11) dQ_refusalOfChanges_11 (by decide) (fun h11 => ?_) (fun h11 => ?_)
  · refine q_aload_n (pc := 17) dQ_refusalOfChanges_17 rfl ?_
    refine q_getR (f := 0) (pc := 18) dQ_refusalOfChanges_18 lay_0 (by decide) rfl (by decide) fl_Q10 rfl rfl ?_
    refine q_getI (f := 6) (pc := 21) dQ_refusalOfChanges_21 lay_1 (by decide) rfl (by decide) fl_Q55 rfl rfl ?_
    refine q_sipush (pc := 24) dQ_refusalOfChanges_24 (by decide) (by decide) ?_
    refine q_icmp_lt (tgt := 35) (pc := 27) dQ_refusalOfChanges_27 (by decide) (fun h27 => ?_) (fun h27 => ?_)
    · refine q_iconst (pc := 35) dQ_refusalOfChanges_35 (by decide) ?_
      refine q_iret rfl (pc := 36) dQ_refusalOfChanges_36 ?_
      exact ⟨by unfold qrc; rw [if_pos h11, if_pos h27], rfl, rfl⟩
    · refine q_bipush (pc := 30) dQ_refusalOfChanges_30 (by decide) (by decide) ?_
      refine q_goto (tgt := 36) (pc := 32) dQ_refusalOfChanges_32 (by decide) ?_
      refine q_iret rfl (pc := 36) dQ_refusalOfChanges_36 ?_
      exact ⟨by unfold qrc; rw [if_pos h11, if_neg h27], rfl, rfl⟩
  · refine q_iload (pc := 14) dQ_refusalOfChanges_14 rfl ?_
    refine q_iret rfl (pc := 16) dQ_refusalOfChanges_16 ?_
    exact ⟨by unfold qrc; rw [if_neg h11], rfl, rfl⟩
def isC (g c : Int) : Prop := 0 ≤ g ∧ g < 2 ∧ 0 ≤ c ∧ c < 6
theorem isC_nat {g c : Int} (h : isC g c) : ∃ a b : Nat, a < 2 ∧ b < 6 ∧ g = (a : Int) ∧ c = (b : Int) := by
  obtain ⟨h1, h2, h3, h4⟩ := h
  exact ⟨g.toNat, c.toNat, by omega, by omega, by omega, by omega⟩
/-- why a copy's call is refused, for a copy that is there -/
def qcr (I : qI) (x : Nat) : Int := if I 1 5 = 0 then -2 else if I (cp x) 2 = 0 then 0 else -7
theorem ct_Q_refusalOfCopy0 {L : Nat} {g c : Int} (I : qI) (h : ¬ isC g c) : qT M_Q_refusalOfCopy 1 [.inr (some 1), .inl g, .inl c] L I (rI (-1) L I) := by
  refine q_enter (by decide) (Nat.le_of_ble_eq_true rfl) ?_
  refine q_iload_n (pc := 0) dQ_refusalOfCopy_0 rfl ?_
  refine q_iload_n (pc := 1) dQ_refusalOfCopy_1 rfl ?_
  refine q_callS1 (pc := 2) dQ_refusalOfCopy_2 ((ct_Q_isCopy g c I)) cd_Q_isCopy st_Q_isCopy ml_Q142 rfl (Nat.le_of_ble_eq_true rfl) ⟨by decide, by decide⟩ ⟨by decide, by decide⟩ rfl ?_
  refine q_if_ne (tgt := 10) (pc := 5) dQ_refusalOfCopy_5 (by decide) (fun h5 => ?_) (fun h5 => ?_)
  · exact absurd (of_decide_eq_true (bi_ne h5)) h
  · refine q_iconst (pc := 8) dQ_refusalOfCopy_8 (by decide) ?_
    refine q_iret rfl (pc := 9) dQ_refusalOfCopy_9 ?_
    exact ⟨rfl, rfl, rfl⟩
theorem ct_Q_refusalOfCopy {L g c : Nat} (I : qI) (hg : g < 2) (hc : c < 6) : qT M_Q_refusalOfCopy 1 [.inr (some 1), .inl ((g : Nat) : Int), .inl ((c : Nat) : Int)] L I (rI (qcr I (6 * g + c)) L I) := by
  refine q_enter (by decide) (Nat.le_of_ble_eq_true rfl) ?_
  have hx : 6 * g + c < 12 := by omega
  refine q_iload_n (pc := 0) dQ_refusalOfCopy_0 rfl ?_
  refine q_iload_n (pc := 1) dQ_refusalOfCopy_1 rfl ?_
  refine q_callS1 (pc := 2) dQ_refusalOfCopy_2 ((ct_Q_isCopy g c I)) cd_Q_isCopy st_Q_isCopy ml_Q142 rfl (Nat.le_of_ble_eq_true rfl) ⟨by decide, by decide⟩ ⟨by decide, by decide⟩ rfl ?_
  refine q_if_ne (tgt := 10) (pc := 5) dQ_refusalOfCopy_5 (by decide) (fun h5 => ?_) (fun h5 => ?_)
  · refine q_aload_n (pc := 10) dQ_refusalOfCopy_10 rfl ?_
    refine q_getI (f := 5) (pc := 11) dQ_refusalOfCopy_11 lay_0 (by decide) rfl (by decide) fl_Q43 rfl rfl ?_
    refine q_if_ne (tgt := 20) (pc := 14) dQ_refusalOfCopy_14 (by decide) (fun h14 => ?_) (fun h14 => ?_)
    · refine q_aload_n (pc := 20) dQ_refusalOfCopy_20 rfl ?_
      refine q_getR (f := 2) (pc := 21) dQ_refusalOfCopy_21 lay_0 (by decide) rfl (by decide) fl_Q25 rfl rfl ?_
      refine q_iload_n (pc := 24) dQ_refusalOfCopy_24 rfl ?_
      refine q_aald (i := g) (pc := 25) dQ_refusalOfCopy_25 ⟨by decide, by decide, rfl⟩ (s_gs L) rfl (by omega) (v_gs g hg) ?_
      refine q_getR (f := 0) (pc := 26) dQ_refusalOfCopy_26 lay_3 (by decide) (s_gp L g hg) (by decide) fl_Q123 rfl rfl ?_
      refine q_iload_n (pc := 29) dQ_refusalOfCopy_29 rfl ?_
      refine q_aald (i := c) (pc := 30) dQ_refusalOfCopy_30 ⟨by decide, by decide, rfl⟩ (s_cps L g hg) rfl (by omega) (v_cps hc) ?_
      refine q_callV1 (pc := 31) dQ_refusalOfCopy_31 ((ct_C_isLive hx I)) cd_C_isLive in_C_isLive se_C_isLive ml_Q127 (s_cp L _ hx) (by decide) rfl rfl (Nat.le_of_ble_eq_true rfl) ⟨by decide, by decide⟩ ⟨by decide, by decide⟩ rfl ?_
      refine q_if_eq (tgt := 41) (pc := 34) dQ_refusalOfCopy_34 (by decide) (fun h34 => ?_) (fun h34 => ?_)
      · refine q_bipush (pc := 41) dQ_refusalOfCopy_41 (by decide) (by decide) ?_
        refine q_iret rfl (pc := 43) dQ_refusalOfCopy_43 ?_
        exact ⟨by unfold qcr; rw [if_neg h14, if_neg (by have := bi_eq h34; simpa using this)], rfl, rfl⟩
      · refine q_iconst (pc := 37) dQ_refusalOfCopy_37 (by decide) ?_
        refine q_goto (tgt := 43) (pc := 38) dQ_refusalOfCopy_38 (by decide) ?_
        refine q_iret rfl (pc := 43) dQ_refusalOfCopy_43 ?_
        exact ⟨by unfold qcr; rw [if_neg h14, if_pos (by have := bi_ne h34; simpa using this)], rfl, rfl⟩
    · refine q_bipush (pc := 17) dQ_refusalOfCopy_17 (by decide) (by decide) ?_
      refine q_iret rfl (pc := 19) dQ_refusalOfCopy_19 ?_
      exact ⟨by unfold qcr; rw [if_pos h14], rfl, rfl⟩
  · have := bi_eq h5
    rw [decide_eq_false_iff_not] at this
    omega
theorem ct_Q_isAheadOfDurable {L n : Nat} (p : Int) (I : qI) (hn : I 2 6 = (n : Int)) (hn2 : n ≤ 187) : qT M_Q_isAheadOfDurable 2 [.inr (some 1), .inl p] L I (rI (bi (decide (I 1 6 < (ql (llt I p) n : Int)))) L I) := by
  refine q_enter (by decide) (Nat.le_of_ble_eq_true rfl) ?_
  refine q_aload_n (pc := 0) dQ_isAheadOfDurable_0 rfl ?_
  refine q_getR (f := 0) (pc := 1) dQ_isAheadOfDurable_1 lay_0 (by decide) rfl (by decide) fl_Q10 rfl rfl ?_
  refine q_iload_n (pc := 4) dQ_isAheadOfDurable_4 rfl ?_
  refine q_callV1 (pc := 5) dQ_isAheadOfDurable_5 ((ct_L_latestOf p I hn hn2)) cd_L_latestOf in_L_latestOf se_L_latestOf ml_Q258 rfl (by decide) rfl rfl (Nat.le_of_ble_eq_true rfl) ⟨by decide, by decide⟩ ⟨by decide, by decide⟩ rfl ?_
  refine q_aload_n (pc := 8) dQ_isAheadOfDurable_8 rfl ?_
  refine q_getI (f := 6) (pc := 9) dQ_isAheadOfDurable_9 lay_0 (by decide) rfl (by decide) fl_Q47 rfl rfl ?_
  refine q_icmp_le (tgt := 19) (pc := 12) dQ_isAheadOfDurable_12 (by decide) (fun h12 => ?_) (fun h12 => ?_)
  · refine q_iconst (pc := 19) dQ_isAheadOfDurable_19 (by decide) ?_
    refine q_zret rfl (by first | exact Or.inl rfl | exact Or.inr rfl) (pc := 20) dQ_isAheadOfDurable_20 ?_
    exact ⟨by rw [decide_eq_false (by omega)]; rfl, rfl, rfl⟩
  · refine q_iconst (pc := 15) dQ_isAheadOfDurable_15 (by decide) ?_
    refine q_goto (tgt := 20) (pc := 16) dQ_isAheadOfDurable_16 (by decide) ?_
    refine q_zret rfl (by first | exact Or.inl rfl | exact Or.inr rfl) (pc := 20) dQ_isAheadOfDurable_20 ?_
    exact ⟨by rw [decide_eq_true (by omega)]; rfl, rfl, rfl⟩
/-- the page that may go, f pages from i on -/
def pmg (I : qI) (n : Nat) (o : Int) : Nat → Nat → Int
  | 0, _ => -1
  | f + 1, i => if ¬ I 42 i = o ∧ ¬ I 1 6 < (ql (llt I (I 42 i)) n : Int) then I 42 i else pmg I n o f (i + 1)
theorem lp_Q_pageThatMayGo {L n k : Nat} (o : Int) (I : qI) (hn : I 2 6 = (n : Int)) (hn2 : n ≤ 187) (hk : I 41 1 = (k : Int)) (hk2 : k ≤ 4) : ∀ f i z, i + f = k → qE M_Q_pageThatMayGo 3 2 [some (.inr (some 1)), some (.inl o), some (.inl ((i : Nat) : Int)), z] [] L I (rI (pmg I n o f i) L I) := by
  intro f
  induction f with
  | zero =>
    intro i z hi
    refine q_iload_n (pc := 2) dQ_pageThatMayGo_2 rfl ?_
    refine q_aload_n (pc := 3) dQ_pageThatMayGo_3 rfl ?_
    refine q_getR (f := 3) (pc := 4) dQ_pageThatMayGo_4 lay_0 (by decide) rfl (by decide) fl_Q35 rfl rfl ?_
    refine q_getI (f := 1) (pc := 7) dQ_pageThatMayGo_7 lay_5 (by decide) rfl (by decide) fl_Q252 rfl rfl ?_
    refine q_icmp_ge (tgt := 44) (pc := 10) dQ_pageThatMayGo_10 (by decide) (fun h10 => ?_) (fun h10 => ?_)
    · refine q_iconst (pc := 44) dQ_pageThatMayGo_44 (by decide) ?_
      refine q_iret rfl (pc := 45) dQ_pageThatMayGo_45 ?_
      exact ⟨rfl, rfl, rfl⟩
    · omega
  | succ f ih =>
    intro i z hi
    refine q_iload_n (pc := 2) dQ_pageThatMayGo_2 rfl ?_
    refine q_aload_n (pc := 3) dQ_pageThatMayGo_3 rfl ?_
    refine q_getR (f := 3) (pc := 4) dQ_pageThatMayGo_4 lay_0 (by decide) rfl (by decide) fl_Q35 rfl rfl ?_
    refine q_getI (f := 1) (pc := 7) dQ_pageThatMayGo_7 lay_5 (by decide) rfl (by decide) fl_Q252 rfl rfl ?_
    refine q_icmp_ge (tgt := 44) (pc := 10) dQ_pageThatMayGo_10 (by decide) (fun h10 => ?_) (fun h10 => ?_)
    · omega
    · refine q_aload_n (pc := 13) dQ_pageThatMayGo_13 rfl ?_
      refine q_getR (f := 3) (pc := 14) dQ_pageThatMayGo_14 lay_0 (by decide) rfl (by decide) fl_Q35 rfl rfl ?_
      refine q_getR (f := 0) (pc := 17) dQ_pageThatMayGo_17 lay_5 (by decide) rfl (by decide) fl_Q255 rfl rfl ?_
      refine q_iload_n (pc := 20) dQ_pageThatMayGo_20 rfl ?_
      refine q_iald (i := i) (pc := 21) dQ_pageThatMayGo_21 rfl rfl (by omega) rfl ?_
      refine q_istore_n (pc := 22) dQ_pageThatMayGo_22 (by decide) ?_
      refine q_iload_n (pc := 23) dQ_pageThatMayGo_23 rfl ?_
      refine q_iload_n (pc := 24) dQ_pageThatMayGo_24 rfl ?_
      refine q_icmp_eq (tgt := 38) (pc := 25) dQ_pageThatMayGo_25 (by decide) (fun h25 => ?_) (fun h25 => ?_)
      · refine q_iinc (pc := 38) dQ_pageThatMayGo_38 rfl (by decide) rfl ⟨by omega, by omega⟩ ?_
        refine q_goto (tgt := 2) (pc := 41) dQ_pageThatMayGo_41 (by decide) ?_
        have e : pmg I n o (f + 1) i = pmg I n o f (i + 1) := by rw [pmg, if_neg (by simp [h25])]
        rw [e]
        exact ih (i + 1) _ (by omega)
      · refine q_aload_n (pc := 28) dQ_pageThatMayGo_28 rfl ?_
        refine q_iload_n (pc := 29) dQ_pageThatMayGo_29 rfl ?_
        refine q_callV1 (pc := 30) dQ_pageThatMayGo_30 ((ct_Q_isAheadOfDurable _ I hn hn2)) cd_Q_isAheadOfDurable in_Q_isAheadOfDurable se_Q_isAheadOfDurable ml_Q248 rfl (by decide) rfl rfl (Nat.le_of_ble_eq_true rfl) ⟨by decide, by decide⟩ ⟨by decide, by decide⟩ rfl ?_
        refine q_if_ne (tgt := 38) (pc := 33) dQ_pageThatMayGo_33 (by decide) (fun h33 => ?_) (fun h33 => ?_)
        · refine q_iinc (pc := 38) dQ_pageThatMayGo_38 rfl (by decide) rfl ⟨by omega, by omega⟩ ?_
          refine q_goto (tgt := 2) (pc := 41) dQ_pageThatMayGo_41 (by decide) ?_
          have e : pmg I n o (f + 1) i = pmg I n o f (i + 1) := by
            have := of_decide_eq_true (bi_ne h33)
            rw [pmg, if_neg (fun h => h.2 this)]
          rw [e]
          exact ih (i + 1) _ (by omega)
        · refine q_iload_n (pc := 36) dQ_pageThatMayGo_36 rfl ?_
          refine q_iret rfl (pc := 37) dQ_pageThatMayGo_37 ?_
          exact ⟨by have := of_decide_eq_false (bi_eq h33); rw [pmg, if_pos ⟨h25, this⟩], rfl, rfl⟩
theorem ct_Q_pageThatMayGo {L n k : Nat} (o : Int) (I : qI) (hn : I 2 6 = (n : Int)) (hn2 : n ≤ 187) (hk : I 41 1 = (k : Int)) (hk2 : k ≤ 4) : qT M_Q_pageThatMayGo 3 [.inr (some 1), .inl o] L I (rI (pmg I n o k 0) L I) := by
  refine q_enter (by decide) (Nat.le_of_ble_eq_true rfl) ?_
  refine q_iconst (pc := 0) dQ_pageThatMayGo_0 (by decide) ?_
  refine q_istore_n (pc := 1) dQ_pageThatMayGo_1 (by decide) ?_
  exact lp_Q_pageThatMayGo o I hn hn2 hk hk2 k 0 _ (by omega)
theorem hrm_le (p : Int) : ∀ f i w I, (hrm p f i w I).2 ≤ w + f
  | 0, i, w, I => Nat.le_refl _
  | f + 1, i, w, I => by
    rw [hrm]
    split
    · have := hrm_le p f (i + 1) w I; omega
    · have := hrm_le p f (i + 1) (w + 1) (q_up I 42 w (I 42 i)); omega
theorem hrm_off (p : Int) : ∀ f i w I a, a ≠ 42 → (hrm p f i w I).1 a = I a
  | 0, i, w, I, a, h => rfl
  | f + 1, i, w, I, a, h => by
    rw [hrm]
    split
    · exact hrm_off p f (i + 1) w I a h
    · rw [hrm_off p f (i + 1) (w + 1) _ a h, q_up_off a h]
theorem hrem_off {I : qI} {k a : Nat} {p : Int} (h1 : a ≠ 42) (h2 : a ≠ 41) : hrem I k p a = I a := by
  unfold hrem
  rw [q_up_off a h2, hrm_off p k 0 0 I a h1]
theorem hrem_k {I : qI} {k : Nat} {p : Int} : hrem I k p 41 1 = ((hrm p k 0 0 I).2 : Int) := by simp [hrem, q_up]
/-- a page is touched: the answer, and the cache behind it -/
def qtch (I : qI) (n k d p : Nat) (o : Int) : Int × qI :=
  if 0 < hrk I p k 0 then (0, happ (hrem I k p) (hrm p k 0 0 I).2 p)
  else if (d : Int) < (ql (llt I p) n : Int) ∨ (k = 4 ∧ pmg I n o k 0 = -1) then (-6, I)
  else if qe (gsv I (p % 2) d) 6 = false then (-7, I)
  else if k = 4 then (0, happ (hrem I k (pmg I n o k 0)) (hrm (pmg I n o k 0) k 0 0 I).2 p)
  else (0, happ I k p)
theorem ct_Q_touch {L n k d p : Nat} (o : Int) (I : qI) (hn : I 2 6 = (n : Int)) (hn2 : n ≤ 187) (hk : I 41 1 = (k : Int)) (hk2 : k ≤ 4) (hd : I 1 6 = (d : Int)) (hd2 : d ≤ 187) : qT M_Q_touch 4 [.inr (some 1), .inl ((p : Nat) : Int), .inl o] L I (rP (qtch I n k d p o) L) := by
  refine q_enter (by decide) (Nat.le_of_ble_eq_true rfl) ?_
  have hle := fun q : Int => hrm_le q k 0 0 I
  have hg : p % 2 < 2 := by omega
  refine q_aload_n (pc := 0) dQ_touch_0 rfl ?_
  refine q_getR (f := 3) (pc := 1) dQ_touch_1 lay_0 (by decide) rfl (by decide) fl_Q35 rfl rfl ?_
  refine q_iload_n (pc := 4) dQ_touch_4 rfl ?_
  refine q_callV1 (pc := 5) dQ_touch_5 ((ct_H_rankOf p I hk hk2)) cd_H_rankOf in_H_rankOf se_H_rankOf ml_Q233 rfl (by decide) rfl rfl (Nat.le_of_ble_eq_true rfl) ⟨by decide, by decide⟩ ⟨by decide, by decide⟩ rfl ?_
  refine q_if_le (tgt := 29) (pc := 8) dQ_touch_8 (by decide) (fun h8 => ?_) (fun h8 => ?_)
  · refine q_aload_n (pc := 29) dQ_touch_29 rfl ?_
    refine q_iload_n (pc := 30) dQ_touch_30 rfl ?_
    refine q_callV1 (pc := 31) dQ_touch_31 ((ct_Q_pageThatMayGo o I hn hn2 hk hk2)) cd_Q_pageThatMayGo in_Q_pageThatMayGo se_Q_pageThatMayGo ml_Q245 rfl (by decide) rfl rfl (Nat.le_of_ble_eq_true rfl) ⟨by decide, by decide⟩ ⟨by decide, by decide⟩ rfl ?_
    refine q_istore_n (pc := 34) dQ_touch_34 (by decide) ?_
    refine q_aload_n (pc := 35) dQ_touch_35 rfl ?_
    refine q_iload_n (pc := 36) dQ_touch_36 rfl ?_
    refine q_callV1 (pc := 37) dQ_touch_37 ((ct_Q_isAheadOfDurable p I hn hn2)) cd_Q_isAheadOfDurable in_Q_isAheadOfDurable se_Q_isAheadOfDurable ml_Q248 rfl (by decide) rfl rfl (Nat.le_of_ble_eq_true rfl) ⟨by decide, by decide⟩ ⟨by decide, by decide⟩ rfl ?_
    refine q_if_ne (tgt := 58) (pc := 40) dQ_touch_40 (by decide) (fun h40 => ?_) (fun h40 => ?_)
    · refine q_bipush (pc := 58) dQ_touch_58 (by decide) (by decide) ?_
      refine q_iret rfl (pc := 60) dQ_touch_60 ?_
      refine rP_of ?_
      have := of_decide_eq_true (bi_ne h40)
      unfold qtch
      rw [if_neg (by omega), if_pos (Or.inl (by omega))]
    · have h40' := of_decide_eq_false (bi_eq h40)
      refine q_aload_n (pc := 43) dQ_touch_43 rfl ?_
      refine q_getR (f := 3) (pc := 44) dQ_touch_44 lay_0 (by decide) rfl (by decide) fl_Q35 rfl rfl ?_
      refine q_callV1 (pc := 47) dQ_touch_47 ((ct_H_isFull I)) cd_H_isFull in_H_isFull se_H_isFull ml_Q251 rfl (by decide) rfl rfl (Nat.le_of_ble_eq_true rfl) ⟨by decide, by decide⟩ ⟨by decide, by decide⟩ rfl ?_
      refine q_if_eq (tgt := 61) (pc := 50) dQ_touch_50 (by decide) (fun h50 => ?_) (fun h50 => ?_)
      · have h50' := of_decide_eq_false (bi_eq h50)
        refine q_aload_n (pc := 61) dQ_touch_61 rfl ?_
        refine q_getR (f := 2) (pc := 62) dQ_touch_62 lay_0 (by decide) rfl (by decide) fl_Q25 rfl rfl ?_
        refine q_iload_n (pc := 65) dQ_touch_65 rfl ?_
        refine q_callS1 (pc := 66) dQ_touch_66 ((ct_Q_groupOfPage _ I)) cd_Q_groupOfPage st_Q_groupOfPage ml_Q212 rfl (Nat.le_of_ble_eq_true rfl) ⟨by decide, by decide⟩ ⟨by decide, by decide⟩ rfl ?_
        rw [tm2]
        refine q_aald (i := (p % 2)) (pc := 69) dQ_touch_69 ⟨by decide, by decide, rfl⟩ (s_gs L) rfl (by omega) (v_gs _ hg) ?_
        refine q_aload_n (pc := 70) dQ_touch_70 rfl ?_
        refine q_getI (f := 6) (pc := 71) dQ_touch_71 lay_0 (by decide) rfl (by decide) fl_Q47 rfl rfl ?_
        refine q_aload_n (pc := 74) dQ_touch_74 rfl ?_
        refine q_getR (f := 0) (pc := 75) dQ_touch_75 lay_0 (by decide) rfl (by decide) fl_Q10 rfl rfl ?_
        rw [hd]
        refine q_callV1 (pc := 78) dQ_touch_78 ((ct_G_serves hg hd2 I)) cd_G_serves in_G_serves se_G_serves ml_Q215 (s_gp L _ hg) (by decide) rfl rfl (Nat.le_of_ble_eq_true rfl) ⟨by decide, by decide⟩ ⟨by decide, by decide⟩ rfl ?_
        refine q_if_ne (tgt := 87) (pc := 81) dQ_touch_81 (by decide) (fun h81 => ?_) (fun h81 => ?_)
        · refine q_aload_n (pc := 87) dQ_touch_87 rfl ?_
          refine q_getR (f := 3) (pc := 88) dQ_touch_88 lay_0 (by decide) rfl (by decide) fl_Q35 rfl rfl ?_
          refine q_callV1 (pc := 91) dQ_touch_91 ((ct_H_isFull I)) cd_H_isFull in_H_isFull se_H_isFull ml_Q251 rfl (by decide) rfl rfl (Nat.le_of_ble_eq_true rfl) ⟨by decide, by decide⟩ ⟨by decide, by decide⟩ rfl ?_
          refine q_if_eq (tgt := 105) (pc := 94) dQ_touch_94 (by decide) (fun h94 => ?_) (fun h94 => ?_)
          · refine q_aload_n (pc := 105) dQ_touch_105 rfl ?_
            refine q_getR (f := 3) (pc := 106) dQ_touch_106 lay_0 (by decide) rfl (by decide) fl_Q35 rfl rfl ?_
            refine q_iload_n (pc := 109) dQ_touch_109 rfl ?_
            refine q_callV0 (pc := 110) dQ_touch_110 ((ct_H_append p I hk hk2)) cd_H_append in_H_append se_H_append ml_Q242 rfl (by decide) rfl rfl (Nat.le_of_ble_eq_true rfl) ⟨by decide, by decide⟩ ⟨by decide, by decide⟩ rfl ?_
            refine q_iconst (pc := 113) dQ_touch_113 (by decide) ?_
            refine q_iret rfl (pc := 114) dQ_touch_114 ?_
            refine rP_of ?_
            unfold qtch
            rw [if_neg (by omega), if_neg (by omega), if_neg (by rw [bi_ne h81]; decide), if_neg (by omega)]
          · exact absurd (of_decide_eq_true (bi_ne h94)) h50'
        · refine q_bipush (pc := 84) dQ_touch_84 (by decide) (by decide) ?_
          refine q_iret rfl (pc := 86) dQ_touch_86 ?_
          refine rP_of ?_
          unfold qtch
          rw [if_neg (by omega), if_neg (by omega), if_pos (bi_eq h81)]
      · have h50' := of_decide_eq_true (bi_ne h50)
        refine q_iload_n (pc := 53) dQ_touch_53 rfl ?_
        refine q_iconst (pc := 54) dQ_touch_54 (by decide) ?_
        refine q_icmp_ne (tgt := 61) (pc := 55) dQ_touch_55 (by decide) (fun h55 => ?_) (fun h55 => ?_)
        · refine q_aload_n (pc := 61) dQ_touch_61 rfl ?_
          refine q_getR (f := 2) (pc := 62) dQ_touch_62 lay_0 (by decide) rfl (by decide) fl_Q25 rfl rfl ?_
          refine q_iload_n (pc := 65) dQ_touch_65 rfl ?_
          refine q_callS1 (pc := 66) dQ_touch_66 ((ct_Q_groupOfPage _ I)) cd_Q_groupOfPage st_Q_groupOfPage ml_Q212 rfl (Nat.le_of_ble_eq_true rfl) ⟨by decide, by decide⟩ ⟨by decide, by decide⟩ rfl ?_
          rw [tm2]
          refine q_aald (i := (p % 2)) (pc := 69) dQ_touch_69 ⟨by decide, by decide, rfl⟩ (s_gs L) rfl (by omega) (v_gs _ hg) ?_
          refine q_aload_n (pc := 70) dQ_touch_70 rfl ?_
          refine q_getI (f := 6) (pc := 71) dQ_touch_71 lay_0 (by decide) rfl (by decide) fl_Q47 rfl rfl ?_
          refine q_aload_n (pc := 74) dQ_touch_74 rfl ?_
          refine q_getR (f := 0) (pc := 75) dQ_touch_75 lay_0 (by decide) rfl (by decide) fl_Q10 rfl rfl ?_
          rw [hd]
          refine q_callV1 (pc := 78) dQ_touch_78 ((ct_G_serves hg hd2 I)) cd_G_serves in_G_serves se_G_serves ml_Q215 (s_gp L _ hg) (by decide) rfl rfl (Nat.le_of_ble_eq_true rfl) ⟨by decide, by decide⟩ ⟨by decide, by decide⟩ rfl ?_
          refine q_if_ne (tgt := 87) (pc := 81) dQ_touch_81 (by decide) (fun h81 => ?_) (fun h81 => ?_)
          · refine q_aload_n (pc := 87) dQ_touch_87 rfl ?_
            refine q_getR (f := 3) (pc := 88) dQ_touch_88 lay_0 (by decide) rfl (by decide) fl_Q35 rfl rfl ?_
            refine q_callV1 (pc := 91) dQ_touch_91 ((ct_H_isFull I)) cd_H_isFull in_H_isFull se_H_isFull ml_Q251 rfl (by decide) rfl rfl (Nat.le_of_ble_eq_true rfl) ⟨by decide, by decide⟩ ⟨by decide, by decide⟩ rfl ?_
            refine q_if_eq (tgt := 105) (pc := 94) dQ_touch_94 (by decide) (fun h94 => ?_) (fun h94 => ?_)
            · exact absurd h50' (of_decide_eq_false (bi_eq h94))
            · have h9 := hle (pmg I n o k 0)
              refine q_aload_n (pc := 97) dQ_touch_97 rfl ?_
              refine q_getR (f := 3) (pc := 98) dQ_touch_98 lay_0 (by decide) rfl (by decide) fl_Q35 rfl rfl ?_
              refine q_iload_n (pc := 101) dQ_touch_101 rfl ?_
              refine q_callV0 (pc := 102) dQ_touch_102 ((ct_H_remove _ I hk hk2)) cd_H_remove in_H_remove se_H_remove ml_Q239 rfl (by decide) rfl rfl (Nat.le_of_ble_eq_true rfl) ⟨by decide, by decide⟩ ⟨by decide, by decide⟩ rfl ?_
              refine q_aload_n (pc := 105) dQ_touch_105 rfl ?_
              refine q_getR (f := 3) (pc := 106) dQ_touch_106 lay_0 (by decide) rfl (by decide) fl_Q35 rfl rfl ?_
              refine q_iload_n (pc := 109) dQ_touch_109 rfl ?_
              refine q_callV0 (pc := 110) dQ_touch_110 ((ct_H_append p _ hrem_k (by omega))) cd_H_append in_H_append se_H_append ml_Q242 rfl (by decide) rfl rfl (Nat.le_of_ble_eq_true rfl) ⟨by decide, by decide⟩ ⟨by decide, by decide⟩ rfl ?_
              refine q_iconst (pc := 113) dQ_touch_113 (by decide) ?_
              refine q_iret rfl (pc := 114) dQ_touch_114 ?_
              refine rP_of ?_
              unfold qtch
              rw [if_neg (by omega), if_neg (by omega), if_neg (by rw [bi_ne h81]; decide), if_pos (by omega)]
          · refine q_bipush (pc := 84) dQ_touch_84 (by decide) (by decide) ?_
            refine q_iret rfl (pc := 86) dQ_touch_86 ?_
            refine rP_of ?_
            unfold qtch
            rw [if_neg (by omega), if_neg (by omega), if_pos (bi_eq h81)]
        · refine q_bipush (pc := 58) dQ_touch_58 (by decide) (by decide) ?_
          refine q_iret rfl (pc := 60) dQ_touch_60 ?_
          refine rP_of ?_
          unfold qtch
          rw [if_neg (by omega), if_pos (Or.inr ⟨by omega, h55⟩)]
  · have h9 := hle p
    refine q_aload_n (pc := 11) dQ_touch_11 rfl ?_
    refine q_getR (f := 3) (pc := 12) dQ_touch_12 lay_0 (by decide) rfl (by decide) fl_Q35 rfl rfl ?_
    refine q_iload_n (pc := 15) dQ_touch_15 rfl ?_
    refine q_callV0 (pc := 16) dQ_touch_16 ((ct_H_remove _ I hk hk2)) cd_H_remove in_H_remove se_H_remove ml_Q239 rfl (by decide) rfl rfl (Nat.le_of_ble_eq_true rfl) ⟨by decide, by decide⟩ ⟨by decide, by decide⟩ rfl ?_
    refine q_aload_n (pc := 19) dQ_touch_19 rfl ?_
    refine q_getR (f := 3) (pc := 20) dQ_touch_20 lay_0 (by decide) rfl (by decide) fl_Q35 rfl rfl ?_
    refine q_iload_n (pc := 23) dQ_touch_23 rfl ?_
    refine q_callV0 (pc := 24) dQ_touch_24 ((ct_H_append p _ hrem_k (by omega))) cd_H_append in_H_append se_H_append ml_Q242 rfl (by decide) rfl rfl (Nat.le_of_ble_eq_true rfl) ⟨by decide, by decide⟩ ⟨by decide, by decide⟩ rfl ?_
    refine q_iconst (pc := 27) dQ_touch_27 (by decide) ?_
    refine q_iret rfl (pc := 28) dQ_touch_28 ?_
    refine rP_of ?_
    unfold qtch
    rw [if_pos (by omega)]
def qcm (I : qI) (l : Nat) : Bool := decide ((l : Int) ≤ if I 7 l = 0 then gqp I 0 6 else gqp I 1 6)
theorem lp_Q_completePoint {L n : Nat} (I : qI) (hn : I 2 6 = (n : Int)) (hn2 : n ≤ 187) : ∀ f l, l + f = n → qE M_Q_completePoint 2 25 [some (.inr (some 1)), some (.inl (gqp I 0 6)), some (.inl (gqp I 1 6)), some (.inl ((l : Nat) : Int)), some (.inl ((l + 1 : Nat) : Int))] [] L I (rI (qp (qcm I) f l : Nat) L I) := by
  intro f
  induction f with
  | zero =>
    intro l hl
    refine q_iload (pc := 25) dQ_completePoint_25 rfl ?_
    refine q_aload_n (pc := 27) dQ_completePoint_27 rfl ?_
    refine q_getR (f := 0) (pc := 28) dQ_completePoint_28 lay_0 (by decide) rfl (by decide) fl_Q10 rfl rfl ?_
    refine q_getI (f := 6) (pc := 31) dQ_completePoint_31 lay_1 (by decide) rfl (by decide) fl_Q55 rfl rfl ?_
    refine q_icmp_gt (tgt := 72) (pc := 34) dQ_completePoint_34 (by decide) (fun h34 => ?_) (fun h34 => ?_)
    · refine q_iload_n (pc := 72) dQ_completePoint_72 rfl ?_
      refine q_iret rfl (pc := 73) dQ_completePoint_73 ?_
      exact ⟨rfl, rfl, rfl⟩
    · omega
  | succ f ih =>
    intro l hl
    refine q_iload (pc := 25) dQ_completePoint_25 rfl ?_
    refine q_aload_n (pc := 27) dQ_completePoint_27 rfl ?_
    refine q_getR (f := 0) (pc := 28) dQ_completePoint_28 lay_0 (by decide) rfl (by decide) fl_Q10 rfl rfl ?_
    refine q_getI (f := 6) (pc := 31) dQ_completePoint_31 lay_1 (by decide) rfl (by decide) fl_Q55 rfl rfl ?_
    refine q_icmp_gt (tgt := 72) (pc := 34) dQ_completePoint_34 (by decide) (fun h34 => ?_) (fun h34 => ?_)
    · omega
    · refine q_iload (pc := 37) dQ_completePoint_37 rfl ?_
      refine q_aload_n (pc := 39) dQ_completePoint_39 rfl ?_
      refine q_getR (f := 0) (pc := 40) dQ_completePoint_40 lay_0 (by decide) rfl (by decide) fl_Q10 rfl rfl ?_
      refine q_getR (f := 4) (pc := 43) dQ_completePoint_43 lay_1 (by decide) rfl (by decide) fl_Q120 rfl rfl ?_
      refine q_iload (pc := 46) dQ_completePoint_46 rfl ?_
      refine q_iald (i := (l + 1)) (pc := 48) dQ_completePoint_48 rfl rfl (by omega) rfl ?_
      refine q_if_ne (tgt := 56) (pc := 49) dQ_completePoint_49 (by decide) (fun h49 => ?_) (fun h49 => ?_)
      · refine q_iload_n (pc := 56) dQ_completePoint_56 rfl ?_
        refine q_icmp_le (tgt := 63) (pc := 57) dQ_completePoint_57 (by decide) (fun h57 => ?_) (fun h57 => ?_)
        · refine q_iload (pc := 63) dQ_completePoint_63 rfl ?_
          refine q_istore_n (pc := 65) dQ_completePoint_65 (by decide) ?_
          refine q_iinc (pc := 66) dQ_completePoint_66 rfl (by decide) rfl ⟨by omega, by omega⟩ ?_
          refine q_goto (tgt := 25) (pc := 69) dQ_completePoint_69 (by decide) ?_
          have e : qp (qcm I) (f + 1) l = qp (qcm I) f (l + 1) := by
            rw [qp, if_pos (by unfold qcm; rw [if_neg h49, decide_eq_true h57])]
          rw [e]
          exact ih (l + 1) (by omega)
        · refine q_goto (tgt := 72) (pc := 60) dQ_completePoint_60 (by decide) ?_
          refine q_iload_n (pc := 72) dQ_completePoint_72 rfl ?_
          refine q_iret rfl (pc := 73) dQ_completePoint_73 ?_
          exact ⟨by rw [qp, if_neg (by unfold qcm; rw [if_neg h49, decide_eq_false h57]; decide)], rfl, rfl⟩
      · refine q_iload_n (pc := 52) dQ_completePoint_52 rfl ?_
        refine q_goto (tgt := 57) (pc := 53) dQ_completePoint_53 (by decide) ?_
        refine q_icmp_le (tgt := 63) (pc := 57) dQ_completePoint_57 (by decide) (fun h57 => ?_) (fun h57 => ?_)
        · refine q_iload (pc := 63) dQ_completePoint_63 rfl ?_
          refine q_istore_n (pc := 65) dQ_completePoint_65 (by decide) ?_
          refine q_iinc (pc := 66) dQ_completePoint_66 rfl (by decide) rfl ⟨by omega, by omega⟩ ?_
          refine q_goto (tgt := 25) (pc := 69) dQ_completePoint_69 (by decide) ?_
          have e : qp (qcm I) (f + 1) l = qp (qcm I) f (l + 1) := by
            rw [qp, if_pos (by unfold qcm; rw [if_pos h49, decide_eq_true h57])]
          rw [e]
          exact ih (l + 1) (by omega)
        · refine q_goto (tgt := 72) (pc := 60) dQ_completePoint_60 (by decide) ?_
          refine q_iload_n (pc := 72) dQ_completePoint_72 rfl ?_
          refine q_iret rfl (pc := 73) dQ_completePoint_73 ?_
          exact ⟨by rw [qp, if_neg (by unfold qcm; rw [if_pos h49, decide_eq_false h57]; decide)], rfl, rfl⟩
theorem ct_Q_completePoint {L n : Nat} (I : qI) (hn : I 2 6 = (n : Int)) (hn2 : n ≤ 187) : qT M_Q_completePoint 2 [.inr (some 1)] L I (rI (qp (qcm I) n 0 : Nat) L I) := by
  refine q_enter (by decide) (Nat.le_of_ble_eq_true rfl) ?_
  refine q_aload_n (pc := 0) dQ_completePoint_0 rfl ?_
  refine q_getR (f := 2) (pc := 1) dQ_completePoint_1 lay_0 (by decide) rfl (by decide) fl_Q25 rfl rfl ?_
  refine q_iconst (pc := 4) dQ_completePoint_4 (by decide) ?_
  refine q_aald (i := 0) (pc := 5) dQ_completePoint_5 ⟨by decide, by decide, rfl⟩ (s_gs L) rfl (by omega) (v_gs 0 (by omega)) ?_
  refine q_callV1 (pc := 6) dQ_completePoint_6 ((ct_G_quorumPoint (g := 0) (by omega) I)) cd_G_quorumPoint in_G_quorumPoint se_G_quorumPoint ml_Q261 (s_gp L 0 (by omega)) (by decide) rfl rfl (Nat.le_of_ble_eq_true rfl) ⟨by decide, by decide⟩ ⟨by decide, by decide⟩ rfl ?_
  refine q_istore_n (pc := 9) dQ_completePoint_9 (by decide) ?_
  refine q_aload_n (pc := 10) dQ_completePoint_10 rfl ?_
  refine q_getR (f := 2) (pc := 11) dQ_completePoint_11 lay_0 (by decide) rfl (by decide) fl_Q25 rfl rfl ?_
  refine q_iconst (pc := 14) dQ_completePoint_14 (by decide) ?_
  refine q_aald (i := 1) (pc := 15) dQ_completePoint_15 ⟨by decide, by decide, rfl⟩ (s_gs L) rfl (by omega) (v_gs 1 (by omega)) ?_
  refine q_callV1 (pc := 16) dQ_completePoint_16 ((ct_G_quorumPoint (g := 1) (by omega) I)) cd_G_quorumPoint in_G_quorumPoint se_G_quorumPoint ml_Q261 (s_gp L 1 (by omega)) (by decide) rfl rfl (Nat.le_of_ble_eq_true rfl) ⟨by decide, by decide⟩ ⟨by decide, by decide⟩ rfl ?_
  refine q_istore_n (pc := 19) dQ_completePoint_19 (by decide) ?_
  refine q_iconst (pc := 20) dQ_completePoint_20 (by decide) ?_
  refine q_istore_n (pc := 21) dQ_completePoint_21 (by decide) ?_
  refine q_iconst (pc := 22) dQ_completePoint_22 (by decide) ?_
  refine q_istore (pc := 23) dQ_completePoint_23 (by decide) ?_
  exact lp_Q_completePoint I hn hn2 n 0 (by omega)
def qrs (I : qI) (n : Nat) : qI := q_up I 1 6 (qmax (I 1 6) (ql (lcl I) (qp (qcm I) n 0) : Nat))
theorem ct_Q_raiseDurable {L n : Nat} (I : qI) (hn : I 2 6 = (n : Int)) (hn2 : n ≤ 187) : qT M_Q_raiseDurable 3 [.inr (some 1)] L I (rV L (qrs I n)) := by
  refine q_enter (by decide) (Nat.le_of_ble_eq_true rfl) ?_
  have h1 := qp_le (qcm I) n 0
  refine q_aload_n (pc := 0) dQ_raiseDurable_0 rfl ?_
  refine q_aload_n (pc := 1) dQ_raiseDurable_1 rfl ?_
  refine q_getI (f := 6) (pc := 2) dQ_raiseDurable_2 lay_0 (by decide) rfl (by decide) fl_Q47 rfl rfl ?_
  refine q_aload_n (pc := 5) dQ_raiseDurable_5 rfl ?_
  refine q_getR (f := 0) (pc := 6) dQ_raiseDurable_6 lay_0 (by decide) rfl (by decide) fl_Q10 rfl rfl ?_
  refine q_aload_n (pc := 9) dQ_raiseDurable_9 rfl ?_
  refine q_callV1 (pc := 10) dQ_raiseDurable_10 ((ct_Q_completePoint I hn hn2)) cd_Q_completePoint in_Q_completePoint se_Q_completePoint ml_Q196 rfl (by decide) rfl rfl (Nat.le_of_ble_eq_true rfl) ⟨by decide, by decide⟩ ⟨by decide, by decide⟩ rfl ?_
  refine q_callV1 (pc := 13) dQ_raiseDurable_13 ((ct_L_lastCloseUpTo I (by omega))) cd_L_lastCloseUpTo in_L_lastCloseUpTo se_L_lastCloseUpTo ml_Q178 rfl (by decide) rfl rfl (Nat.le_of_ble_eq_true rfl) ⟨by decide, by decide⟩ ⟨by decide, by decide⟩ rfl ?_
  refine q_max (pc := 16) dQ_raiseDurable_16 mw_Q264 mx_1 mt_0 mx_2 ⟨by decide, by decide⟩ ⟨by decide, by decide⟩ (Nat.le_of_ble_eq_true rfl) ?_
  refine q_putI (f := 6) (pc := 19) dQ_raiseDurable_19 lay_0 typ_0 (by decide) rfl (by decide) fl_Q47 rfl (Or.inl rfl) (Or.inl rfl) rfl ?_
  refine q_vret rfl (pc := 22) dQ_raiseDurable_22 ?_
  exact ⟨rfl, rfl, rfl⟩
