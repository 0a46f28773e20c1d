/-! The system's own methods, fourth part: copies, faults, recovery. -/
/-- the ends behind m go, of 1 .. t - 1 -/
def lct (I : qI) (m t : Nat) : qI := fun a j => if a = 8 ∧ 1 ≤ j ∧ j < t ∧ (m : Int) < I 8 j then 0 else I a j
theorem lct_up {I : qI} {m t : Nat} (h1 : 1 ≤ t) (h : (m : Int) < I 8 t) : q_up (lct I m t) 8 t 0 = lct I m (t + 1) := by
  funext a j
  unfold q_up lct
  by_cases ha : a = 8
  · by_cases hj : j = t
    · subst hj; simp [ha, h, h1]
    · have : (j < t + 1) = (j < t) := by apply propext; omega
      simp [ha, hj, this]
  · simp [ha]
theorem lct_no {I : qI} {m t : Nat} (h : ¬ (m : Int) < I 8 t) : lct I m (t + 1) = lct I m t := by
  funext a j
  unfold lct
  by_cases hj : j = t
  · subst hj; simp [h]
  · have : (j < t + 1) = (j < t) := by apply propext; omega
    simp only [this]
theorem lct_t {I : qI} {m t : Nat} : lct I m t 8 t = I 8 t := by simp [lct]
theorem lct_off {I : qI} {m t a : Nat} (h : a ≠ 8) : lct I m t a = I a := by funext j; simp [lct, h]
theorem lp_L_cutAfter {L m : Nat} (I : qI) (hm : I 2 6 = (m : Int)) : ∀ f t, t + f = 61 → 1 ≤ t → qE M_L_cutAfter 1 14 [some (.inr (some 2)), some (.inl ((m : Nat) : Int)), some (.inl ((t : Nat) : Int))] [] L (lct I m t) (rV L (lct I m 61)) := by
  intro f
  induction f with
  | zero =>
    intro t ht h1
    refine q_iload_n (pc := 14) dL_cutAfter_14 rfl ?_
    refine q_bipush (pc := 15) dL_cutAfter_15 (by decide) (by decide) ?_
    refine q_icmp_gt (tgt := 46) (pc := 17) dL_cutAfter_17 (by decide) (fun h17 => ?_) (fun h17 => ?_)
    · refine q_vret rfl (pc := 46) dL_cutAfter_46 ?_
      exact ⟨rfl, rfl, by rw [show t = 61 by omega]⟩
    · omega
  | succ f ih =>
    intro t ht h1
    have e : lct I m t 2 6 = (m : Int) := by rw [lct_off (by decide)]; exact hm
    refine q_iload_n (pc := 14) dL_cutAfter_14 rfl ?_
    refine q_bipush (pc := 15) dL_cutAfter_15 (by decide) (by decide) ?_
    refine q_icmp_gt (tgt := 46) (pc := 17) dL_cutAfter_17 (by decide) (fun h17 => ?_) (fun h17 => ?_)
    · omega
    · refine q_aload_n (pc := 20) dL_cutAfter_20 rfl ?_
      refine q_getR (f := 5) (pc := 21) dL_cutAfter_21 lay_1 (by decide) rfl (by decide) fl_L27 rfl rfl ?_
      refine q_iload_n (pc := 24) dL_cutAfter_24 rfl ?_
      refine q_iald (i := t) (pc := 25) dL_cutAfter_25 rfl rfl (by omega) rfl ?_
      refine q_aload_n (pc := 26) dL_cutAfter_26 rfl ?_
      refine q_getI (f := 6) (pc := 27) dL_cutAfter_27 lay_1 (by decide) rfl (by decide) fl_L30 rfl rfl ?_
      refine q_icmp_le (tgt := 40) (pc := 30) dL_cutAfter_30 (by decide) (fun h30 => ?_) (fun h30 => ?_)
      · rw [lct_t, e] at h30
        refine q_iinc (pc := 40) dL_cutAfter_40 rfl (by decide) rfl ⟨by omega, by omega⟩ ?_
        refine q_goto (tgt := 14) (pc := 43) dL_cutAfter_43 (by decide) ?_
        rw [← lct_no (by omega)]
        exact ih (t + 1) (by omega) (by omega)
      · rw [lct_t, e] at h30
        refine q_aload_n (pc := 33) dL_cutAfter_33 rfl ?_
        refine q_getR (f := 5) (pc := 34) dL_cutAfter_34 lay_1 (by decide) rfl (by decide) fl_L27 rfl rfl ?_
        refine q_iload_n (pc := 37) dL_cutAfter_37 rfl ?_
        refine q_iconst (pc := 38) dL_cutAfter_38 (by decide) ?_
        refine q_iast (i := t) (pc := 39) dL_cutAfter_39 rfl rfl (by omega) rfl ?_
        refine q_iinc (pc := 40) dL_cutAfter_40 rfl (by decide) rfl ⟨by omega, by omega⟩ ?_
        refine q_goto (tgt := 14) (pc := 43) dL_cutAfter_43 (by decide) ?_
        rw [lct_up h1 (by omega)]
        exact ih (t + 1) (by omega) (by omega)
def lcut (I : qI) (m : Nat) : qI := lct (q_up I 2 6 m) m 61
theorem ct_L_cutAfter {L n m : Nat} (I : qI) (hn : I 2 6 = (n : Int)) (hm : m ≤ n) : qT M_L_cutAfter 1 [.inr (some 2), .inl ((m : Nat) : Int)] L I (rV L (lcut I m)) := by
  refine q_enter (by decide) (Nat.le_of_ble_eq_true rfl) ?_
  refine q_aload_n (pc := 0) dL_cutAfter_0 rfl ?_
  refine q_aload_n (pc := 1) dL_cutAfter_1 rfl ?_
  refine q_getI (f := 6) (pc := 2) dL_cutAfter_2 lay_1 (by decide) rfl (by decide) fl_L30 rfl rfl ?_
  refine q_iload_n (pc := 5) dL_cutAfter_5 rfl ?_
  refine q_min (pc := 6) dL_cutAfter_6 mw_L65 mn_1 mt_0 mn_2 ⟨by decide, by decide⟩ ⟨by decide, by decide⟩ (Nat.le_of_ble_eq_true rfl) ?_
  rw [show (if ((m : Nat) : Int) < I 2 6 then ((m : Nat) : Int) else I 2 6) = (m : Int) by split <;> omega]
  refine q_putI (f := 6) (pc := 9) dL_cutAfter_9 lay_1 typ_1 (by decide) rfl (by decide) fl_L30 rfl (Or.inl rfl) (Or.inl rfl) rfl ?_
  refine q_iconst (pc := 12) dL_cutAfter_12 (by decide) ?_
  refine q_istore_n (pc := 13) dL_cutAfter_13 (by decide) ?_
  have e : q_up I 2 6 (m : Int) = lct (q_up I 2 6 m) m 1 := by
    funext a j
    unfold lct
    rw [if_neg (by omega)]
  have h := lp_L_cutAfter (L := L) (m := m) (q_up I 2 6 m) (by simp [q_up]) 60 1 (by omega) (by omega)
  rw [← e] at h
  exact h
def qlr (I : qI) (l : Nat) : Bool := qe (glh I (I 7 l).toNat l) 6
theorem lp_Q_reachOfLiveCopies {L n : Nat} (I : qI) (hn : I 2 6 = (n : Int)) (hn2 : n ≤ 187) (hg : ∀ l, 1 ≤ l → l ≤ n → ∃ g : Nat, g < 2 ∧ I 7 l = (g : Int)) : ∀ f l, l + f = n → qE M_Q_reachOfLiveCopies 2 4 [some (.inr (some 1)), some (.inl ((l : Nat) : Int)), some (.inl ((l + 1 : Nat) : Int))] [] L I (rI (qp (qlr I) f l : Nat) L I) := by
  intro f
  induction f with
  | zero =>
    intro l hl
    refine q_iload_n (pc := 4) dQ_reachOfLiveCopies_4 rfl ?_
    refine q_aload_n (pc := 5) dQ_reachOfLiveCopies_5 rfl ?_
    refine q_getR (f := 0) (pc := 6) dQ_reachOfLiveCopies_6 lay_0 (by decide) rfl (by decide) fl_Q10 rfl rfl ?_
    refine q_getI (f := 6) (pc := 9) dQ_reachOfLiveCopies_9 lay_1 (by decide) rfl (by decide) fl_Q55 rfl rfl ?_
    refine q_icmp_gt (tgt := 47) (pc := 12) dQ_reachOfLiveCopies_12 (by decide) (fun h12 => ?_) (fun h12 => ?_)
    · refine q_iload_n (pc := 47) dQ_reachOfLiveCopies_47 rfl ?_
      refine q_iret rfl (pc := 48) dQ_reachOfLiveCopies_48 ?_
      exact ⟨rfl, rfl, rfl⟩
    · omega
  | succ f ih =>
    intro l hl
    obtain ⟨g, hg1, hg2⟩ := hg (l + 1) (by omega) (by omega)
    have eg : (I 7 (l + 1)).toNat = g := by rw [hg2]; rfl
    refine q_iload_n (pc := 4) dQ_reachOfLiveCopies_4 rfl ?_
    refine q_aload_n (pc := 5) dQ_reachOfLiveCopies_5 rfl ?_
    refine q_getR (f := 0) (pc := 6) dQ_reachOfLiveCopies_6 lay_0 (by decide) rfl (by decide) fl_Q10 rfl rfl ?_
    refine q_getI (f := 6) (pc := 9) dQ_reachOfLiveCopies_9 lay_1 (by decide) rfl (by decide) fl_Q55 rfl rfl ?_
    refine q_icmp_gt (tgt := 47) (pc := 12) dQ_reachOfLiveCopies_12 (by decide) (fun h12 => ?_) (fun h12 => ?_)
    · omega
    · refine q_aload_n (pc := 15) dQ_reachOfLiveCopies_15 rfl ?_
      refine q_getR (f := 2) (pc := 16) dQ_reachOfLiveCopies_16 lay_0 (by decide) rfl (by decide) fl_Q25 rfl rfl ?_
      refine q_aload_n (pc := 19) dQ_reachOfLiveCopies_19 rfl ?_
      refine q_getR (f := 0) (pc := 20) dQ_reachOfLiveCopies_20 lay_0 (by decide) rfl (by decide) fl_Q10 rfl rfl ?_
      refine q_getR (f := 4) (pc := 23) dQ_reachOfLiveCopies_23 lay_1 (by decide) rfl (by decide) fl_Q120 rfl rfl ?_
      refine q_iload_n (pc := 26) dQ_reachOfLiveCopies_26 rfl ?_
      refine q_iald (i := (l + 1)) (pc := 27) dQ_reachOfLiveCopies_27 rfl rfl (by omega) rfl ?_
      rw [hg2]
      refine q_aald (i := g) (pc := 28) dQ_reachOfLiveCopies_28 ⟨by decide, by decide, rfl⟩ (s_gs L) rfl (by omega) (v_gs _ hg1) ?_
      refine q_iload_n (pc := 29) dQ_reachOfLiveCopies_29 rfl ?_
      refine q_callV1 (pc := 30) dQ_reachOfLiveCopies_30 ((ct_G_liveCopyHolds (l := l + 1) hg1 (by omega) I)) cd_G_liveCopyHolds in_G_liveCopyHolds se_G_liveCopyHolds ml_Q267 (s_gp L _ hg1) (by decide) rfl rfl (Nat.le_of_ble_eq_true rfl) ⟨by decide, by decide⟩ ⟨by decide, by decide⟩ rfl ?_
      refine q_if_ne (tgt := 39) (pc := 33) dQ_reachOfLiveCopies_33 (by decide) (fun h33 => ?_) (fun h33 => ?_)
      · refine q_iload_n (pc := 39) dQ_reachOfLiveCopies_39 rfl ?_
        refine q_istore_n (pc := 40) dQ_reachOfLiveCopies_40 (by decide) ?_
        refine q_iinc (pc := 41) dQ_reachOfLiveCopies_41 rfl (by decide) rfl ⟨by omega, by omega⟩ ?_
        refine q_goto (tgt := 4) (pc := 44) dQ_reachOfLiveCopies_44 (by decide) ?_
        have e : qp (qlr I) (f + 1) l = qp (qlr I) f (l + 1) := by
          rw [qp, if_pos (by unfold qlr; rw [eg]; exact bi_ne h33)]
        rw [e]
        exact ih (l + 1) (by omega)
      · refine q_goto (tgt := 47) (pc := 36) dQ_reachOfLiveCopies_36 (by decide) ?_
        refine q_iload_n (pc := 47) dQ_reachOfLiveCopies_47 rfl ?_
        refine q_iret rfl (pc := 48) dQ_reachOfLiveCopies_48 ?_
        exact ⟨by rw [qp, if_neg (by unfold qlr; rw [eg, bi_eq h33]; decide)], rfl, rfl⟩
theorem ct_Q_reachOfLiveCopies {L n : Nat} (I : qI) (hn : I 2 6 = (n : Int)) (hn2 : n ≤ 187) (hg : ∀ l, 1 ≤ l → l ≤ n → ∃ g : Nat, g < 2 ∧ I 7 l = (g : Int)) : qT M_Q_reachOfLiveCopies 2 [.inr (some 1)] L I (rI (qp (qlr I) n 0 : Nat) L I) := by
  refine q_enter (by decide) (Nat.le_of_ble_eq_true rfl) ?_
  refine q_iconst (pc := 0) dQ_reachOfLiveCopies_0 (by decide) ?_
  refine q_istore_n (pc := 1) dQ_reachOfLiveCopies_1 (by decide) ?_
  refine q_iconst (pc := 2) dQ_reachOfLiveCopies_2 (by decide) ?_
  refine q_istore_n (pc := 3) dQ_reachOfLiveCopies_3 (by decide) ?_
  exact lp_Q_reachOfLiveCopies I hn hn2 hg n 0 (by omega)
/-- the unended are rolled back, f of them from t on -/
def lru1 (I : qI) (t : Nat) : qI := if I 8 t = 0 ∧ qf (lch I t) (nN I) 1 ≠ 0 then lroll I t else I
def lru : Nat → Nat → qI → qI
  | 0, _, I => I
  | f + 1, t, I => lru f (t + 1) (lru1 I t)
theorem lend_n {I : qI} {n t : Nat} {z : Int} : lend I n t z 2 6 = ((n + 1 : Nat) : Int) := by
  unfold lend
  rw [q_up_off 2 (by decide), ladd_n]
theorem lru1_n {I : qI} {t n : Nat} (h : I 2 6 = (n : Int)) : ∃ m : Nat, n ≤ m ∧ lru1 I t 2 6 = (m : Int) := by
  unfold lru1
  split
  · obtain ⟨m, h1, h2⟩ := lrb_n (t := t) (f := 32) (k := 0) h
    exact ⟨m + 1, by omega, by unfold lroll; rw [lend_n, nN_of h2]⟩
  · exact ⟨n, by omega, h⟩
theorem lru_n : ∀ {f t : Nat} {I : qI} {n : Nat}, I 2 6 = (n : Int) → ∃ m : Nat, n ≤ m ∧ lru f t I 2 6 = (m : Int)
  | 0, t, I, n, h => ⟨n, by omega, h⟩
  | f + 1, t, I, n, h => by
    obtain ⟨m, h1, h3⟩ := lru1_n (t := t) h
    obtain ⟨m', h4, h5⟩ := lru_n (f := f) (t := t + 1) h3
    exact ⟨m', by omega, h5⟩
theorem ladd_T {I : qI} {n a : Nat} {kd t k v g : Int} (h : a ≠ 2 ∧ a ≠ 3 ∧ a ≠ 4 ∧ a ≠ 5 ∧ a ≠ 6 ∧ a ≠ 7) : ladd I n kd t k v g a = I a := by
  unfold ladd
  rw [q_up_off a h.2.2.2.2.2, q_up_off a h.2.2.2.2.1, q_up_off a h.2.2.2.1, q_up_off a h.2.2.1, q_up_off a h.2.1, q_up_off a h.1]
theorem lend_T {I : qI} {n t a : Nat} {z : Int} (h : a ≠ 2 ∧ a ≠ 3 ∧ a ≠ 4 ∧ a ≠ 5 ∧ a ≠ 6 ∧ a ≠ 7) (h8 : a ≠ 8) : lend I n t z a = I a := by
  unfold lend
  rw [q_up_off a h8, ladd_T h]
theorem lrb1_T {I : qI} {t k a : Nat} (h : a ≠ 2 ∧ a ≠ 3 ∧ a ≠ 4 ∧ a ≠ 5 ∧ a ≠ 6 ∧ a ≠ 7) : lrb1 I t k a = I a := by
  unfold lrb1
  split
  · rfl
  · exact ladd_T h
theorem lrb_T {t a : Nat} (h : a ≠ 2 ∧ a ≠ 3 ∧ a ≠ 4 ∧ a ≠ 5 ∧ a ≠ 6 ∧ a ≠ 7) : ∀ {f k : Nat} {I : qI}, lrb t f k I a = I a
  | 0, k, I => rfl
  | f + 1, k, I => by
    show lrb t f (k + 1) (lrb1 I t k) a = I a
    rw [lrb_T h, lrb1_T h]
theorem lroll_T {I : qI} {t a : Nat} (h : a ≠ 2 ∧ a ≠ 3 ∧ a ≠ 4 ∧ a ≠ 5 ∧ a ≠ 6 ∧ a ≠ 7) (h8 : a ≠ 8) : lroll I t a = I a := by
  unfold lroll
  rw [lend_T h h8, lrb_T h]
theorem lru1_T {I : qI} {t a : Nat} (h : a ≠ 2 ∧ a ≠ 3 ∧ a ≠ 4 ∧ a ≠ 5 ∧ a ≠ 6 ∧ a ≠ 7) (h8 : a ≠ 8) : lru1 I t a = I a := by
  unfold lru1
  split
  · exact lroll_T h h8
  · rfl
theorem lru_T {a : Nat} (h : a ≠ 2 ∧ a ≠ 3 ∧ a ≠ 4 ∧ a ≠ 5 ∧ a ≠ 6 ∧ a ≠ 7) (h8 : a ≠ 8) : ∀ {f t : Nat} {I : qI}, lru f t I a = I a
  | 0, t, I => rfl
  | f + 1, t, I => by
    show lru f (t + 1) (lru1 I t) a = I a
    rw [lru_T h h8, lru1_T h h8]
theorem lp_Q_rollBackUnended {L T : Nat} (hT2 : T ≤ 60) : ∀ (f t : Nat) (I : qI) (n : Nat), I 2 6 = (n : Int) → I 9 2 = (T : Int) → t + f = T + 1 → 1 ≤ t → (lru f t I) 2 6 ≤ 187 → qE M_Q_rollBackUnended 3 2 [some (.inr (some 1)), some (.inl ((t : Nat) : Int))] [] L I (rV L (lru f t I)) := by
  intro f
  induction f with
  | zero =>
    intro t I n hn hT ht h1 hB
    refine q_iload_n (pc := 2) dQ_rollBackUnended_2 rfl ?_
    refine q_aload_n (pc := 3) dQ_rollBackUnended_3 rfl ?_
    refine q_getR (f := 1) (pc := 4) dQ_rollBackUnended_4 lay_0 (by decide) rfl (by decide) fl_Q19 rfl rfl ?_
    refine q_getI (f := 2) (pc := 7) dQ_rollBackUnended_7 lay_2 (by decide) rfl (by decide) fl_Q105 rfl rfl ?_
    refine q_icmp_gt (tgt := 51) (pc := 10) dQ_rollBackUnended_10 (by decide) (fun h10 => ?_) (fun h10 => ?_)
    · refine q_vret rfl (pc := 51) dQ_rollBackUnended_51 ?_
      exact ⟨rfl, rfl, rfl⟩
    · omega
  | succ f ih =>
    intro t I n hn hT ht h1 hB
    have hB' : (lru f (t + 1) (lru1 I t)) 2 6 ≤ 187 := hB
    obtain ⟨m, h4, h5⟩ := lru1_n (t := t) hn
    obtain ⟨m', h6, h7⟩ := lru_n (f := f) (t := t + 1) h5
    refine q_iload_n (pc := 2) dQ_rollBackUnended_2 rfl ?_
    refine q_aload_n (pc := 3) dQ_rollBackUnended_3 rfl ?_
    refine q_getR (f := 1) (pc := 4) dQ_rollBackUnended_4 lay_0 (by decide) rfl (by decide) fl_Q19 rfl rfl ?_
    refine q_getI (f := 2) (pc := 7) dQ_rollBackUnended_7 lay_2 (by decide) rfl (by decide) fl_Q105 rfl rfl ?_
    refine q_icmp_gt (tgt := 51) (pc := 10) dQ_rollBackUnended_10 (by decide) (fun h10 => ?_) (fun h10 => ?_)
    · omega
    · refine q_aload_n (pc := 13) dQ_rollBackUnended_13 rfl ?_
      refine q_getR (f := 0) (pc := 14) dQ_rollBackUnended_14 lay_0 (by decide) rfl (by decide) fl_Q10 rfl rfl ?_
      refine q_getR (f := 5) (pc := 17) dQ_rollBackUnended_17 lay_1 (by decide) rfl (by decide) fl_Q111 rfl rfl ?_
      refine q_iload_n (pc := 20) dQ_rollBackUnended_20 rfl ?_
      refine q_iald (i := t) (pc := 21) dQ_rollBackUnended_21 rfl rfl (by omega) rfl ?_
      refine q_if_ne (tgt := 45) (pc := 22) dQ_rollBackUnended_22 (by decide) (fun h22 => ?_) (fun h22 => ?_)
      · refine q_iinc (pc := 45) dQ_rollBackUnended_45 rfl (by decide) rfl ⟨by omega, by omega⟩ ?_
        refine q_goto (tgt := 2) (pc := 48) dQ_rollBackUnended_48 (by decide) ?_
        have e : lru1 I t = I := by unfold lru1; rw [if_neg (fun z => h22 z.1)]
        have e2 : lru (f + 1) t I = lru f (t + 1) I := by show lru f (t + 1) (lru1 I t) = _; rw [e]
        rw [e2]
        rw [e] at hB'
        exact ih (t + 1) I n hn hT (by omega) (by omega) hB'
      · refine q_aload_n (pc := 25) dQ_rollBackUnended_25 rfl ?_
        refine q_getR (f := 0) (pc := 26) dQ_rollBackUnended_26 lay_0 (by decide) rfl (by decide) fl_Q10 rfl rfl ?_
        refine q_iload_n (pc := 29) dQ_rollBackUnended_29 rfl ?_
        refine q_callV1 (pc := 30) dQ_rollBackUnended_30 ((ct_L_hasChangeOf t I hn (by omega))) cd_L_hasChangeOf in_L_hasChangeOf se_L_hasChangeOf ml_Q270 rfl (by decide) rfl rfl (Nat.le_of_ble_eq_true rfl) ⟨by decide, by decide⟩ ⟨by decide, by decide⟩ rfl ?_
        refine q_if_eq (tgt := 45) (pc := 33) dQ_rollBackUnended_33 (by decide) (fun h33 => ?_) (fun h33 => ?_)
        · have h33' := of_decide_eq_false (bi_eq h33)
          refine q_iinc (pc := 45) dQ_rollBackUnended_45 rfl (by decide) rfl ⟨by omega, by omega⟩ ?_
          refine q_goto (tgt := 2) (pc := 48) dQ_rollBackUnended_48 (by decide) ?_
          have e : lru1 I t = I := by unfold lru1; rw [if_neg (fun z => h33' (by rw [← nN_of hn]; exact z.2))]
          have e2 : lru (f + 1) t I = lru f (t + 1) I := by show lru f (t + 1) (lru1 I t) = _; rw [e]
          rw [e2]
          rw [e] at hB'
          exact ih (t + 1) I n hn hT (by omega) (by omega) hB'
        · have h33' := of_decide_eq_true (bi_ne h33)
          have e : lru1 I t = lroll I t := by unfold lru1; rw [if_pos ⟨h22, by rw [nN_of hn]; exact h33'⟩]
          have e2 : lru (f + 1) t I = lru f (t + 1) (lroll I t) := by show lru f (t + 1) (lru1 I t) = _; rw [e]
          rw [e] at hB' h5 h7
          have hr : (lrb t 32 0 I) 2 6 ≤ 186 := by
            obtain ⟨q, hq1, hq2⟩ := lrb_n (t := t) (f := 32) (k := 0) hn
            have : lroll I t 2 6 = ((q + 1 : Nat) : Int) := by unfold lroll; rw [lend_n, nN_of hq2]
            omega
          refine q_aload_n (pc := 36) dQ_rollBackUnended_36 rfl ?_
          refine q_getR (f := 0) (pc := 37) dQ_rollBackUnended_37 lay_0 (by decide) rfl (by decide) fl_Q10 rfl rfl ?_
          refine q_iload_n (pc := 40) dQ_rollBackUnended_40 rfl ?_
          refine q_callV1 (pc := 41) dQ_rollBackUnended_41 ((ct_L_rollBack (n := n) (by omega) I hn hr)) cd_L_rollBack in_L_rollBack se_L_rollBack ml_Q102 rfl (by decide) rfl rfl (Nat.le_of_ble_eq_true rfl) ⟨by decide, by decide⟩ ⟨by decide, by decide⟩ rfl ?_
          refine q_pop (pc := 44) dQ_rollBackUnended_44 ?_
          refine q_iinc (pc := 45) dQ_rollBackUnended_45 rfl (by decide) rfl ⟨by omega, by omega⟩ ?_
          refine q_goto (tgt := 2) (pc := 48) dQ_rollBackUnended_48 (by decide) ?_
          rw [e2]
          exact ih (t + 1) (lroll I t) m h5 (by rw [lroll_T (by decide) (by decide)]; exact hT) (by omega) (by omega) hB'
theorem ct_Q_rollBackUnended {L T n : Nat} (I : qI) (hn : I 2 6 = (n : Int)) (hT : I 9 2 = (T : Int)) (hT2 : T ≤ 60) (hB : (lru T 1 I) 2 6 ≤ 187) : qT M_Q_rollBackUnended 3 [.inr (some 1)] L I (rV L (lru T 1 I)) := by
  refine q_enter (by decide) (Nat.le_of_ble_eq_true rfl) ?_
  refine q_iconst (pc := 0) dQ_rollBackUnended_0 (by decide) ?_
  refine q_istore_n (pc := 1) dQ_rollBackUnended_1 (by decide) ?_
  exact lp_Q_rollBackUnended hT2 T 1 I n hn hT (by omega) (by omega) hB
theorem ct_Q_deliver0 {L n T k d : Nat} {l c : Int} (I : qI) (h : cw I n T k d) (h0 : ¬ ((1 ≤ l ∧ l ≤ (n : Int)) ∧ 0 ≤ c ∧ c < 6)) : qT M_Q_deliver 4 [.inr (some 1), .inl l, .inl c] L I (rI (-1) L I) := by
  obtain ⟨⟨hn, hn2⟩, -⟩ := h
  refine q_enter (by decide) (Nat.le_of_ble_eq_true rfl) ?_
  refine q_aload_n (pc := 0) dQ_deliver_0 rfl ?_
  refine q_getR (f := 0) (pc := 1) dQ_deliver_1 lay_0 (by decide) rfl (by decide) fl_Q10 rfl rfl ?_
  refine q_iload_n (pc := 4) dQ_deliver_4 rfl ?_
  refine q_callV1 (pc := 5) dQ_deliver_5 ((ct_L_has l I)) cd_L_has in_L_has se_L_has ml_Q117 rfl (by decide) rfl rfl (Nat.le_of_ble_eq_true rfl) ⟨by decide, by decide⟩ ⟨by decide, by decide⟩ rfl ?_
  refine q_if_eq (tgt := 21) (pc := 8) dQ_deliver_8 (by decide) (fun h8 => ?_) (fun h8 => ?_)
  · refine q_iconst (pc := 21) dQ_deliver_21 (by decide) ?_
    refine q_iret rfl (pc := 22) dQ_deliver_22 ?_
    exact ⟨rfl, rfl, rfl⟩
  · have h9 := of_decide_eq_true (bi_ne h8)
    refine q_iload_n (pc := 11) dQ_deliver_11 rfl ?_
    refine q_if_lt (tgt := 21) (pc := 12) dQ_deliver_12 (by decide) (fun h12 => ?_) (fun h12 => ?_)
    · refine q_iconst (pc := 21) dQ_deliver_21 (by decide) ?_
      refine q_iret rfl (pc := 22) dQ_deliver_22 ?_
      exact ⟨rfl, rfl, rfl⟩
    · refine q_iload_n (pc := 15) dQ_deliver_15 rfl ?_
      refine q_bipush (pc := 16) dQ_deliver_16 (by decide) (by decide) ?_
      refine q_icmp_lt (tgt := 23) (pc := 18) dQ_deliver_18 (by decide) (fun h18 => ?_) (fun h18 => ?_)
      · omega
      · refine q_iconst (pc := 21) dQ_deliver_21 (by decide) ?_
        refine q_iret rfl (pc := 22) dQ_deliver_22 ?_
        exact ⟨rfl, rfl, rfl⟩
/-- a copy tells its reach, and the durable point rises -/
def qtell (I : qI) (x n : Nat) : qI := qrs (q_up I (cp x) 4 (crc I x n : Nat)) n
theorem qup_cp {I : qI} {x j a : Nat} {v : Int} (h : x < 12) (ha : a < 15 ∨ 40 < a) : q_up I (cp x) j v a = I a := by
  have := cp_bd h
  exact q_up_off a (by omega)
theorem qup_hd {I : qI} {x j a : Nat} {v : Int} (h : x < 12) (ha : a < 15 ∨ 40 < a) : q_up I (cp x + 1) j v a = I a := by
  have := cp_bd h
  exact q_up_off a (by omega)
def aDeliver (I : qI) (n x l : Nat) : Int × qI :=
  if I (cp x) 2 = 0 then ((if I (cp x + 1) l = 0 then 2 else 1), if I 1 5 = 0 then q_up I (cp x + 1) l 1 else qtell (q_up I (cp x + 1) l 1) x n) else (0, I)
theorem ct_Q_deliver {L n T k d g c l : Nat} (I : qI) (h : cw I n T k d) (h1 : 1 ≤ l) (hl : l ≤ n) (hg : g < 2) (hc : c < 6) (hgl : I 7 l = (g : Int)) : qT M_Q_deliver 4 [.inr (some 1), .inl ((l : Nat) : Int), .inl ((c : Nat) : Int)] L I (rP (aDeliver I n (6 * g + c) l) L) := by
  obtain ⟨⟨hn, hn2⟩, -⟩ := h
  have hx : 6 * g + c < 12 := by omega
  refine q_enter (by decide) (Nat.le_of_ble_eq_true rfl) ?_
  refine q_aload_n (pc := 0) dQ_deliver_0 rfl ?_
  refine q_getR (f := 0) (pc := 1) dQ_deliver_1 lay_0 (by decide) rfl (by decide) fl_Q10 rfl rfl ?_
  refine q_iload_n (pc := 4) dQ_deliver_4 rfl ?_
  refine q_callV1 (pc := 5) dQ_deliver_5 ((ct_L_has l I)) cd_L_has in_L_has se_L_has ml_Q117 rfl (by decide) rfl rfl (Nat.le_of_ble_eq_true rfl) ⟨by decide, by decide⟩ ⟨by decide, by decide⟩ rfl ?_
  refine q_if_eq (tgt := 21) (pc := 8) dQ_deliver_8 (by decide) (fun h8 => ?_) (fun h8 => ?_)
  · have := of_decide_eq_false (bi_eq h8)
    omega
  · refine q_iload_n (pc := 11) dQ_deliver_11 rfl ?_
    refine q_if_lt (tgt := 21) (pc := 12) dQ_deliver_12 (by decide) (fun h12 => ?_) (fun h12 => ?_)
    · omega
    · refine q_iload_n (pc := 15) dQ_deliver_15 rfl ?_
      refine q_bipush (pc := 16) dQ_deliver_16 (by decide) (by decide) ?_
      refine q_icmp_lt (tgt := 23) (pc := 18) dQ_deliver_18 (by decide) (fun h18 => ?_) (fun h18 => ?_)
      · refine q_aload_n (pc := 23) dQ_deliver_23 rfl ?_
        refine q_getR (f := 2) (pc := 24) dQ_deliver_24 lay_0 (by decide) rfl (by decide) fl_Q25 rfl rfl ?_
        refine q_aload_n (pc := 27) dQ_deliver_27 rfl ?_
        refine q_getR (f := 0) (pc := 28) dQ_deliver_28 lay_0 (by decide) rfl (by decide) fl_Q10 rfl rfl ?_
        refine q_getR (f := 4) (pc := 31) dQ_deliver_31 lay_1 (by decide) rfl (by decide) fl_Q120 rfl rfl ?_
        refine q_iload_n (pc := 34) dQ_deliver_34 rfl ?_
        refine q_iald (i := l) (pc := 35) dQ_deliver_35 rfl rfl (by omega) rfl ?_
        rw [hgl]
        refine q_aald (i := g) (pc := 36) dQ_deliver_36 ⟨by decide, by decide, rfl⟩ (s_gs L) rfl (by omega) (v_gs _ hg) ?_
        refine q_getR (f := 0) (pc := 37) dQ_deliver_37 lay_3 (by decide) (s_gp L g hg) (by decide) fl_Q123 rfl rfl ?_
        refine q_iload_n (pc := 40) dQ_deliver_40 rfl ?_
        refine q_aald (i := c) (pc := 41) dQ_deliver_41 ⟨by decide, by decide, rfl⟩ (s_cps L g hg) rfl (by omega) (v_cps hc) ?_
        refine q_astore_n (pc := 42) dQ_deliver_42 (by decide) ?_
        refine q_aload_n (pc := 43) dQ_deliver_43 rfl ?_
        refine q_callV1 (pc := 44) dQ_deliver_44 ((ct_C_isLive hx I)) cd_C_isLive in_C_isLive se_C_isLive ml_Q127 (s_cp L _ hx) (by decide) rfl rfl (Nat.le_of_ble_eq_true rfl) ⟨by decide, by decide⟩ ⟨by decide, by decide⟩ rfl ?_
        refine q_if_ne (tgt := 52) (pc := 47) dQ_deliver_47 (by decide) (fun h47 => ?_) (fun h47 => ?_)
        · have h9 := of_decide_eq_true (bi_ne h47)
          have e1 : q_up I (cp (6 * g + c) + 1) l 1 1 5 = I 1 5 := by rw [qup_hd hx (by omega)]
          have e2 : q_up I (cp (6 * g + c) + 1) l 1 2 6 = (n : Int) := by rw [qup_hd hx (by omega)]; exact hn
          refine q_aload_n (pc := 52) dQ_deliver_52 rfl ?_
          refine q_iload_n (pc := 53) dQ_deliver_53 rfl ?_
          refine q_callV1 (pc := 54) dQ_deliver_54 ((ct_C_take hx (by omega) I)) cd_C_take in_C_take se_C_take ml_Q132 (s_cp L _ hx) (by decide) rfl rfl (Nat.le_of_ble_eq_true rfl) ⟨by decide, by decide⟩ ⟨by decide, by decide⟩ rfl ?_
          refine q_istore (pc := 57) dQ_deliver_57 (by decide) ?_
          refine q_aload_n (pc := 59) dQ_deliver_59 rfl ?_
          refine q_getI (f := 5) (pc := 60) dQ_deliver_60 lay_0 (by decide) rfl (by decide) fl_Q43 rfl rfl ?_
          refine q_if_eq (tgt := 78) (pc := 63) dQ_deliver_63 (by decide) (fun h63 => ?_) (fun h63 => ?_)
          · rw [e1] at h63
            refine q_iload (pc := 78) dQ_deliver_78 rfl ?_
            refine q_if_eq (tgt := 87) (pc := 80) dQ_deliver_80 (by decide) (fun h80 => ?_) (fun h80 => ?_)
            · refine q_iconst (pc := 87) dQ_deliver_87 (by decide) ?_
              refine q_iret rfl (pc := 88) dQ_deliver_88 ?_
              refine rP_of ?_
              unfold aDeliver
              rw [if_pos h9, if_neg (of_decide_eq_false (bi_eq h80)), if_pos h63]
            · refine q_iconst (pc := 83) dQ_deliver_83 (by decide) ?_
              refine q_goto (tgt := 88) (pc := 84) dQ_deliver_84 (by decide) ?_
              refine q_iret rfl (pc := 88) dQ_deliver_88 ?_
              refine rP_of ?_
              unfold aDeliver
              rw [if_pos h9, if_pos (of_decide_eq_true (bi_ne h80)), if_pos h63]
          · rw [e1] at h63
            have e3 : ∀ J : qI, J 2 6 = (n : Int) → q_up J (cp (6 * g + c)) 4 (crc J (6 * g + c) n : Nat) 2 6 = (n : Int) := fun J hJ => by rw [qup_cp hx (by omega)]; exact hJ
            refine q_aload_n (pc := 66) dQ_deliver_66 rfl ?_
            refine q_aload_n (pc := 67) dQ_deliver_67 rfl ?_
            refine q_getR (f := 0) (pc := 68) dQ_deliver_68 lay_0 (by decide) rfl (by decide) fl_Q10 rfl rfl ?_
            refine q_callV0 (pc := 71) dQ_deliver_71 ((ct_C_tellReach hx _ e2 hn2)) cd_C_tellReach in_C_tellReach se_C_tellReach ml_Q135 (s_cp L _ hx) (by decide) rfl rfl (Nat.le_of_ble_eq_true rfl) ⟨by decide, by decide⟩ ⟨by decide, by decide⟩ rfl ?_
            refine q_aload_n (pc := 74) dQ_deliver_74 rfl ?_
            refine q_callV0 (pc := 75) dQ_deliver_75 ((ct_Q_raiseDurable _ (e3 _ e2) hn2)) cd_Q_raiseDurable in_Q_raiseDurable se_Q_raiseDurable ml_Q139 rfl (by decide) rfl rfl (Nat.le_of_ble_eq_true rfl) ⟨by decide, by decide⟩ ⟨by decide, by decide⟩ rfl ?_
            refine q_iload (pc := 78) dQ_deliver_78 rfl ?_
            refine q_if_eq (tgt := 87) (pc := 80) dQ_deliver_80 (by decide) (fun h80 => ?_) (fun h80 => ?_)
            · refine q_iconst (pc := 87) dQ_deliver_87 (by decide) ?_
              refine q_iret rfl (pc := 88) dQ_deliver_88 ?_
              refine rP_of ?_
              unfold aDeliver
              rw [if_pos h9, if_neg (of_decide_eq_false (bi_eq h80)), if_neg h63]
              rfl
            · refine q_iconst (pc := 83) dQ_deliver_83 (by decide) ?_
              refine q_goto (tgt := 88) (pc := 84) dQ_deliver_84 (by decide) ?_
              refine q_iret rfl (pc := 88) dQ_deliver_88 ?_
              refine rP_of ?_
              unfold aDeliver
              rw [if_pos h9, if_pos (of_decide_eq_true (bi_ne h80)), if_neg h63]
              rfl
        · refine q_iconst (pc := 50) dQ_deliver_50 (by decide) ?_
          refine q_iret rfl (pc := 51) dQ_deliver_51 ?_
          exact rP_of (by unfold aDeliver; rw [if_neg (of_decide_eq_false (bi_eq h47))])
      · omega
theorem ct_Q_gossip0 {L : Nat} {g f t : Int} (I : qI) (h0 : ¬ (isC g f ∧ isC g t ∧ ¬ f = t)) : qT M_Q_gossip 2 [.inr (some 1), .inl g, .inl f, .inl t] L I (rI (-1) L I) := by
  refine q_enter (by decide) (Nat.le_of_ble_eq_true rfl) ?_
  refine q_iload_n (pc := 0) dQ_gossip_0 rfl ?_
  refine q_iload_n (pc := 1) dQ_gossip_1 rfl ?_
  refine q_callS1 (pc := 2) dQ_gossip_2 ((ct_Q_isCopy g f I)) cd_Q_isCopy st_Q_isCopy ml_Q142 rfl (Nat.le_of_ble_eq_true rfl) ⟨by decide, by decide⟩ ⟨by decide, by decide⟩ rfl ?_
  refine q_if_eq (tgt := 21) (pc := 5) dQ_gossip_5 (by decide) (fun h5 => ?_) (fun h5 => ?_)
  · refine q_iconst (pc := 21) dQ_gossip_21 (by decide) ?_
    refine q_iret rfl (pc := 22) dQ_gossip_22 ?_
    exact ⟨rfl, rfl, rfl⟩
  · have h9 : isC g f := by have := of_decide_eq_true (bi_ne h5); exact this
    refine q_iload_n (pc := 8) dQ_gossip_8 rfl ?_
    refine q_iload_n (pc := 9) dQ_gossip_9 rfl ?_
    refine q_callS1 (pc := 10) dQ_gossip_10 ((ct_Q_isCopy g t I)) cd_Q_isCopy st_Q_isCopy ml_Q142 rfl (Nat.le_of_ble_eq_true rfl) ⟨by decide, by decide⟩ ⟨by decide, by decide⟩ rfl ?_
    refine q_if_eq (tgt := 21) (pc := 13) dQ_gossip_13 (by decide) (fun h13 => ?_) (fun h13 => ?_)
    · refine q_iconst (pc := 21) dQ_gossip_21 (by decide) ?_
      refine q_iret rfl (pc := 22) dQ_gossip_22 ?_
      exact ⟨rfl, rfl, rfl⟩
    · have h8 : isC g t := by have := of_decide_eq_true (bi_ne h13); exact this
      refine q_iload_n (pc := 16) dQ_gossip_16 rfl ?_
      refine q_iload_n (pc := 17) dQ_gossip_17 rfl ?_
      refine q_icmp_ne (tgt := 23) (pc := 18) dQ_gossip_18 (by decide) (fun h18 => ?_) (fun h18 => ?_)
      · exact absurd ⟨h9, h8, h18⟩ h0
      · refine q_iconst (pc := 21) dQ_gossip_21 (by decide) ?_
        refine q_iret rfl (pc := 22) dQ_gossip_22 ?_
        exact ⟨rfl, rfl, rfl⟩
theorem ct_Q_gossip {L g f t : Nat} (I : qI) (hg : g < 2) (hf : f < 6) (ht : t < 6) (hft : f ≠ t) : qT M_Q_gossip 2 [.inr (some 1), .inl ((g : Nat) : Int), .inl ((f : Nat) : Int), .inl ((t : Nat) : Int)] L I (rP (if I (cp (6 * g + f)) 2 = 0 ∧ I (cp (6 * g + t)) 2 = 0 then ((qn (qtn I (6 * g + t) (6 * g + f)) 187 : Nat), qtake I (6 * g + t) (6 * g + f)) else (-7, I)) L) := by
  have hx : 6 * g + f < 12 := by omega
  have hy : 6 * g + t < 12 := by omega
  refine q_enter (by decide) (Nat.le_of_ble_eq_true rfl) ?_
  refine q_iload_n (pc := 0) dQ_gossip_0 rfl ?_
  refine q_iload_n (pc := 1) dQ_gossip_1 rfl ?_
  refine q_callS1 (pc := 2) dQ_gossip_2 ((ct_Q_isCopy g f I)) cd_Q_isCopy st_Q_isCopy ml_Q142 rfl (Nat.le_of_ble_eq_true rfl) ⟨by decide, by decide⟩ ⟨by decide, by decide⟩ rfl ?_
  refine q_if_eq (tgt := 21) (pc := 5) dQ_gossip_5 (by decide) (fun h5 => ?_) (fun h5 => ?_)
  · have := of_decide_eq_false (bi_eq h5)
    omega
  · refine q_iload_n (pc := 8) dQ_gossip_8 rfl ?_
    refine q_iload_n (pc := 9) dQ_gossip_9 rfl ?_
    refine q_callS1 (pc := 10) dQ_gossip_10 ((ct_Q_isCopy g t I)) cd_Q_isCopy st_Q_isCopy ml_Q142 rfl (Nat.le_of_ble_eq_true rfl) ⟨by decide, by decide⟩ ⟨by decide, by decide⟩ rfl ?_
    refine q_if_eq (tgt := 21) (pc := 13) dQ_gossip_13 (by decide) (fun h13 => ?_) (fun h13 => ?_)
    · have := of_decide_eq_false (bi_eq h13)
      omega
    · refine q_iload_n (pc := 16) dQ_gossip_16 rfl ?_
      refine q_iload_n (pc := 17) dQ_gossip_17 rfl ?_
      refine q_icmp_ne (tgt := 23) (pc := 18) dQ_gossip_18 (by decide) (fun h18 => ?_) (fun h18 => ?_)
      · refine q_aload_n (pc := 23) dQ_gossip_23 rfl ?_
        refine q_getR (f := 2) (pc := 24) dQ_gossip_24 lay_0 (by decide) rfl (by decide) fl_Q25 rfl rfl ?_
        refine q_iload_n (pc := 27) dQ_gossip_27 rfl ?_
        refine q_aald (i := g) (pc := 28) dQ_gossip_28 ⟨by decide, by decide, rfl⟩ (s_gs L) rfl (by omega) (v_gs _ hg) ?_
        refine q_getR (f := 0) (pc := 29) dQ_gossip_29 lay_3 (by decide) (s_gp L g hg) (by decide) fl_Q123 rfl rfl ?_
        refine q_iload_n (pc := 32) dQ_gossip_32 rfl ?_
        refine q_aald (i := f) (pc := 33) dQ_gossip_33 ⟨by decide, by decide, rfl⟩ (s_cps L g hg) rfl (by omega) (v_cps hf) ?_
        refine q_astore (pc := 34) dQ_gossip_34 (by decide) ?_
        refine q_aload_n (pc := 36) dQ_gossip_36 rfl ?_
        refine q_getR (f := 2) (pc := 37) dQ_gossip_37 lay_0 (by decide) rfl (by decide) fl_Q25 rfl rfl ?_
        refine q_iload_n (pc := 40) dQ_gossip_40 rfl ?_
        refine q_aald (i := g) (pc := 41) dQ_gossip_41 ⟨by decide, by decide, rfl⟩ (s_gs L) rfl (by omega) (v_gs _ hg) ?_
        refine q_getR (f := 0) (pc := 42) dQ_gossip_42 lay_3 (by decide) (s_gp L g hg) (by decide) fl_Q123 rfl rfl ?_
        refine q_iload_n (pc := 45) dQ_gossip_45 rfl ?_
        refine q_aald (i := t) (pc := 46) dQ_gossip_46 ⟨by decide, by decide, rfl⟩ (s_cps L g hg) rfl (by omega) (v_cps ht) ?_
        refine q_astore (pc := 47) dQ_gossip_47 (by decide) ?_
        refine q_aload (pc := 49) dQ_gossip_49 rfl ?_
        refine q_callV1 (pc := 51) dQ_gossip_51 ((ct_C_isLive hx I)) cd_C_isLive in_C_isLive se_C_isLive ml_Q127 (s_cp L _ hx) (by decide) rfl rfl (Nat.le_of_ble_eq_true rfl) ⟨by decide, by decide⟩ ⟨by decide, by decide⟩ rfl ?_
        refine q_if_eq (tgt := 65) (pc := 54) dQ_gossip_54 (by decide) (fun h54 => ?_) (fun h54 => ?_)
        · refine q_bipush (pc := 65) dQ_gossip_65 (by decide) (by decide) ?_
          refine q_iret rfl (pc := 67) dQ_gossip_67 ?_
          exact rP_of (by rw [if_neg (fun z => of_decide_eq_false (bi_eq h54) z.1)])
        · have h9 := of_decide_eq_true (bi_ne h54)
          refine q_aload (pc := 57) dQ_gossip_57 rfl ?_
          refine q_callV1 (pc := 59) dQ_gossip_59 ((ct_C_isLive hy I)) cd_C_isLive in_C_isLive se_C_isLive ml_Q127 (s_cp L _ hy) (by decide) rfl rfl (Nat.le_of_ble_eq_true rfl) ⟨by decide, by decide⟩ ⟨by decide, by decide⟩ rfl ?_
          refine q_if_ne (tgt := 68) (pc := 62) dQ_gossip_62 (by decide) (fun h62 => ?_) (fun h62 => ?_)
          · have h8 := of_decide_eq_true (bi_ne h62)
            refine q_aload (pc := 68) dQ_gossip_68 rfl ?_
            refine q_aload (pc := 70) dQ_gossip_70 rfl ?_
            refine q_callV1 (pc := 72) dQ_gossip_72 ((ct_C_takeAllOf hy hx (by omega) I)) cd_C_takeAllOf in_C_takeAllOf se_C_takeAllOf ml_Q146 (s_cp L _ hy) (by decide) rfl rfl (Nat.le_of_ble_eq_true rfl) ⟨by decide, by decide⟩ ⟨by decide, by decide⟩ rfl ?_
            refine q_iret rfl (pc := 75) dQ_gossip_75 ?_
            exact rP_of (by rw [if_pos ⟨h9, h8⟩])
          · refine q_bipush (pc := 65) dQ_gossip_65 (by decide) (by decide) ?_
            refine q_iret rfl (pc := 67) dQ_gossip_67 ?_
            exact rP_of (by rw [if_neg (fun z => of_decide_eq_false (bi_eq h62) z.2)])
      · omega
theorem ct_Q_report0 {L : Nat} {g c : Int} (I : qI) (h0 : ¬ isC g c) : qT M_Q_report 4 [.inr (some 1), .inl g, .inl c] L I (rI (-1) L I) := by
  refine q_enter (by decide) (Nat.le_of_ble_eq_true rfl) ?_
  refine q_aload_n (pc := 0) dQ_report_0 rfl ?_
  refine q_iload_n (pc := 1) dQ_report_1 rfl ?_
  refine q_iload_n (pc := 2) dQ_report_2 rfl ?_
  refine q_callV1 (pc := 3) dQ_report_3 ((ct_Q_refusalOfCopy0 I h0)) cd_Q_refusalOfCopy in_Q_refusalOfCopy se_Q_refusalOfCopy ml_Q150 rfl (by decide) rfl rfl (Nat.le_of_ble_eq_true rfl) ⟨by decide, by decide⟩ ⟨by decide, by decide⟩ rfl ?_
  refine q_istore_n (pc := 6) dQ_report_6 (by decide) ?_
  refine q_iload_n (pc := 7) dQ_report_7 rfl ?_
  refine q_if_eq (tgt := 13) (pc := 8) dQ_report_8 (by decide) (fun h8 => ?_) (fun h8 => ?_)
  · omega
  · refine q_iload_n (pc := 11) dQ_report_11 rfl ?_
    refine q_iret rfl (pc := 12) dQ_report_12 ?_
    exact ⟨rfl, rfl, rfl⟩
theorem ct_Q_report {L n T k d g c : Nat} (I : qI) (h : cw I n T k d) (hg : g < 2) (hc : c < 6) : qT M_Q_report 4 [.inr (some 1), .inl ((g : Nat) : Int), .inl ((c : Nat) : Int)] L I (rP (if qcr I (6 * g + c) = 0 then ((crc I (6 * g + c) n : Nat), qtell I (6 * g + c) n) else (qcr I (6 * g + c), I)) L) := by
  obtain ⟨⟨hn, hn2⟩, -⟩ := h
  have hx : 6 * g + c < 12 := by omega
  refine q_enter (by decide) (Nat.le_of_ble_eq_true rfl) ?_
  refine q_aload_n (pc := 0) dQ_report_0 rfl ?_
  refine q_iload_n (pc := 1) dQ_report_1 rfl ?_
  refine q_iload_n (pc := 2) dQ_report_2 rfl ?_
  refine q_callV1 (pc := 3) dQ_report_3 ((ct_Q_refusalOfCopy I hg hc)) cd_Q_refusalOfCopy in_Q_refusalOfCopy se_Q_refusalOfCopy ml_Q150 rfl (by decide) rfl rfl (Nat.le_of_ble_eq_true rfl) ⟨by decide, by decide⟩ ⟨by decide, by decide⟩ rfl ?_
  refine q_istore_n (pc := 6) dQ_report_6 (by decide) ?_
  refine q_iload_n (pc := 7) dQ_report_7 rfl ?_
  refine q_if_eq (tgt := 13) (pc := 8) dQ_report_8 (by decide) (fun h8 => ?_) (fun h8 => ?_)
  · have e3 : q_up I (cp (6 * g + c)) 4 (crc I (6 * g + c) n : Nat) 2 6 = (n : Int) := by rw [qup_cp hx (by omega)]; exact hn
    refine q_aload_n (pc := 13) dQ_report_13 rfl ?_
    refine q_getR (f := 2) (pc := 14) dQ_report_14 lay_0 (by decide) rfl (by decide) fl_Q25 rfl rfl ?_
    refine q_iload_n (pc := 17) dQ_report_17 rfl ?_
    refine q_aald (i := g) (pc := 18) dQ_report_18 ⟨by decide, by decide, rfl⟩ (s_gs L) rfl (by omega) (v_gs _ hg) ?_
    refine q_getR (f := 0) (pc := 19) dQ_report_19 lay_3 (by decide) (s_gp L g hg) (by decide) fl_Q123 rfl rfl ?_
    refine q_iload_n (pc := 22) dQ_report_22 rfl ?_
    refine q_aald (i := c) (pc := 23) dQ_report_23 ⟨by decide, by decide, rfl⟩ (s_cps L g hg) rfl (by omega) (v_cps hc) ?_
    refine q_astore (pc := 24) dQ_report_24 (by decide) ?_
    refine q_aload (pc := 26) dQ_report_26 rfl ?_
    refine q_aload_n (pc := 28) dQ_report_28 rfl ?_
    refine q_getR (f := 0) (pc := 29) dQ_report_29 lay_0 (by decide) rfl (by decide) fl_Q10 rfl rfl ?_
    refine q_callV0 (pc := 32) dQ_report_32 ((ct_C_tellReach hx I hn hn2)) cd_C_tellReach in_C_tellReach se_C_tellReach ml_Q135 (s_cp L _ hx) (by decide) rfl rfl (Nat.le_of_ble_eq_true rfl) ⟨by decide, by decide⟩ ⟨by decide, by decide⟩ rfl ?_
    refine q_aload_n (pc := 35) dQ_report_35 rfl ?_
    refine q_callV0 (pc := 36) dQ_report_36 ((ct_Q_raiseDurable _ e3 hn2)) cd_Q_raiseDurable in_Q_raiseDurable se_Q_raiseDurable ml_Q139 rfl (by decide) rfl rfl (Nat.le_of_ble_eq_true rfl) ⟨by decide, by decide⟩ ⟨by decide, by decide⟩ rfl ?_
    refine q_aload (pc := 39) dQ_report_39 rfl ?_
    refine q_getI (f := 4) (pc := 41) dQ_report_41 lay_4 (by decide) (s_cp L _ hx) (by decide) fl_Q153 rfl rfl ?_
    refine q_iret rfl (pc := 44) dQ_report_44 ?_
    refine rP_of ?_
    rw [if_pos h8]
    have hb := cp_bd hx
    have e4 : qrs (q_up I (cp (6 * g + c)) 4 (crc I (6 * g + c) n : Nat)) n (cp (6 * g + c)) 4 = (crc I (6 * g + c) n : Nat) := by
      unfold qrs
      rw [q_up_off _ (by omega)]
      simp [q_up]
    rw [e4]
    rfl
  · refine q_iload_n (pc := 11) dQ_report_11 rfl ?_
    refine q_iret rfl (pc := 12) dQ_report_12 ?_
    exact rP_of (by rw [if_neg h8])
