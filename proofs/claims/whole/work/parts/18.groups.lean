/-! The groups of copies. -/
def clv (I : qI) (x : Nat) : Bool := decide (I (cp x) 2 = 0)
theorem lp_G_liveCopies {L g : Nat} (hg : g < 2) (I : qI) : ∀ f c k, c + f = 6 → k = qz (fun c => clv I (6 * g + c)) c → qE M_G_liveCopies 1 4 [some (.inr (some (gp g))), some (.inl ((k : Nat) : Int)), some (.inl ((c : Nat) : Int))] [] L I (rI (qz (fun c => clv I (6 * g + c)) 6 : Nat) L I) := by
  intro f
  induction f with
  | zero =>
    intro c k hc hk
    refine q_iload_n (pc := 4) dG_liveCopies_4 rfl ?_
    refine q_bipush (pc := 5) dG_liveCopies_5 (by decide) (by decide) ?_
    refine q_icmp_ge (tgt := 31) (pc := 7) dG_liveCopies_7 (by decide) (fun h7 => ?_) (fun h7 => ?_)
    · refine q_iload_n (pc := 31) dG_liveCopies_31 rfl ?_
      refine q_iret rfl (pc := 32) dG_liveCopies_32 ?_
      exact ⟨by rw [hk, show c = 6 by omega], rfl, rfl⟩
    · omega
  | succ f ih =>
    intro c k hc hk
    have hkl := qz_le (fun c => clv I (6 * g + c)) c
    have hx : 6 * g + c < 12 := by omega
    refine q_iload_n (pc := 4) dG_liveCopies_4 rfl ?_
    refine q_bipush (pc := 5) dG_liveCopies_5 (by decide) (by decide) ?_
    refine q_icmp_ge (tgt := 31) (pc := 7) dG_liveCopies_7 (by decide) (fun h7 => ?_) (fun h7 => ?_)
    · omega
    · refine q_aload_n (pc := 10) dG_liveCopies_10 rfl ?_
      refine q_getR (f := 0) (pc := 11) dG_liveCopies_11 lay_3 (by decide) (s_gp L g hg) (by decide) fl_G11 rfl rfl ?_
      refine q_iload_n (pc := 14) dG_liveCopies_14 rfl ?_
      refine q_aald (i := c) (pc := 15) dG_liveCopies_15 ⟨by decide, by decide, rfl⟩ (s_cps L g hg) rfl (by omega) (v_cps (by omega)) ?_
      refine q_callV1 (pc := 16) dG_liveCopies_16 ((ct_C_isLive hx I)) cd_C_isLive in_C_isLive se_C_isLive ml_G20 (s_cp L _ hx) (by decide) rfl rfl (Nat.le_of_ble_eq_true rfl) ⟨by decide, by decide⟩ ⟨by decide, by decide⟩ rfl ?_
      refine q_if_eq (tgt := 25) (pc := 19) dG_liveCopies_19 (by decide) (fun h19 => ?_) (fun h19 => ?_)
      · refine q_iinc (pc := 25) dG_liveCopies_25 rfl (by decide) rfl ⟨by omega, by omega⟩ ?_
        refine q_goto (tgt := 4) (pc := 28) dG_liveCopies_28 (by decide) ?_
        exact ih (c + 1) k (by omega) (by rw [qz, if_neg (by have := bi_eq h19; simp [clv, this]), hk]; rfl)
      · refine q_iinc (pc := 22) dG_liveCopies_22 rfl (by decide) rfl ⟨by omega, by omega⟩ ?_
        refine q_iinc (pc := 25) dG_liveCopies_25 rfl (by decide) rfl ⟨by omega, by omega⟩ ?_
        refine q_goto (tgt := 4) (pc := 28) dG_liveCopies_28 (by decide) ?_
        exact ih (c + 1) (k + 1) (by omega) (by rw [qz, if_pos (by have := bi_ne h19; simpa [clv] using this), hk])
theorem ct_G_liveCopies {L g : Nat} (hg : g < 2) (I : qI) : qT M_G_liveCopies 1 [.inr (some (gp g))] L I (rI (qz (fun c => clv I (6 * g + c)) 6 : Nat) L I) := by
  refine q_enter (by decide) (Nat.le_of_ble_eq_true rfl) ?_
  refine q_iconst (pc := 0) dG_liveCopies_0 (by decide) ?_
  refine q_istore_n (pc := 1) dG_liveCopies_1 (by decide) ?_
  refine q_iconst (pc := 2) dG_liveCopies_2 (by decide) ?_
  refine q_istore_n (pc := 3) dG_liveCopies_3 (by decide) ?_
  exact lp_G_liveCopies hg I 6 0 0 (by omega) rfl
theorem qe_add {p : Nat → Bool} : ∀ {n c : Nat}, c ≤ n → qe p c = true → qe p n = true := by
  intro n c h hp
  obtain ⟨i, h1, h2⟩ := qe_iff.mp hp
  exact qe_iff.mpr ⟨i, by omega, h2⟩
theorem qe_no {p : Nat → Bool} {c : Nat} (h : qe p c = false) (hp : p c = false) : qe p (c + 1) = false := by rw [qe, h, hp]; rfl
theorem qe_yes {p : Nat → Bool} {n c : Nat} (hc : c < n) (hp : p c = true) : qe p n = true := qe_iff.mpr ⟨c, hc, hp⟩
def glh (I : qI) (g l : Nat) (c : Nat) : Bool := clv I (6 * g + c) && chd I (6 * g + c) l
theorem lp_G_liveCopyHolds {L g l : Nat} (hg : g < 2) (hl : l ≤ 187) (I : qI) : ∀ f c, c + f = 6 → qe (glh I g l) c = false → qE M_G_liveCopyHolds 1 2 [some (.inr (some (gp g))), some (.inl ((l : Nat) : Int)), some (.inl ((c : Nat) : Int))] [] L I (rI (bi (qe (glh I g l) 6)) L I) := by
  intro f
  induction f with
  | zero =>
    intro c hc hk
    obtain rfl : c = 6 := by omega
    refine q_iload_n (pc := 2) dG_liveCopyHolds_2 rfl ?_
    refine q_bipush (pc := 3) dG_liveCopyHolds_3 (by decide) (by decide) ?_
    refine q_icmp_ge (tgt := 42) (pc := 5) dG_liveCopyHolds_5 (by decide) (fun h5 => ?_) (fun h5 => ?_)
    · refine q_iconst (pc := 42) dG_liveCopyHolds_42 (by decide) ?_
      refine q_zret rfl (by first | exact Or.inl rfl | exact Or.inr rfl) (pc := 43) dG_liveCopyHolds_43 ?_
      exact ⟨by rw [hk]; rfl, rfl, rfl⟩
    · omega
  | succ f ih =>
    intro c hc hk
    have hx : 6 * g + c < 12 := by omega
    refine q_iload_n (pc := 2) dG_liveCopyHolds_2 rfl ?_
    refine q_bipush (pc := 3) dG_liveCopyHolds_3 (by decide) (by decide) ?_
    refine q_icmp_ge (tgt := 42) (pc := 5) dG_liveCopyHolds_5 (by decide) (fun h5 => ?_) (fun h5 => ?_)
    · omega
    · refine q_aload_n (pc := 8) dG_liveCopyHolds_8 rfl ?_
      refine q_getR (f := 0) (pc := 9) dG_liveCopyHolds_9 lay_3 (by decide) (s_gp L g hg) (by decide) fl_G11 rfl rfl ?_
      refine q_iload_n (pc := 12) dG_liveCopyHolds_12 rfl ?_
      refine q_aald (i := c) (pc := 13) dG_liveCopyHolds_13 ⟨by decide, by decide, rfl⟩ (s_cps L g hg) rfl (by omega) (v_cps (by omega)) ?_
      refine q_callV1 (pc := 14) dG_liveCopyHolds_14 ((ct_C_isLive hx I)) cd_C_isLive in_C_isLive se_C_isLive ml_G20 (s_cp L _ hx) (by decide) rfl rfl (Nat.le_of_ble_eq_true rfl) ⟨by decide, by decide⟩ ⟨by decide, by decide⟩ rfl ?_
      refine q_if_eq (tgt := 36) (pc := 17) dG_liveCopyHolds_17 (by decide) (fun h17 => ?_) (fun h17 => ?_)
      · refine q_iinc (pc := 36) dG_liveCopyHolds_36 rfl (by decide) rfl ⟨by omega, by omega⟩ ?_
        refine q_goto (tgt := 2) (pc := 39) dG_liveCopyHolds_39 (by decide) ?_
        exact ih (c + 1) (by omega) (qe_no hk (by have := bi_eq h17; simp [glh, clv, this]))
      · refine q_aload_n (pc := 20) dG_liveCopyHolds_20 rfl ?_
        refine q_getR (f := 0) (pc := 21) dG_liveCopyHolds_21 lay_3 (by decide) (s_gp L g hg) (by decide) fl_G11 rfl rfl ?_
        refine q_iload_n (pc := 24) dG_liveCopyHolds_24 rfl ?_
        refine q_aald (i := c) (pc := 25) dG_liveCopyHolds_25 ⟨by decide, by decide, rfl⟩ (s_cps L g hg) rfl (by omega) (v_cps (by omega)) ?_
        refine q_getR (f := 1) (pc := 26) dG_liveCopyHolds_26 lay_4 (by decide) (s_cp L _ hx) (by decide) fl_G24 rfl rfl ?_
        refine q_iload_n (pc := 29) dG_liveCopyHolds_29 rfl ?_
        refine q_zald (i := l) (pc := 30) dG_liveCopyHolds_30 (s_hd L _ hx) rfl (by omega) rfl ?_
        refine q_if_eq (tgt := 36) (pc := 31) dG_liveCopyHolds_31 (by decide) (fun h31 => ?_) (fun h31 => ?_)
        · refine q_iinc (pc := 36) dG_liveCopyHolds_36 rfl (by decide) rfl ⟨by omega, by omega⟩ ?_
          refine q_goto (tgt := 2) (pc := 39) dG_liveCopyHolds_39 (by decide) ?_
          exact ih (c + 1) (by omega) (qe_no hk (by simp [glh, chd, h31]))
        · refine q_iconst (pc := 34) dG_liveCopyHolds_34 (by decide) ?_
          refine q_zret rfl (by first | exact Or.inl rfl | exact Or.inr rfl) (pc := 35) dG_liveCopyHolds_35 ?_
          exact ⟨by rw [qe_yes (c := c) (by omega) (by have := bi_ne h17; simp only [glh, clv, this, chd, Bool.true_and]; simpa using h31)]; rfl, rfl, rfl⟩
theorem ct_G_liveCopyHolds {L g l : Nat} (hg : g < 2) (hl : l ≤ 187) (I : qI) : qT M_G_liveCopyHolds 1 [.inr (some (gp g)), .inl ((l : Nat) : Int)] L I (rI (bi (qe (glh I g l) 6)) L I) := by
  refine q_enter (by decide) (Nat.le_of_ble_eq_true rfl) ?_
  refine q_iconst (pc := 0) dG_liveCopyHolds_0 (by decide) ?_
  refine q_istore_n (pc := 1) dG_liveCopyHolds_1 (by decide) ?_
  exact lp_G_liveCopyHolds hg hl I 6 0 (by omega) rfl
def gsv (I : qI) (g m : Nat) (c : Nat) : Bool := clv I (6 * g + c) && qa (call_ I (6 * g + c)) m
theorem lp_G_serves {L g m : Nat} (hg : g < 2) (hm : m ≤ 187) (I : qI) : ∀ f c, c + f = 6 → qe (gsv I g m) c = false → qE M_G_serves 1 2 [some (.inr (some (gp g))), some (.inl ((m : Nat) : Int)), some (.inr (some 2)), some (.inl ((c : Nat) : Int))] [] L I (rI (bi (qe (gsv I g m) 6)) L I) := by
  intro f
  induction f with
  | zero =>
    intro c hc hk
    obtain rfl : c = 6 := by omega
    refine q_iload_n (pc := 2) dG_serves_2 rfl ?_
    refine q_bipush (pc := 3) dG_serves_3 (by decide) (by decide) ?_
    refine q_icmp_ge (tgt := 42) (pc := 5) dG_serves_5 (by decide) (fun h5 => ?_) (fun h5 => ?_)
    · refine q_iconst (pc := 42) dG_serves_42 (by decide) ?_
      refine q_zret rfl (by first | exact Or.inl rfl | exact Or.inr rfl) (pc := 43) dG_serves_43 ?_
      exact ⟨by rw [hk]; rfl, rfl, rfl⟩
    · omega
  | succ f ih =>
    intro c hc hk
    have hx : 6 * g + c < 12 := by omega
    refine q_iload_n (pc := 2) dG_serves_2 rfl ?_
    refine q_bipush (pc := 3) dG_serves_3 (by decide) (by decide) ?_
    refine q_icmp_ge (tgt := 42) (pc := 5) dG_serves_5 (by decide) (fun h5 => ?_) (fun h5 => ?_)
    · omega
    · refine q_aload_n (pc := 8) dG_serves_8 rfl ?_
      refine q_getR (f := 0) (pc := 9) dG_serves_9 lay_3 (by decide) (s_gp L g hg) (by decide) fl_G11 rfl rfl ?_
      refine q_iload_n (pc := 12) dG_serves_12 rfl ?_
      refine q_aald (i := c) (pc := 13) dG_serves_13 ⟨by decide, by decide, rfl⟩ (s_cps L g hg) rfl (by omega) (v_cps (by omega)) ?_
      refine q_callV1 (pc := 14) dG_serves_14 ((ct_C_isLive hx I)) cd_C_isLive in_C_isLive se_C_isLive ml_G20 (s_cp L _ hx) (by decide) rfl rfl (Nat.le_of_ble_eq_true rfl) ⟨by decide, by decide⟩ ⟨by decide, by decide⟩ rfl ?_
      refine q_if_eq (tgt := 36) (pc := 17) dG_serves_17 (by decide) (fun h17 => ?_) (fun h17 => ?_)
      · refine q_iinc (pc := 36) dG_serves_36 rfl (by decide) rfl ⟨by omega, by omega⟩ ?_
        refine q_goto (tgt := 2) (pc := 39) dG_serves_39 (by decide) ?_
        exact ih (c + 1) (by omega) (qe_no hk (by have := bi_eq h17; simp [gsv, clv, this]))
      · refine q_aload_n (pc := 20) dG_serves_20 rfl ?_
        refine q_getR (f := 0) (pc := 21) dG_serves_21 lay_3 (by decide) (s_gp L g hg) (by decide) fl_G11 rfl rfl ?_
        refine q_iload_n (pc := 24) dG_serves_24 rfl ?_
        refine q_aald (i := c) (pc := 25) dG_serves_25 ⟨by decide, by decide, rfl⟩ (s_cps L g hg) rfl (by omega) (v_cps (by omega)) ?_
        refine q_iload_n (pc := 26) dG_serves_26 rfl ?_
        refine q_aload_n (pc := 27) dG_serves_27 rfl ?_
        refine q_callV1 (pc := 28) dG_serves_28 ((ct_C_holdsAllUpTo hx hm I)) cd_C_holdsAllUpTo in_C_holdsAllUpTo se_C_holdsAllUpTo ml_G28 (s_cp L _ hx) (by decide) rfl rfl (Nat.le_of_ble_eq_true rfl) ⟨by decide, by decide⟩ ⟨by decide, by decide⟩ rfl ?_
        refine q_if_eq (tgt := 36) (pc := 31) dG_serves_31 (by decide) (fun h31 => ?_) (fun h31 => ?_)
        · refine q_iinc (pc := 36) dG_serves_36 rfl (by decide) rfl ⟨by omega, by omega⟩ ?_
          refine q_goto (tgt := 2) (pc := 39) dG_serves_39 (by decide) ?_
          exact ih (c + 1) (by omega) (qe_no hk (by have := bi_eq h31; simp [gsv, this]))
        · refine q_iconst (pc := 34) dG_serves_34 (by decide) ?_
          refine q_zret rfl (by first | exact Or.inl rfl | exact Or.inr rfl) (pc := 35) dG_serves_35 ?_
          exact ⟨by rw [qe_yes (c := c) (by omega) (by have h1 := bi_ne h17; have h2 := bi_ne h31; simp only [gsv, clv, h1, h2]; rfl)]; rfl, rfl, rfl⟩
theorem ct_G_serves {L g m : Nat} (hg : g < 2) (hm : m ≤ 187) (I : qI) : qT M_G_serves 1 [.inr (some (gp g)), .inl ((m : Nat) : Int), .inr (some 2)] L I (rI (bi (qe (gsv I g m) 6)) L I) := by
  refine q_enter (by decide) (Nat.le_of_ble_eq_true rfl) ?_
  refine q_iconst (pc := 0) dG_serves_0 (by decide) ?_
  refine q_istore_n (pc := 1) dG_serves_1 (by decide) ?_
  exact lp_G_serves hg hm I 6 0 (by omega) rfl
def grq (I : qI) (g : Nat) (v : Int) (c : Nat) : Bool := decide (v ≤ I (cp (6 * g + c)) 4)
theorem lp_G_copiesThatReported {L g : Nat} (hg : g < 2) (v : Int) (I : qI) : ∀ f c k, c + f = 6 → k = qz (grq I g v) c → qE M_G_copiesThatReported 0 4 [some (.inr (some (gp g))), some (.inl v), some (.inl ((k : Nat) : Int)), some (.inl ((c : Nat) : Int))] [] L I (rI (qz (grq I g v) 6 : Nat) L I) := by
  intro f
  induction f with
  | zero =>
    intro c k hc hk
    refine q_iload_n (pc := 4) dG_copiesThatReported_4 rfl ?_
    refine q_bipush (pc := 5) dG_copiesThatReported_5 (by decide) (by decide) ?_
    refine q_icmp_ge (tgt := 32) (pc := 7) dG_copiesThatReported_7 (by decide) (fun h7 => ?_) (fun h7 => ?_)
    · refine q_iload_n (pc := 32) dG_copiesThatReported_32 rfl ?_
      refine q_iret rfl (pc := 33) dG_copiesThatReported_33 ?_
      exact ⟨by rw [hk, show c = 6 by omega], rfl, rfl⟩
    · omega
  | succ f ih =>
    intro c k hc hk
    have hkl := qz_le (grq I g v) c
    have hx : 6 * g + c < 12 := by omega
    refine q_iload_n (pc := 4) dG_copiesThatReported_4 rfl ?_
    refine q_bipush (pc := 5) dG_copiesThatReported_5 (by decide) (by decide) ?_
    refine q_icmp_ge (tgt := 32) (pc := 7) dG_copiesThatReported_7 (by decide) (fun h7 => ?_) (fun h7 => ?_)
    · omega
    · refine q_aload_n (pc := 10) dG_copiesThatReported_10 rfl ?_
      refine q_getR (f := 0) (pc := 11) dG_copiesThatReported_11 lay_3 (by decide) (s_gp L g hg) (by decide) fl_G11 rfl rfl ?_
      refine q_iload_n (pc := 14) dG_copiesThatReported_14 rfl ?_
      refine q_aald (i := c) (pc := 15) dG_copiesThatReported_15 ⟨by decide, by decide, rfl⟩ (s_cps L g hg) rfl (by omega) (v_cps (by omega)) ?_
      refine q_getI (f := 4) (pc := 16) dG_copiesThatReported_16 lay_4 (by decide) (s_cp L _ hx) (by decide) fl_G32 rfl rfl ?_
      refine q_iload_n (pc := 19) dG_copiesThatReported_19 rfl ?_
      refine q_icmp_lt (tgt := 26) (pc := 20) dG_copiesThatReported_20 (by decide) (fun h20 => ?_) (fun h20 => ?_)
      · refine q_iinc (pc := 26) dG_copiesThatReported_26 rfl (by decide) rfl ⟨by omega, by omega⟩ ?_
        refine q_goto (tgt := 4) (pc := 29) dG_copiesThatReported_29 (by decide) ?_
        exact ih (c + 1) k (by omega) (by rw [qz, if_neg (by unfold grq; rw [decide_eq_false (by omega)]; decide), hk]; rfl)
      · refine q_iinc (pc := 23) dG_copiesThatReported_23 rfl (by decide) rfl ⟨by omega, by omega⟩ ?_
        refine q_iinc (pc := 26) dG_copiesThatReported_26 rfl (by decide) rfl ⟨by omega, by omega⟩ ?_
        refine q_goto (tgt := 4) (pc := 29) dG_copiesThatReported_29 (by decide) ?_
        exact ih (c + 1) (k + 1) (by omega) (by rw [qz, if_pos (by unfold grq; rw [decide_eq_true (by omega)]), hk])
theorem ct_G_copiesThatReported {L g : Nat} (hg : g < 2) (v : Int) (I : qI) : qT M_G_copiesThatReported 0 [.inr (some (gp g)), .inl v] L I (rI (qz (grq I g v) 6 : Nat) L I) := by
  refine q_enter (by decide) (Nat.le_of_ble_eq_true rfl) ?_
  refine q_iconst (pc := 0) dG_copiesThatReported_0 (by decide) ?_
  refine q_istore_n (pc := 1) dG_copiesThatReported_1 (by decide) ?_
  refine q_iconst (pc := 2) dG_copiesThatReported_2 (by decide) ?_
  refine q_istore_n (pc := 3) dG_copiesThatReported_3 (by decide) ?_
  exact lp_G_copiesThatReported hg v I 6 0 0 (by omega) rfl
/-- the greatest reported point of the first c copies that four have reached -/
def gqp (I : qI) (g : Nat) : Nat → Int
  | 0 => 0
  | c + 1 => if gqp I g c < I (cp (6 * g + c)) 4 ∧ 4 ≤ qz (grq I g (I (cp (6 * g + c)) 4)) 6 then I (cp (6 * g + c)) 4 else gqp I g c
theorem lp_G_quorumPoint {L g : Nat} (hg : g < 2) (I : qI) : ∀ f c z, c + f = 6 → qE M_G_quorumPoint 1 4 [some (.inr (some (gp g))), some (.inl (gqp I g c)), some (.inl ((c : Nat) : Int)), z] [] L I (rI (gqp I g 6) L I) := by
  intro f
  induction f with
  | zero =>
    intro c z hc
    refine q_iload_n (pc := 4) dG_quorumPoint_4 rfl ?_
    refine q_bipush (pc := 5) dG_quorumPoint_5 (by decide) (by decide) ?_
    refine q_icmp_ge (tgt := 42) (pc := 7) dG_quorumPoint_7 (by decide) (fun h7 => ?_) (fun h7 => ?_)
    · refine q_iload_n (pc := 42) dG_quorumPoint_42 rfl ?_
      refine q_iret rfl (pc := 43) dG_quorumPoint_43 ?_
      exact ⟨by rw [show c = 6 by omega], rfl, rfl⟩
    · omega
  | succ f ih =>
    intro c z hc
    have hx : 6 * g + c < 12 := by omega
    refine q_iload_n (pc := 4) dG_quorumPoint_4 rfl ?_
    refine q_bipush (pc := 5) dG_quorumPoint_5 (by decide) (by decide) ?_
    refine q_icmp_ge (tgt := 42) (pc := 7) dG_quorumPoint_7 (by decide) (fun h7 => ?_) (fun h7 => ?_)
    · omega
    · refine q_aload_n (pc := 10) dG_quorumPoint_10 rfl ?_
      refine q_getR (f := 0) (pc := 11) dG_quorumPoint_11 lay_3 (by decide) (s_gp L g hg) (by decide) fl_G11 rfl rfl ?_
      refine q_iload_n (pc := 14) dG_quorumPoint_14 rfl ?_
      refine q_aald (i := c) (pc := 15) dG_quorumPoint_15 ⟨by decide, by decide, rfl⟩ (s_cps L g hg) rfl (by omega) (v_cps (by omega)) ?_
      refine q_getI (f := 4) (pc := 16) dG_quorumPoint_16 lay_4 (by decide) (s_cp L _ hx) (by decide) fl_G32 rfl rfl ?_
      refine q_istore_n (pc := 19) dG_quorumPoint_19 (by decide) ?_
      refine q_iload_n (pc := 20) dG_quorumPoint_20 rfl ?_
      refine q_iload_n (pc := 21) dG_quorumPoint_21 rfl ?_
      refine q_icmp_le (tgt := 36) (pc := 22) dG_quorumPoint_22 (by decide) (fun h22 => ?_) (fun h22 => ?_)
      · refine q_iinc (pc := 36) dG_quorumPoint_36 rfl (by decide) rfl ⟨by omega, by omega⟩ ?_
        refine q_goto (tgt := 4) (pc := 39) dG_quorumPoint_39 (by decide) ?_
        have e : gqp I g (c + 1) = gqp I g c := by rw [gqp, if_neg (by omega)]
        have h := ih (c + 1) (some (.inl (I (cp (6 * g + c)) 4))) (by omega)
        rw [e] at h
        exact h
      · refine q_aload_n (pc := 25) dG_quorumPoint_25 rfl ?_
        refine q_iload_n (pc := 26) dG_quorumPoint_26 rfl ?_
        refine q_callV1 (pc := 27) dG_quorumPoint_27 ((ct_G_copiesThatReported hg _ I)) cd_G_copiesThatReported in_G_copiesThatReported se_G_copiesThatReported ml_G36 (s_gp L g hg) (by decide) rfl rfl (Nat.le_of_ble_eq_true rfl) ⟨by decide, by decide⟩ ⟨by decide, by decide⟩ rfl ?_
        refine q_iconst (pc := 30) dG_quorumPoint_30 (by decide) ?_
        refine q_icmp_lt (tgt := 36) (pc := 31) dG_quorumPoint_31 (by decide) (fun h31 => ?_) (fun h31 => ?_)
        · refine q_iinc (pc := 36) dG_quorumPoint_36 rfl (by decide) rfl ⟨by omega, by omega⟩ ?_
          refine q_goto (tgt := 4) (pc := 39) dG_quorumPoint_39 (by decide) ?_
          have e : gqp I g (c + 1) = gqp I g c := by rw [gqp, if_neg (by omega)]
          have h := ih (c + 1) (some (.inl (I (cp (6 * g + c)) 4))) (by omega)
          rw [e] at h
          exact h
        · refine q_iload_n (pc := 34) dG_quorumPoint_34 rfl ?_
          refine q_istore_n (pc := 35) dG_quorumPoint_35 (by decide) ?_
          refine q_iinc (pc := 36) dG_quorumPoint_36 rfl (by decide) rfl ⟨by omega, by omega⟩ ?_
          refine q_goto (tgt := 4) (pc := 39) dG_quorumPoint_39 (by decide) ?_
          have e : gqp I g (c + 1) = I (cp (6 * g + c)) 4 := by rw [gqp, if_pos (by omega)]
          have h := ih (c + 1) (some (.inl (I (cp (6 * g + c)) 4))) (by omega)
          rw [e] at h
          exact h
theorem ct_G_quorumPoint {L g : Nat} (hg : g < 2) (I : qI) : qT M_G_quorumPoint 1 [.inr (some (gp g))] L I (rI (gqp I g 6) L I) := by
  refine q_enter (by decide) (Nat.le_of_ble_eq_true rfl) ?_
  refine q_iconst (pc := 0) dG_quorumPoint_0 (by decide) ?_
  refine q_istore_n (pc := 1) dG_quorumPoint_1 (by decide) ?_
  refine q_iconst (pc := 2) dG_quorumPoint_2 (by decide) ?_
  refine q_istore_n (pc := 3) dG_quorumPoint_3 (by decide) ?_
  exact lp_G_quorumPoint hg I 6 0 _ (by omega)
theorem qtake_st {I : qI} {c d x : Nat} : qtake I c d (cp x) 2 = I (cp x) 2 := by
  unfold qtake q_up qtk
  rw [if_neg (by omega), if_neg]
  rintro ⟨h, -⟩
  exact cp_ne h
/-- x takes of all live copies of the group, f of them, from c on -/
def grp (g x : Nat) : Nat → Nat → qI → qI
  | 0, _, I => I
  | f + 1, c, I => grp g x f (c + 1) (if I (cp (6 * g + c)) 2 = 0 then qtake I x (6 * g + c) else I)
theorem lp_G_repair {L g x : Nat} (hg : g < 2) (hx : x < 12) : ∀ f c I, c + f = 6 → I (cp x) 2 = 2 → qE M_G_repair 2 20 [some (.inr (some (gp g))), some (.inr (some (cp x))), some (.inl ((c : Nat) : Int))] [] L I (rI 1 L (q_up (grp g x f c I) (cp x) 2 0)) := by
  intro f
  induction f with
  | zero =>
    intro c I hc hs
    refine q_iload_n (pc := 20) dG_repair_20 rfl ?_
    refine q_bipush (pc := 21) dG_repair_21 (by decide) (by decide) ?_
    refine q_icmp_ge (tgt := 55) (pc := 23) dG_repair_23 (by decide) (fun h23 => ?_) (fun h23 => ?_)
    · refine q_aload_n (pc := 55) dG_repair_55 rfl ?_
      refine q_iconst (pc := 56) dG_repair_56 (by decide) ?_
      refine q_putI (f := 2) (pc := 57) dG_repair_57 lay_4 typ_4 (by decide) (s_cp L x hx) (by decide) fl_G40 rfl (Or.inl rfl) (Or.inl rfl) rfl ?_
      refine q_iconst (pc := 60) dG_repair_60 (by decide) ?_
      refine q_zret rfl (by first | exact Or.inl rfl | exact Or.inr rfl) (pc := 61) dG_repair_61 ?_
      exact ⟨rfl, rfl, rfl⟩
    · omega
  | succ f ih =>
    intro c I hc hs
    have hy : 6 * g + c < 12 := by omega
    refine q_iload_n (pc := 20) dG_repair_20 rfl ?_
    refine q_bipush (pc := 21) dG_repair_21 (by decide) (by decide) ?_
    refine q_icmp_ge (tgt := 55) (pc := 23) dG_repair_23 (by decide) (fun h23 => ?_) (fun h23 => ?_)
    · omega
    · refine q_aload_n (pc := 26) dG_repair_26 rfl ?_
      refine q_getR (f := 0) (pc := 27) dG_repair_27 lay_3 (by decide) (s_gp L g hg) (by decide) fl_G11 rfl rfl ?_
      refine q_iload_n (pc := 30) dG_repair_30 rfl ?_
      refine q_aald (i := c) (pc := 31) dG_repair_31 ⟨by decide, by decide, rfl⟩ (s_cps L g hg) rfl (by omega) (v_cps (by omega)) ?_
      refine q_callV1 (pc := 32) dG_repair_32 ((ct_C_isLive hy I)) cd_C_isLive in_C_isLive se_C_isLive ml_G20 (s_cp L _ hy) (by decide) rfl rfl (Nat.le_of_ble_eq_true rfl) ⟨by decide, by decide⟩ ⟨by decide, by decide⟩ rfl ?_
      refine q_if_eq (tgt := 49) (pc := 35) dG_repair_35 (by decide) (fun h35 => ?_) (fun h35 => ?_)
      · refine q_iinc (pc := 49) dG_repair_49 rfl (by decide) rfl ⟨by omega, by omega⟩ ?_
        refine q_goto (tgt := 20) (pc := 52) dG_repair_52 (by decide) ?_
        have e : grp g x (f + 1) c I = grp g x f (c + 1) I := by
          have := bi_eq h35
          rw [grp, if_neg (by simpa using this)]
        rw [e]
        exact ih (c + 1) I (by omega) hs
      · have h9 : I (cp (6 * g + c)) 2 = 0 := by have := bi_ne h35; simpa using this
        have hne : x ≠ 6 * g + c := by rintro rfl; omega
        refine q_aload_n (pc := 38) dG_repair_38 rfl ?_
        refine q_aload_n (pc := 39) dG_repair_39 rfl ?_
        refine q_getR (f := 0) (pc := 40) dG_repair_40 lay_3 (by decide) (s_gp L g hg) (by decide) fl_G11 rfl rfl ?_
        refine q_iload_n (pc := 43) dG_repair_43 rfl ?_
        refine q_aald (i := c) (pc := 44) dG_repair_44 ⟨by decide, by decide, rfl⟩ (s_cps L g hg) rfl (by omega) (v_cps (by omega)) ?_
        refine q_callV1 (pc := 45) dG_repair_45 ((ct_C_takeAllOf hx hy hne I)) cd_C_takeAllOf in_C_takeAllOf se_C_takeAllOf ml_G47 (s_cp L x hx) (by decide) rfl rfl (Nat.le_of_ble_eq_true rfl) ⟨by decide, by decide⟩ ⟨by decide, by decide⟩ rfl ?_
        refine q_pop (pc := 48) dG_repair_48 ?_
        refine q_iinc (pc := 49) dG_repair_49 rfl (by decide) rfl ⟨by omega, by omega⟩ ?_
        refine q_goto (tgt := 20) (pc := 52) dG_repair_52 (by decide) ?_
        have e : grp g x (f + 1) c I = grp g x f (c + 1) (qtake I x (6 * g + c)) := by rw [grp, if_pos h9]
        rw [e]
        exact ih (c + 1) _ (by omega) (by rw [qtake_st]; exact hs)
def gok (I : qI) (g x : Nat) : Bool := decide (I (cp x) 2 = 2) && decide (3 ≤ qz (fun c => clv I (6 * g + c)) 6)
theorem ct_G_repair {L g x : Nat} (hg : g < 2) (hx : x < 12) (I : qI) : qT M_G_repair 2 [.inr (some (gp g)), .inr (some (cp x))] L I (rI (bi (gok I g x)) L (if gok I g x = true then q_up (grp g x 6 0 I) (cp x) 2 0 else I)) := by
  refine q_enter (by decide) (Nat.le_of_ble_eq_true rfl) ?_
  refine q_aload_n (pc := 0) dG_repair_0 rfl ?_
  refine q_getI (f := 2) (pc := 1) dG_repair_1 lay_4 (by decide) (s_cp L x hx) (by decide) fl_G40 rfl rfl ?_
  refine q_iconst (pc := 4) dG_repair_4 (by decide) ?_
  refine q_icmp_ne (tgt := 16) (pc := 5) dG_repair_5 (by decide) (fun h5 => ?_) (fun h5 => ?_)
  · refine q_iconst (pc := 16) dG_repair_16 (by decide) ?_
    refine q_zret rfl (by first | exact Or.inl rfl | exact Or.inr rfl) (pc := 17) dG_repair_17 ?_
    have e : gok I g x = false := by simp [gok, h5]
    exact ⟨by rw [e]; rfl, rfl, by rw [e]; rfl⟩
  · refine q_aload_n (pc := 8) dG_repair_8 rfl ?_
    refine q_callV1 (pc := 9) dG_repair_9 ((ct_G_liveCopies hg I)) cd_G_liveCopies in_G_liveCopies se_G_liveCopies ml_G43 (s_gp L g hg) (by decide) rfl rfl (Nat.le_of_ble_eq_true rfl) ⟨by decide, by decide⟩ ⟨by decide, by decide⟩ rfl ?_
    refine q_iconst (pc := 12) dG_repair_12 (by decide) ?_
    refine q_icmp_ge (tgt := 18) (pc := 13) dG_repair_13 (by decide) (fun h13 => ?_) (fun h13 => ?_)
    · have e : gok I g x = true := by
        unfold gok
        rw [decide_eq_true h5, decide_eq_true (by omega)]
        rfl
      rw [e]
      refine q_iconst (pc := 18) dG_repair_18 (by decide) ?_
      refine q_istore_n (pc := 19) dG_repair_19 (by decide) ?_
      exact lp_G_repair hg hx 6 0 I (by omega) h5
    · refine q_iconst (pc := 16) dG_repair_16 (by decide) ?_
      refine q_zret rfl (by first | exact Or.inl rfl | exact Or.inr rfl) (pc := 17) dG_repair_17 ?_
      have e : gok I g x = false := by
        unfold gok
        rw [decide_eq_false (p := 3 ≤ _) (by omega)]
        simp
      exact ⟨by rw [e]; rfl, rfl, by rw [e]; rfl⟩
def gdr (g m : Nat) : Nat → Nat → qI → qI
  | 0, _, I => I
  | f + 1, c, I => gdr g m f (c + 1) (qdrop I (6 * g + c) m 188)
theorem lp_G_dropAfter {L g m : Nat} (hg : g < 2) (hm : m ≤ 187) : ∀ f c I, c + f = 6 → qE M_G_dropAfter 1 2 [some (.inr (some (gp g))), some (.inl ((m : Nat) : Int)), some (.inl ((c : Nat) : Int))] [] L I (rV L (gdr g m f c I)) := by
  intro f
  induction f with
  | zero =>
    intro c I hc
    refine q_iload_n (pc := 2) dG_dropAfter_2 rfl ?_
    refine q_bipush (pc := 3) dG_dropAfter_3 (by decide) (by decide) ?_
    refine q_icmp_ge (tgt := 24) (pc := 5) dG_dropAfter_5 (by decide) (fun h5 => ?_) (fun h5 => ?_)
    · refine q_vret rfl (pc := 24) dG_dropAfter_24 ?_
      exact ⟨rfl, rfl, rfl⟩
    · omega
  | succ f ih =>
    intro c I hc
    have hy : 6 * g + c < 12 := by omega
    refine q_iload_n (pc := 2) dG_dropAfter_2 rfl ?_
    refine q_bipush (pc := 3) dG_dropAfter_3 (by decide) (by decide) ?_
    refine q_icmp_ge (tgt := 24) (pc := 5) dG_dropAfter_5 (by decide) (fun h5 => ?_) (fun h5 => ?_)
    · omega
    · refine q_aload_n (pc := 8) dG_dropAfter_8 rfl ?_
      refine q_getR (f := 0) (pc := 9) dG_dropAfter_9 lay_3 (by decide) (s_gp L g hg) (by decide) fl_G11 rfl rfl ?_
      refine q_iload_n (pc := 12) dG_dropAfter_12 rfl ?_
      refine q_aald (i := c) (pc := 13) dG_dropAfter_13 ⟨by decide, by decide, rfl⟩ (s_cps L g hg) rfl (by omega) (v_cps (by omega)) ?_
      refine q_iload_n (pc := 14) dG_dropAfter_14 rfl ?_
      refine q_callV0 (pc := 15) dG_dropAfter_15 ((ct_C_dropAfter hy hm I)) cd_C_dropAfter in_C_dropAfter se_C_dropAfter ml_G51 (s_cp L _ hy) (by decide) rfl rfl (Nat.le_of_ble_eq_true rfl) ⟨by decide, by decide⟩ ⟨by decide, by decide⟩ rfl ?_
      refine q_iinc (pc := 18) dG_dropAfter_18 rfl (by decide) rfl ⟨by omega, by omega⟩ ?_
      refine q_goto (tgt := 2) (pc := 21) dG_dropAfter_21 (by decide) ?_
      exact ih (c + 1) _ (by omega)
theorem ct_G_dropAfter {L g m : Nat} (hg : g < 2) (hm : m ≤ 187) (I : qI) : qT M_G_dropAfter 1 [.inr (some (gp g)), .inl ((m : Nat) : Int)] L I (rV L (gdr g m 6 0 I)) := by
  refine q_enter (by decide) (Nat.le_of_ble_eq_true rfl) ?_
  refine q_iconst (pc := 0) dG_dropAfter_0 (by decide) ?_
  refine q_istore_n (pc := 1) dG_dropAfter_1 (by decide) ?_
  exact lp_G_dropAfter hg hm 6 0 I (by omega)
def gfg (g : Nat) : Nat → Nat → qI → qI
  | 0, _, I => I
  | f + 1, c, I => gfg g f (c + 1) (q_up I (cp (6 * g + c)) 4 0)
theorem lp_G_forgetReports {L g : Nat} (hg : g < 2) : ∀ f c I, c + f = 6 → qE M_G_forgetReports 0 2 [some (.inr (some (gp g))), some (.inl ((c : Nat) : Int))] [] L I (rV L (gfg g f c I)) := by
  intro f
  induction f with
  | zero =>
    intro c I hc
    refine q_iload_n (pc := 2) dG_forgetReports_2 rfl ?_
    refine q_bipush (pc := 3) dG_forgetReports_3 (by decide) (by decide) ?_
    refine q_icmp_ge (tgt := 24) (pc := 5) dG_forgetReports_5 (by decide) (fun h5 => ?_) (fun h5 => ?_)
    · refine q_vret rfl (pc := 24) dG_forgetReports_24 ?_
      exact ⟨rfl, rfl, rfl⟩
    · omega
  | succ f ih =>
    intro c I hc
    have hy : 6 * g + c < 12 := by omega
    refine q_iload_n (pc := 2) dG_forgetReports_2 rfl ?_
    refine q_bipush (pc := 3) dG_forgetReports_3 (by decide) (by decide) ?_
    refine q_icmp_ge (tgt := 24) (pc := 5) dG_forgetReports_5 (by decide) (fun h5 => ?_) (fun h5 => ?_)
    · omega
    · refine q_aload_n (pc := 8) dG_forgetReports_8 rfl ?_
      refine q_getR (f := 0) (pc := 9) dG_forgetReports_9 lay_3 (by decide) (s_gp L g hg) (by decide) fl_G11 rfl rfl ?_
      refine q_iload_n (pc := 12) dG_forgetReports_12 rfl ?_
      refine q_aald (i := c) (pc := 13) dG_forgetReports_13 ⟨by decide, by decide, rfl⟩ (s_cps L g hg) rfl (by omega) (v_cps (by omega)) ?_
      refine q_iconst (pc := 14) dG_forgetReports_14 (by decide) ?_
      refine q_putI (f := 4) (pc := 15) dG_forgetReports_15 lay_4 typ_4 (by decide) (s_cp L _ hy) (by decide) fl_G32 rfl (Or.inl rfl) (Or.inl rfl) rfl ?_
      refine q_iinc (pc := 18) dG_forgetReports_18 rfl (by decide) rfl ⟨by omega, by omega⟩ ?_
      refine q_goto (tgt := 2) (pc := 21) dG_forgetReports_21 (by decide) ?_
      exact ih (c + 1) _ (by omega)
theorem ct_G_forgetReports {L g : Nat} (hg : g < 2) (I : qI) : qT M_G_forgetReports 0 [.inr (some (gp g))] L I (rV L (gfg g 6 0 I)) := by
  refine q_enter (by decide) (Nat.le_of_ble_eq_true rfl) ?_
  refine q_iconst (pc := 0) dG_forgetReports_0 (by decide) ?_
  refine q_istore_n (pc := 1) dG_forgetReports_1 (by decide) ?_
  exact lp_G_forgetReports hg 6 0 I (by omega)
def gtl (g n : Nat) : Nat → Nat → qI → qI
  | 0, _, I => I
  | f + 1, c, I => gtl g n f (c + 1) (if I (cp (6 * g + c)) 2 = 0 then q_up I (cp (6 * g + c)) 4 (crc I (6 * g + c) n : Nat) else I)
theorem lp_G_tellReaches {L g n : Nat} (hg : g < 2) (hn2 : n ≤ 187) : ∀ f c I, I 2 6 = (n : Int) → c + f = 6 → qE M_G_tellReaches 2 2 [some (.inr (some (gp g))), some (.inr (some 2)), some (.inl ((c : Nat) : Int))] [] L I (rV L (gtl g n f c I)) := by
  intro f
  induction f with
  | zero =>
    intro c I hn hc
    refine q_iload_n (pc := 2) dG_tellReaches_2 rfl ?_
    refine q_bipush (pc := 3) dG_tellReaches_3 (by decide) (by decide) ?_
    refine q_icmp_ge (tgt := 36) (pc := 5) dG_tellReaches_5 (by decide) (fun h5 => ?_) (fun h5 => ?_)
    · refine q_vret rfl (pc := 36) dG_tellReaches_36 ?_
      exact ⟨rfl, rfl, rfl⟩
    · omega
  | succ f ih =>
    intro c I hn hc
    have hy : 6 * g + c < 12 := by omega
    refine q_iload_n (pc := 2) dG_tellReaches_2 rfl ?_
    refine q_bipush (pc := 3) dG_tellReaches_3 (by decide) (by decide) ?_
    refine q_icmp_ge (tgt := 36) (pc := 5) dG_tellReaches_5 (by decide) (fun h5 => ?_) (fun h5 => ?_)
    · omega
    · refine q_aload_n (pc := 8) dG_tellReaches_8 rfl ?_
      refine q_getR (f := 0) (pc := 9) dG_tellReaches_9 lay_3 (by decide) (s_gp L g hg) (by decide) fl_G11 rfl rfl ?_
      refine q_iload_n (pc := 12) dG_tellReaches_12 rfl ?_
      refine q_aald (i := c) (pc := 13) dG_tellReaches_13 ⟨by decide, by decide, rfl⟩ (s_cps L g hg) rfl (by omega) (v_cps (by omega)) ?_
      refine q_callV1 (pc := 14) dG_tellReaches_14 ((ct_C_isLive hy I)) cd_C_isLive in_C_isLive se_C_isLive ml_G20 (s_cp L _ hy) (by decide) rfl rfl (Nat.le_of_ble_eq_true rfl) ⟨by decide, by decide⟩ ⟨by decide, by decide⟩ rfl ?_
      refine q_if_eq (tgt := 30) (pc := 17) dG_tellReaches_17 (by decide) (fun h17 => ?_) (fun h17 => ?_)
      · refine q_iinc (pc := 30) dG_tellReaches_30 rfl (by decide) rfl ⟨by omega, by omega⟩ ?_
        refine q_goto (tgt := 2) (pc := 33) dG_tellReaches_33 (by decide) ?_
        have e : gtl g n (f + 1) c I = gtl g n f (c + 1) I := by
          have := bi_eq h17
          rw [gtl, if_neg (by simpa using this)]
        rw [e]
        exact ih (c + 1) I hn (by omega)
      · refine q_aload_n (pc := 20) dG_tellReaches_20 rfl ?_
        refine q_getR (f := 0) (pc := 21) dG_tellReaches_21 lay_3 (by decide) (s_gp L g hg) (by decide) fl_G11 rfl rfl ?_
        refine q_iload_n (pc := 24) dG_tellReaches_24 rfl ?_
        refine q_aald (i := c) (pc := 25) dG_tellReaches_25 ⟨by decide, by decide, rfl⟩ (s_cps L g hg) rfl (by omega) (v_cps (by omega)) ?_
        refine q_aload_n (pc := 26) dG_tellReaches_26 rfl ?_
        refine q_callV0 (pc := 27) dG_tellReaches_27 ((ct_C_tellReach hy I hn hn2)) cd_C_tellReach in_C_tellReach se_C_tellReach ml_G54 (s_cp L _ hy) (by decide) rfl rfl (Nat.le_of_ble_eq_true rfl) ⟨by decide, by decide⟩ ⟨by decide, by decide⟩ rfl ?_
        refine q_iinc (pc := 30) dG_tellReaches_30 rfl (by decide) rfl ⟨by omega, by omega⟩ ?_
        refine q_goto (tgt := 2) (pc := 33) dG_tellReaches_33 (by decide) ?_
        have e : gtl g n (f + 1) c I = gtl g n f (c + 1) (q_up I (cp (6 * g + c)) 4 (crc I (6 * g + c) n : Nat)) := by
          have := bi_ne h17
          rw [gtl, if_pos (by simpa using this)]
        rw [e]
        have hb := cp_bd hy
        exact ih (c + 1) _ (by unfold q_up; rw [if_neg (by omega)]; exact hn) (by omega)
theorem ct_G_tellReaches {L g n : Nat} (hg : g < 2) (I : qI) (hn : I 2 6 = (n : Int)) (hn2 : n ≤ 187) : qT M_G_tellReaches 2 [.inr (some (gp g)), .inr (some 2)] L I (rV L (gtl g n 6 0 I)) := by
  refine q_enter (by decide) (Nat.le_of_ble_eq_true rfl) ?_
  refine q_iconst (pc := 0) dG_tellReaches_0 (by decide) ?_
  refine q_istore_n (pc := 1) dG_tellReaches_1 (by decide) ?_
  exact lp_G_tellReaches hg hn2 6 0 I hn (by omega)
