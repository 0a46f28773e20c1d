/-! The reference, second part. -/
theorem td6 (p : Nat) : (p : Int).tdiv 6 = ((p / 6 : Nat) : Int) := by
  rw [Int.tdiv_eq_ediv_of_nonneg (by omega)]; omega
def mcg (I : qI) (x : Nat) (l : Nat) : Bool := decide (mg I l = ((x / 6 : Nat) : Int))
def mhd (I : qI) (x : Nat) (l : Nat) : Bool := decide (I 50 (200 * x + l) ≠ 0)
theorem lp_M_pointOf {L x n : Nat} (hx : x < 12) (I : qI) (hn : I 44 0 = (n : Int)) (hn2 : n < 200) : ∀ (f l r : Nat) (z : Int), z ≠ 0 → l + f = n + 1 → 1 ≤ l → r < l → qE M_M_pointOf 1 7 [some (.inr (some 44)), some (.inl ((x : Nat) : Int)), some (.inl ((r : Nat) : Int)), some (.inl z), some (.inl ((l : Nat) : Int))] [] L I (rI (qr (mcg I x) (mhd I x) f l r : Nat) L I) := by
  intro f
  induction f with
  | zero =>
    intro l r z hz hl h1 hr
    refine q_iload (pc := 7) dM_pointOf_7 rfl ?_
    refine q_aload_n (pc := 9) dM_pointOf_9 rfl ?_
    refine q_getI (f := 0) (pc := 10) dM_pointOf_10 lay_6 (by decide) rfl (by decide) fl_M54 rfl rfl ?_
    refine q_icmp_gt (tgt := 64) (pc := 13) dM_pointOf_13 (by decide) (fun h13 => ?_) (fun h13 => ?_)
    · refine q_iload_n (pc := 64) dM_pointOf_64 rfl ?_
      refine q_iret rfl (pc := 65) dM_pointOf_65 ?_
      exact ⟨rfl, rfl, rfl⟩
    · omega
  | succ f ih =>
    intro l r z hz hl h1 hr
    refine q_iload (pc := 7) dM_pointOf_7 rfl ?_
    refine q_aload_n (pc := 9) dM_pointOf_9 rfl ?_
    refine q_getI (f := 0) (pc := 10) dM_pointOf_10 lay_6 (by decide) rfl (by decide) fl_M54 rfl rfl ?_
    refine q_icmp_gt (tgt := 64) (pc := 13) dM_pointOf_13 (by decide) (fun h13 => ?_) (fun h13 => ?_)
    · omega
    · refine q_iload_n (pc := 16) dM_pointOf_16 rfl ?_
      refine q_if_eq (tgt := 64) (pc := 17) dM_pointOf_17 (by decide) (fun h17 => ?_) (fun h17 => ?_)
      · omega
      · refine q_aload_n (pc := 20) dM_pointOf_20 rfl ?_
        refine q_iload (pc := 21) dM_pointOf_21 rfl ?_
        refine q_callV1 (pc := 23) dM_pointOf_23 ((ct_M_groupOf (l := l) I (by omega))) cd_M_groupOf in_M_groupOf se_M_groupOf ml_M74 rfl (by decide) rfl rfl (Nat.le_of_ble_eq_true rfl) ⟨by decide, by decide⟩ ⟨by decide, by decide⟩ rfl ?_
        refine q_iload_n (pc := 26) dM_pointOf_26 rfl ?_
        refine q_bipush (pc := 27) dM_pointOf_27 (by decide) (by decide) ?_
        refine q_idiv (pc := 29) dM_pointOf_29 (by decide) ?_
        rw [td6]
        refine q_icmp_ne (tgt := 58) (pc := 30) dM_pointOf_30 (by decide) (fun h30 => ?_) (fun h30 => ?_)
        · refine q_iinc (pc := 58) dM_pointOf_58 rfl (by decide) rfl ⟨by omega, by omega⟩ ?_
          refine q_goto (tgt := 7) (pc := 61) dM_pointOf_61 (by decide) ?_
          have e : qr (mcg I x) (mhd I x) (f + 1) l r = qr (mcg I x) (mhd I x) f (l + 1) r := by
            rw [qr, if_neg (by unfold mcg; rw [decide_eq_false h30]; decide)]
          rw [e]
          exact ih (l + 1) r z hz (by omega) (by omega) (by omega)
        · refine q_aload_n (pc := 33) dM_pointOf_33 rfl ?_
          refine q_getR (f := 6) (pc := 34) dM_pointOf_34 lay_6 (by decide) rfl (by decide) fl_M26 rfl rfl ?_
          refine q_sipush (pc := 37) dM_pointOf_37 (by decide) (by decide) ?_
          refine q_iload_n (pc := 40) dM_pointOf_40 rfl ?_
          refine q_imul (pc := 41) dM_pointOf_41 (show (200 : Int) * (x : Int) = ((200 * x : Nat) : Int) by omega) ⟨by omega, by omega⟩ ?_
          refine q_iload (pc := 42) dM_pointOf_42 rfl ?_
          refine q_iadd (pc := 44) dM_pointOf_44 (show ((200 * x : Nat) : Int) + (l : Int) = ((200 * x + l : Nat) : Int) by omega) ⟨by omega, by omega⟩ ?_
          refine q_zald (i := (200 * x + l)) (pc := 45) dM_pointOf_45 rfl rfl (by omega) rfl ?_
          refine q_istore_n (pc := 46) dM_pointOf_46 (by decide) ?_
          refine q_iload_n (pc := 47) dM_pointOf_47 rfl ?_
          refine q_if_eq (tgt := 56) (pc := 48) dM_pointOf_48 (by decide) (fun h48 => ?_) (fun h48 => ?_)
          · refine q_iload_n (pc := 56) dM_pointOf_56 rfl ?_
            refine q_istore_n (pc := 57) dM_pointOf_57 (by decide) ?_
            refine q_iinc (pc := 58) dM_pointOf_58 rfl (by decide) rfl ⟨by omega, by omega⟩ ?_
            refine q_goto (tgt := 7) (pc := 61) dM_pointOf_61 (by decide) ?_
            refine q_iload (pc := 7) dM_pointOf_7 rfl ?_
            refine q_aload_n (pc := 9) dM_pointOf_9 rfl ?_
            refine q_getI (f := 0) (pc := 10) dM_pointOf_10 lay_6 (by decide) rfl (by decide) fl_M54 rfl rfl ?_
            refine q_icmp_gt (tgt := 64) (pc := 13) dM_pointOf_13 (by decide) (fun h13 => ?_) (fun h13 => ?_)
            · refine q_iload_n (pc := 64) dM_pointOf_64 rfl ?_
              refine q_iret rfl (pc := 65) dM_pointOf_65 ?_
              exact ⟨by rw [qr, if_pos (by unfold mcg; rw [decide_eq_true h30]), if_neg (by simp [mhd, h48])], rfl, rfl⟩
            · refine q_iload_n (pc := 16) dM_pointOf_16 rfl ?_
              refine q_if_eq (tgt := 64) (pc := 17) dM_pointOf_17 (by decide) (fun h17 => ?_) (fun h17 => ?_)
              · refine q_iload_n (pc := 64) dM_pointOf_64 rfl ?_
                refine q_iret rfl (pc := 65) dM_pointOf_65 ?_
                exact ⟨by rw [qr, if_pos (by unfold mcg; rw [decide_eq_true h30]), if_neg (by simp [mhd, h48])], rfl, rfl⟩
              · exact absurd h48 h17
          · have e : qr (mcg I x) (mhd I x) (f + 1) l r = qr (mcg I x) (mhd I x) f (l + 1) l := by
              rw [qr, if_pos (by unfold mcg; rw [decide_eq_true h30]), if_pos (by simp [mhd, h48])]
            rw [e]
            refine q_iload (pc := 51) dM_pointOf_51 rfl ?_
            refine q_goto (tgt := 57) (pc := 53) dM_pointOf_53 (by decide) ?_
            refine q_istore_n (pc := 57) dM_pointOf_57 (by decide) ?_
            refine q_iinc (pc := 58) dM_pointOf_58 rfl (by decide) rfl ⟨by omega, by omega⟩ ?_
            refine q_goto (tgt := 7) (pc := 61) dM_pointOf_61 (by decide) ?_
            exact ih (l + 1) l _ h48 (by omega) (by omega) (by omega)
def mpt (I : qI) (x n : Nat) : Nat := qr (mcg I x) (mhd I x) n 1 0
theorem ct_M_pointOf {L x n : Nat} (hx : x < 12) (I : qI) (hn : I 44 0 = (n : Int)) (hn2 : n < 200) : qT M_M_pointOf 1 [.inr (some 44), .inl ((x : Nat) : Int)] L I (rI (mpt I x n : Nat) L I) := by
  refine q_enter (by decide) (Nat.le_of_ble_eq_true rfl) ?_
  refine q_iconst (pc := 0) dM_pointOf_0 (by decide) ?_
  refine q_istore_n (pc := 1) dM_pointOf_1 (by decide) ?_
  refine q_iconst (pc := 2) dM_pointOf_2 (by decide) ?_
  refine q_istore_n (pc := 3) dM_pointOf_3 (by decide) ?_
  refine q_iconst (pc := 4) dM_pointOf_4 (by decide) ?_
  refine q_istore (pc := 5) dM_pointOf_5 (by decide) ?_
  exact lp_M_pointOf hx I hn hn2 n 1 0 1 (by omega) (by omega) (by omega) (by omega)
def mrq (I : qI) (g : Nat) (v : Int) (c : Nat) : Bool := decide (v ≤ I 53 (6 * g + c))
def mgp (I : qI) (g : Nat) : Nat → Int
  | 0 => 0
  | c + 1 => if mgp I g c < I 53 (6 * g + c) ∧ 4 ≤ qz (mrq I g (I 53 (6 * g + c))) 6 then I 53 (6 * g + c) else mgp I g c
theorem lp_M_groupPointI {L g c : Nat} (hg : g < 2) (hc : c < 6) (b : Int) (I : qI) (P : qP) (K : ∀ z, qE M_M_groupPoint 0 71 [some (.inr (some 44)), some (.inl ((g : Nat) : Int)), some (.inl b), some (.inl ((6 * g + c : Nat) : Int)), some (.inl ((qz (mrq I g (I 53 (6 * g + c))) 6 : Nat) : Int)), z] [] L I P) : ∀ f j, j + f = 6 → qE M_M_groupPoint 0 27 [some (.inr (some 44)), some (.inl ((g : Nat) : Int)), some (.inl b), some (.inl ((6 * g + c : Nat) : Int)), some (.inl ((qz (mrq I g (I 53 (6 * g + c))) j : Nat) : Int)), some (.inl ((6 * g + j : Nat) : Int))] [] L I P := by
  intro f
  induction f with
  | zero =>
    intro j hj
    refine q_iload (pc := 27) dM_groupPoint_27 rfl ?_
    refine q_bipush (pc := 29) dM_groupPoint_29 (by decide) (by decide) ?_
    refine q_iload_n (pc := 31) dM_groupPoint_31 rfl ?_
    refine q_imul (pc := 32) dM_groupPoint_32 (show (6 : Int) * (g : Int) = ((6 * g : Nat) : Int) by omega) ⟨by omega, by omega⟩ ?_
    refine q_bipush (pc := 33) dM_groupPoint_33 (by decide) (by decide) ?_
    refine q_iadd (pc := 35) dM_groupPoint_35 rfl ⟨by omega, by omega⟩ ?_
    refine q_icmp_ge (tgt := 71) (pc := 36) dM_groupPoint_36 (by decide) (fun h36 => ?_) (fun h36 => ?_)
    · obtain rfl : j = 6 := by omega
      exact K _
    · omega
  | succ f ih =>
    intro j hj
    have h9 := ih (j + 1) (by omega)
    have hl := qz_le (mrq I g (I 53 (6 * g + c))) j
    refine q_iload (pc := 27) dM_groupPoint_27 rfl ?_
    refine q_bipush (pc := 29) dM_groupPoint_29 (by decide) (by decide) ?_
    refine q_iload_n (pc := 31) dM_groupPoint_31 rfl ?_
    refine q_imul (pc := 32) dM_groupPoint_32 (show (6 : Int) * (g : Int) = ((6 * g : Nat) : Int) by omega) ⟨by omega, by omega⟩ ?_
    refine q_bipush (pc := 33) dM_groupPoint_33 (by decide) (by decide) ?_
    refine q_iadd (pc := 35) dM_groupPoint_35 rfl ⟨by omega, by omega⟩ ?_
    refine q_icmp_ge (tgt := 71) (pc := 36) dM_groupPoint_36 (by decide) (fun h36 => ?_) (fun h36 => ?_)
    · omega
    · refine q_iload (pc := 39) dM_groupPoint_39 rfl ?_
      refine q_aload_n (pc := 41) dM_groupPoint_41 rfl ?_
      refine q_getR (f := 9) (pc := 42) dM_groupPoint_42 lay_6 (by decide) rfl (by decide) fl_M35 rfl rfl ?_
      refine q_iload (pc := 45) dM_groupPoint_45 rfl ?_
      refine q_iald (i := (6 * g + j)) (pc := 47) dM_groupPoint_47 rfl rfl (by omega) rfl ?_
      refine q_aload_n (pc := 48) dM_groupPoint_48 rfl ?_
      refine q_getR (f := 9) (pc := 49) dM_groupPoint_49 lay_6 (by decide) rfl (by decide) fl_M35 rfl rfl ?_
      refine q_iload_n (pc := 52) dM_groupPoint_52 rfl ?_
      refine q_iald (i := (6 * g + c)) (pc := 53) dM_groupPoint_53 rfl rfl (by omega) rfl ?_
      refine q_icmp_lt (tgt := 61) (pc := 54) dM_groupPoint_54 (by decide) (fun h54 => ?_) (fun h54 => ?_)
      · refine q_iconst (pc := 61) dM_groupPoint_61 (by decide) ?_
        refine q_iadd (pc := 62) dM_groupPoint_62 rfl ⟨by omega, by omega⟩ ?_
        refine q_istore (pc := 63) dM_groupPoint_63 (by decide) ?_
        refine q_iinc (pc := 65) dM_groupPoint_65 rfl (by decide) rfl ⟨by omega, by omega⟩ ?_
        refine q_goto (tgt := 27) (pc := 68) dM_groupPoint_68 (by decide) ?_
        have e : qz (mrq I g (I 53 (6 * g + c))) (j + 1) = qz (mrq I g (I 53 (6 * g + c))) j := by
          rw [qz, if_neg (by unfold mrq; rw [decide_eq_false (by omega)]; decide)]; rfl
        rw [e] at h9
        rw [show ((qz (mrq I g (I 53 (6 * g + c))) j : Nat) : Int) + 0 = ((qz (mrq I g (I 53 (6 * g + c))) j : Nat) : Int) by omega]
        exact h9
      · refine q_iconst (pc := 57) dM_groupPoint_57 (by decide) ?_
        refine q_goto (tgt := 62) (pc := 58) dM_groupPoint_58 (by decide) ?_
        refine q_iadd (pc := 62) dM_groupPoint_62 rfl ⟨by omega, by omega⟩ ?_
        refine q_istore (pc := 63) dM_groupPoint_63 (by decide) ?_
        refine q_iinc (pc := 65) dM_groupPoint_65 rfl (by decide) rfl ⟨by omega, by omega⟩ ?_
        refine q_goto (tgt := 27) (pc := 68) dM_groupPoint_68 (by decide) ?_
        have e : qz (mrq I g (I 53 (6 * g + c))) (j + 1) = qz (mrq I g (I 53 (6 * g + c))) j + 1 := by
          rw [qz, if_pos (by unfold mrq; rw [decide_eq_true (by omega)])]
        rw [e] at h9
        exact h9
theorem lp_M_groupPoint {L g : Nat} (hg : g < 2) (I : qI) : ∀ f c y z, c + f = 6 → qE M_M_groupPoint 0 7 [some (.inr (some 44)), some (.inl ((g : Nat) : Int)), some (.inl (mgp I g c)), some (.inl ((6 * g + c : Nat) : Int)), y, z] [] L I (rI (mgp I g 6) L I) := by
  intro f
  induction f with
  | zero =>
    intro c y z hc
    refine q_iload_n (pc := 7) dM_groupPoint_7 rfl ?_
    refine q_bipush (pc := 8) dM_groupPoint_8 (by decide) (by decide) ?_
    refine q_iload_n (pc := 10) dM_groupPoint_10 rfl ?_
    refine q_imul (pc := 11) dM_groupPoint_11 (show (6 : Int) * (g : Int) = ((6 * g : Nat) : Int) by omega) ⟨by omega, by omega⟩ ?_
    refine q_bipush (pc := 12) dM_groupPoint_12 (by decide) (by decide) ?_
    refine q_iadd (pc := 14) dM_groupPoint_14 rfl ⟨by omega, by omega⟩ ?_
    refine q_icmp_ge (tgt := 104) (pc := 15) dM_groupPoint_15 (by decide) (fun h15 => ?_) (fun h15 => ?_)
    · refine q_iload_n (pc := 104) dM_groupPoint_104 rfl ?_
      refine q_iret rfl (pc := 105) dM_groupPoint_105 ?_
      exact ⟨by rw [show c = 6 by omega], rfl, rfl⟩
    · omega
  | succ f ih =>
    intro c y z hc
    have h9 := fun y z => ih (c + 1) y z (by omega)
    refine q_iload_n (pc := 7) dM_groupPoint_7 rfl ?_
    refine q_bipush (pc := 8) dM_groupPoint_8 (by decide) (by decide) ?_
    refine q_iload_n (pc := 10) dM_groupPoint_10 rfl ?_
    refine q_imul (pc := 11) dM_groupPoint_11 (show (6 : Int) * (g : Int) = ((6 * g : Nat) : Int) by omega) ⟨by omega, by omega⟩ ?_
    refine q_bipush (pc := 12) dM_groupPoint_12 (by decide) (by decide) ?_
    refine q_iadd (pc := 14) dM_groupPoint_14 rfl ⟨by omega, by omega⟩ ?_
    refine q_icmp_ge (tgt := 104) (pc := 15) dM_groupPoint_15 (by decide) (fun h15 => ?_) (fun h15 => ?_)
    · omega
    · refine q_iconst (pc := 18) dM_groupPoint_18 (by decide) ?_
      refine q_istore (pc := 19) dM_groupPoint_19 (by decide) ?_
      refine q_bipush (pc := 21) dM_groupPoint_21 (by decide) (by decide) ?_
      refine q_iload_n (pc := 23) dM_groupPoint_23 rfl ?_
      refine q_imul (pc := 24) dM_groupPoint_24 (show (6 : Int) * (g : Int) = ((6 * g + 0 : Nat) : Int) by omega) ⟨by omega, by omega⟩ ?_
      refine q_istore (pc := 25) dM_groupPoint_25 (by decide) ?_
      refine lp_M_groupPointI hg (by omega) (mgp I g c) I _ (fun z => ?_) 6 0 (by omega)
      refine q_iload (pc := 71) dM_groupPoint_71 rfl ?_
      refine q_iconst (pc := 73) dM_groupPoint_73 (by decide) ?_
      refine q_icmp_lt (tgt := 96) (pc := 74) dM_groupPoint_74 (by decide) (fun h74 => ?_) (fun h74 => ?_)
      · refine q_iload_n (pc := 96) dM_groupPoint_96 rfl ?_
        refine q_istore_n (pc := 97) dM_groupPoint_97 (by decide) ?_
        refine q_iinc (pc := 98) dM_groupPoint_98 rfl (by decide) rfl ⟨by omega, by omega⟩ ?_
        refine q_goto (tgt := 7) (pc := 101) dM_groupPoint_101 (by decide) ?_
        have e : mgp I g (c + 1) = mgp I g c := by rw [mgp, if_neg (by omega)]
        rw [e] at h9
        exact h9 _ _
      · refine q_aload_n (pc := 77) dM_groupPoint_77 rfl ?_
        refine q_getR (f := 9) (pc := 78) dM_groupPoint_78 lay_6 (by decide) rfl (by decide) fl_M35 rfl rfl ?_
        refine q_iload_n (pc := 81) dM_groupPoint_81 rfl ?_
        refine q_iald (i := (6 * g + c)) (pc := 82) dM_groupPoint_82 rfl rfl (by omega) rfl ?_
        refine q_iload_n (pc := 83) dM_groupPoint_83 rfl ?_
        refine q_icmp_le (tgt := 96) (pc := 84) dM_groupPoint_84 (by decide) (fun h84 => ?_) (fun h84 => ?_)
        · refine q_iload_n (pc := 96) dM_groupPoint_96 rfl ?_
          refine q_istore_n (pc := 97) dM_groupPoint_97 (by decide) ?_
          refine q_iinc (pc := 98) dM_groupPoint_98 rfl (by decide) rfl ⟨by omega, by omega⟩ ?_
          refine q_goto (tgt := 7) (pc := 101) dM_groupPoint_101 (by decide) ?_
          have e : mgp I g (c + 1) = mgp I g c := by rw [mgp, if_neg (by omega)]
          rw [e] at h9
          exact h9 _ _
        · refine q_aload_n (pc := 87) dM_groupPoint_87 rfl ?_
          refine q_getR (f := 9) (pc := 88) dM_groupPoint_88 lay_6 (by decide) rfl (by decide) fl_M35 rfl rfl ?_
          refine q_iload_n (pc := 91) dM_groupPoint_91 rfl ?_
          refine q_iald (i := (6 * g + c)) (pc := 92) dM_groupPoint_92 rfl rfl (by omega) rfl ?_
          refine q_goto (tgt := 97) (pc := 93) dM_groupPoint_93 (by decide) ?_
          refine q_istore_n (pc := 97) dM_groupPoint_97 (by decide) ?_
          refine q_iinc (pc := 98) dM_groupPoint_98 rfl (by decide) rfl ⟨by omega, by omega⟩ ?_
          refine q_goto (tgt := 7) (pc := 101) dM_groupPoint_101 (by decide) ?_
          have e : mgp I g (c + 1) = I 53 (6 * g + c) := by rw [mgp, if_pos (by omega)]
          rw [e] at h9
          exact h9 _ _
theorem ct_M_groupPoint {L g : Nat} (hg : g < 2) (I : qI) : qT M_M_groupPoint 0 [.inr (some 44), .inl ((g : Nat) : Int)] L I (rI (mgp I g 6) L I) := by
  refine q_enter (by decide) (Nat.le_of_ble_eq_true rfl) ?_
  refine q_iconst (pc := 0) dM_groupPoint_0 (by decide) ?_
  refine q_istore_n (pc := 1) dM_groupPoint_1 (by decide) ?_
  refine q_bipush (pc := 2) dM_groupPoint_2 (by decide) (by decide) ?_
  refine q_iload_n (pc := 4) dM_groupPoint_4 rfl ?_
  refine q_imul (pc := 5) dM_groupPoint_5 (show (6 : Int) * (g : Int) = ((6 * g + 0 : Nat) : Int) by omega) ⟨by omega, by omega⟩ ?_
  refine q_istore_n (pc := 6) dM_groupPoint_6 (by decide) ?_
  exact lp_M_groupPoint hg I 6 0 _ _ (by omega)
def mcm (I : qI) (l : Nat) : Bool := decide ((l : Int) ≤ if mg I l = 0 then mgp I 0 6 else mgp I 1 6)
theorem lp_M_complete {L n : Nat} (I : qI) (hn : I 44 0 = (n : Int)) (hn2 : n < 199) : ∀ f l, l + f = n → qE M_M_complete 1 14 [some (.inr (some 44)), some (.inl (mgp I 0 6)), some (.inl (mgp I 1 6)), some (.inl ((l : Nat) : Int))] [] L I (rI (qp (mcm I) f l : Nat) L I) := by
  intro f
  induction f with
  | zero =>
    intro l hl
    refine q_iload_n (pc := 14) dM_complete_14 rfl ?_
    refine q_aload_n (pc := 15) dM_complete_15 rfl ?_
    refine q_getI (f := 0) (pc := 16) dM_complete_16 lay_6 (by decide) rfl (by decide) fl_M54 rfl rfl ?_
    refine q_icmp_ge (tgt := 49) (pc := 19) dM_complete_19 (by decide) (fun h19 => ?_) (fun h19 => ?_)
    · refine q_iload_n (pc := 49) dM_complete_49 rfl ?_
      refine q_iret rfl (pc := 50) dM_complete_50 ?_
      exact ⟨rfl, rfl, rfl⟩
    · omega
  | succ f ih =>
    intro l hl
    have h9 := ih (l + 1) (by omega)
    refine q_iload_n (pc := 14) dM_complete_14 rfl ?_
    refine q_aload_n (pc := 15) dM_complete_15 rfl ?_
    refine q_getI (f := 0) (pc := 16) dM_complete_16 lay_6 (by decide) rfl (by decide) fl_M54 rfl rfl ?_
    refine q_icmp_ge (tgt := 49) (pc := 19) dM_complete_19 (by decide) (fun h19 => ?_) (fun h19 => ?_)
    · omega
    · refine q_iload_n (pc := 22) dM_complete_22 rfl ?_
      refine q_iconst (pc := 23) dM_complete_23 (by decide) ?_
      refine q_iadd (pc := 24) dM_complete_24 rfl ⟨by omega, by omega⟩ ?_
      refine q_aload_n (pc := 25) dM_complete_25 rfl ?_
      refine q_iload_n (pc := 26) dM_complete_26 rfl ?_
      refine q_iconst (pc := 27) dM_complete_27 (by decide) ?_
      refine q_iadd (pc := 28) dM_complete_28 rfl ⟨by omega, by omega⟩ ?_
      refine q_callV1 (pc := 29) dM_complete_29 ((ct_M_groupOf (l := l + 1) I (by omega))) cd_M_groupOf in_M_groupOf se_M_groupOf ml_M74 rfl (by decide) rfl rfl (Nat.le_of_ble_eq_true rfl) ⟨by decide, by decide⟩ ⟨by decide, by decide⟩ rfl ?_
      refine q_if_ne (tgt := 39) (pc := 32) dM_complete_32 (by decide) (fun h32 => ?_) (fun h32 => ?_)
      · refine q_iload_n (pc := 39) dM_complete_39 rfl ?_
        refine q_icmp_gt (tgt := 49) (pc := 40) dM_complete_40 (by decide) (fun h40 => ?_) (fun h40 => ?_)
        · refine q_iload_n (pc := 49) dM_complete_49 rfl ?_
          refine q_iret rfl (pc := 50) dM_complete_50 ?_
          exact ⟨by rw [qp, if_neg (by unfold mcm; rw [if_neg h32, decide_eq_false (by omega)]; decide)], rfl, rfl⟩
        · refine q_iinc (pc := 43) dM_complete_43 rfl (by decide) rfl ⟨by omega, by omega⟩ ?_
          refine q_goto (tgt := 14) (pc := 46) dM_complete_46 (by decide) ?_
          have e : qp (mcm I) (f + 1) l = qp (mcm I) f (l + 1) := by
            rw [qp, if_pos (by unfold mcm; rw [if_neg h32, decide_eq_true (by omega)])]
          rw [e]
          exact h9
      · refine q_iload_n (pc := 35) dM_complete_35 rfl ?_
        refine q_goto (tgt := 40) (pc := 36) dM_complete_36 (by decide) ?_
        refine q_icmp_gt (tgt := 49) (pc := 40) dM_complete_40 (by decide) (fun h40 => ?_) (fun h40 => ?_)
        · refine q_iload_n (pc := 49) dM_complete_49 rfl ?_
          refine q_iret rfl (pc := 50) dM_complete_50 ?_
          exact ⟨by rw [qp, if_neg (by unfold mcm; rw [if_pos h32, decide_eq_false (by omega)]; decide)], rfl, rfl⟩
        · refine q_iinc (pc := 43) dM_complete_43 rfl (by decide) rfl ⟨by omega, by omega⟩ ?_
          refine q_goto (tgt := 14) (pc := 46) dM_complete_46 (by decide) ?_
          have e : qp (mcm I) (f + 1) l = qp (mcm I) f (l + 1) := by
            rw [qp, if_pos (by unfold mcm; rw [if_pos h32, decide_eq_true (by omega)])]
          rw [e]
          exact h9
theorem ct_M_complete {L n : Nat} (I : qI) (hn : I 44 0 = (n : Int)) (hn2 : n < 199) : qT M_M_complete 1 [.inr (some 44)] L I (rI (qp (mcm I) n 0 : Nat) L I) := by
  refine q_enter (by decide) (Nat.le_of_ble_eq_true rfl) ?_
  refine q_aload_n (pc := 0) dM_complete_0 rfl ?_
  refine q_iconst (pc := 1) dM_complete_1 (by decide) ?_
  refine q_callV1 (pc := 2) dM_complete_2 ((ct_M_groupPoint (g := 0) (by omega) I)) cd_M_groupPoint in_M_groupPoint se_M_groupPoint ml_M78 rfl (by decide) rfl rfl (Nat.le_of_ble_eq_true rfl) ⟨by decide, by decide⟩ ⟨by decide, by decide⟩ rfl ?_
  refine q_istore_n (pc := 5) dM_complete_5 (by decide) ?_
  refine q_aload_n (pc := 6) dM_complete_6 rfl ?_
  refine q_iconst (pc := 7) dM_complete_7 (by decide) ?_
  refine q_callV1 (pc := 8) dM_complete_8 ((ct_M_groupPoint (g := 1) (by omega) I)) cd_M_groupPoint in_M_groupPoint se_M_groupPoint ml_M78 rfl (by decide) rfl rfl (Nat.le_of_ble_eq_true rfl) ⟨by decide, by decide⟩ ⟨by decide, by decide⟩ rfl ?_
  refine q_istore_n (pc := 11) dM_complete_11 (by decide) ?_
  refine q_iconst (pc := 12) dM_complete_12 (by decide) ?_
  refine q_istore_n (pc := 13) dM_complete_13 (by decide) ?_
  exact lp_M_complete I hn hn2 n 0 (by omega)
def mcl (I : qI) (l : Nat) : Bool := decide (I 49 l ≠ 0)
theorem lp_M_closeUpTo {L m : Nat} (I : qI) (hm : m < 200) : ∀ f l, l + f = m → qE M_M_closeUpTo 0 4 [some (.inr (some 44)), some (.inl ((m : Nat) : Int)), some (.inl ((ql (mcl I) l : Nat) : Int)), some (.inl ((l + 1 : Nat) : Int))] [] L I (rI (ql (mcl I) m : Nat) L I) := by
  intro f
  induction f with
  | zero =>
    intro l hl
    refine q_iload_n (pc := 4) dM_closeUpTo_4 rfl ?_
    refine q_iload_n (pc := 5) dM_closeUpTo_5 rfl ?_
    refine q_icmp_gt (tgt := 30) (pc := 6) dM_closeUpTo_6 (by decide) (fun h6 => ?_) (fun h6 => ?_)
    · refine q_iload_n (pc := 30) dM_closeUpTo_30 rfl ?_
      refine q_iret rfl (pc := 31) dM_closeUpTo_31 ?_
      exact ⟨by rw [show l = m by omega], rfl, rfl⟩
    · omega
  | succ f ih =>
    intro l hl
    have h9 := ih (l + 1) (by omega)
    refine q_iload_n (pc := 4) dM_closeUpTo_4 rfl ?_
    refine q_iload_n (pc := 5) dM_closeUpTo_5 rfl ?_
    refine q_icmp_gt (tgt := 30) (pc := 6) dM_closeUpTo_6 (by decide) (fun h6 => ?_) (fun h6 => ?_)
    · omega
    · refine q_aload_n (pc := 9) dM_closeUpTo_9 rfl ?_
      refine q_getR (f := 5) (pc := 10) dM_closeUpTo_10 lay_6 (by decide) rfl (by decide) fl_M22 rfl rfl ?_
      refine q_iload_n (pc := 13) dM_closeUpTo_13 rfl ?_
      refine q_zald (i := (l + 1)) (pc := 14) dM_closeUpTo_14 rfl rfl (by omega) rfl ?_
      refine q_if_eq (tgt := 22) (pc := 15) dM_closeUpTo_15 (by decide) (fun h15 => ?_) (fun h15 => ?_)
      · refine q_iload_n (pc := 22) dM_closeUpTo_22 rfl ?_
        refine q_istore_n (pc := 23) dM_closeUpTo_23 (by decide) ?_
        refine q_iinc (pc := 24) dM_closeUpTo_24 rfl (by decide) rfl ⟨by omega, by omega⟩ ?_
        refine q_goto (tgt := 4) (pc := 27) dM_closeUpTo_27 (by decide) ?_
        rw [ql_n (by simp [mcl, h15])] at h9
        exact h9
      · refine q_iload_n (pc := 18) dM_closeUpTo_18 rfl ?_
        refine q_goto (tgt := 23) (pc := 19) dM_closeUpTo_19 (by decide) ?_
        refine q_istore_n (pc := 23) dM_closeUpTo_23 (by decide) ?_
        refine q_iinc (pc := 24) dM_closeUpTo_24 rfl (by decide) rfl ⟨by omega, by omega⟩ ?_
        refine q_goto (tgt := 4) (pc := 27) dM_closeUpTo_27 (by decide) ?_
        rw [ql_y (by simp [mcl, h15])] at h9
        exact h9
theorem ct_M_closeUpTo {L m : Nat} (I : qI) (hm : m < 200) : qT M_M_closeUpTo 0 [.inr (some 44), .inl ((m : Nat) : Int)] L I (rI (ql (mcl I) m : Nat) L I) := by
  refine q_enter (by decide) (Nat.le_of_ble_eq_true rfl) ?_
  refine q_iconst (pc := 0) dM_closeUpTo_0 (by decide) ?_
  refine q_istore_n (pc := 1) dM_closeUpTo_1 (by decide) ?_
  refine q_iconst (pc := 2) dM_closeUpTo_2 (by decide) ?_
  refine q_istore_n (pc := 3) dM_closeUpTo_3 (by decide) ?_
  exact lp_M_closeUpTo I hm m 0 (by omega)
def madv (I : qI) (n : Nat) : qI := q_up I 44 11 (qmax (I 44 11) (ql (mcl I) (qp (mcm I) n 0) : Nat))
theorem ct_M_advance {L n : Nat} (I : qI) (hn : I 44 0 = (n : Int)) (hn2 : n < 199) : qT M_M_advance 2 [.inr (some 44)] L I (rV L (madv I n)) := by
  have hq := qp_le (mcm I) n 0
  refine q_enter (by decide) (Nat.le_of_ble_eq_true rfl) ?_
  refine q_aload_n (pc := 0) dM_advance_0 rfl ?_
  refine q_aload_n (pc := 1) dM_advance_1 rfl ?_
  refine q_callV1 (pc := 2) dM_advance_2 ((ct_M_complete I hn hn2)) cd_M_complete in_M_complete se_M_complete ml_M87 rfl (by decide) rfl rfl (Nat.le_of_ble_eq_true rfl) ⟨by decide, by decide⟩ ⟨by decide, by decide⟩ rfl ?_
  refine q_callV1 (pc := 5) dM_advance_5 ((ct_M_closeUpTo I (by omega))) cd_M_closeUpTo in_M_closeUpTo se_M_closeUpTo ml_M91 rfl (by decide) rfl rfl (Nat.le_of_ble_eq_true rfl) ⟨by decide, by decide⟩ ⟨by decide, by decide⟩ rfl ?_
  refine q_istore_n (pc := 8) dM_advance_8 (by decide) ?_
  refine q_aload_n (pc := 9) dM_advance_9 rfl ?_
  refine q_iload_n (pc := 10) dM_advance_10 rfl ?_
  refine q_aload_n (pc := 11) dM_advance_11 rfl ?_
  refine q_getI (f := 11) (pc := 12) dM_advance_12 lay_6 (by decide) rfl (by decide) fl_M94 rfl rfl ?_
  refine q_icmp_le (tgt := 22) (pc := 15) dM_advance_15 (by decide) (fun h15 => ?_) (fun h15 => ?_)
  · refine q_aload_n (pc := 22) dM_advance_22 rfl ?_
    refine q_getI (f := 11) (pc := 23) dM_advance_23 lay_6 (by decide) rfl (by decide) fl_M94 rfl rfl ?_
    refine q_putI (f := 11) (pc := 26) dM_advance_26 lay_6 typ_6 (by decide) rfl (by decide) fl_M94 rfl (Or.inl rfl) (Or.inl rfl) rfl ?_
    refine q_vret rfl (pc := 29) dM_advance_29 ?_
    exact ⟨rfl, rfl, by unfold madv qmax; rw [if_neg (by omega)]⟩
  · refine q_iload_n (pc := 18) dM_advance_18 rfl ?_
    refine q_goto (tgt := 26) (pc := 19) dM_advance_19 (by decide) ?_
    refine q_putI (f := 11) (pc := 26) dM_advance_26 lay_6 typ_6 (by decide) rfl (by decide) fl_M94 rfl (Or.inl rfl) (Or.inl rfl) rfl ?_
    refine q_vret rfl (pc := 29) dM_advance_29 ?_
    exact ⟨rfl, rfl, by unfold madv qmax; rw [if_pos (by omega)]⟩
def mrep (I : qI) (x n : Nat) : qI := madv (q_up I 53 x (mpt I x n : Nat)) n
theorem ct_M_reportPoint {L n x : Nat} (hx : x < 12) (I : qI) (hn : I 44 0 = (n : Int)) (hn2 : n < 199) : qT M_M_reportPoint 3 [.inr (some 44), .inl ((x : Nat) : Int)] L I (rV L (mrep I x n)) := by
  refine q_enter (by decide) (Nat.le_of_ble_eq_true rfl) ?_
  refine q_aload_n (pc := 0) dM_reportPoint_0 rfl ?_
  refine q_getR (f := 9) (pc := 1) dM_reportPoint_1 lay_6 (by decide) rfl (by decide) fl_M35 rfl rfl ?_
  refine q_iload_n (pc := 4) dM_reportPoint_4 rfl ?_
  refine q_aload_n (pc := 5) dM_reportPoint_5 rfl ?_
  refine q_iload_n (pc := 6) dM_reportPoint_6 rfl ?_
  refine q_callV1 (pc := 7) dM_reportPoint_7 ((ct_M_pointOf hx I hn (by omega))) cd_M_pointOf in_M_pointOf se_M_pointOf ml_M81 rfl (by decide) rfl rfl (Nat.le_of_ble_eq_true rfl) ⟨by decide, by decide⟩ ⟨by decide, by decide⟩ rfl ?_
  refine q_iast (i := x) (pc := 10) dM_reportPoint_10 rfl rfl (by omega) rfl ?_
  refine q_aload_n (pc := 11) dM_reportPoint_11 rfl ?_
  refine q_callV0 (pc := 12) dM_reportPoint_12 ((ct_M_advance _ (by rw [q_up_off 44 (by decide)]; exact hn) hn2)) cd_M_advance in_M_advance se_M_advance ml_M84 rfl (by decide) rfl rfl (Nat.le_of_ble_eq_true rfl) ⟨by decide, by decide⟩ ⟨by decide, by decide⟩ rfl ?_
  refine q_vret rfl (pc := 15) dM_reportPoint_15 ?_
  exact ⟨rfl, rfl, rfl⟩
def mal (I : qI) (g x : Nat) (l : Nat) : Bool := !decide (mg I l = (g : Int)) || mhd I x l
def mll (I : qI) (x : Nat) : Bool := decide (I 51 x = 0)
theorem lp_M_servedI {L n g x m : Nat} (hx : x < 12) (b : Bool) (I : qI) (hn : I 44 0 = (n : Int)) (hn2 : n < 200) (hm : m ≤ n) (P : qP) (K : ∀ z, qE M_M_served 1 94 [some (.inr (some 44)), some (.inl ((g : Nat) : Int)), some (.inl ((m : Nat) : Int)), some (.inl ((x : Nat) : Int)), some (.inl (bi (b && qa (mal I g x) m))), z] [] L I P) : ∀ f l, l + f = m → qE M_M_served 1 35 [some (.inr (some 44)), some (.inl ((g : Nat) : Int)), some (.inl ((m : Nat) : Int)), some (.inl ((x : Nat) : Int)), some (.inl (bi (b && qa (mal I g x) l))), some (.inl ((l + 1 : Nat) : Int))] [] L I P := by
  intro f
  induction f with
  | zero =>
    intro l hl
    refine q_iload (pc := 35) dM_served_35 rfl ?_
    refine q_iload_n (pc := 37) dM_served_37 rfl ?_
    refine q_icmp_gt (tgt := 94) (pc := 38) dM_served_38 (by decide) (fun h38 => ?_) (fun h38 => ?_)
    · obtain rfl : l = m := by omega
      exact K _
    · omega
  | succ f ih =>
    intro l hl
    have h9 := ih (l + 1) (by omega)
    have eq : qa (mal I g x) (l + 1) = (qa (mal I g x) l && mal I g x (l + 1)) := rfl
    refine q_iload (pc := 35) dM_served_35 rfl ?_
    refine q_iload_n (pc := 37) dM_served_37 rfl ?_
    refine q_icmp_gt (tgt := 94) (pc := 38) dM_served_38 (by decide) (fun h38 => ?_) (fun h38 => ?_)
    · omega
    · refine q_iload (pc := 41) dM_served_41 rfl ?_
      refine q_aload_n (pc := 43) dM_served_43 rfl ?_
      refine q_getI (f := 0) (pc := 44) dM_served_44 lay_6 (by decide) rfl (by decide) fl_M54 rfl rfl ?_
      refine q_icmp_gt (tgt := 94) (pc := 47) dM_served_47 (by decide) (fun h47 => ?_) (fun h47 => ?_)
      · omega
      · refine q_iload (pc := 50) dM_served_50 rfl ?_
        refine q_if_eq (tgt := 85) (pc := 52) dM_served_52 (by decide) (fun h52 => ?_) (fun h52 => ?_)
        · refine q_iconst (pc := 85) dM_served_85 (by decide) ?_
          refine q_istore (pc := 86) dM_served_86 (by decide) ?_
          refine q_iinc (pc := 88) dM_served_88 rfl (by decide) rfl ⟨by omega, by omega⟩ ?_
          refine q_goto (tgt := 35) (pc := 91) dM_served_91 (by decide) ?_
          have e : (b && qa (mal I g x) (l + 1)) = false := by
            have := bi_eq h52
            rw [eq, ← Bool.and_assoc, this]; rfl
          rw [e] at h9
          exact h9
        · have h8 := bi_ne h52
          refine q_aload_n (pc := 55) dM_served_55 rfl ?_
          refine q_iload (pc := 56) dM_served_56 rfl ?_
          refine q_callV1 (pc := 58) dM_served_58 ((ct_M_groupOf (l := l + 1) I (by omega))) cd_M_groupOf in_M_groupOf se_M_groupOf ml_M74 rfl (by decide) rfl rfl (Nat.le_of_ble_eq_true rfl) ⟨by decide, by decide⟩ ⟨by decide, by decide⟩ rfl ?_
          refine q_iload_n (pc := 61) dM_served_61 rfl ?_
          refine q_icmp_ne (tgt := 81) (pc := 62) dM_served_62 (by decide) (fun h62 => ?_) (fun h62 => ?_)
          · refine q_iconst (pc := 81) dM_served_81 (by decide) ?_
            refine q_goto (tgt := 86) (pc := 82) dM_served_82 (by decide) ?_
            refine q_istore (pc := 86) dM_served_86 (by decide) ?_
            refine q_iinc (pc := 88) dM_served_88 rfl (by decide) rfl ⟨by omega, by omega⟩ ?_
            refine q_goto (tgt := 35) (pc := 91) dM_served_91 (by decide) ?_
            have e : (b && qa (mal I g x) (l + 1)) = true := by
              rw [eq, ← Bool.and_assoc, h8]; simp [mal, h62]
            rw [e] at h9
            exact h9
          · refine q_aload_n (pc := 65) dM_served_65 rfl ?_
            refine q_getR (f := 6) (pc := 66) dM_served_66 lay_6 (by decide) rfl (by decide) fl_M26 rfl rfl ?_
            refine q_sipush (pc := 69) dM_served_69 (by decide) (by decide) ?_
            refine q_iload_n (pc := 72) dM_served_72 rfl ?_
            refine q_imul (pc := 73) dM_served_73 (show (200 : Int) * (x : Int) = ((200 * x : Nat) : Int) by omega) ⟨by omega, by omega⟩ ?_
            refine q_iload (pc := 74) dM_served_74 rfl ?_
            refine q_iadd (pc := 76) dM_served_76 (show ((200 * x : Nat) : Int) + ((l + 1 : Nat) : Int) = ((200 * x + (l + 1) : Nat) : Int) by omega) ⟨by omega, by omega⟩ ?_
            refine q_zald (i := (200 * x + (l + 1))) (pc := 77) dM_served_77 rfl rfl (by omega) rfl ?_
            refine q_if_eq (tgt := 85) (pc := 78) dM_served_78 (by decide) (fun h78 => ?_) (fun h78 => ?_)
            · refine q_iconst (pc := 85) dM_served_85 (by decide) ?_
              refine q_istore (pc := 86) dM_served_86 (by decide) ?_
              refine q_iinc (pc := 88) dM_served_88 rfl (by decide) rfl ⟨by omega, by omega⟩ ?_
              refine q_goto (tgt := 35) (pc := 91) dM_served_91 (by decide) ?_
              have e : (b && qa (mal I g x) (l + 1)) = false := by
                rw [eq, ← Bool.and_assoc, h8]; simp [mal, h62, mhd, h78]
              rw [e] at h9
              exact h9
            · refine q_iconst (pc := 81) dM_served_81 (by decide) ?_
              refine q_goto (tgt := 86) (pc := 82) dM_served_82 (by decide) ?_
              refine q_istore (pc := 86) dM_served_86 (by decide) ?_
              refine q_iinc (pc := 88) dM_served_88 rfl (by decide) rfl ⟨by omega, by omega⟩ ?_
              refine q_goto (tgt := 35) (pc := 91) dM_served_91 (by decide) ?_
              have e : (b && qa (mal I g x) (l + 1)) = true := by
                rw [eq, ← Bool.and_assoc, h8]; simp [mal, mhd, h78]
              rw [e] at h9
              exact h9
def msv (I : qI) (g m : Nat) (c : Nat) : Bool := mll I (6 * g + c) && qa (mal I g (6 * g + c)) m
theorem lp_M_served {L n g m : Nat} (hg : g < 2) (I : qI) (hn : I 44 0 = (n : Int)) (hn2 : n < 200) (hm : m ≤ n) : ∀ f c y z, c + f = 6 → qe (msv I g m) c = false → qE M_M_served 1 5 [some (.inr (some 44)), some (.inl ((g : Nat) : Int)), some (.inl ((m : Nat) : Int)), some (.inl ((6 * g + c : Nat) : Int)), y, z] [] L I (rI (bi (qe (msv I g m) 6)) L I) := by
  intro f
  induction f with
  | zero =>
    intro c y z hc hk
    obtain rfl : c = 6 := by omega
    refine q_iload_n (pc := 5) dM_served_5 rfl ?_
    refine q_bipush (pc := 6) dM_served_6 (by decide) (by decide) ?_
    refine q_iload_n (pc := 8) dM_served_8 rfl ?_
    refine q_imul (pc := 9) dM_served_9 (show (6 : Int) * (g : Int) = ((6 * g : Nat) : Int) by omega) ⟨by omega, by omega⟩ ?_
    refine q_bipush (pc := 10) dM_served_10 (by decide) (by decide) ?_
    refine q_iadd (pc := 12) dM_served_12 rfl ⟨by omega, by omega⟩ ?_
    refine q_icmp_ge (tgt := 107) (pc := 13) dM_served_13 (by decide) (fun h13 => ?_) (fun h13 => ?_)
    · refine q_iconst (pc := 107) dM_served_107 (by decide) ?_
      refine q_zret rfl (by first | exact Or.inl rfl | exact Or.inr rfl) (pc := 108) dM_served_108 ?_
      exact ⟨by rw [hk]; rfl, rfl, rfl⟩
    · omega
  | succ f ih =>
    intro c y z hc hk
    have h9 := fun y z => ih (c + 1) y z (by omega)
    have hx : 6 * g + c < 12 := by omega
    have K : ∀ z, qE M_M_served 1 94 [some (.inr (some 44)), some (.inl ((g : Nat) : Int)), some (.inl ((m : Nat) : Int)), some (.inl ((6 * g + c : Nat) : Int)), some (.inl (bi (mll I (6 * g + c) && qa (mal I g (6 * g + c)) m))), z] [] L I (rI (bi (qe (msv I g m) 6)) L I) := by
      intro z
      refine q_iload (pc := 94) dM_served_94 rfl ?_
      refine q_if_eq (tgt := 101) (pc := 96) dM_served_96 (by decide) (fun h96 => ?_) (fun h96 => ?_)
      · refine q_iinc (pc := 101) dM_served_101 rfl (by decide) rfl ⟨by omega, by omega⟩ ?_
        refine q_goto (tgt := 5) (pc := 104) dM_served_104 (by decide) ?_
        exact h9 _ _ (qe_no hk (bi_eq h96))
      · refine q_iconst (pc := 99) dM_served_99 (by decide) ?_
        refine q_zret rfl (by first | exact Or.inl rfl | exact Or.inr rfl) (pc := 100) dM_served_100 ?_
        exact ⟨by rw [qe_yes (c := c) (by omega) (bi_ne h96)]; rfl, rfl, rfl⟩
    refine q_iload_n (pc := 5) dM_served_5 rfl ?_
    refine q_bipush (pc := 6) dM_served_6 (by decide) (by decide) ?_
    refine q_iload_n (pc := 8) dM_served_8 rfl ?_
    refine q_imul (pc := 9) dM_served_9 (show (6 : Int) * (g : Int) = ((6 * g : Nat) : Int) by omega) ⟨by omega, by omega⟩ ?_
    refine q_bipush (pc := 10) dM_served_10 (by decide) (by decide) ?_
    refine q_iadd (pc := 12) dM_served_12 rfl ⟨by omega, by omega⟩ ?_
    refine q_icmp_ge (tgt := 107) (pc := 13) dM_served_13 (by decide) (fun h13 => ?_) (fun h13 => ?_)
    · omega
    · refine q_aload_n (pc := 16) dM_served_16 rfl ?_
      refine q_getR (f := 7) (pc := 17) dM_served_17 lay_6 (by decide) rfl (by decide) fl_M29 rfl rfl ?_
      refine q_iload_n (pc := 20) dM_served_20 rfl ?_
      refine q_iald (i := (6 * g + c)) (pc := 21) dM_served_21 rfl rfl (by omega) rfl ?_
      refine q_if_ne (tgt := 29) (pc := 22) dM_served_22 (by decide) (fun h22 => ?_) (fun h22 => ?_)
      · refine q_iconst (pc := 29) dM_served_29 (by decide) ?_
        refine q_istore (pc := 30) dM_served_30 (by decide) ?_
        refine q_iconst (pc := 32) dM_served_32 (by decide) ?_
        refine q_istore (pc := 33) dM_served_33 (by decide) ?_
        have h8 := lp_M_servedI (g := g) hx (mll I (6 * g + c)) I hn hn2 hm _ K m 0 (by omega)
        have e : mll I (6 * g + c) = false := by simp [mll, h22]
        rw [show (mll I (6 * g + c) && qa (mal I g (6 * g + c)) 0) = false by rw [e]; rfl] at h8
        exact h8
      · refine q_iconst (pc := 25) dM_served_25 (by decide) ?_
        refine q_goto (tgt := 30) (pc := 26) dM_served_26 (by decide) ?_
        refine q_istore (pc := 30) dM_served_30 (by decide) ?_
        refine q_iconst (pc := 32) dM_served_32 (by decide) ?_
        refine q_istore (pc := 33) dM_served_33 (by decide) ?_
        have h8 := lp_M_servedI (g := g) hx (mll I (6 * g + c)) I hn hn2 hm _ K m 0 (by omega)
        have e : mll I (6 * g + c) = true := by simp [mll, h22]
        rw [show (mll I (6 * g + c) && qa (mal I g (6 * g + c)) 0) = true by rw [e]; rfl] at h8
        exact h8
theorem ct_M_served {L n g m : Nat} (hg : g < 2) (I : qI) (hn : I 44 0 = (n : Int)) (hn2 : n < 200) (hm : m ≤ n) : qT M_M_served 1 [.inr (some 44), .inl ((g : Nat) : Int), .inl ((m : Nat) : Int)] L I (rI (bi (qe (msv I g m) 6)) L I) := by
  refine q_enter (by decide) (Nat.le_of_ble_eq_true rfl) ?_
  refine q_bipush (pc := 0) dM_served_0 (by decide) (by decide) ?_
  refine q_iload_n (pc := 2) dM_served_2 rfl ?_
  refine q_imul (pc := 3) dM_served_3 (show (6 : Int) * (g : Int) = ((6 * g + 0 : Nat) : Int) by omega) ⟨by omega, by omega⟩ ?_
  refine q_istore_n (pc := 4) dM_served_4 (by decide) ?_
  exact lp_M_served hg I hn hn2 hm 6 0 _ _ (by omega) rfl
