/-! The reference, eighth part. -/
theorem ct_M_copy0 {L : Nat} {g c w : Int} (I : qI) (h0 : ¬ (isC g c ∧ 0 ≤ w ∧ w ≤ 2)) : qT M_M_copy 2 [.inr (some 44), .inl g, .inl c, .inl w] L I (rI (-1) L I) := by
  refine q_enter (by decide) (Nat.le_of_ble_eq_true rfl) ?_
  refine q_iload_n (pc := 0) dM_copy_0 rfl ?_
  refine q_iload_n (pc := 1) dM_copy_1 rfl ?_
  refine q_callS1 (pc := 2) dM_copy_2 ((ct_M_isCopy g c I)) cd_M_isCopy st_M_isCopy ml_M143 rfl (Nat.le_of_ble_eq_true rfl) ⟨by decide, by decide⟩ ⟨by decide, by decide⟩ rfl ?_
  refine q_if_eq (tgt := 35) (pc := 5) dM_copy_5 (by decide) (fun h5 => ?_) (fun h5 => ?_)
  · refine q_iconst (pc := 35) dM_copy_35 (by decide) ?_
    refine q_iret rfl (pc := 36) dM_copy_36 ?_
    exact ⟨rfl, rfl, rfl⟩
  · have hC : isC g c := by have := of_decide_eq_true (bi_ne h5); exact this
    refine q_iload_n (pc := 8) dM_copy_8 rfl ?_
    refine q_if_lt (tgt := 35) (pc := 9) dM_copy_9 (by decide) (fun h9 => ?_) (fun h9 => ?_)
    · refine q_iconst (pc := 35) dM_copy_35 (by decide) ?_
      refine q_iret rfl (pc := 36) dM_copy_36 ?_
      exact ⟨rfl, rfl, rfl⟩
    · refine q_iload_n (pc := 12) dM_copy_12 rfl ?_
      refine q_iconst (pc := 13) dM_copy_13 (by decide) ?_
      refine q_icmp_gt (tgt := 35) (pc := 14) dM_copy_14 (by decide) (fun h14 => ?_) (fun h14 => ?_)
      · refine q_iconst (pc := 35) dM_copy_35 (by decide) ?_
        refine q_iret rfl (pc := 36) dM_copy_36 ?_
        exact ⟨rfl, rfl, rfl⟩
      · exact absurd ⟨hC, by omega, by omega⟩ h0
def mkp (I : qI) (x : Nat) (l : Nat) : Bool := decide (I 52 x < (l : Int)) && mhd I x l
theorem ct_M_copy {L n T k d g c : Nat} (w : Int) (I : qI) (h : mw I n T k d) (hg : g < 2) (hc : c < 6) (hw : 0 ≤ w ∧ w ≤ 2) : qT M_M_copy 2 [.inr (some 44), .inl ((g : Nat) : Int), .inl ((c : Nat) : Int), .inl w] L I (rI (if w = 0 then I 51 (6 * g + c) else if ¬ I 51 (6 * g + c) = 0 then -1 else if w = 1 then (mpt I (6 * g + c) n : Nat) else (qn (mkp I (6 * g + c)) n : Nat)) L I) := by
  obtain ⟨⟨hn, hn2⟩, -⟩ := h
  have hx : 6 * g + c < 12 := by omega
  refine q_enter (by decide) (Nat.le_of_ble_eq_true rfl) ?_
  have tl : (w = 0 ∨ I 51 (6 * g + c) = 0) → ∀ f l : Nat, l + f = n → qE M_M_copy 2 51 [some (.inr (some 44)), some (.inl ((g : Nat) : Int)), some (.inl ((c : Nat) : Int)), some (.inl w), some (.inl ((6 * g + c : Nat) : Int)), some (.inl ((qn (mkp I (6 * g + c)) l : Nat) : Int)), some (.inl ((l + 1 : Nat) : Int))] [] L I (rI (if w = 0 then I 51 (6 * g + c) else if ¬ I 51 (6 * g + c) = 0 then -1 else if w = 1 then (mpt I (6 * g + c) n : Nat) else (qn (mkp I (6 * g + c)) n : Nat)) L I) := by
    intro hz f
    induction f with
    | zero =>
      intro l hl
      obtain rfl : l = n := by omega
      refine q_iload (pc := 51) dM_copy_51 rfl ?_
      refine q_aload_n (pc := 53) dM_copy_53 rfl ?_
      refine q_getI (f := 0) (pc := 54) dM_copy_54 lay_6 (by decide) rfl (by decide) fl_M54 rfl rfl ?_
      refine q_icmp_gt (tgt := 105) (pc := 57) dM_copy_57 (by decide) (fun h57 => ?_) (fun h57 => ?_)
      · refine q_iload_n (pc := 105) dM_copy_105 rfl ?_
        refine q_if_ne (tgt := 119) (pc := 106) dM_copy_106 (by decide) (fun h106 => ?_) (fun h106 => ?_)
        · have hz' : I 51 (6 * g + c) = 0 := by rcases hz with z | z; exact absurd z h106; exact z
          refine q_iload_n (pc := 119) dM_copy_119 rfl ?_
          refine q_iconst (pc := 120) dM_copy_120 (by decide) ?_
          refine q_icmp_ne (tgt := 133) (pc := 121) dM_copy_121 (by decide) (fun h121 => ?_) (fun h121 => ?_)
          · refine q_iload (pc := 133) dM_copy_133 rfl ?_
            refine q_iret rfl (pc := 135) dM_copy_135 ?_
            exact ⟨by rw [if_neg h106, if_neg (not_not_intro hz'), if_neg h121], rfl, rfl⟩
          · refine q_aload_n (pc := 124) dM_copy_124 rfl ?_
            refine q_iload (pc := 125) dM_copy_125 rfl ?_
            refine q_callV1 (pc := 127) dM_copy_127 ((ct_M_pointOf hx I hn (by omega))) cd_M_pointOf in_M_pointOf se_M_pointOf ml_M81 rfl (by decide) rfl rfl (Nat.le_of_ble_eq_true rfl) ⟨by decide, by decide⟩ ⟨by decide, by decide⟩ rfl ?_
            refine q_goto (tgt := 135) (pc := 130) dM_copy_130 (by decide) ?_
            refine q_iret rfl (pc := 135) dM_copy_135 ?_
            exact ⟨by rw [if_neg h106, if_neg (not_not_intro hz'), if_pos h121], rfl, rfl⟩
        · refine q_aload_n (pc := 109) dM_copy_109 rfl ?_
          refine q_getR (f := 7) (pc := 110) dM_copy_110 lay_6 (by decide) rfl (by decide) fl_M29 rfl rfl ?_
          refine q_iload (pc := 113) dM_copy_113 rfl ?_
          refine q_iald (i := (6 * g + c)) (pc := 115) dM_copy_115 rfl rfl (by omega) rfl ?_
          refine q_goto (tgt := 135) (pc := 116) dM_copy_116 (by decide) ?_
          refine q_iret rfl (pc := 135) dM_copy_135 ?_
          exact ⟨by rw [if_pos h106], rfl, rfl⟩
      · omega
    | succ f ih =>
      intro l hl
      have h9 := ih (l + 1) (by omega)
      have hq := qn_le (mkp I (6 * g + c)) l
      have no : ¬ mkp I (6 * g + c) (l + 1) = true → qn (mkp I (6 * g + c)) (l + 1) = qn (mkp I (6 * g + c)) l + 0 := fun h => by rw [qn, if_neg h]
      refine q_iload (pc := 51) dM_copy_51 rfl ?_
      refine q_aload_n (pc := 53) dM_copy_53 rfl ?_
      refine q_getI (f := 0) (pc := 54) dM_copy_54 lay_6 (by decide) rfl (by decide) fl_M54 rfl rfl ?_
      refine q_icmp_gt (tgt := 105) (pc := 57) dM_copy_57 (by decide) (fun h57 => ?_) (fun h57 => ?_)
      · omega
      · refine q_iload (pc := 60) dM_copy_60 rfl ?_
        refine q_aload_n (pc := 62) dM_copy_62 rfl ?_
        refine q_getR (f := 6) (pc := 63) dM_copy_63 lay_6 (by decide) rfl (by decide) fl_M26 rfl rfl ?_
        refine q_sipush (pc := 66) dM_copy_66 (by decide) (by decide) ?_
        refine q_iload (pc := 69) dM_copy_69 rfl ?_
        refine q_imul (pc := 71) dM_copy_71 (show (200 : Int) * ((6 * g + c : Nat) : Int) = ((200 * (6 * g + c) : Nat) : Int) by omega) ⟨by omega, by omega⟩ ?_
        refine q_iload (pc := 72) dM_copy_72 rfl ?_
        refine q_iadd (pc := 74) dM_copy_74 (show ((200 * (6 * g + c) : Nat) : Int) + ((l + 1 : Nat) : Int) = ((200 * (6 * g + c) + (l + 1) : Nat) : Int) by omega) ⟨by omega, by omega⟩ ?_
        refine q_zald (i := (200 * (6 * g + c) + (l + 1))) (pc := 75) dM_copy_75 rfl rfl (by omega) rfl ?_
        refine q_if_eq (tgt := 95) (pc := 76) dM_copy_76 (by decide) (fun h76 => ?_) (fun h76 => ?_)
        · refine q_iconst (pc := 95) dM_copy_95 (by decide) ?_
          refine q_iadd (pc := 96) dM_copy_96 rfl ⟨by omega, by omega⟩ ?_
          refine q_istore (pc := 97) dM_copy_97 (by decide) ?_
          refine q_iinc (pc := 99) dM_copy_99 rfl (by decide) rfl ⟨by omega, by omega⟩ ?_
          refine q_goto (tgt := 51) (pc := 102) dM_copy_102 (by decide) ?_
          rw [no (by simp [mkp, mhd, h76])] at h9
          exact h9
        · refine q_iload (pc := 79) dM_copy_79 rfl ?_
          refine q_aload_n (pc := 81) dM_copy_81 rfl ?_
          refine q_getR (f := 8) (pc := 82) dM_copy_82 lay_6 (by decide) rfl (by decide) fl_M32 rfl rfl ?_
          refine q_iload (pc := 85) dM_copy_85 rfl ?_
          refine q_iald (i := (6 * g + c)) (pc := 87) dM_copy_87 rfl rfl (by omega) rfl ?_
          refine q_icmp_le (tgt := 95) (pc := 88) dM_copy_88 (by decide) (fun h88 => ?_) (fun h88 => ?_)
          · refine q_iconst (pc := 95) dM_copy_95 (by decide) ?_
            refine q_iadd (pc := 96) dM_copy_96 rfl ⟨by omega, by omega⟩ ?_
            refine q_istore (pc := 97) dM_copy_97 (by decide) ?_
            refine q_iinc (pc := 99) dM_copy_99 rfl (by decide) rfl ⟨by omega, by omega⟩ ?_
            refine q_goto (tgt := 51) (pc := 102) dM_copy_102 (by decide) ?_
            rw [no (by unfold mkp; rw [decide_eq_false (by omega)]; simp)] at h9
            exact h9
          · refine q_iconst (pc := 91) dM_copy_91 (by decide) ?_
            refine q_goto (tgt := 96) (pc := 92) dM_copy_92 (by decide) ?_
            refine q_iadd (pc := 96) dM_copy_96 rfl ⟨by omega, by omega⟩ ?_
            refine q_istore (pc := 97) dM_copy_97 (by decide) ?_
            refine q_iinc (pc := 99) dM_copy_99 rfl (by decide) rfl ⟨by omega, by omega⟩ ?_
            refine q_goto (tgt := 51) (pc := 102) dM_copy_102 (by decide) ?_
            have e : qn (mkp I (6 * g + c)) (l + 1) = qn (mkp I (6 * g + c)) l + 1 := by rw [qn, if_pos (by unfold mkp mhd; rw [decide_eq_true (by omega), decide_eq_true h76]; rfl)]
            rw [e] at h9
            exact h9
  have hd : (w = 0 ∨ I 51 (6 * g + c) = 0) → qE M_M_copy 2 37 [some (.inr (some 44)), some (.inl ((g : Nat) : Int)), some (.inl ((c : Nat) : Int)), some (.inl w), none, none, none] [] L I (rI (if w = 0 then I 51 (6 * g + c) else if ¬ I 51 (6 * g + c) = 0 then -1 else if w = 1 then (mpt I (6 * g + c) n : Nat) else (qn (mkp I (6 * g + c)) n : Nat)) L I) := by
    intro hz
    refine q_bipush (pc := 37) dM_copy_37 (by decide) (by decide) ?_
    refine q_iload_n (pc := 39) dM_copy_39 rfl ?_
    refine q_imul (pc := 40) dM_copy_40 (show (6 : Int) * (g : Int) = ((6 * g : Nat) : Int) by omega) ⟨by omega, by omega⟩ ?_
    refine q_iload_n (pc := 41) dM_copy_41 rfl ?_
    refine q_iadd (pc := 42) dM_copy_42 (show ((6 * g : Nat) : Int) + (c : Int) = ((6 * g + c : Nat) : Int) by omega) ⟨by omega, by omega⟩ ?_
    refine q_istore (pc := 43) dM_copy_43 (by decide) ?_
    refine q_iconst (pc := 45) dM_copy_45 (by decide) ?_
    refine q_istore (pc := 46) dM_copy_46 (by decide) ?_
    refine q_iconst (pc := 48) dM_copy_48 (by decide) ?_
    refine q_istore (pc := 49) dM_copy_49 (by decide) ?_
    exact tl hz n 0 (by omega)
  refine q_iload_n (pc := 0) dM_copy_0 rfl ?_
  refine q_iload_n (pc := 1) dM_copy_1 rfl ?_
  refine q_callS1 (pc := 2) dM_copy_2 ((ct_M_isCopy g c I)) cd_M_isCopy st_M_isCopy ml_M143 rfl (Nat.le_of_ble_eq_true rfl) ⟨by decide, by decide⟩ ⟨by decide, by decide⟩ rfl ?_
  refine q_if_eq (tgt := 35) (pc := 5) dM_copy_5 (by decide) (fun h5 => ?_) (fun h5 => ?_)
  · have := of_decide_eq_false (bi_eq h5)
    omega
  · refine q_iload_n (pc := 8) dM_copy_8 rfl ?_
    refine q_if_lt (tgt := 35) (pc := 9) dM_copy_9 (by decide) (fun h9 => ?_) (fun h9 => ?_)
    · omega
    · refine q_iload_n (pc := 12) dM_copy_12 rfl ?_
      refine q_iconst (pc := 13) dM_copy_13 (by decide) ?_
      refine q_icmp_gt (tgt := 35) (pc := 14) dM_copy_14 (by decide) (fun h14 => ?_) (fun h14 => ?_)
      · omega
      · refine q_iload_n (pc := 17) dM_copy_17 rfl ?_
        refine q_if_eq (tgt := 37) (pc := 18) dM_copy_18 (by decide) (fun h18 => ?_) (fun h18 => ?_)
        · exact hd (Or.inl h18)
        · refine q_aload_n (pc := 21) dM_copy_21 rfl ?_
          refine q_getR (f := 7) (pc := 22) dM_copy_22 lay_6 (by decide) rfl (by decide) fl_M29 rfl rfl ?_
          refine q_bipush (pc := 25) dM_copy_25 (by decide) (by decide) ?_
          refine q_iload_n (pc := 27) dM_copy_27 rfl ?_
          refine q_imul (pc := 28) dM_copy_28 (show (6 : Int) * (g : Int) = ((6 * g : Nat) : Int) by omega) ⟨by omega, by omega⟩ ?_
          refine q_iload_n (pc := 29) dM_copy_29 rfl ?_
          refine q_iadd (pc := 30) dM_copy_30 (show ((6 * g : Nat) : Int) + (c : Int) = ((6 * g + c : Nat) : Int) by omega) ⟨by omega, by omega⟩ ?_
          refine q_iald (i := (6 * g + c)) (pc := 31) dM_copy_31 rfl rfl (by omega) rfl ?_
          refine q_if_eq (tgt := 37) (pc := 32) dM_copy_32 (by decide) (fun h32 => ?_) (fun h32 => ?_)
          · exact hd (Or.inr h32)
          · refine q_iconst (pc := 35) dM_copy_35 (by decide) ?_
            refine q_iret rfl (pc := 36) dM_copy_36 ?_
            exact ⟨by rw [if_neg h18, if_pos h32], rfl, rfl⟩
theorem ct_M_view0 {L : Nat} {r key : Int} (I : qI) (hr : ¬ ((0 ≤ r ∧ r < 2) ∧ 0 ≤ key ∧ key < 32)) : qT M_M_view 2 [.inr (some 44), .inl r, .inl key] L I (rI (-1) L I) := by
  have tl : (0 ≤ r ∧ r < 2) → qE M_M_view 2 9 [some (.inr (some 44)), some (.inl r), some (.inl key), none, none, none] [] L I (rI (-1) L I) := by
    intro hz
    refine q_iload_n (pc := 9) dM_view_9 rfl ?_
    refine q_callS1 (pc := 10) dM_view_10 ((ct_M_isKey key I)) cd_M_isKey st_M_isKey ml_M121 rfl (Nat.le_of_ble_eq_true rfl) ⟨by decide, by decide⟩ ⟨by decide, by decide⟩ rfl ?_
    refine q_if_ne (tgt := 18) (pc := 13) dM_view_13 (by decide) (fun h13 => ?_) (fun h13 => ?_)
    · have h8 := of_decide_eq_true (bi_ne h13)
      exact absurd ⟨hz, h8⟩ hr
    · refine q_iconst (pc := 16) dM_view_16 (by decide) ?_
      refine q_iret rfl (pc := 17) dM_view_17 ?_
      exact ⟨rfl, rfl, rfl⟩
  refine q_enter (by decide) (Nat.le_of_ble_eq_true rfl) ?_
  refine q_iload_n (pc := 0) dM_view_0 rfl ?_
  refine q_if_eq (tgt := 9) (pc := 1) dM_view_1 (by decide) (fun h1 => ?_) (fun h1 => ?_)
  · exact tl (by omega)
  · refine q_iload_n (pc := 4) dM_view_4 rfl ?_
    refine q_iconst (pc := 5) dM_view_5 (by decide) ?_
    refine q_icmp_ne (tgt := 16) (pc := 6) dM_view_6 (by decide) (fun h6 => ?_) (fun h6 => ?_)
    · refine q_iconst (pc := 16) dM_view_16 (by decide) ?_
      refine q_iret rfl (pc := 17) dM_view_17 ?_
      exact ⟨rfl, rfl, rfl⟩
    · exact tl (by omega)
def mvp (I : qI) (k : Int) (v : Nat) (l : Nat) : Bool := (decide (I 48 l = 0) && decide (I 46 l = k)) && decide (qf (mep I (I 45 l)) v 1 ≠ 0)
def mev (I : qI) (k : Int) (v l : Nat) : Int := if ql (mvp I k v) l = 0 then 0 else I 47 (ql (mvp I k v) l)
theorem ct_M_view {L n T k d r a v : Nat} (I : qI) (h : mw I n T k d) (hr : r < 2) (ha : a < 32) (hv : I 57 r = (v : Int)) (hv2 : v ≤ n) : qT M_M_view 2 [.inr (some 44), .inl ((r : Nat) : Int), .inl ((a : Nat) : Int)] L I (rI (if qe (msv I (a / 4 % 2) v) 6 = true then mev I a v v else -7) L I) := by
  obtain ⟨⟨hn, hn2⟩, -⟩ := h
  have hg : a / 4 % 2 < 2 := by omega
  have lp : ∀ (f l : Nat) (z : Option qV), l + f = v → qE M_M_view 2 44 [some (.inr (some 44)), some (.inl ((r : Nat) : Int)), some (.inl ((a : Nat) : Int)), some (.inl (mev I a v l)), some (.inl ((l + 1 : Nat) : Int)), z] [] L I (rI (mev I a v v) L I) := by
    intro f
    induction f with
    | zero =>
      intro l z hl
      obtain rfl : l = v := by omega
      refine q_iload (pc := 44) dM_view_44 rfl ?_
      refine q_aload_n (pc := 46) dM_view_46 rfl ?_
      refine q_getR (f := 17) (pc := 47) dM_view_47 lay_6 (by decide) rfl (by decide) fl_M47 rfl rfl ?_
      refine q_iload_n (pc := 50) dM_view_50 rfl ?_
      refine q_iald (i := r) (pc := 51) dM_view_51 rfl rfl (by omega) rfl ?_
      refine q_icmp_gt (tgt := 135) (pc := 52) dM_view_52 (by decide) (fun h52 => ?_) (fun h52 => ?_)
      · refine q_iload_n (pc := 135) dM_view_135 rfl ?_
        refine q_iret rfl (pc := 136) dM_view_136 ?_
        exact ⟨rfl, rfl, rfl⟩
      · omega
    | succ f ih =>
      intro l z hl
      have h9 := fun z => ih (l + 1) z (by omega)
      have hfl := qf_has (p := mep I (I 45 (l + 1))) (f := v) (l := 1)
      have no : ¬ mvp I a v (l + 1) = true → mev I a v (l + 1) = mev I a v l := fun h => by unfold mev; rw [ql_n h]
      refine q_iload (pc := 44) dM_view_44 rfl ?_
      refine q_aload_n (pc := 46) dM_view_46 rfl ?_
      refine q_getR (f := 17) (pc := 47) dM_view_47 lay_6 (by decide) rfl (by decide) fl_M47 rfl rfl ?_
      refine q_iload_n (pc := 50) dM_view_50 rfl ?_
      refine q_iald (i := r) (pc := 51) dM_view_51 rfl rfl (by omega) rfl ?_
      refine q_icmp_gt (tgt := 135) (pc := 52) dM_view_52 (by decide) (fun h52 => ?_) (fun h52 => ?_)
      · omega
      · refine q_iload (pc := 55) dM_view_55 rfl ?_
        refine q_aload_n (pc := 57) dM_view_57 rfl ?_
        refine q_getI (f := 0) (pc := 58) dM_view_58 lay_6 (by decide) rfl (by decide) fl_M54 rfl rfl ?_
        refine q_icmp_gt (tgt := 135) (pc := 61) dM_view_61 (by decide) (fun h61 => ?_) (fun h61 => ?_)
        · omega
        · refine q_aload_n (pc := 64) dM_view_64 rfl ?_
          refine q_getR (f := 4) (pc := 65) dM_view_65 lay_6 (by decide) rfl (by decide) fl_M19 rfl rfl ?_
          refine q_iload (pc := 68) dM_view_68 rfl ?_
          refine q_iald (i := (l + 1)) (pc := 70) dM_view_70 rfl rfl (by omega) rfl ?_
          refine q_if_ne (tgt := 109) (pc := 71) dM_view_71 (by decide) (fun h71 => ?_) (fun h71 => ?_)
          · refine q_iconst (pc := 109) dM_view_109 (by decide) ?_
            refine q_istore (pc := 110) dM_view_110 (by decide) ?_
            refine q_iload (pc := 112) dM_view_112 rfl ?_
            refine q_if_eq (tgt := 127) (pc := 114) dM_view_114 (by decide) (fun h114 => ?_) (fun h114 => ?_)
            · refine q_iload_n (pc := 127) dM_view_127 rfl ?_
              refine q_istore_n (pc := 128) dM_view_128 (by decide) ?_
              refine q_iinc (pc := 129) dM_view_129 rfl (by decide) rfl ⟨by omega, by omega⟩ ?_
              refine q_goto (tgt := 44) (pc := 132) dM_view_132 (by decide) ?_
              rw [no (by simp [mvp, h71])] at h9
              exact h9 _
            · exact absurd rfl h114
          · refine q_aload_n (pc := 74) dM_view_74 rfl ?_
            refine q_getR (f := 2) (pc := 75) dM_view_75 lay_6 (by decide) rfl (by decide) fl_M13 rfl rfl ?_
            refine q_iload (pc := 78) dM_view_78 rfl ?_
            refine q_iald (i := (l + 1)) (pc := 80) dM_view_80 rfl rfl (by omega) rfl ?_
            refine q_iload_n (pc := 81) dM_view_81 rfl ?_
            refine q_icmp_ne (tgt := 109) (pc := 82) dM_view_82 (by decide) (fun h82 => ?_) (fun h82 => ?_)
            · refine q_iconst (pc := 109) dM_view_109 (by decide) ?_
              refine q_istore (pc := 110) dM_view_110 (by decide) ?_
              refine q_iload (pc := 112) dM_view_112 rfl ?_
              refine q_if_eq (tgt := 127) (pc := 114) dM_view_114 (by decide) (fun h114 => ?_) (fun h114 => ?_)
              · refine q_iload_n (pc := 127) dM_view_127 rfl ?_
                refine q_istore_n (pc := 128) dM_view_128 (by decide) ?_
                refine q_iinc (pc := 129) dM_view_129 rfl (by decide) rfl ⟨by omega, by omega⟩ ?_
                refine q_goto (tgt := 44) (pc := 132) dM_view_132 (by decide) ?_
                rw [no (by simp [mvp, h82])] at h9
                exact h9 _
              · exact absurd rfl h114
            · refine q_aload_n (pc := 85) dM_view_85 rfl ?_
              refine q_aload_n (pc := 86) dM_view_86 rfl ?_
              refine q_getR (f := 1) (pc := 87) dM_view_87 lay_6 (by decide) rfl (by decide) fl_M7 rfl rfl ?_
              refine q_iload (pc := 90) dM_view_90 rfl ?_
              refine q_iald (i := (l + 1)) (pc := 92) dM_view_92 rfl rfl (by omega) rfl ?_
              refine q_aload_n (pc := 93) dM_view_93 rfl ?_
              refine q_getR (f := 17) (pc := 94) dM_view_94 lay_6 (by decide) rfl (by decide) fl_M47 rfl rfl ?_
              refine q_iload_n (pc := 97) dM_view_97 rfl ?_
              refine q_iald (i := r) (pc := 98) dM_view_98 rfl rfl (by omega) rfl ?_
              rw [hv]
              refine q_callV1 (pc := 99) dM_view_99 ((ct_M_endOf (I 45 (l + 1)) I hn (by omega) hv2)) cd_M_endOf in_M_endOf se_M_endOf ml_M137 rfl (by decide) rfl rfl (Nat.le_of_ble_eq_true rfl) ⟨by decide, by decide⟩ ⟨by decide, by decide⟩ rfl ?_
              refine q_if_le (tgt := 109) (pc := 102) dM_view_102 (by decide) (fun h102 => ?_) (fun h102 => ?_)
              · refine q_iconst (pc := 109) dM_view_109 (by decide) ?_
                refine q_istore (pc := 110) dM_view_110 (by decide) ?_
                refine q_iload (pc := 112) dM_view_112 rfl ?_
                refine q_if_eq (tgt := 127) (pc := 114) dM_view_114 (by decide) (fun h114 => ?_) (fun h114 => ?_)
                · refine q_iload_n (pc := 127) dM_view_127 rfl ?_
                  refine q_istore_n (pc := 128) dM_view_128 (by decide) ?_
                  refine q_iinc (pc := 129) dM_view_129 rfl (by decide) rfl ⟨by omega, by omega⟩ ?_
                  refine q_goto (tgt := 44) (pc := 132) dM_view_132 (by decide) ?_
                  rw [no (by unfold mvp; rw [decide_eq_false (p := qf (mep I (I 45 (l + 1))) v 1 ≠ 0) (by omega)]; simp)] at h9
                  exact h9 _
                · exact absurd rfl h114
              · refine q_iconst (pc := 105) dM_view_105 (by decide) ?_
                refine q_goto (tgt := 110) (pc := 106) dM_view_106 (by decide) ?_
                refine q_istore (pc := 110) dM_view_110 (by decide) ?_
                refine q_iload (pc := 112) dM_view_112 rfl ?_
                refine q_if_eq (tgt := 127) (pc := 114) dM_view_114 (by decide) (fun h114 => ?_) (fun h114 => ?_)
                · omega
                · refine q_aload_n (pc := 117) dM_view_117 rfl ?_
                  refine q_getR (f := 3) (pc := 118) dM_view_118 lay_6 (by decide) rfl (by decide) fl_M16 rfl rfl ?_
                  refine q_iload (pc := 121) dM_view_121 rfl ?_
                  refine q_iald (i := (l + 1)) (pc := 123) dM_view_123 rfl rfl (by omega) rfl ?_
                  refine q_goto (tgt := 128) (pc := 124) dM_view_124 (by decide) ?_
                  refine q_istore_n (pc := 128) dM_view_128 (by decide) ?_
                  refine q_iinc (pc := 129) dM_view_129 rfl (by decide) rfl ⟨by omega, by omega⟩ ?_
                  refine q_goto (tgt := 44) (pc := 132) dM_view_132 (by decide) ?_
                  have e : mev I a v (l + 1) = I 47 (l + 1) := by
                    unfold mev
                    rw [ql_y (by unfold mvp; rw [decide_eq_true h71, decide_eq_true h82, decide_eq_true (by omega)]; rfl), if_neg (by omega)]
                  rw [e] at h9
                  exact h9 _
  have tl : qE M_M_view 2 9 [some (.inr (some 44)), some (.inl ((r : Nat) : Int)), some (.inl ((a : Nat) : Int)), none, none, none] [] L I (rI (if qe (msv I (a / 4 % 2) v) 6 = true then mev I a v v else -7) L I) := by
    refine q_iload_n (pc := 9) dM_view_9 rfl ?_
    refine q_callS1 (pc := 10) dM_view_10 ((ct_M_isKey a I)) cd_M_isKey st_M_isKey ml_M121 rfl (Nat.le_of_ble_eq_true rfl) ⟨by decide, by decide⟩ ⟨by decide, by decide⟩ rfl ?_
    refine q_if_ne (tgt := 18) (pc := 13) dM_view_13 (by decide) (fun h13 => ?_) (fun h13 => ?_)
    · refine q_aload_n (pc := 18) dM_view_18 rfl ?_
      refine q_iload_n (pc := 19) dM_view_19 rfl ?_
      refine q_iconst (pc := 20) dM_view_20 (by decide) ?_
      refine q_idiv (pc := 21) dM_view_21 (by decide) ?_
      rw [td4]
      refine q_iconst (pc := 22) dM_view_22 (by decide) ?_
      refine q_irem (pc := 23) dM_view_23 (by decide) ?_
      rw [tm2]
      refine q_aload_n (pc := 24) dM_view_24 rfl ?_
      refine q_getR (f := 17) (pc := 25) dM_view_25 lay_6 (by decide) rfl (by decide) fl_M47 rfl rfl ?_
      refine q_iload_n (pc := 28) dM_view_28 rfl ?_
      refine q_iald (i := r) (pc := 29) dM_view_29 rfl rfl (by omega) rfl ?_
      rw [hv]
      refine q_callV1 (pc := 30) dM_view_30 ((ct_M_served hg I hn (by omega) hv2)) cd_M_served in_M_served se_M_served ml_M109 rfl (by decide) rfl rfl (Nat.le_of_ble_eq_true rfl) ⟨by decide, by decide⟩ ⟨by decide, by decide⟩ rfl ?_
      refine q_if_ne (tgt := 39) (pc := 33) dM_view_33 (by decide) (fun h33 => ?_) (fun h33 => ?_)
      · rw [if_pos (bi_ne h33)]
        refine q_iconst (pc := 39) dM_view_39 (by decide) ?_
        refine q_istore_n (pc := 40) dM_view_40 (by decide) ?_
        refine q_iconst (pc := 41) dM_view_41 (by decide) ?_
        refine q_istore (pc := 42) dM_view_42 (by decide) ?_
        exact lp v 0 _ (by omega)
      · refine q_bipush (pc := 36) dM_view_36 (by decide) (by decide) ?_
        refine q_iret rfl (pc := 38) dM_view_38 ?_
        exact ⟨by rw [if_neg (by rw [bi_eq h33]; decide)], rfl, rfl⟩
    · have := of_decide_eq_false (bi_eq h13)
      omega
  refine q_enter (by decide) (Nat.le_of_ble_eq_true rfl) ?_
  refine q_iload_n (pc := 0) dM_view_0 rfl ?_
  refine q_if_eq (tgt := 9) (pc := 1) dM_view_1 (by decide) (fun h1 => ?_) (fun h1 => ?_)
  · exact tl
  · refine q_iload_n (pc := 4) dM_view_4 rfl ?_
    refine q_iconst (pc := 5) dM_view_5 (by decide) ?_
    refine q_icmp_ne (tgt := 16) (pc := 6) dM_view_6 (by decide) (fun h6 => ?_) (fun h6 => ?_)
    · omega
    · exact tl
def mlw (I : qI) (v : Nat) : Nat → Nat
  | 0 => v
  | l + 1 => if qf (mep I (I 45 (l + 1))) v 1 = 0 ∧ l < mlw I v l then l else mlw I v l
theorem mlw_le (I : qI) (v : Nat) : ∀ l, mlw I v l ≤ v
  | 0 => Nat.le_refl _
  | l + 1 => by
    have := mlw_le I v l
    unfold mlw
    split <;> omega
theorem ct_M_low {L n v : Nat} (I : qI) (hn : I 44 0 = (n : Int)) (hn2 : n < 199) (hv : v ≤ n) : qT M_M_low 1 [.inr (some 44), .inl ((v : Nat) : Int)] L I (rI (mlw I v v : Nat) L I) := by
  refine q_enter (by decide) (Nat.le_of_ble_eq_true rfl) ?_
  have lp : ∀ f l : Nat, l + f = v → qE M_M_low 1 4 [some (.inr (some 44)), some (.inl ((v : Nat) : Int)), some (.inl ((mlw I v l : Nat) : Int)), some (.inl ((l + 1 : Nat) : Int))] [] L I (rI (mlw I v v : Nat) L I) := by
    intro f
    induction f with
    | zero =>
      intro l hl
      obtain rfl : l = v := by omega
      refine q_iload_n (pc := 4) dM_low_4 rfl ?_
      refine q_iload_n (pc := 5) dM_low_5 rfl ?_
      refine q_icmp_gt (tgt := 52) (pc := 6) dM_low_6 (by decide) (fun h6 => ?_) (fun h6 => ?_)
      · refine q_iload_n (pc := 52) dM_low_52 rfl ?_
        refine q_iret rfl (pc := 53) dM_low_53 ?_
        exact ⟨rfl, rfl, rfl⟩
      · omega
    | succ f ih =>
      intro l hl
      have h9 := ih (l + 1) (by omega)
      have hle := mlw_le I v l
      refine q_iload_n (pc := 4) dM_low_4 rfl ?_
      refine q_iload_n (pc := 5) dM_low_5 rfl ?_
      refine q_icmp_gt (tgt := 52) (pc := 6) dM_low_6 (by decide) (fun h6 => ?_) (fun h6 => ?_)
      · omega
      · refine q_iload_n (pc := 9) dM_low_9 rfl ?_
        refine q_aload_n (pc := 10) dM_low_10 rfl ?_
        refine q_getI (f := 0) (pc := 11) dM_low_11 lay_6 (by decide) rfl (by decide) fl_M54 rfl rfl ?_
        refine q_icmp_gt (tgt := 52) (pc := 14) dM_low_14 (by decide) (fun h14 => ?_) (fun h14 => ?_)
        · omega
        · refine q_aload_n (pc := 17) dM_low_17 rfl ?_
          refine q_aload_n (pc := 18) dM_low_18 rfl ?_
          refine q_getR (f := 1) (pc := 19) dM_low_19 lay_6 (by decide) rfl (by decide) fl_M7 rfl rfl ?_
          refine q_iload_n (pc := 22) dM_low_22 rfl ?_
          refine q_iald (i := (l + 1)) (pc := 23) dM_low_23 rfl rfl (by omega) rfl ?_
          refine q_iload_n (pc := 24) dM_low_24 rfl ?_
          refine q_callV1 (pc := 25) dM_low_25 ((ct_M_endOf (I 45 (l + 1)) I hn (by omega) hv)) cd_M_endOf in_M_endOf se_M_endOf ml_M137 rfl (by decide) rfl rfl (Nat.le_of_ble_eq_true rfl) ⟨by decide, by decide⟩ ⟨by decide, by decide⟩ rfl ?_
          refine q_if_ne (tgt := 46) (pc := 28) dM_low_28 (by decide) (fun h28 => ?_) (fun h28 => ?_)
          · refine q_iinc (pc := 46) dM_low_46 rfl (by decide) rfl ⟨by omega, by omega⟩ ?_
            refine q_goto (tgt := 4) (pc := 49) dM_low_49 (by decide) ?_
            have e : mlw I v (l + 1) = mlw I v l := by rw [mlw, if_neg (by omega)]
            rw [e] at h9
            exact h9
          · refine q_iload_n (pc := 31) dM_low_31 rfl ?_
            refine q_iconst (pc := 32) dM_low_32 (by decide) ?_
            refine q_isub (pc := 33) dM_low_33 (show ((l + 1 : Nat) : Int) - 1 = (l : Int) by omega) ⟨by omega, by omega⟩ ?_
            refine q_iload_n (pc := 34) dM_low_34 rfl ?_
            refine q_icmp_ge (tgt := 44) (pc := 35) dM_low_35 (by decide) (fun h35 => ?_) (fun h35 => ?_)
            · refine q_iload_n (pc := 44) dM_low_44 rfl ?_
              refine q_istore_n (pc := 45) dM_low_45 (by decide) ?_
              refine q_iinc (pc := 46) dM_low_46 rfl (by decide) rfl ⟨by omega, by omega⟩ ?_
              refine q_goto (tgt := 4) (pc := 49) dM_low_49 (by decide) ?_
              have e : mlw I v (l + 1) = mlw I v l := by rw [mlw, if_neg (by omega)]
              rw [e] at h9
              exact h9
            · refine q_iload_n (pc := 38) dM_low_38 rfl ?_
              refine q_iconst (pc := 39) dM_low_39 (by decide) ?_
              refine q_isub (pc := 40) dM_low_40 (show ((l + 1 : Nat) : Int) - 1 = (l : Int) by omega) ⟨by omega, by omega⟩ ?_
              refine q_goto (tgt := 45) (pc := 41) dM_low_41 (by decide) ?_
              refine q_istore_n (pc := 45) dM_low_45 (by decide) ?_
              refine q_iinc (pc := 46) dM_low_46 rfl (by decide) rfl ⟨by omega, by omega⟩ ?_
              refine q_goto (tgt := 4) (pc := 49) dM_low_49 (by decide) ?_
              have e : mlw I v (l + 1) = l := by rw [mlw, if_pos (by omega)]
              rw [e] at h9
              exact h9
  refine q_iload_n (pc := 0) dM_low_0 rfl ?_
  refine q_istore_n (pc := 1) dM_low_1 (by decide) ?_
  refine q_iconst (pc := 2) dM_low_2 (by decide) ?_
  refine q_istore_n (pc := 3) dM_low_3 (by decide) ?_
  exact lp v 0 (by omega)
theorem ct_M_collect0 {L : Nat} {g c : Int} (I : qI) (h0 : ¬ isC g c) : qT M_M_collect 2 [.inr (some 44), .inl g, .inl c] L I (rI (-1) L I) := by
  refine q_enter (by decide) (Nat.le_of_ble_eq_true rfl) ?_
  refine q_iload_n (pc := 0) dM_collect_0 rfl ?_
  refine q_iload_n (pc := 1) dM_collect_1 rfl ?_
  refine q_callS1 (pc := 2) dM_collect_2 ((ct_M_isCopy g c I)) cd_M_isCopy st_M_isCopy ml_M143 rfl (Nat.le_of_ble_eq_true rfl) ⟨by decide, by decide⟩ ⟨by decide, by decide⟩ rfl ?_
  refine q_if_ne (tgt := 10) (pc := 5) dM_collect_5 (by decide) (fun h5 => ?_) (fun h5 => ?_)
  · exact absurd (by have := of_decide_eq_true (bi_ne h5); exact this) h0
  · refine q_iconst (pc := 8) dM_collect_8 (by decide) ?_
    refine q_iret rfl (pc := 9) dM_collect_9 ?_
    exact ⟨rfl, rfl, rfl⟩
def bLim (I : qI) (x n d v0 v1 : Nat) : Nat := nmin (nmin (nmin (mpt I x n) (mlw I v0 v0)) (mlw I v1 v1)) (mlw I d d)
theorem mpt_le {I : qI} {x n : Nat} : mpt I x n ≤ n := by
  have := qr_le (g := mcg I x) (h := mhd I x) (f := n) (l := 1) (r := 0) (by omega)
  unfold mpt
  omega
theorem lp_M_collect {L x to : Nat} (hx : x < 12) (hto : to ≤ 187) (x1 x2 x5 x6 x7 : Option qV) (I : qI) : ∀ f l k, l + f = to + 1 → 1 ≤ l → I 52 x < (l : Int) → k = qn (mkp I x) (l - 1) → qE M_M_collect 2 146 [some (.inr (some 44)), x1, x2, some (.inl ((x : Nat) : Int)), some (.inl ((to : Nat) : Int)), x5, x6, x7, some (.inl ((k : Nat) : Int)), some (.inl ((l : Nat) : Int))] [] L I (rI (qn (mkp I x) to : Nat) L (q_up I 52 x (qmax (I 52 x) to))) := by
  intro f
  induction f with
  | zero =>
    intro l k hl h1 hf hk
    have hkk : k = qn (mkp I x) to := by rw [hk, show l - 1 = to by omega]
    refine q_iload (pc := 146) dM_collect_146 rfl ?_
    refine q_iload (pc := 148) dM_collect_148 rfl ?_
    refine q_icmp_gt (tgt := 185) (pc := 150) dM_collect_150 (by decide) (fun h150 => ?_) (fun h150 => ?_)
    · refine q_aload_n (pc := 185) dM_collect_185 rfl ?_
      refine q_getR (f := 8) (pc := 186) dM_collect_186 lay_6 (by decide) rfl (by decide) fl_M32 rfl rfl ?_
      refine q_iload_n (pc := 189) dM_collect_189 rfl ?_
      refine q_iload (pc := 190) dM_collect_190 rfl ?_
      refine q_aload_n (pc := 192) dM_collect_192 rfl ?_
      refine q_getR (f := 8) (pc := 193) dM_collect_193 lay_6 (by decide) rfl (by decide) fl_M32 rfl rfl ?_
      refine q_iload_n (pc := 196) dM_collect_196 rfl ?_
      refine q_iald (i := x) (pc := 197) dM_collect_197 rfl rfl (by omega) rfl ?_
      refine q_icmp_le (tgt := 206) (pc := 198) dM_collect_198 (by decide) (fun h198 => ?_) (fun h198 => ?_)
      · refine q_aload_n (pc := 206) dM_collect_206 rfl ?_
        refine q_getR (f := 8) (pc := 207) dM_collect_207 lay_6 (by decide) rfl (by decide) fl_M32 rfl rfl ?_
        refine q_iload_n (pc := 210) dM_collect_210 rfl ?_
        refine q_iald (i := x) (pc := 211) dM_collect_211 rfl rfl (by omega) rfl ?_
        refine q_iast (i := x) (pc := 212) dM_collect_212 rfl rfl (by omega) rfl ?_
        refine q_iload (pc := 213) dM_collect_213 rfl ?_
        refine q_iret rfl (pc := 215) dM_collect_215 ?_
        exact ⟨by rw [hkk], rfl, by unfold qmax; rw [if_neg (by omega)]⟩
      · refine q_iload (pc := 201) dM_collect_201 rfl ?_
        refine q_goto (tgt := 212) (pc := 203) dM_collect_203 (by decide) ?_
        refine q_iast (i := x) (pc := 212) dM_collect_212 rfl rfl (by omega) rfl ?_
        refine q_iload (pc := 213) dM_collect_213 rfl ?_
        refine q_iret rfl (pc := 215) dM_collect_215 ?_
        exact ⟨by rw [hkk], rfl, by unfold qmax; rw [if_pos (by omega)]⟩
    · omega
  | succ f ih =>
    intro l k hl h1 hf hk
    have hq := qn_le (mkp I x) (l - 1)
    have e : qn (mkp I x) (l + 1 - 1) = qn (mkp I x) (l - 1) + (if mkp I x l = true then 1 else 0) := by
      obtain ⟨j, rfl⟩ : ∃ j, l = j + 1 := ⟨l - 1, by omega⟩
      rfl
    refine q_iload (pc := 146) dM_collect_146 rfl ?_
    refine q_iload (pc := 148) dM_collect_148 rfl ?_
    refine q_icmp_gt (tgt := 185) (pc := 150) dM_collect_150 (by decide) (fun h150 => ?_) (fun h150 => ?_)
    · omega
    · refine q_iload (pc := 153) dM_collect_153 rfl ?_
      refine q_aload_n (pc := 155) dM_collect_155 rfl ?_
      refine q_getR (f := 6) (pc := 156) dM_collect_156 lay_6 (by decide) rfl (by decide) fl_M26 rfl rfl ?_
      refine q_sipush (pc := 159) dM_collect_159 (by decide) (by decide) ?_
      refine q_iload_n (pc := 162) dM_collect_162 rfl ?_
      refine q_imul (pc := 163) dM_collect_163 (show (200 : Int) * (x : Int) = ((200 * x : Nat) : Int) by omega) ⟨by omega, by omega⟩ ?_
      refine q_iload (pc := 164) dM_collect_164 rfl ?_
      refine q_iadd (pc := 166) dM_collect_166 (show ((200 * x : Nat) : Int) + (l : Int) = ((200 * x + l : Nat) : Int) by omega) ⟨by omega, by omega⟩ ?_
      refine q_zald (i := (200 * x + l)) (pc := 167) dM_collect_167 rfl rfl (by omega) rfl ?_
      refine q_if_eq (tgt := 175) (pc := 168) dM_collect_168 (by decide) (fun h168 => ?_) (fun h168 => ?_)
      · refine q_iconst (pc := 175) dM_collect_175 (by decide) ?_
        refine q_iadd (pc := 176) dM_collect_176 rfl ⟨by omega, by omega⟩ ?_
        refine q_istore (pc := 177) dM_collect_177 (by decide) ?_
        refine q_iinc (pc := 179) dM_collect_179 rfl (by decide) rfl ⟨by omega, by omega⟩ ?_
        refine q_goto (tgt := 146) (pc := 182) dM_collect_182 (by decide) ?_
        exact ih (l + 1) (k + 0) (by omega) (by omega) (by omega) (by rw [e, if_neg (by simp [mkp, mhd, h168]), hk])
      · refine q_iconst (pc := 171) dM_collect_171 (by decide) ?_
        refine q_goto (tgt := 176) (pc := 172) dM_collect_172 (by decide) ?_
        refine q_iadd (pc := 176) dM_collect_176 rfl ⟨by omega, by omega⟩ ?_
        refine q_istore (pc := 177) dM_collect_177 (by decide) ?_
        refine q_iinc (pc := 179) dM_collect_179 rfl (by decide) rfl ⟨by omega, by omega⟩ ?_
        refine q_goto (tgt := 146) (pc := 182) dM_collect_182 (by decide) ?_
        exact ih (l + 1) (k + 1) (by omega) (by omega) (by omega) (by rw [e, if_pos (by simp [mkp, mhd, h168, hf]), hk])
theorem ct_M_collect {L n T k d g c v0 v1 : Nat} (I : qI) (h : mw I n T k d) (hg : g < 2) (hc : c < 6) (hv0 : I 57 0 = (v0 : Int)) (hv1 : I 57 1 = (v1 : Int)) (hvn : v0 ≤ n ∧ v1 ≤ n) : qT M_M_collect 2 [.inr (some 44), .inl ((g : Nat) : Int), .inl ((c : Nat) : Int)] L I (rP (if mcr I (6 * g + c) = 0 then ((qn (mkp I (6 * g + c)) (bLim I (6 * g + c) n d v0 v1) : Nat), q_up I 52 (6 * g + c) (qmax (I 52 (6 * g + c)) (bLim I (6 * g + c) n d v0 v1))) else (mcr I (6 * g + c), I)) L) := by
  obtain ⟨⟨hn, hn2⟩, -, -, ⟨hd, hd2⟩, -, -, hf, -⟩ := h
  have hx : 6 * g + c < 12 := by omega
  obtain ⟨fo, hfo1, hfo2⟩ := hf _ hx
  have b1 := nmin_le (mpt I (6 * g + c) n) (mlw I v0 v0)
  have b2 := nmin_le (nmin (mpt I (6 * g + c) n) (mlw I v0 v0)) (mlw I v1 v1)
  have b3 := nmin_le (nmin (nmin (mpt I (6 * g + c) n) (mlw I v0 v0)) (mlw I v1 v1)) (mlw I d d)
  have b4 := mpt_le (I := I) (x := 6 * g + c) (n := n)
  have hfin : ∀ (x1 x2 x5 x6 x7 x8 x9 : Option qV) (to : Nat), to ≤ 187 → qE M_M_collect 2 133 [some (.inr (some 44)), x1, x2, some (.inl ((6 * g + c : Nat) : Int)), some (.inl ((to : Nat) : Int)), x5, x6, x7, x8, x9] [] L I (rI (qn (mkp I (6 * g + c)) to : Nat) L (q_up I 52 (6 * g + c) (qmax (I 52 (6 * g + c)) to))) := by
    intro x1 x2 x5 x6 x7 x8 x9 to hto
    refine q_iconst (pc := 133) dM_collect_133 (by decide) ?_
    refine q_istore (pc := 134) dM_collect_134 (by decide) ?_
    refine q_aload_n (pc := 136) dM_collect_136 rfl ?_
    refine q_getR (f := 8) (pc := 137) dM_collect_137 lay_6 (by decide) rfl (by decide) fl_M32 rfl rfl ?_
    refine q_iload_n (pc := 140) dM_collect_140 rfl ?_
    refine q_iald (i := (6 * g + c)) (pc := 141) dM_collect_141 rfl rfl (by omega) rfl ?_
    refine q_iconst (pc := 142) dM_collect_142 (by decide) ?_
    refine q_iadd (pc := 143) dM_collect_143 rfl ⟨by omega, by omega⟩ ?_
    refine q_istore (pc := 144) dM_collect_144 (by decide) ?_
    by_cases hh : fo ≤ to
    · have h9 := lp_M_collect (L := L) hx hto x1 x2 x5 x6 x7 I (to - fo) (fo + 1) 0 (by omega) (by omega) (by omega) (by
        symm
        apply qn_zero
        intro l a b
        have : ¬ ((fo : Int) < (l : Int)) := by omega
        simp [mkp, hfo2, this])
      rw [hfo2] at h9 ⊢
      exact h9
    · have e : qn (mkp I (6 * g + c)) to = 0 := by
        apply qn_zero
        intro l a b
        have : ¬ ((fo : Int) < (l : Int)) := by omega
        simp [mkp, hfo2, this]
      refine q_iload (pc := 146) dM_collect_146 rfl ?_
      refine q_iload (pc := 148) dM_collect_148 rfl ?_
      refine q_icmp_gt (tgt := 185) (pc := 150) dM_collect_150 (by decide) (fun h150 => ?_) (fun h150 => ?_)
      · refine q_aload_n (pc := 185) dM_collect_185 rfl ?_
        refine q_getR (f := 8) (pc := 186) dM_collect_186 lay_6 (by decide) rfl (by decide) fl_M32 rfl rfl ?_
        refine q_iload_n (pc := 189) dM_collect_189 rfl ?_
        refine q_iload (pc := 190) dM_collect_190 rfl ?_
        refine q_aload_n (pc := 192) dM_collect_192 rfl ?_
        refine q_getR (f := 8) (pc := 193) dM_collect_193 lay_6 (by decide) rfl (by decide) fl_M32 rfl rfl ?_
        refine q_iload_n (pc := 196) dM_collect_196 rfl ?_
        refine q_iald (i := (6 * g + c)) (pc := 197) dM_collect_197 rfl rfl (by omega) rfl ?_
        refine q_icmp_le (tgt := 206) (pc := 198) dM_collect_198 (by decide) (fun h198 => ?_) (fun h198 => ?_)
        · refine q_aload_n (pc := 206) dM_collect_206 rfl ?_
          refine q_getR (f := 8) (pc := 207) dM_collect_207 lay_6 (by decide) rfl (by decide) fl_M32 rfl rfl ?_
          refine q_iload_n (pc := 210) dM_collect_210 rfl ?_
          refine q_iald (i := (6 * g + c)) (pc := 211) dM_collect_211 rfl rfl (by omega) rfl ?_
          refine q_iast (i := (6 * g + c)) (pc := 212) dM_collect_212 rfl rfl (by omega) rfl ?_
          refine q_iload (pc := 213) dM_collect_213 rfl ?_
          refine q_iret rfl (pc := 215) dM_collect_215 ?_
          exact ⟨by rw [e]; rfl, rfl, by unfold qmax; rw [if_neg (by omega)]⟩
        · omega
      · omega
  have st3 : ∀ (x1 x2 x5 x6 x8 x9 : Option qV) (to : Nat), to ≤ 187 → nmin to (mlw I d d) = bLim I (6 * g + c) n d v0 v1 → qE M_M_collect 2 117 [some (.inr (some 44)), x1, x2, some (.inl ((6 * g + c : Nat) : Int)), some (.inl ((to : Nat) : Int)), x5, x6, some (.inl ((mlw I d d : Nat) : Int)), x8, x9] [] L I (rI (qn (mkp I (6 * g + c)) (bLim I (6 * g + c) n d v0 v1) : Nat) L (q_up I 52 (6 * g + c) (qmax (I 52 (6 * g + c)) (bLim I (6 * g + c) n d v0 v1)))) := by
    intro x1 x2 x5 x6 x8 x9 to hto he
    unfold nmin at he
    refine q_iload (pc := 117) dM_collect_117 rfl ?_
    refine q_iload (pc := 119) dM_collect_119 rfl ?_
    refine q_icmp_ge (tgt := 129) (pc := 121) dM_collect_121 (by decide) (fun h121 => ?_) (fun h121 => ?_)
    · refine q_iload (pc := 129) dM_collect_129 rfl ?_
      refine q_istore (pc := 131) dM_collect_131 (by decide) ?_
      rw [if_neg (by omega)] at he
      rw [← he]
      exact hfin _ _ _ _ _ _ _ to hto
    · refine q_iload (pc := 124) dM_collect_124 rfl ?_
      refine q_goto (tgt := 131) (pc := 126) dM_collect_126 (by decide) ?_
      refine q_istore (pc := 131) dM_collect_131 (by decide) ?_
      rw [if_pos (by omega)] at he
      rw [← he]
      exact hfin _ _ _ _ _ _ _ _ (by omega)
  have st2 : ∀ (x1 x2 x5 x8 x9 : Option qV) (to : Nat), to ≤ 187 → nmin (nmin to (mlw I v1 v1)) (mlw I d d) = bLim I (6 * g + c) n d v0 v1 → qE M_M_collect 2 101 [some (.inr (some 44)), x1, x2, some (.inl ((6 * g + c : Nat) : Int)), some (.inl ((to : Nat) : Int)), x5, some (.inl ((mlw I v1 v1 : Nat) : Int)), some (.inl ((mlw I d d : Nat) : Int)), x8, x9] [] L I (rI (qn (mkp I (6 * g + c)) (bLim I (6 * g + c) n d v0 v1) : Nat) L (q_up I 52 (6 * g + c) (qmax (I 52 (6 * g + c)) (bLim I (6 * g + c) n d v0 v1)))) := by
    intro x1 x2 x5 x8 x9 to hto he
    refine q_iload (pc := 101) dM_collect_101 rfl ?_
    refine q_iload (pc := 103) dM_collect_103 rfl ?_
    refine q_icmp_ge (tgt := 113) (pc := 105) dM_collect_105 (by decide) (fun h105 => ?_) (fun h105 => ?_)
    · refine q_iload (pc := 113) dM_collect_113 rfl ?_
      refine q_istore (pc := 115) dM_collect_115 (by decide) ?_
      have e : nmin to (mlw I v1 v1) = to := by unfold nmin; rw [if_neg (by omega)]
      rw [e] at he
      exact st3 _ _ _ _ _ _ to hto he
    · refine q_iload (pc := 108) dM_collect_108 rfl ?_
      refine q_goto (tgt := 115) (pc := 110) dM_collect_110 (by decide) ?_
      refine q_istore (pc := 115) dM_collect_115 (by decide) ?_
      have e : nmin to (mlw I v1 v1) = mlw I v1 v1 := by unfold nmin; rw [if_pos (by omega)]
      rw [e] at he
      exact st3 _ _ _ _ _ _ _ (by omega) he
  refine q_enter (by decide) (Nat.le_of_ble_eq_true rfl) ?_
  refine q_iload_n (pc := 0) dM_collect_0 rfl ?_
  refine q_iload_n (pc := 1) dM_collect_1 rfl ?_
  refine q_callS1 (pc := 2) dM_collect_2 ((ct_M_isCopy g c I)) cd_M_isCopy st_M_isCopy ml_M143 rfl (Nat.le_of_ble_eq_true rfl) ⟨by decide, by decide⟩ ⟨by decide, by decide⟩ rfl ?_
  refine q_if_ne (tgt := 10) (pc := 5) dM_collect_5 (by decide) (fun h5 => ?_) (fun h5 => ?_)
  · refine q_aload_n (pc := 10) dM_collect_10 rfl ?_
    refine q_getI (f := 10) (pc := 11) dM_collect_11 lay_6 (by decide) rfl (by decide) fl_M117 rfl rfl ?_
    refine q_if_eq (tgt := 20) (pc := 14) dM_collect_14 (by decide) (fun h14 => ?_) (fun h14 => ?_)
    · refine q_aload_n (pc := 20) dM_collect_20 rfl ?_
      refine q_getR (f := 7) (pc := 21) dM_collect_21 lay_6 (by decide) rfl (by decide) fl_M29 rfl rfl ?_
      refine q_bipush (pc := 24) dM_collect_24 (by decide) (by decide) ?_
      refine q_iload_n (pc := 26) dM_collect_26 rfl ?_
      refine q_imul (pc := 27) dM_collect_27 (show (6 : Int) * (g : Int) = ((6 * g : Nat) : Int) by omega) ⟨by omega, by omega⟩ ?_
      refine q_iload_n (pc := 28) dM_collect_28 rfl ?_
      refine q_iadd (pc := 29) dM_collect_29 (show ((6 * g : Nat) : Int) + (c : Int) = ((6 * g + c : Nat) : Int) by omega) ⟨by omega, by omega⟩ ?_
      refine q_iald (i := (6 * g + c)) (pc := 30) dM_collect_30 rfl rfl (by omega) rfl ?_
      refine q_if_eq (tgt := 37) (pc := 31) dM_collect_31 (by decide) (fun h31 => ?_) (fun h31 => ?_)
      · have e : mcr I (6 * g + c) = 0 := by unfold mcr; rw [if_neg (not_not_intro h14), if_pos h31]
        rw [if_pos e]
        refine q_bipush (pc := 37) dM_collect_37 (by decide) (by decide) ?_
        refine q_iload_n (pc := 39) dM_collect_39 rfl ?_
        refine q_imul (pc := 40) dM_collect_40 (show (6 : Int) * (g : Int) = ((6 * g : Nat) : Int) by omega) ⟨by omega, by omega⟩ ?_
        refine q_iload_n (pc := 41) dM_collect_41 rfl ?_
        refine q_iadd (pc := 42) dM_collect_42 (show ((6 * g : Nat) : Int) + (c : Int) = ((6 * g + c : Nat) : Int) by omega) ⟨by omega, by omega⟩ ?_
        refine q_istore_n (pc := 43) dM_collect_43 (by decide) ?_
        refine q_aload_n (pc := 44) dM_collect_44 rfl ?_
        refine q_iload_n (pc := 45) dM_collect_45 rfl ?_
        refine q_callV1 (pc := 46) dM_collect_46 ((ct_M_pointOf hx I hn (by omega))) cd_M_pointOf in_M_pointOf se_M_pointOf ml_M81 rfl (by decide) rfl rfl (Nat.le_of_ble_eq_true rfl) ⟨by decide, by decide⟩ ⟨by decide, by decide⟩ rfl ?_
        refine q_istore (pc := 49) dM_collect_49 (by decide) ?_
        refine q_aload_n (pc := 51) dM_collect_51 rfl ?_
        refine q_aload_n (pc := 52) dM_collect_52 rfl ?_
        refine q_getR (f := 17) (pc := 53) dM_collect_53 lay_6 (by decide) rfl (by decide) fl_M47 rfl rfl ?_
        refine q_iconst (pc := 56) dM_collect_56 (by decide) ?_
        refine q_iald (i := 0) (pc := 57) dM_collect_57 rfl rfl (by omega) rfl ?_
        rw [hv0]
        refine q_callV1 (pc := 58) dM_collect_58 ((ct_M_low I hn (by omega) hvn.1)) cd_M_low in_M_low se_M_low ml_M155 rfl (by decide) rfl rfl (Nat.le_of_ble_eq_true rfl) ⟨by decide, by decide⟩ ⟨by decide, by decide⟩ rfl ?_
        refine q_istore (pc := 61) dM_collect_61 (by decide) ?_
        refine q_aload_n (pc := 63) dM_collect_63 rfl ?_
        refine q_aload_n (pc := 64) dM_collect_64 rfl ?_
        refine q_getR (f := 17) (pc := 65) dM_collect_65 lay_6 (by decide) rfl (by decide) fl_M47 rfl rfl ?_
        refine q_iconst (pc := 68) dM_collect_68 (by decide) ?_
        refine q_iald (i := 1) (pc := 69) dM_collect_69 rfl rfl (by omega) rfl ?_
        rw [hv1]
        refine q_callV1 (pc := 70) dM_collect_70 ((ct_M_low I hn (by omega) hvn.2)) cd_M_low in_M_low se_M_low ml_M155 rfl (by decide) rfl rfl (Nat.le_of_ble_eq_true rfl) ⟨by decide, by decide⟩ ⟨by decide, by decide⟩ rfl ?_
        refine q_istore (pc := 73) dM_collect_73 (by decide) ?_
        refine q_aload_n (pc := 75) dM_collect_75 rfl ?_
        refine q_aload_n (pc := 76) dM_collect_76 rfl ?_
        refine q_getI (f := 11) (pc := 77) dM_collect_77 lay_6 (by decide) rfl (by decide) fl_M94 rfl rfl ?_
        rw [hd]
        refine q_callV1 (pc := 80) dM_collect_80 ((ct_M_low I hn (by omega) hd2)) cd_M_low in_M_low se_M_low ml_M155 rfl (by decide) rfl rfl (Nat.le_of_ble_eq_true rfl) ⟨by decide, by decide⟩ ⟨by decide, by decide⟩ rfl ?_
        refine q_istore (pc := 83) dM_collect_83 (by decide) ?_
        refine q_iload (pc := 85) dM_collect_85 rfl ?_
        refine q_iload (pc := 87) dM_collect_87 rfl ?_
        refine q_icmp_ge (tgt := 97) (pc := 89) dM_collect_89 (by decide) (fun h89 => ?_) (fun h89 => ?_)
        · refine q_iload (pc := 97) dM_collect_97 rfl ?_
          refine q_istore (pc := 99) dM_collect_99 (by decide) ?_
          have e : nmin (mpt I (6 * g + c) n) (mlw I v0 v0) = mpt I (6 * g + c) n := by unfold nmin; rw [if_neg (by omega)]
          exact st2 _ _ _ _ _ (mpt I (6 * g + c) n) (by omega) (by unfold bLim; rw [e])
        · refine q_iload (pc := 92) dM_collect_92 rfl ?_
          refine q_goto (tgt := 99) (pc := 94) dM_collect_94 (by decide) ?_
          refine q_istore (pc := 99) dM_collect_99 (by decide) ?_
          have e : nmin (mpt I (6 * g + c) n) (mlw I v0 v0) = mlw I v0 v0 := by unfold nmin; rw [if_pos (by omega)]
          have := mlw_le I v0 v0
          exact st2 _ _ _ _ _ (mlw I v0 v0) (by omega) (by unfold bLim; rw [e])
      · have e : mcr I (6 * g + c) = -7 := by unfold mcr; rw [if_neg (not_not_intro h14), if_neg h31]
        refine q_bipush (pc := 34) dM_collect_34 (by decide) (by decide) ?_
        refine q_iret rfl (pc := 36) dM_collect_36 ?_
        exact rP_of (by rw [e, if_neg (by decide)])
    · have e : mcr I (6 * g + c) = -2 := by unfold mcr; rw [if_pos h14]
      refine q_bipush (pc := 17) dM_collect_17 (by decide) (by decide) ?_
      refine q_iret rfl (pc := 19) dM_collect_19 ?_
      exact rP_of (by rw [e, if_neg (by decide)])
  · have := of_decide_eq_false (bi_eq h5)
    omega
