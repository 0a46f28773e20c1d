/-! The reference, sixth part. -/
/-- y takes what x holds, of 1 .. l - 1 -/
def mtk (I : qI) (x y l : Nat) : qI := fun a j => if a = 50 ∧ j / 200 = y ∧ 1 ≤ j % 200 ∧ j % 200 < l ∧ I 50 (200 * x + j % 200) ≠ 0 ∧ I 50 j = 0 then 1 else I a j
def mtn (I : qI) (x y : Nat) (l : Nat) : Bool := mhd I x l && !mhd I y l
theorem mtk_off {I : qI} {x y l a : Nat} (h : a ≠ 50) : mtk I x y l a = I a := by funext j; simp [mtk, h]
theorem mtk_x {I : qI} {x y l : Nat} (hl : l < 200) (hxy : x ≠ y) : mtk I x y l 50 (200 * x + l) = I 50 (200 * x + l) := by
  unfold mtk
  rw [if_neg]
  rintro ⟨-, h, -⟩
  omega
theorem mtk_y {I : qI} {x y l : Nat} (hl : l < 200) : mtk I x y l 50 (200 * y + l) = I 50 (200 * y + l) := by
  unfold mtk
  rw [if_neg]
  rintro ⟨-, -, -, h, -⟩
  omega
theorem mtk_no {I : qI} {x y l : Nat} (hl : l < 200) (h : ¬ (I 50 (200 * x + l) ≠ 0 ∧ I 50 (200 * y + l) = 0)) : mtk I x y (l + 1) = mtk I x y l := by
  funext a j
  unfold mtk
  by_cases hj : j % 200 = l
  · by_cases hy : j / 200 = y
    · have e : j = 200 * y + l := by omega
      rw [if_neg, if_neg]
      · rintro ⟨-, -, -, h1, -⟩; omega
      · rintro ⟨-, -, -, -, h1, h2⟩
        rw [hj] at h1
        rw [e] at h2
        exact h ⟨h1, h2⟩
    · simp [hy]
  · have : (j % 200 < l + 1) = (j % 200 < l) := by apply propext; omega
    simp only [this]
theorem mtk_up {I : qI} {x y l : Nat} (hl : l < 200) (h1 : 1 ≤ l) (h : I 50 (200 * x + l) ≠ 0) (h2 : I 50 (200 * y + l) = 0) : q_up (mtk I x y l) 50 (200 * y + l) 1 = mtk I x y (l + 1) := by
  funext a j
  unfold q_up mtk
  by_cases ha : a = 50
  · by_cases hj : j = 200 * y + l
    · subst hj
      have e1 : (200 * y + l) % 200 = l := by omega
      have e2 : (200 * y + l) / 200 = y := by omega
      simp [ha, e1, e2, h, h1, h2]
    · simp only [ha, hj, and_false, if_false, true_and]
      by_cases hm : j % 200 = l
      · have : ¬ j / 200 = y := by omega
        simp [this]
      · have : (j % 200 < l + 1) = (j % 200 < l) := by apply propext; omega
        simp only [this]
  · simp [ha]
def mjoin (I : qI) (x y n : Nat) : qI := q_up (mtk I x y (n + 1)) 52 y (qmax (I 52 y) (I 52 x))
theorem lp_M_join {L x y n : Nat} (hx : x < 12) (hy : y < 12) (hxy : x ≠ y) (I : qI) (hn : I 44 0 = (n : Int)) (hn2 : n < 199) : ∀ f l k, l + f = n + 1 → 1 ≤ l → k = qn (mtn I x y) (l - 1) → qE M_M_join 0 5 [some (.inr (some 44)), some (.inl ((x : Nat) : Int)), some (.inl ((y : Nat) : Int)), some (.inl ((k : Nat) : Int)), some (.inl ((l : Nat) : Int))] [] L (mtk I x y l) (rI (qn (mtn I x y) n : Nat) L (mjoin I x y n)) := by
  intro f
  induction f with
  | zero =>
    intro l k hl h1 hk
    have e0 : mtk I x y l 44 0 = (n : Int) := by rw [mtk_off (by decide)]; exact hn
    obtain rfl : l = n + 1 := by omega
    have e1 : ∀ z, mtk I x y (n + 1) 52 z = I 52 z := fun z => by rw [mtk_off (by decide)]
    refine q_iload (pc := 5) dM_join_5 rfl ?_
    refine q_aload_n (pc := 7) dM_join_7 rfl ?_
    refine q_getI (f := 0) (pc := 8) dM_join_8 lay_6 (by decide) rfl (by decide) fl_M54 rfl rfl ?_
    refine q_icmp_gt (tgt := 69) (pc := 11) dM_join_11 (by decide) (fun h11 => ?_) (fun h11 => ?_)
    · refine q_aload_n (pc := 69) dM_join_69 rfl ?_
      refine q_getR (f := 8) (pc := 70) dM_join_70 lay_6 (by decide) rfl (by decide) fl_M32 rfl rfl ?_
      refine q_iload_n (pc := 73) dM_join_73 rfl ?_
      refine q_aload_n (pc := 74) dM_join_74 rfl ?_
      refine q_getR (f := 8) (pc := 75) dM_join_75 lay_6 (by decide) rfl (by decide) fl_M32 rfl rfl ?_
      refine q_iload_n (pc := 78) dM_join_78 rfl ?_
      refine q_iald (i := x) (pc := 79) dM_join_79 rfl rfl (by omega) rfl ?_
      refine q_aload_n (pc := 80) dM_join_80 rfl ?_
      refine q_getR (f := 8) (pc := 81) dM_join_81 lay_6 (by decide) rfl (by decide) fl_M32 rfl rfl ?_
      refine q_iload_n (pc := 84) dM_join_84 rfl ?_
      refine q_iald (i := y) (pc := 85) dM_join_85 rfl rfl (by omega) rfl ?_
      refine q_icmp_le (tgt := 98) (pc := 86) dM_join_86 (by decide) (fun h86 => ?_) (fun h86 => ?_)
      · refine q_aload_n (pc := 98) dM_join_98 rfl ?_
        refine q_getR (f := 8) (pc := 99) dM_join_99 lay_6 (by decide) rfl (by decide) fl_M32 rfl rfl ?_
        refine q_iload_n (pc := 102) dM_join_102 rfl ?_
        refine q_iald (i := y) (pc := 103) dM_join_103 rfl rfl (by omega) rfl ?_
        refine q_iast (i := y) (pc := 104) dM_join_104 rfl rfl (by omega) rfl ?_
        refine q_iload_n (pc := 105) dM_join_105 rfl ?_
        refine q_iret rfl (pc := 106) dM_join_106 ?_
        rw [e1, e1] at h86
        exact ⟨by rw [hk, Nat.add_sub_cancel], rfl, by unfold mjoin qmax; rw [if_neg (by omega), e1]⟩
      · refine q_aload_n (pc := 89) dM_join_89 rfl ?_
        refine q_getR (f := 8) (pc := 90) dM_join_90 lay_6 (by decide) rfl (by decide) fl_M32 rfl rfl ?_
        refine q_iload_n (pc := 93) dM_join_93 rfl ?_
        refine q_iald (i := x) (pc := 94) dM_join_94 rfl rfl (by omega) rfl ?_
        refine q_goto (tgt := 104) (pc := 95) dM_join_95 (by decide) ?_
        refine q_iast (i := y) (pc := 104) dM_join_104 rfl rfl (by omega) rfl ?_
        refine q_iload_n (pc := 105) dM_join_105 rfl ?_
        refine q_iret rfl (pc := 106) dM_join_106 ?_
        rw [e1, e1] at h86
        exact ⟨by rw [hk, Nat.add_sub_cancel], rfl, by unfold mjoin qmax; rw [if_pos (by omega), e1]⟩
    · omega
  | succ f ih =>
    intro l k hl h1 hk
    have e0 : mtk I x y l 44 0 = (n : Int) := by rw [mtk_off (by decide)]; exact hn
    have hkl := qn_le (mtn I x y) (l - 1)
    have e : qn (mtn I x y) (l + 1 - 1) = qn (mtn I x y) (l - 1) + (if mtn I x y l = true then 1 else 0) := by
      obtain ⟨j, rfl⟩ : ∃ j, l = j + 1 := ⟨l - 1, by omega⟩
      rfl
    refine q_iload (pc := 5) dM_join_5 rfl ?_
    refine q_aload_n (pc := 7) dM_join_7 rfl ?_
    refine q_getI (f := 0) (pc := 8) dM_join_8 lay_6 (by decide) rfl (by decide) fl_M54 rfl rfl ?_
    refine q_icmp_gt (tgt := 69) (pc := 11) dM_join_11 (by decide) (fun h11 => ?_) (fun h11 => ?_)
    · omega
    · refine q_aload_n (pc := 14) dM_join_14 rfl ?_
      refine q_getR (f := 6) (pc := 15) dM_join_15 lay_6 (by decide) rfl (by decide) fl_M26 rfl rfl ?_
      refine q_sipush (pc := 18) dM_join_18 (by decide) (by decide) ?_
      refine q_iload_n (pc := 21) dM_join_21 rfl ?_
      refine q_imul (pc := 22) dM_join_22 (show (200 : Int) * (x : Int) = ((200 * x : Nat) : Int) by omega) ⟨by omega, by omega⟩ ?_
      refine q_iload (pc := 23) dM_join_23 rfl ?_
      refine q_iadd (pc := 25) dM_join_25 (show ((200 * x : Nat) : Int) + (l : Int) = ((200 * x + l : Nat) : Int) by omega) ⟨by omega, by omega⟩ ?_
      refine q_zald (i := (200 * x + l)) (pc := 26) dM_join_26 rfl rfl (by omega) rfl ?_
      refine q_if_eq (tgt := 63) (pc := 27) dM_join_27 (by decide) (fun h27 => ?_) (fun h27 => ?_)
      · rw [mtk_x (by omega) hxy] at h27
        refine q_iinc (pc := 63) dM_join_63 rfl (by decide) rfl ⟨by omega, by omega⟩ ?_
        refine q_goto (tgt := 5) (pc := 66) dM_join_66 (by decide) ?_
        rw [← mtk_no (by omega) (fun z => z.1 h27)]
        exact ih (l + 1) k (by omega) (by omega) (by rw [e, if_neg (by simp [mtn, mhd, h27]), hk]; rfl)
      · rw [mtk_x (by omega) hxy] at h27
        refine q_aload_n (pc := 30) dM_join_30 rfl ?_
        refine q_getR (f := 6) (pc := 31) dM_join_31 lay_6 (by decide) rfl (by decide) fl_M26 rfl rfl ?_
        refine q_sipush (pc := 34) dM_join_34 (by decide) (by decide) ?_
        refine q_iload_n (pc := 37) dM_join_37 rfl ?_
        refine q_imul (pc := 38) dM_join_38 (show (200 : Int) * (y : Int) = ((200 * y : Nat) : Int) by omega) ⟨by omega, by omega⟩ ?_
        refine q_iload (pc := 39) dM_join_39 rfl ?_
        refine q_iadd (pc := 41) dM_join_41 (show ((200 * y : Nat) : Int) + (l : Int) = ((200 * y + l : Nat) : Int) by omega) ⟨by omega, by omega⟩ ?_
        refine q_zald (i := (200 * y + l)) (pc := 42) dM_join_42 rfl rfl (by omega) rfl ?_
        refine q_if_ne (tgt := 63) (pc := 43) dM_join_43 (by decide) (fun h43 => ?_) (fun h43 => ?_)
        · rw [mtk_y (by omega)] at h43
          refine q_iinc (pc := 63) dM_join_63 rfl (by decide) rfl ⟨by omega, by omega⟩ ?_
          refine q_goto (tgt := 5) (pc := 66) dM_join_66 (by decide) ?_
          rw [← mtk_no (by omega) (fun z => h43 z.2)]
          exact ih (l + 1) k (by omega) (by omega) (by rw [e, if_neg (by simp [mtn, mhd, h43]), hk]; rfl)
        · rw [mtk_y (by omega)] at h43
          refine q_aload_n (pc := 46) dM_join_46 rfl ?_
          refine q_getR (f := 6) (pc := 47) dM_join_47 lay_6 (by decide) rfl (by decide) fl_M26 rfl rfl ?_
          refine q_sipush (pc := 50) dM_join_50 (by decide) (by decide) ?_
          refine q_iload_n (pc := 53) dM_join_53 rfl ?_
          refine q_imul (pc := 54) dM_join_54 (show (200 : Int) * (y : Int) = ((200 * y : Nat) : Int) by omega) ⟨by omega, by omega⟩ ?_
          refine q_iload (pc := 55) dM_join_55 rfl ?_
          refine q_iadd (pc := 57) dM_join_57 (show ((200 * y : Nat) : Int) + (l : Int) = ((200 * y + l : Nat) : Int) by omega) ⟨by omega, by omega⟩ ?_
          refine q_iconst (pc := 58) dM_join_58 (by decide) ?_
          refine q_zast (i := (200 * y + l)) (pc := 59) dM_join_59 rfl rfl (by omega) rfl (by first | exact Or.inl rfl | exact Or.inr rfl) ?_
          refine q_iinc (pc := 60) dM_join_60 rfl (by decide) rfl ⟨by omega, by omega⟩ ?_
          refine q_iinc (pc := 63) dM_join_63 rfl (by decide) rfl ⟨by omega, by omega⟩ ?_
          refine q_goto (tgt := 5) (pc := 66) dM_join_66 (by decide) ?_
          rw [mtk_up (by omega) h1 h27 h43]
          exact ih (l + 1) (k + 1) (by omega) (by omega) (by rw [e, if_pos (by simp [mtn, mhd, h27, h43]), hk])
theorem ct_M_join {L x y n : Nat} (hx : x < 12) (hy : y < 12) (hxy : x ≠ y) (I : qI) (hn : I 44 0 = (n : Int)) (hn2 : n < 199) : qT M_M_join 0 [.inr (some 44), .inl ((x : Nat) : Int), .inl ((y : Nat) : Int)] L I (rI (qn (mtn I x y) n : Nat) L (mjoin I x y n)) := by
  refine q_enter (by decide) (Nat.le_of_ble_eq_true rfl) ?_
  refine q_iconst (pc := 0) dM_join_0 (by decide) ?_
  refine q_istore_n (pc := 1) dM_join_1 (by decide) ?_
  refine q_iconst (pc := 2) dM_join_2 (by decide) ?_
  refine q_istore (pc := 3) dM_join_3 (by decide) ?_
  have e : I = mtk I x y 1 := by
    funext a j
    unfold mtk
    rw [if_neg (by omega)]
  have h := lp_M_join (L := L) hx hy hxy I hn hn2 n 1 0 (by omega) (by omega) rfl
  rw [← e] at h
  exact h
theorem ct_M_gossip0 {L : Nat} {g f t : Int} (I : qI) (h0 : ¬ (isC g f ∧ isC g t ∧ ¬ f = t)) : qT M_M_gossip 2 [.inr (some 44), .inl g, .inl f, .inl t] L I (rI (-1) L I) := by
  refine q_enter (by decide) (Nat.le_of_ble_eq_true rfl) ?_
  refine q_iload_n (pc := 0) dM_gossip_0 rfl ?_
  refine q_iload_n (pc := 1) dM_gossip_1 rfl ?_
  refine q_callS1 (pc := 2) dM_gossip_2 ((ct_M_isCopy g f I)) cd_M_isCopy st_M_isCopy ml_M143 rfl (Nat.le_of_ble_eq_true rfl) ⟨by decide, by decide⟩ ⟨by decide, by decide⟩ rfl ?_
  refine q_if_eq (tgt := 21) (pc := 5) dM_gossip_5 (by decide) (fun h5 => ?_) (fun h5 => ?_)
  · refine q_iconst (pc := 21) dM_gossip_21 (by decide) ?_
    refine q_iret rfl (pc := 22) dM_gossip_22 ?_
    exact ⟨rfl, rfl, rfl⟩
  · have h9 : isC g f := by have := of_decide_eq_true (bi_ne h5); exact this
    refine q_iload_n (pc := 8) dM_gossip_8 rfl ?_
    refine q_iload_n (pc := 9) dM_gossip_9 rfl ?_
    refine q_callS1 (pc := 10) dM_gossip_10 ((ct_M_isCopy g t I)) cd_M_isCopy st_M_isCopy ml_M143 rfl (Nat.le_of_ble_eq_true rfl) ⟨by decide, by decide⟩ ⟨by decide, by decide⟩ rfl ?_
    refine q_if_eq (tgt := 21) (pc := 13) dM_gossip_13 (by decide) (fun h13 => ?_) (fun h13 => ?_)
    · refine q_iconst (pc := 21) dM_gossip_21 (by decide) ?_
      refine q_iret rfl (pc := 22) dM_gossip_22 ?_
      exact ⟨rfl, rfl, rfl⟩
    · have h8 : isC g t := by have := of_decide_eq_true (bi_ne h13); exact this
      refine q_iload_n (pc := 16) dM_gossip_16 rfl ?_
      refine q_iload_n (pc := 17) dM_gossip_17 rfl ?_
      refine q_icmp_ne (tgt := 23) (pc := 18) dM_gossip_18 (by decide) (fun h18 => ?_) (fun h18 => ?_)
      · exact absurd ⟨h9, h8, h18⟩ h0
      · refine q_iconst (pc := 21) dM_gossip_21 (by decide) ?_
        refine q_iret rfl (pc := 22) dM_gossip_22 ?_
        exact ⟨rfl, rfl, rfl⟩
theorem ct_M_gossip {L n g f t : Nat} (I : qI) (hn : I 44 0 = (n : Int)) (hn2 : n < 199) (hg : g < 2) (hf : f < 6) (ht : t < 6) (hft : f ≠ t) : qT M_M_gossip 2 [.inr (some 44), .inl ((g : Nat) : Int), .inl ((f : Nat) : Int), .inl ((t : Nat) : Int)] L I (rP (if I 51 (6 * g + f) = 0 ∧ I 51 (6 * g + t) = 0 then ((qn (mtn I (6 * g + f) (6 * g + t)) n : Nat), mjoin I (6 * g + f) (6 * g + t) n) else (-7, I)) L) := by
  have hx : 6 * g + f < 12 := by omega
  have hy : 6 * g + t < 12 := by omega
  refine q_enter (by decide) (Nat.le_of_ble_eq_true rfl) ?_
  refine q_iload_n (pc := 0) dM_gossip_0 rfl ?_
  refine q_iload_n (pc := 1) dM_gossip_1 rfl ?_
  refine q_callS1 (pc := 2) dM_gossip_2 ((ct_M_isCopy g f I)) cd_M_isCopy st_M_isCopy ml_M143 rfl (Nat.le_of_ble_eq_true rfl) ⟨by decide, by decide⟩ ⟨by decide, by decide⟩ rfl ?_
  refine q_if_eq (tgt := 21) (pc := 5) dM_gossip_5 (by decide) (fun h5 => ?_) (fun h5 => ?_)
  · have := of_decide_eq_false (bi_eq h5)
    omega
  · refine q_iload_n (pc := 8) dM_gossip_8 rfl ?_
    refine q_iload_n (pc := 9) dM_gossip_9 rfl ?_
    refine q_callS1 (pc := 10) dM_gossip_10 ((ct_M_isCopy g t I)) cd_M_isCopy st_M_isCopy ml_M143 rfl (Nat.le_of_ble_eq_true rfl) ⟨by decide, by decide⟩ ⟨by decide, by decide⟩ rfl ?_
    refine q_if_eq (tgt := 21) (pc := 13) dM_gossip_13 (by decide) (fun h13 => ?_) (fun h13 => ?_)
    · have := of_decide_eq_false (bi_eq h13)
      omega
    · refine q_iload_n (pc := 16) dM_gossip_16 rfl ?_
      refine q_iload_n (pc := 17) dM_gossip_17 rfl ?_
      refine q_icmp_ne (tgt := 23) (pc := 18) dM_gossip_18 (by decide) (fun h18 => ?_) (fun h18 => ?_)
      · refine q_aload_n (pc := 23) dM_gossip_23 rfl ?_
        refine q_getR (f := 7) (pc := 24) dM_gossip_24 lay_6 (by decide) rfl (by decide) fl_M29 rfl rfl ?_
        refine q_bipush (pc := 27) dM_gossip_27 (by decide) (by decide) ?_
        refine q_iload_n (pc := 29) dM_gossip_29 rfl ?_
        refine q_imul (pc := 30) dM_gossip_30 (show (6 : Int) * (g : Int) = ((6 * g : Nat) : Int) by omega) ⟨by omega, by omega⟩ ?_
        refine q_iload_n (pc := 31) dM_gossip_31 rfl ?_
        refine q_iadd (pc := 32) dM_gossip_32 (show ((6 * g : Nat) : Int) + (f : Int) = ((6 * g + f : Nat) : Int) by omega) ⟨by omega, by omega⟩ ?_
        refine q_iald (i := (6 * g + f)) (pc := 33) dM_gossip_33 rfl rfl (by omega) rfl ?_
        refine q_if_ne (tgt := 51) (pc := 34) dM_gossip_34 (by decide) (fun h34 => ?_) (fun h34 => ?_)
        · refine q_bipush (pc := 51) dM_gossip_51 (by decide) (by decide) ?_
          refine q_iret rfl (pc := 53) dM_gossip_53 ?_
          exact rP_of (by rw [if_neg (fun z => h34 z.1)])
        · refine q_aload_n (pc := 37) dM_gossip_37 rfl ?_
          refine q_getR (f := 7) (pc := 38) dM_gossip_38 lay_6 (by decide) rfl (by decide) fl_M29 rfl rfl ?_
          refine q_bipush (pc := 41) dM_gossip_41 (by decide) (by decide) ?_
          refine q_iload_n (pc := 43) dM_gossip_43 rfl ?_
          refine q_imul (pc := 44) dM_gossip_44 (show (6 : Int) * (g : Int) = ((6 * g : Nat) : Int) by omega) ⟨by omega, by omega⟩ ?_
          refine q_iload_n (pc := 45) dM_gossip_45 rfl ?_
          refine q_iadd (pc := 46) dM_gossip_46 (show ((6 * g : Nat) : Int) + (t : Int) = ((6 * g + t : Nat) : Int) by omega) ⟨by omega, by omega⟩ ?_
          refine q_iald (i := (6 * g + t)) (pc := 47) dM_gossip_47 rfl rfl (by omega) rfl ?_
          refine q_if_eq (tgt := 54) (pc := 48) dM_gossip_48 (by decide) (fun h48 => ?_) (fun h48 => ?_)
          · refine q_aload_n (pc := 54) dM_gossip_54 rfl ?_
            refine q_bipush (pc := 55) dM_gossip_55 (by decide) (by decide) ?_
            refine q_iload_n (pc := 57) dM_gossip_57 rfl ?_
            refine q_imul (pc := 58) dM_gossip_58 (show (6 : Int) * (g : Int) = ((6 * g : Nat) : Int) by omega) ⟨by omega, by omega⟩ ?_
            refine q_iload_n (pc := 59) dM_gossip_59 rfl ?_
            refine q_iadd (pc := 60) dM_gossip_60 (show ((6 * g : Nat) : Int) + (f : Int) = ((6 * g + f : Nat) : Int) by omega) ⟨by omega, by omega⟩ ?_
            refine q_bipush (pc := 61) dM_gossip_61 (by decide) (by decide) ?_
            refine q_iload_n (pc := 63) dM_gossip_63 rfl ?_
            refine q_imul (pc := 64) dM_gossip_64 (show (6 : Int) * (g : Int) = ((6 * g : Nat) : Int) by omega) ⟨by omega, by omega⟩ ?_
            refine q_iload_n (pc := 65) dM_gossip_65 rfl ?_
            refine q_iadd (pc := 66) dM_gossip_66 (show ((6 * g : Nat) : Int) + (t : Int) = ((6 * g + t : Nat) : Int) by omega) ⟨by omega, by omega⟩ ?_
            refine q_callV1 (pc := 67) dM_gossip_67 ((ct_M_join hx hy (by omega) I hn hn2)) cd_M_join in_M_join se_M_join ml_M146 rfl (by decide) rfl rfl (Nat.le_of_ble_eq_true rfl) ⟨by decide, by decide⟩ ⟨by decide, by decide⟩ rfl ?_
            refine q_iret rfl (pc := 70) dM_gossip_70 ?_
            exact rP_of (by rw [if_pos ⟨h34, h48⟩])
          · refine q_bipush (pc := 51) dM_gossip_51 (by decide) (by decide) ?_
            refine q_iret rfl (pc := 53) dM_gossip_53 ?_
            exact rP_of (by rw [if_neg (fun z => h48 z.2)])
      · omega
def mcr (I : qI) (x : Nat) : Int := if ¬ I 44 10 = 0 then -2 else if I 51 x = 0 then 0 else -7
theorem ct_M_report0 {L : Nat} {g c : Int} (I : qI) (h0 : ¬ isC g c) : qT M_M_report 4 [.inr (some 44), .inl g, .inl c] L I (rI (-1) L I) := by
  refine q_enter (by decide) (Nat.le_of_ble_eq_true rfl) ?_
  refine q_iload_n (pc := 0) dM_report_0 rfl ?_
  refine q_iload_n (pc := 1) dM_report_1 rfl ?_
  refine q_callS1 (pc := 2) dM_report_2 ((ct_M_isCopy g c I)) cd_M_isCopy st_M_isCopy ml_M143 rfl (Nat.le_of_ble_eq_true rfl) ⟨by decide, by decide⟩ ⟨by decide, by decide⟩ rfl ?_
  refine q_if_ne (tgt := 10) (pc := 5) dM_report_5 (by decide) (fun h5 => ?_) (fun h5 => ?_)
  · exact absurd (by have := of_decide_eq_true (bi_ne h5); exact this) h0
  · refine q_iconst (pc := 8) dM_report_8 (by decide) ?_
    refine q_iret rfl (pc := 9) dM_report_9 ?_
    exact ⟨rfl, rfl, rfl⟩
theorem madv_off {I : qI} {n a : Nat} (h : a ≠ 44) : madv I n a = I a := q_up_off a h
theorem ct_M_report {L n T k d g c : Nat} (I : qI) (h : mw I n T k d) (hg : g < 2) (hc : c < 6) : qT M_M_report 4 [.inr (some 44), .inl ((g : Nat) : Int), .inl ((c : Nat) : Int)] L I (rP (if mcr I (6 * g + c) = 0 then ((mpt I (6 * g + c) n : Nat), mrep I (6 * g + c) n) else (mcr I (6 * g + c), I)) L) := by
  obtain ⟨⟨hn, hn2⟩, -⟩ := h
  have hx : 6 * g + c < 12 := by omega
  refine q_enter (by decide) (Nat.le_of_ble_eq_true rfl) ?_
  refine q_iload_n (pc := 0) dM_report_0 rfl ?_
  refine q_iload_n (pc := 1) dM_report_1 rfl ?_
  refine q_callS1 (pc := 2) dM_report_2 ((ct_M_isCopy g c I)) cd_M_isCopy st_M_isCopy ml_M143 rfl (Nat.le_of_ble_eq_true rfl) ⟨by decide, by decide⟩ ⟨by decide, by decide⟩ rfl ?_
  refine q_if_ne (tgt := 10) (pc := 5) dM_report_5 (by decide) (fun h5 => ?_) (fun h5 => ?_)
  · refine q_aload_n (pc := 10) dM_report_10 rfl ?_
    refine q_getI (f := 10) (pc := 11) dM_report_11 lay_6 (by decide) rfl (by decide) fl_M117 rfl rfl ?_
    refine q_if_eq (tgt := 20) (pc := 14) dM_report_14 (by decide) (fun h14 => ?_) (fun h14 => ?_)
    · refine q_aload_n (pc := 20) dM_report_20 rfl ?_
      refine q_getR (f := 7) (pc := 21) dM_report_21 lay_6 (by decide) rfl (by decide) fl_M29 rfl rfl ?_
      refine q_bipush (pc := 24) dM_report_24 (by decide) (by decide) ?_
      refine q_iload_n (pc := 26) dM_report_26 rfl ?_
      refine q_imul (pc := 27) dM_report_27 (show (6 : Int) * (g : Int) = ((6 * g : Nat) : Int) by omega) ⟨by omega, by omega⟩ ?_
      refine q_iload_n (pc := 28) dM_report_28 rfl ?_
      refine q_iadd (pc := 29) dM_report_29 (show ((6 * g : Nat) : Int) + (c : Int) = ((6 * g + c : Nat) : Int) by omega) ⟨by omega, by omega⟩ ?_
      refine q_iald (i := (6 * g + c)) (pc := 30) dM_report_30 rfl rfl (by omega) rfl ?_
      refine q_if_eq (tgt := 37) (pc := 31) dM_report_31 (by decide) (fun h31 => ?_) (fun h31 => ?_)
      · have e : mcr I (6 * g + c) = 0 := by unfold mcr; rw [if_neg (not_not_intro h14), if_pos h31]
        refine q_aload_n (pc := 37) dM_report_37 rfl ?_
        refine q_bipush (pc := 38) dM_report_38 (by decide) (by decide) ?_
        refine q_iload_n (pc := 40) dM_report_40 rfl ?_
        refine q_imul (pc := 41) dM_report_41 (show (6 : Int) * (g : Int) = ((6 * g : Nat) : Int) by omega) ⟨by omega, by omega⟩ ?_
        refine q_iload_n (pc := 42) dM_report_42 rfl ?_
        refine q_iadd (pc := 43) dM_report_43 (show ((6 * g : Nat) : Int) + (c : Int) = ((6 * g + c : Nat) : Int) by omega) ⟨by omega, by omega⟩ ?_
        refine q_callV0 (pc := 44) dM_report_44 ((ct_M_reportPoint hx I hn (by omega))) cd_M_reportPoint in_M_reportPoint se_M_reportPoint ml_M140 rfl (by decide) rfl rfl (Nat.le_of_ble_eq_true rfl) ⟨by decide, by decide⟩ ⟨by decide, by decide⟩ rfl ?_
        refine q_aload_n (pc := 47) dM_report_47 rfl ?_
        refine q_getR (f := 9) (pc := 48) dM_report_48 lay_6 (by decide) rfl (by decide) fl_M35 rfl rfl ?_
        refine q_bipush (pc := 51) dM_report_51 (by decide) (by decide) ?_
        refine q_iload_n (pc := 53) dM_report_53 rfl ?_
        refine q_imul (pc := 54) dM_report_54 (show (6 : Int) * (g : Int) = ((6 * g : Nat) : Int) by omega) ⟨by omega, by omega⟩ ?_
        refine q_iload_n (pc := 55) dM_report_55 rfl ?_
        refine q_iadd (pc := 56) dM_report_56 (show ((6 * g : Nat) : Int) + (c : Int) = ((6 * g + c : Nat) : Int) by omega) ⟨by omega, by omega⟩ ?_
        refine q_iald (i := (6 * g + c)) (pc := 57) dM_report_57 rfl rfl (by omega) rfl ?_
        refine q_iret rfl (pc := 58) dM_report_58 ?_
        refine rP_of ?_
        rw [if_pos e]
        have e2 : mrep I (6 * g + c) n 53 (6 * g + c) = (mpt I (6 * g + c) n : Nat) := by
          unfold mrep
          rw [madv_off (by decide)]
          simp [q_up]
        rw [e2]
      · have e : mcr I (6 * g + c) = -7 := by unfold mcr; rw [if_neg (not_not_intro h14), if_neg h31]
        refine q_bipush (pc := 34) dM_report_34 (by decide) (by decide) ?_
        refine q_iret rfl (pc := 36) dM_report_36 ?_
        exact rP_of (by rw [e, if_neg (by decide)])
    · have e : mcr I (6 * g + c) = -2 := by unfold mcr; rw [if_pos h14]
      refine q_bipush (pc := 17) dM_report_17 (by decide) (by decide) ?_
      refine q_iret rfl (pc := 19) dM_report_19 ?_
      exact rP_of (by rw [e, if_neg (by decide)])
  · have := of_decide_eq_false (bi_eq h5)
    omega
def mlv (I : qI) (g : Nat) : Nat := qz (fun c => mll I (6 * g + c)) 6
theorem lp_M_live {L g : Nat} (hg : g < 2) (I : qI) : ∀ f c, c + f = 6 → qE M_M_live 0 7 [some (.inr (some 44)), some (.inl ((g : Nat) : Int)), some (.inl ((qz (fun c => mll I (6 * g + c)) c : Nat) : Int)), some (.inl ((6 * g + c : Nat) : Int))] [] L I (rI (mlv I g : Nat) L I) := by
  intro f
  induction f with
  | zero =>
    intro c hc
    obtain rfl : c = 6 := by omega
    refine q_iload_n (pc := 7) dM_live_7 rfl ?_
    refine q_bipush (pc := 8) dM_live_8 (by decide) (by decide) ?_
    refine q_iload_n (pc := 10) dM_live_10 rfl ?_
    refine q_imul (pc := 11) dM_live_11 (show (6 : Int) * (g : Int) = ((6 * g : Nat) : Int) by omega) ⟨by omega, by omega⟩ ?_
    refine q_bipush (pc := 12) dM_live_12 (by decide) (by decide) ?_
    refine q_iadd (pc := 14) dM_live_14 rfl ⟨by omega, by omega⟩ ?_
    refine q_icmp_ge (tgt := 41) (pc := 15) dM_live_15 (by decide) (fun h15 => ?_) (fun h15 => ?_)
    · refine q_iload_n (pc := 41) dM_live_41 rfl ?_
      refine q_iret rfl (pc := 42) dM_live_42 ?_
      exact ⟨rfl, rfl, rfl⟩
    · omega
  | succ f ih =>
    intro c hc
    have h9 := ih (c + 1) (by omega)
    have hl := qz_le (fun c => mll I (6 * g + c)) c
    refine q_iload_n (pc := 7) dM_live_7 rfl ?_
    refine q_bipush (pc := 8) dM_live_8 (by decide) (by decide) ?_
    refine q_iload_n (pc := 10) dM_live_10 rfl ?_
    refine q_imul (pc := 11) dM_live_11 (show (6 : Int) * (g : Int) = ((6 * g : Nat) : Int) by omega) ⟨by omega, by omega⟩ ?_
    refine q_bipush (pc := 12) dM_live_12 (by decide) (by decide) ?_
    refine q_iadd (pc := 14) dM_live_14 rfl ⟨by omega, by omega⟩ ?_
    refine q_icmp_ge (tgt := 41) (pc := 15) dM_live_15 (by decide) (fun h15 => ?_) (fun h15 => ?_)
    · omega
    · refine q_iload_n (pc := 18) dM_live_18 rfl ?_
      refine q_aload_n (pc := 19) dM_live_19 rfl ?_
      refine q_getR (f := 7) (pc := 20) dM_live_20 lay_6 (by decide) rfl (by decide) fl_M29 rfl rfl ?_
      refine q_iload_n (pc := 23) dM_live_23 rfl ?_
      refine q_iald (i := (6 * g + c)) (pc := 24) dM_live_24 rfl rfl (by omega) rfl ?_
      refine q_if_ne (tgt := 32) (pc := 25) dM_live_25 (by decide) (fun h25 => ?_) (fun h25 => ?_)
      · refine q_iconst (pc := 32) dM_live_32 (by decide) ?_
        refine q_iadd (pc := 33) dM_live_33 rfl ⟨by omega, by omega⟩ ?_
        refine q_istore_n (pc := 34) dM_live_34 (by decide) ?_
        refine q_iinc (pc := 35) dM_live_35 rfl (by decide) rfl ⟨by omega, by omega⟩ ?_
        refine q_goto (tgt := 7) (pc := 38) dM_live_38 (by decide) ?_
        have e : qz (fun c => mll I (6 * g + c)) (c + 1) = qz (fun c => mll I (6 * g + c)) c + 0 := by rw [qz, if_neg (by simp [mll, h25])]
        rw [e] at h9
        exact h9
      · refine q_iconst (pc := 28) dM_live_28 (by decide) ?_
        refine q_goto (tgt := 33) (pc := 29) dM_live_29 (by decide) ?_
        refine q_iadd (pc := 33) dM_live_33 rfl ⟨by omega, by omega⟩ ?_
        refine q_istore_n (pc := 34) dM_live_34 (by decide) ?_
        refine q_iinc (pc := 35) dM_live_35 rfl (by decide) rfl ⟨by omega, by omega⟩ ?_
        refine q_goto (tgt := 7) (pc := 38) dM_live_38 (by decide) ?_
        have e : qz (fun c => mll I (6 * g + c)) (c + 1) = qz (fun c => mll I (6 * g + c)) c + 1 := by rw [qz, if_pos (by simp [mll, h25])]
        rw [e] at h9
        exact h9
theorem ct_M_live {L g : Nat} (hg : g < 2) (I : qI) : qT M_M_live 0 [.inr (some 44), .inl ((g : Nat) : Int)] L I (rI (mlv I g : Nat) L I) := by
  refine q_enter (by decide) (Nat.le_of_ble_eq_true rfl) ?_
  refine q_iconst (pc := 0) dM_live_0 (by decide) ?_
  refine q_istore_n (pc := 1) dM_live_1 (by decide) ?_
  refine q_bipush (pc := 2) dM_live_2 (by decide) (by decide) ?_
  refine q_iload_n (pc := 4) dM_live_4 rfl ?_
  refine q_imul (pc := 5) dM_live_5 (show (6 : Int) * (g : Int) = ((6 * g + 0 : Nat) : Int) by omega) ⟨by omega, by omega⟩ ?_
  refine q_istore_n (pc := 6) dM_live_6 (by decide) ?_
  exact lp_M_live hg I 6 0 (by omega)
