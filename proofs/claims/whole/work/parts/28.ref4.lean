/-! The reference, fourth part. -/
/-- what the reference's cells are like -/
def mw (I : qI) (n T k d : Nat) : Prop :=
  (I 44 0 = (n : Int) ∧ n ≤ 187) ∧ (I 44 12 = (T : Int) ∧ T ≤ 60) ∧ (I 44 16 = (k : Int) ∧ k ≤ 4) ∧ (I 44 11 = (d : Int) ∧ d ≤ n) ∧
  (∀ i, i < k → ∃ p : Nat, p ≤ 7 ∧ I 56 i = (p : Int)) ∧ (∀ l, 1 ≤ l → l ≤ n → ∃ g : Nat, g < 2 ∧ mg I l = (g : Int)) ∧
  (∀ x, x < 12 → ∃ f : Nat, f ≤ 187 ∧ I 52 x = (f : Int)) ∧ (∀ r, r < 2 → ∃ v : Nat, v ≤ d ∧ I 57 r = (v : Int)) ∧
  (∀ l, 1 ≤ l → l ≤ n → 0 ≤ I 47 l ∧ I 47 l ≤ 9999)
def mrt (I : qI) (t : Int) : Int := if ¬ I 44 10 = 0 then -2 else if mac I t = true then 0 else -3
def mrk (I : qI) (t : Int) (a b : Nat) : Int := if mrt I t = 0 then (if mmay I t a = true ∧ mmay I t b = true then 0 else -4) else mrt I t
def mrc (I : qI) (t : Int) (a b : Nat) : Int := if mrk I t a b = 0 then (if I 44 0 < 150 then 0 else -5) else mrk I t a b
theorem mtch_off {I : qI} {n k d p a : Nat} {o : Int} (h1 : a ≠ 56) (h2 : a ≠ 44) : (mtch I n k d p o).2 a = I a := by
  have e : ∀ s, mdrp I k s a = I a := fun s => by unfold mdrp; rw [mdr_off h1, q_up_off a h2]
  unfold mtch
  split
  · exact (mapp_off h1 h2).trans (e _)
  split
  · rfl
  split
  · rfl
  split
  · exact (mapp_off h1 h2).trans (e _)
  · exact mapp_off h1 h2
theorem mtch_44 {I : qI} {n k d p j : Nat} {o : Int} (h : j ≠ 16) : (mtch I n k d p o).2 44 j = I 44 j := by
  have e : ∀ s, mdrp I k s 44 j = I 44 j := fun s => by unfold mdrp; rw [mdr_off (by decide)]; simp [q_up, h]
  have e2 : ∀ (J : qI) (m : Nat) (q : Int), mapp J m q 44 j = J 44 j := fun J m q => by simp [mapp, q_up, h]
  unfold mtch
  split
  · exact (e2 _ _ _).trans (e _)
  split
  · rfl
  split
  · rfl
  split
  · exact (e2 _ _ _).trans (e _)
  · exact e2 _ _ _
theorem mtch_le {I : qI} {n k d p : Nat} {o : Int} : (mtch I n k d p o).1 = 0 ∨ (mtch I n k d p o).1 < 0 := by
  unfold mtch
  split
  · exact Or.inl rfl
  split
  · exact Or.inr (show (-6 : Int) < 0 by decide)
  split
  · exact Or.inr (show (-7 : Int) < 0 by decide)
  split
  · exact Or.inl rfl
  · exact Or.inl rfl
theorem ct_M_read0 {L : Nat} (t : Int) {key : Int} (I : qI) (hk : ¬ (0 ≤ key ∧ key < 32)) : qT M_M_read 4 [.inr (some 44), .inl t, .inl key] L I (rI (-1) L I) := by
  refine q_enter (by decide) (Nat.le_of_ble_eq_true rfl) ?_
  refine q_iload_n (pc := 0) dM_read_0 rfl ?_
  refine q_callS1 (pc := 1) dM_read_1 ((ct_M_isKey key I)) cd_M_isKey st_M_isKey ml_M121 rfl (Nat.le_of_ble_eq_true rfl) ⟨by decide, by decide⟩ ⟨by decide, by decide⟩ rfl ?_
  refine q_if_ne (tgt := 9) (pc := 4) dM_read_4 (by decide) (fun h4 => ?_) (fun h4 => ?_)
  · exact absurd (of_decide_eq_true (bi_ne h4)) hk
  · refine q_iconst (pc := 7) dM_read_7 (by decide) ?_
    refine q_iret rfl (pc := 8) dM_read_8 ?_
    exact ⟨rfl, rfl, rfl⟩
def bRead (I : qI) (n k d : Nat) (t : Int) (a : Nat) : Int × qI :=
  if mrk I t a a = 0 then (if (mtch I n k d (a / 4) (-1)).1 = 0 then (mval (q_up (mtch I n k d (a / 4) (-1)).2 55 a t) a n, q_up (mtch I n k d (a / 4) (-1)).2 55 a t) else mtch I n k d (a / 4) (-1)) else (mrk I t a a, I)
theorem nb {b : Bool} (h : (!b) = true) : ¬ b = true := by cases b <;> simp at h ⊢
theorem nf {b : Bool} (h : (!b) = false) : b = true := by cases b <;> simp at h ⊢
theorem ct_M_read {L n T k d a : Nat} (t : Int) (I : qI) (h : mw I n T k d) (ha : a < 32) : qT M_M_read 4 [.inr (some 44), .inl t, .inl ((a : Nat) : Int)] L I (rP (bRead I n k d t a) L) := by
  obtain ⟨⟨hn, hn2⟩, ⟨hT, hT2⟩, ⟨hk, hk2⟩, ⟨hd, hd2⟩, hp, -⟩ := h
  refine q_enter (by decide) (Nat.le_of_ble_eq_true rfl) ?_
  refine q_iload_n (pc := 0) dM_read_0 rfl ?_
  refine q_callS1 (pc := 1) dM_read_1 ((ct_M_isKey a I)) cd_M_isKey st_M_isKey ml_M121 rfl (Nat.le_of_ble_eq_true rfl) ⟨by decide, by decide⟩ ⟨by decide, by decide⟩ rfl ?_
  refine q_if_ne (tgt := 9) (pc := 4) dM_read_4 (by decide) (fun h4 => ?_) (fun h4 => ?_)
  · refine q_aload_n (pc := 9) dM_read_9 rfl ?_
    refine q_getI (f := 10) (pc := 10) dM_read_10 lay_6 (by decide) rfl (by decide) fl_M117 rfl rfl ?_
    refine q_if_eq (tgt := 19) (pc := 13) dM_read_13 (by decide) (fun h13 => ?_) (fun h13 => ?_)
    · refine q_aload_n (pc := 19) dM_read_19 rfl ?_
      refine q_iload_n (pc := 20) dM_read_20 rfl ?_
      refine q_callV1 (pc := 21) dM_read_21 ((ct_M_isActive t I hT hT2)) cd_M_isActive in_M_isActive se_M_isActive ml_M125 rfl (by decide) rfl rfl (Nat.le_of_ble_eq_true rfl) ⟨by decide, by decide⟩ ⟨by decide, by decide⟩ rfl ?_
      refine q_if_ne (tgt := 30) (pc := 24) dM_read_24 (by decide) (fun h24 => ?_) (fun h24 => ?_)
      · have e0 : mrt I t = 0 := by unfold mrt; rw [if_neg (not_not_intro h13), if_pos (bi_ne h24)]
        refine q_aload_n (pc := 30) dM_read_30 rfl ?_
        refine q_iload_n (pc := 31) dM_read_31 rfl ?_
        refine q_iload_n (pc := 32) dM_read_32 rfl ?_
        refine q_callV1 (pc := 33) dM_read_33 ((ct_M_locked t I ha)) cd_M_locked in_M_locked se_M_locked ml_M128 rfl (by decide) rfl rfl (Nat.le_of_ble_eq_true rfl) ⟨by decide, by decide⟩ ⟨by decide, by decide⟩ rfl ?_
        refine q_if_eq (tgt := 42) (pc := 36) dM_read_36 (by decide) (fun h36 => ?_) (fun h36 => ?_)
        · have e1 : mrk I t a a = 0 := by unfold mrk; rw [if_pos e0, if_pos ⟨nf (bi_eq h36), nf (bi_eq h36)⟩]
          refine q_aload_n (pc := 42) dM_read_42 rfl ?_
          refine q_iload_n (pc := 43) dM_read_43 rfl ?_
          refine q_iconst (pc := 44) dM_read_44 (by decide) ?_
          refine q_idiv (pc := 45) dM_read_45 (by decide) ?_
          rw [td4]
          refine q_iconst (pc := 46) dM_read_46 (by decide) ?_
          refine q_callV1 (pc := 47) dM_read_47 ((ct_M_touch (-1) I hn (by omega) hk hk2 hd hd2 (by omega) hp)) cd_M_touch in_M_touch se_M_touch ml_M131 rfl (by decide) rfl rfl (Nat.le_of_ble_eq_true rfl) ⟨by decide, by decide⟩ ⟨by decide, by decide⟩ rfl ?_
          refine q_istore_n (pc := 50) dM_read_50 (by decide) ?_
          refine q_iload_n (pc := 51) dM_read_51 rfl ?_
          refine q_if_ge (tgt := 57) (pc := 52) dM_read_52 (by decide) (fun h52 => ?_) (fun h52 => ?_)
          · have h52' : (mtch I n k d (a / 4) (-1)).1 = 0 := by rcases mtch_le (I := I) (n := n) (k := k) (d := d) (p := a / 4) (o := -1) with z | z <;> omega
            have e : q_up (mtch I n k d (a / 4) (-1)).2 55 a t 44 0 = (n : Int) := by rw [q_up_off 44 (by decide), mtch_44 (by decide)]; exact hn
            refine q_aload_n (pc := 57) dM_read_57 rfl ?_
            refine q_getR (f := 14) (pc := 58) dM_read_58 lay_6 (by decide) rfl (by decide) fl_M41 rfl rfl ?_
            refine q_iload_n (pc := 61) dM_read_61 rfl ?_
            refine q_iload_n (pc := 62) dM_read_62 rfl ?_
            refine q_iast (i := a) (pc := 63) dM_read_63 rfl rfl (by omega) rfl ?_
            refine q_aload_n (pc := 64) dM_read_64 rfl ?_
            refine q_iload_n (pc := 65) dM_read_65 rfl ?_
            refine q_aload_n (pc := 66) dM_read_66 rfl ?_
            refine q_getI (f := 0) (pc := 67) dM_read_67 lay_6 (by decide) rfl (by decide) fl_M54 rfl rfl ?_
            rw [e]
            refine q_callV1 (pc := 70) dM_read_70 ((ct_M_valueUpTo a _ e (by omega) (Nat.le_refl _))) cd_M_valueUpTo in_M_valueUpTo se_M_valueUpTo ml_M68 rfl (by decide) rfl rfl (Nat.le_of_ble_eq_true rfl) ⟨by decide, by decide⟩ ⟨by decide, by decide⟩ rfl ?_
            refine q_iret rfl (pc := 73) dM_read_73 ?_
            exact rP_of (by unfold bRead; rw [if_pos e1, if_pos h52'])
          · refine q_iload_n (pc := 55) dM_read_55 rfl ?_
            refine q_iret rfl (pc := 56) dM_read_56 ?_
            exact rP_of (by unfold bRead; rw [if_pos e1, if_neg (by omega)])
        · refine q_bipush (pc := 39) dM_read_39 (by decide) (by decide) ?_
          refine q_iret rfl (pc := 41) dM_read_41 ?_
          have e1 : mrk I t a a = -4 := by unfold mrk; rw [if_pos e0, if_neg (fun z => nb (bi_ne h36) z.1)]
          exact rP_of (by unfold bRead; rw [e1, if_neg (by decide)])
      · refine q_bipush (pc := 27) dM_read_27 (by decide) (by decide) ?_
        refine q_iret rfl (pc := 29) dM_read_29 ?_
        have e0 : mrt I t = -3 := by unfold mrt; rw [if_neg (not_not_intro h13), if_neg (by rw [bi_eq h24]; decide)]
        have e1 : mrk I t a a = -3 := by unfold mrk; rw [e0, if_neg (by decide)]
        exact rP_of (by unfold bRead; rw [e1, if_neg (by decide)])
    · refine q_bipush (pc := 16) dM_read_16 (by decide) (by decide) ?_
      refine q_iret rfl (pc := 18) dM_read_18 ?_
      have e0 : mrt I t = -2 := by unfold mrt; rw [if_pos h13]
      have e1 : mrk I t a a = -2 := by unfold mrk; rw [e0, if_neg (by decide)]
      exact rP_of (by unfold bRead; rw [e1, if_neg (by decide)])
  · have := of_decide_eq_false (bi_eq h4)
    omega
theorem ct_M_write0 {L : Nat} (t : Int) {key v : Int} (I : qI) (hk : ¬ ((0 ≤ key ∧ key < 32) ∧ 0 ≤ v ∧ v ≤ 9999)) : qT M_M_write 4 [.inr (some 44), .inl t, .inl key, .inl v] L I (rI (-1) L I) := by
  refine q_enter (by decide) (Nat.le_of_ble_eq_true rfl) ?_
  refine q_iload_n (pc := 0) dM_write_0 rfl ?_
  refine q_callS1 (pc := 1) dM_write_1 ((ct_M_isKey key I)) cd_M_isKey st_M_isKey ml_M121 rfl (Nat.le_of_ble_eq_true rfl) ⟨by decide, by decide⟩ ⟨by decide, by decide⟩ rfl ?_
  refine q_if_eq (tgt := 18) (pc := 4) dM_write_4 (by decide) (fun h4 => ?_) (fun h4 => ?_)
  · refine q_iconst (pc := 18) dM_write_18 (by decide) ?_
    refine q_iret rfl (pc := 19) dM_write_19 ?_
    exact ⟨rfl, rfl, rfl⟩
  · have h9 := of_decide_eq_true (bi_ne h4)
    refine q_iload_n (pc := 7) dM_write_7 rfl ?_
    refine q_if_lt (tgt := 18) (pc := 8) dM_write_8 (by decide) (fun h8 => ?_) (fun h8 => ?_)
    · refine q_iconst (pc := 18) dM_write_18 (by decide) ?_
      refine q_iret rfl (pc := 19) dM_write_19 ?_
      exact ⟨rfl, rfl, rfl⟩
    · refine q_iload_n (pc := 11) dM_write_11 rfl ?_
      refine q_sipush (pc := 12) dM_write_12 (by decide) (by decide) ?_
      refine q_icmp_le (tgt := 20) (pc := 15) dM_write_15 (by decide) (fun h15 => ?_) (fun h15 => ?_)
      · omega
      · refine q_iconst (pc := 18) dM_write_18 (by decide) ?_
        refine q_iret rfl (pc := 19) dM_write_19 ?_
        exact ⟨rfl, rfl, rfl⟩
def bWrite (I : qI) (n k d : Nat) (t : Int) (a : Nat) (v : Int) : Int × qI :=
  if mrc I t a a = 0 then (if (mtch I n k d (a / 4) (-1)).1 = 0 then (((n + 1 : Nat) : Int), mad (q_up (mtch I n k d (a / 4) (-1)).2 55 a t) n t a v 0 1) else mtch I n k d (a / 4) (-1)) else (mrc I t a a, I)
theorem ct_M_write {L n T k d a : Nat} (t v : Int) (I : qI) (h : mw I n T k d) (ha : a < 32) (hv : 0 ≤ v ∧ v ≤ 9999) : qT M_M_write 4 [.inr (some 44), .inl t, .inl ((a : Nat) : Int), .inl v] L I (rP (bWrite I n k d t a v) L) := by
  obtain ⟨⟨hn, hn2⟩, ⟨hT, hT2⟩, ⟨hk, hk2⟩, ⟨hd, hd2⟩, hp, -⟩ := h
  refine q_enter (by decide) (Nat.le_of_ble_eq_true rfl) ?_
  refine q_iload_n (pc := 0) dM_write_0 rfl ?_
  refine q_callS1 (pc := 1) dM_write_1 ((ct_M_isKey a I)) cd_M_isKey st_M_isKey ml_M121 rfl (Nat.le_of_ble_eq_true rfl) ⟨by decide, by decide⟩ ⟨by decide, by decide⟩ rfl ?_
  refine q_if_eq (tgt := 18) (pc := 4) dM_write_4 (by decide) (fun h4 => ?_) (fun h4 => ?_)
  · have := of_decide_eq_false (bi_eq h4)
    omega
  · refine q_iload_n (pc := 7) dM_write_7 rfl ?_
    refine q_if_lt (tgt := 18) (pc := 8) dM_write_8 (by decide) (fun h8 => ?_) (fun h8 => ?_)
    · omega
    · refine q_iload_n (pc := 11) dM_write_11 rfl ?_
      refine q_sipush (pc := 12) dM_write_12 (by decide) (by decide) ?_
      refine q_icmp_le (tgt := 20) (pc := 15) dM_write_15 (by decide) (fun h15 => ?_) (fun h15 => ?_)
      · refine q_aload_n (pc := 20) dM_write_20 rfl ?_
        refine q_getI (f := 10) (pc := 21) dM_write_21 lay_6 (by decide) rfl (by decide) fl_M117 rfl rfl ?_
        refine q_if_eq (tgt := 30) (pc := 24) dM_write_24 (by decide) (fun h24 => ?_) (fun h24 => ?_)
        · refine q_aload_n (pc := 30) dM_write_30 rfl ?_
          refine q_iload_n (pc := 31) dM_write_31 rfl ?_
          refine q_callV1 (pc := 32) dM_write_32 ((ct_M_isActive t I hT hT2)) cd_M_isActive in_M_isActive se_M_isActive ml_M125 rfl (by decide) rfl rfl (Nat.le_of_ble_eq_true rfl) ⟨by decide, by decide⟩ ⟨by decide, by decide⟩ rfl ?_
          refine q_if_ne (tgt := 41) (pc := 35) dM_write_35 (by decide) (fun h35 => ?_) (fun h35 => ?_)
          · have e0 : mrt I t = 0 := by unfold mrt; rw [if_neg (not_not_intro h24), if_pos (bi_ne h35)]
            refine q_aload_n (pc := 41) dM_write_41 rfl ?_
            refine q_iload_n (pc := 42) dM_write_42 rfl ?_
            refine q_iload_n (pc := 43) dM_write_43 rfl ?_
            refine q_callV1 (pc := 44) dM_write_44 ((ct_M_locked t I ha)) cd_M_locked in_M_locked se_M_locked ml_M128 rfl (by decide) rfl rfl (Nat.le_of_ble_eq_true rfl) ⟨by decide, by decide⟩ ⟨by decide, by decide⟩ rfl ?_
            refine q_if_eq (tgt := 53) (pc := 47) dM_write_47 (by decide) (fun h47 => ?_) (fun h47 => ?_)
            · have e1 : mrk I t a a = 0 := by unfold mrk; rw [if_pos e0, if_pos ⟨nf (bi_eq h47), nf (bi_eq h47)⟩]
              refine q_aload_n (pc := 53) dM_write_53 rfl ?_
              refine q_getI (f := 0) (pc := 54) dM_write_54 lay_6 (by decide) rfl (by decide) fl_M54 rfl rfl ?_
              refine q_sipush (pc := 57) dM_write_57 (by decide) (by decide) ?_
              refine q_icmp_lt (tgt := 66) (pc := 60) dM_write_60 (by decide) (fun h60 => ?_) (fun h60 => ?_)
              · have e2 : mrc I t a a = 0 := by unfold mrc; rw [if_pos e1, if_pos h60]
                refine q_aload_n (pc := 66) dM_write_66 rfl ?_
                refine q_iload_n (pc := 67) dM_write_67 rfl ?_
                refine q_iconst (pc := 68) dM_write_68 (by decide) ?_
                refine q_idiv (pc := 69) dM_write_69 (by decide) ?_
                rw [td4]
                refine q_iconst (pc := 70) dM_write_70 (by decide) ?_
                refine q_callV1 (pc := 71) dM_write_71 ((ct_M_touch (-1) I hn (by omega) hk hk2 hd hd2 (by omega) hp)) cd_M_touch in_M_touch se_M_touch ml_M131 rfl (by decide) rfl rfl (Nat.le_of_ble_eq_true rfl) ⟨by decide, by decide⟩ ⟨by decide, by decide⟩ rfl ?_
                refine q_istore (pc := 74) dM_write_74 (by decide) ?_
                refine q_iload (pc := 76) dM_write_76 rfl ?_
                refine q_if_ge (tgt := 84) (pc := 78) dM_write_78 (by decide) (fun h78 => ?_) (fun h78 => ?_)
                · have h52' : (mtch I n k d (a / 4) (-1)).1 = 0 := by rcases mtch_le (I := I) (n := n) (k := k) (d := d) (p := a / 4) (o := -1) with z | z <;> omega
                  have e : q_up (mtch I n k d (a / 4) (-1)).2 55 a t 44 0 = (n : Int) := by rw [q_up_off 44 (by decide), mtch_44 (by decide)]; exact hn
                  refine q_aload_n (pc := 84) dM_write_84 rfl ?_
                  refine q_getR (f := 14) (pc := 85) dM_write_85 lay_6 (by decide) rfl (by decide) fl_M41 rfl rfl ?_
                  refine q_iload_n (pc := 88) dM_write_88 rfl ?_
                  refine q_iload_n (pc := 89) dM_write_89 rfl ?_
                  refine q_iast (i := a) (pc := 90) dM_write_90 rfl rfl (by omega) rfl ?_
                  refine q_aload_n (pc := 91) dM_write_91 rfl ?_
                  refine q_iload_n (pc := 92) dM_write_92 rfl ?_
                  refine q_iload_n (pc := 93) dM_write_93 rfl ?_
                  refine q_iload_n (pc := 94) dM_write_94 rfl ?_
                  refine q_iconst (pc := 95) dM_write_95 (by decide) ?_
                  refine q_iconst (pc := 96) dM_write_96 (by decide) ?_
                  refine q_callV1 (pc := 97) dM_write_97 ((ct_M_add t a v 0 1 _ e (by omega) (Or.inr rfl))) cd_M_add in_M_add se_M_add ml_M61 rfl (by decide) rfl rfl (Nat.le_of_ble_eq_true rfl) ⟨by decide, by decide⟩ ⟨by decide, by decide⟩ rfl ?_
                  refine q_iret rfl (pc := 100) dM_write_100 ?_
                  exact rP_of (by unfold bWrite; rw [if_pos e2, if_pos h52'])
                · refine q_iload (pc := 81) dM_write_81 rfl ?_
                  refine q_iret rfl (pc := 83) dM_write_83 ?_
                  exact rP_of (by unfold bWrite; rw [if_pos e2, if_neg (by omega)])
              · refine q_bipush (pc := 63) dM_write_63 (by decide) (by decide) ?_
                refine q_iret rfl (pc := 65) dM_write_65 ?_
                have e2 : mrc I t a a = -5 := by unfold mrc; rw [if_pos e1, if_neg h60]
                exact rP_of (by unfold bWrite; rw [e2, if_neg (by decide)])
            · refine q_bipush (pc := 50) dM_write_50 (by decide) (by decide) ?_
              refine q_iret rfl (pc := 52) dM_write_52 ?_
              have e1 : mrk I t a a = -4 := by unfold mrk; rw [if_pos e0, if_neg (fun z => nb (bi_ne h47) z.1)]
              have e2 : mrc I t a a = -4 := by unfold mrc; rw [e1, if_neg (by decide)]
              exact rP_of (by unfold bWrite; rw [e2, if_neg (by decide)])
          · refine q_bipush (pc := 38) dM_write_38 (by decide) (by decide) ?_
            refine q_iret rfl (pc := 40) dM_write_40 ?_
            have e0 : mrt I t = -3 := by unfold mrt; rw [if_neg (not_not_intro h24), if_neg (by rw [bi_eq h35]; decide)]
            have e1 : mrk I t a a = -3 := by unfold mrk; rw [e0, if_neg (by decide)]
            have e2 : mrc I t a a = -3 := by unfold mrc; rw [e1, if_neg (by decide)]
            exact rP_of (by unfold bWrite; rw [e2, if_neg (by decide)])
        · refine q_bipush (pc := 27) dM_write_27 (by decide) (by decide) ?_
          refine q_iret rfl (pc := 29) dM_write_29 ?_
          have e0 : mrt I t = -2 := by unfold mrt; rw [if_pos h24]
          have e1 : mrk I t a a = -2 := by unfold mrk; rw [e0, if_neg (by decide)]
          have e2 : mrc I t a a = -2 := by unfold mrc; rw [e1, if_neg (by decide)]
          exact rP_of (by unfold bWrite; rw [e2, if_neg (by decide)])
      · omega
theorem ct_M_shift0 {L : Nat} (t : Int) {a b m : Int} (I : qI) (hk : ¬ ((0 ≤ a ∧ a < 32) ∧ (0 ≤ b ∧ b < 32) ∧ ¬ a = b ∧ 1 ≤ m ∧ m ≤ 9999)) : qT M_M_shift 4 [.inr (some 44), .inl t, .inl a, .inl b, .inl m] L I (rI (-1) L I) := by
  refine q_enter (by decide) (Nat.le_of_ble_eq_true rfl) ?_
  refine q_iload_n (pc := 0) dM_shift_0 rfl ?_
  refine q_callS1 (pc := 1) dM_shift_1 ((ct_M_isKey a I)) cd_M_isKey st_M_isKey ml_M121 rfl (Nat.le_of_ble_eq_true rfl) ⟨by decide, by decide⟩ ⟨by decide, by decide⟩ rfl ?_
  refine q_if_eq (tgt := 33) (pc := 4) dM_shift_4 (by decide) (fun h4 => ?_) (fun h4 => ?_)
  · refine q_iconst (pc := 33) dM_shift_33 (by decide) ?_
    refine q_iret rfl (pc := 34) dM_shift_34 ?_
    exact ⟨rfl, rfl, rfl⟩
  · have h9 := of_decide_eq_true (bi_ne h4)
    refine q_iload_n (pc := 7) dM_shift_7 rfl ?_
    refine q_callS1 (pc := 8) dM_shift_8 ((ct_M_isKey b I)) cd_M_isKey st_M_isKey ml_M121 rfl (Nat.le_of_ble_eq_true rfl) ⟨by decide, by decide⟩ ⟨by decide, by decide⟩ rfl ?_
    refine q_if_eq (tgt := 33) (pc := 11) dM_shift_11 (by decide) (fun h11 => ?_) (fun h11 => ?_)
    · refine q_iconst (pc := 33) dM_shift_33 (by decide) ?_
      refine q_iret rfl (pc := 34) dM_shift_34 ?_
      exact ⟨rfl, rfl, rfl⟩
    · have h8 := of_decide_eq_true (bi_ne h11)
      refine q_iload_n (pc := 14) dM_shift_14 rfl ?_
      refine q_iload_n (pc := 15) dM_shift_15 rfl ?_
      refine q_icmp_eq (tgt := 33) (pc := 16) dM_shift_16 (by decide) (fun h16 => ?_) (fun h16 => ?_)
      · refine q_iconst (pc := 33) dM_shift_33 (by decide) ?_
        refine q_iret rfl (pc := 34) dM_shift_34 ?_
        exact ⟨rfl, rfl, rfl⟩
      · refine q_iload (pc := 19) dM_shift_19 rfl ?_
        refine q_iconst (pc := 21) dM_shift_21 (by decide) ?_
        refine q_icmp_lt (tgt := 33) (pc := 22) dM_shift_22 (by decide) (fun h22 => ?_) (fun h22 => ?_)
        · refine q_iconst (pc := 33) dM_shift_33 (by decide) ?_
          refine q_iret rfl (pc := 34) dM_shift_34 ?_
          exact ⟨rfl, rfl, rfl⟩
        · refine q_iload (pc := 25) dM_shift_25 rfl ?_
          refine q_sipush (pc := 27) dM_shift_27 (by decide) (by decide) ?_
          refine q_icmp_le (tgt := 35) (pc := 30) dM_shift_30 (by decide) (fun h30 => ?_) (fun h30 => ?_)
          · omega
          · refine q_iconst (pc := 33) dM_shift_33 (by decide) ?_
            refine q_iret rfl (pc := 34) dM_shift_34 ?_
            exact ⟨rfl, rfl, rfl⟩
def mkN (I : qI) : Nat := (I 44 16).toNat
def bSh3 (J : qI) (n : Nat) (t : Int) (a b : Nat) (m : Int) : Int × qI :=
  if mval J a n < m ∨ 9999 - m < mval J b n then (-8, J)
  else (((n + 2 : Nat) : Int), mad (mad (q_up (q_up J 55 a t) 55 b t) n t a (mval J a n - m) 0 0) (n + 1) t b (mval J b n + m) 0 1)
def bSh2 (J : qI) (n d : Nat) (t : Int) (a b : Nat) (m : Int) : Int × qI :=
  if (mtch J n (mkN J) d (b / 4) ((a / 4 : Nat) : Int)).1 = 0 then bSh3 (mtch J n (mkN J) d (b / 4) ((a / 4 : Nat) : Int)).2 n t a b m else mtch J n (mkN J) d (b / 4) ((a / 4 : Nat) : Int)
def bShift (I : qI) (n k d : Nat) (t : Int) (a b : Nat) (m : Int) : Int × qI :=
  if mrc I t a b = 0 then (if (mtch I n k d (a / 4) ((b / 4 : Nat) : Int)).1 = 0 then bSh2 (mtch I n k d (a / 4) ((b / 4 : Nat) : Int)).2 n d t a b m else mtch I n k d (a / 4) ((b / 4 : Nat) : Int)) else (mrc I t a b, I)
def pgs (I : qI) (m : Nat) : Prop := ∀ i, i < m → ∃ p : Nat, p ≤ 7 ∧ I 56 i = (p : Int)
theorem mdr_pgs : ∀ {f j : Nat} {I : qI}, pgs I (j + f + 1) → pgs (mdr f j I) (j + f + 1)
  | 0, j, I, h => h
  | f + 1, j, I, h => by
    show pgs (mdr f (j + 1) (q_up I 56 j (I 56 (j + 1)))) (j + (f + 1) + 1)
    rw [show j + (f + 1) + 1 = (j + 1) + f + 1 by omega] at h ⊢
    refine mdr_pgs (fun i hi => ?_)
    by_cases hij : i = j
    · subst hij
      obtain ⟨p, h1, h2⟩ := h (i + 1) (by omega)
      exact ⟨p, h1, by simp [q_up, h2]⟩
    · obtain ⟨p, h1, h2⟩ := h i hi
      exact ⟨p, h1, by simp [q_up, hij, h2]⟩
theorem mdrp_pgs {I : qI} {k s : Nat} (h : pgs I k) (hs : s < k) : pgs (mdrp I k s) (k - 1) := by
  have h1 : pgs (q_up I 44 16 ((k - 1 : Nat) : Int)) (s + (k - 1 - s) + 1) := fun i hi => by
    obtain ⟨p, h1, h2⟩ := h i (by omega)
    exact ⟨p, h1, by rw [q_up_off 56 (by decide)]; exact h2⟩
  have h2 := mdr_pgs h1
  exact fun i hi => h2 i (by omega)
theorem mapp_pgs {I : qI} {k p : Nat} (h : pgs I k) (hp : p ≤ 7) : pgs (mapp I k p) (k + 1) := by
  intro i hi
  by_cases hik : i = k
  · subst hik
    exact ⟨p, hp, by simp [mapp, q_up]⟩
  · obtain ⟨q, h1, h2⟩ := h i (by omega)
    exact ⟨q, h1, by simp [mapp, q_up, hik, h2]⟩
theorem mapp_k {I : qI} {k : Nat} {p : Int} : mapp I k p 44 16 = ((k + 1 : Nat) : Int) := by simp [mapp, q_up]
theorem mtch_k {I : qI} {n k d p : Nat} {o : Int} (hk : I 44 16 = (k : Int)) (hk2 : k ≤ 4) (hp : pgs I k) (hp7 : p ≤ 7) : ∃ m : Nat, m ≤ 4 ∧ (mtch I n k d p o).2 44 16 = (m : Int) ∧ pgs (mtch I n k d p o).2 m := by
  have hb := mpl_bd I p k 0
  have hbg := mgo_bd I n d o k 0
  unfold mtch
  split
  · next h =>
    refine ⟨k - 1 + 1, by omega, ?_, mapp_pgs (mdrp_pgs hp (by omega)) hp7⟩
    exact mapp_k (I := mdrp I k (mpl I p k 0).toNat) (k := k - 1) (p := (p : Int))
  split
  · exact ⟨k, hk2, hk, hp⟩
  split
  · exact ⟨k, hk2, hk, hp⟩
  split
  · next h1 h2 h3 h4 =>
    refine ⟨k - 1 + 1, by omega, ?_, mapp_pgs (mdrp_pgs hp (by omega)) hp7⟩
    exact mapp_k (I := mdrp I k (mgo I n d o k 0).toNat) (k := k - 1) (p := (p : Int))
  · next h1 h2 h3 h4 => exact ⟨k + 1, by omega, mapp_k (I := I) (k := k) (p := (p : Int)), mapp_pgs hp hp7⟩
theorem mval_bd {I : qI} {k : Int} {n : Nat} (h : ∀ l, 1 ≤ l → l ≤ n → 0 ≤ I 47 l ∧ I 47 l ≤ 9999) : 0 ≤ mval I k n ∧ mval I k n ≤ 9999 := by
  unfold mval
  split
  · omega
  · exact h _ (by omega) (ql_le _ _)
theorem ct_M_shift {L n T k d a b : Nat} (t m : Int) (I : qI) (h : mw I n T k d) (ha : a < 32) (hb : b < 32) (hab : a ≠ b) (hm : 1 ≤ m ∧ m ≤ 9999) : qT M_M_shift 4 [.inr (some 44), .inl t, .inl ((a : Nat) : Int), .inl ((b : Nat) : Int), .inl m] L I (rP (bShift I n k d t a b m) L) := by
  obtain ⟨⟨hn, hn2⟩, ⟨hT, hT2⟩, ⟨hk, hk2⟩, ⟨hd, hd2⟩, hp, -, -, -, hv⟩ := h
  refine q_enter (by decide) (Nat.le_of_ble_eq_true rfl) ?_
  refine q_iload_n (pc := 0) dM_shift_0 rfl ?_
  refine q_callS1 (pc := 1) dM_shift_1 ((ct_M_isKey a I)) cd_M_isKey st_M_isKey ml_M121 rfl (Nat.le_of_ble_eq_true rfl) ⟨by decide, by decide⟩ ⟨by decide, by decide⟩ rfl ?_
  refine q_if_eq (tgt := 33) (pc := 4) dM_shift_4 (by decide) (fun h4 => ?_) (fun h4 => ?_)
  · have := of_decide_eq_false (bi_eq h4)
    omega
  · refine q_iload_n (pc := 7) dM_shift_7 rfl ?_
    refine q_callS1 (pc := 8) dM_shift_8 ((ct_M_isKey b I)) cd_M_isKey st_M_isKey ml_M121 rfl (Nat.le_of_ble_eq_true rfl) ⟨by decide, by decide⟩ ⟨by decide, by decide⟩ rfl ?_
    refine q_if_eq (tgt := 33) (pc := 11) dM_shift_11 (by decide) (fun h11 => ?_) (fun h11 => ?_)
    · have := of_decide_eq_false (bi_eq h11)
      omega
    · refine q_iload_n (pc := 14) dM_shift_14 rfl ?_
      refine q_iload_n (pc := 15) dM_shift_15 rfl ?_
      refine q_icmp_eq (tgt := 33) (pc := 16) dM_shift_16 (by decide) (fun h16 => ?_) (fun h16 => ?_)
      · omega
      · refine q_iload (pc := 19) dM_shift_19 rfl ?_
        refine q_iconst (pc := 21) dM_shift_21 (by decide) ?_
        refine q_icmp_lt (tgt := 33) (pc := 22) dM_shift_22 (by decide) (fun h22 => ?_) (fun h22 => ?_)
        · omega
        · refine q_iload (pc := 25) dM_shift_25 rfl ?_
          refine q_sipush (pc := 27) dM_shift_27 (by decide) (by decide) ?_
          refine q_icmp_le (tgt := 35) (pc := 30) dM_shift_30 (by decide) (fun h30 => ?_) (fun h30 => ?_)
          · refine q_aload_n (pc := 35) dM_shift_35 rfl ?_
            refine q_getI (f := 10) (pc := 36) dM_shift_36 lay_6 (by decide) rfl (by decide) fl_M117 rfl rfl ?_
            refine q_if_eq (tgt := 45) (pc := 39) dM_shift_39 (by decide) (fun h39 => ?_) (fun h39 => ?_)
            · refine q_aload_n (pc := 45) dM_shift_45 rfl ?_
              refine q_iload_n (pc := 46) dM_shift_46 rfl ?_
              refine q_callV1 (pc := 47) dM_shift_47 ((ct_M_isActive t I hT hT2)) cd_M_isActive in_M_isActive se_M_isActive ml_M125 rfl (by decide) rfl rfl (Nat.le_of_ble_eq_true rfl) ⟨by decide, by decide⟩ ⟨by decide, by decide⟩ rfl ?_
              refine q_if_ne (tgt := 56) (pc := 50) dM_shift_50 (by decide) (fun h50 => ?_) (fun h50 => ?_)
              · have e0 : mrt I t = 0 := by unfold mrt; rw [if_neg (not_not_intro h39), if_pos (bi_ne h50)]
                have bad : ¬ (mmay I t a = true ∧ mmay I t b = true) → rP (bShift I n k d t a b m) L (some (.inl (-4))) (S0 L) I := by
                  intro hz
                  have e1 : mrk I t a b = -4 := by unfold mrk; rw [if_pos e0, if_neg hz]
                  have e2 : mrc I t a b = -4 := by unfold mrc; rw [e1, if_neg (by decide)]
                  exact rP_of (by unfold bShift; rw [e2, if_neg (by decide)])
                refine q_aload_n (pc := 56) dM_shift_56 rfl ?_
                refine q_iload_n (pc := 57) dM_shift_57 rfl ?_
                refine q_iload_n (pc := 58) dM_shift_58 rfl ?_
                refine q_callV1 (pc := 59) dM_shift_59 ((ct_M_locked t I ha)) cd_M_locked in_M_locked se_M_locked ml_M128 rfl (by decide) rfl rfl (Nat.le_of_ble_eq_true rfl) ⟨by decide, by decide⟩ ⟨by decide, by decide⟩ rfl ?_
                refine q_if_ne (tgt := 74) (pc := 62) dM_shift_62 (by decide) (fun h62 => ?_) (fun h62 => ?_)
                · refine q_bipush (pc := 74) dM_shift_74 (by decide) (by decide) ?_
                  refine q_iret rfl (pc := 76) dM_shift_76 ?_
                  exact bad (fun z => nb (bi_ne h62) z.1)
                · refine q_aload_n (pc := 65) dM_shift_65 rfl ?_
                  refine q_iload_n (pc := 66) dM_shift_66 rfl ?_
                  refine q_iload_n (pc := 67) dM_shift_67 rfl ?_
                  refine q_callV1 (pc := 68) dM_shift_68 ((ct_M_locked t I hb)) cd_M_locked in_M_locked se_M_locked ml_M128 rfl (by decide) rfl rfl (Nat.le_of_ble_eq_true rfl) ⟨by decide, by decide⟩ ⟨by decide, by decide⟩ rfl ?_
                  refine q_if_eq (tgt := 77) (pc := 71) dM_shift_71 (by decide) (fun h71 => ?_) (fun h71 => ?_)
                  · have e1 : mrk I t a b = 0 := by unfold mrk; rw [if_pos e0, if_pos ⟨nf (bi_eq h62), nf (bi_eq h71)⟩]
                    refine q_aload_n (pc := 77) dM_shift_77 rfl ?_
                    refine q_getI (f := 0) (pc := 78) dM_shift_78 lay_6 (by decide) rfl (by decide) fl_M54 rfl rfl ?_
                    refine q_sipush (pc := 81) dM_shift_81 (by decide) (by decide) ?_
                    refine q_icmp_lt (tgt := 90) (pc := 84) dM_shift_84 (by decide) (fun h84 => ?_) (fun h84 => ?_)
                    · have e2 : mrc I t a b = 0 := by unfold mrc; rw [if_pos e1, if_pos h84]
                      refine q_aload_n (pc := 90) dM_shift_90 rfl ?_
                      refine q_iload_n (pc := 91) dM_shift_91 rfl ?_
                      refine q_iconst (pc := 92) dM_shift_92 (by decide) ?_
                      refine q_idiv (pc := 93) dM_shift_93 (by decide) ?_
                      rw [td4]
                      refine q_iload_n (pc := 94) dM_shift_94 rfl ?_
                      refine q_iconst (pc := 95) dM_shift_95 (by decide) ?_
                      refine q_idiv (pc := 96) dM_shift_96 (by decide) ?_
                      rw [td4]
                      refine q_callV1 (pc := 97) dM_shift_97 ((ct_M_touch ((b / 4 : Nat) : Int) I hn (by omega) hk hk2 hd hd2 (by omega) hp)) cd_M_touch in_M_touch se_M_touch ml_M131 rfl (by decide) rfl rfl (Nat.le_of_ble_eq_true rfl) ⟨by decide, by decide⟩ ⟨by decide, by decide⟩ rfl ?_
                      refine q_istore (pc := 100) dM_shift_100 (by decide) ?_
                      refine q_iload (pc := 102) dM_shift_102 rfl ?_
                      refine q_if_ne (tgt := 119) (pc := 104) dM_shift_104 (by decide) (fun h104 => ?_) (fun h104 => ?_)
                      · refine q_iload (pc := 119) dM_shift_119 rfl ?_
                        refine q_if_ge (tgt := 127) (pc := 121) dM_shift_121 (by decide) (fun h121 => ?_) (fun h121 => ?_)
                        · have : (mtch I n k d (a / 4) ((b / 4 : Nat) : Int)).1 = 0 := by rcases mtch_le (I := I) (n := n) (k := k) (d := d) (p := a / 4) (o := ((b / 4 : Nat) : Int)) with z | z <;> omega
                          exact absurd this h104
                        · refine q_iload (pc := 124) dM_shift_124 rfl ?_
                          refine q_iret rfl (pc := 126) dM_shift_126 ?_
                          exact rP_of (by unfold bShift; rw [if_pos e2, if_neg h104])
                      · have e9 : bShift I n k d t a b m = bSh2 (mtch I n k d (a / 4) ((b / 4 : Nat) : Int)).2 n d t a b m := by unfold bShift; rw [if_pos e2, if_pos h104]
                        rw [e9]
                        have o1 : ∀ q, q ≠ 56 → q ≠ 44 → (mtch I n k d (a / 4) ((b / 4 : Nat) : Int)).2 q = I q := fun q => mtch_off
                        have o2 : ∀ j, j ≠ 16 → (mtch I n k d (a / 4) ((b / 4 : Nat) : Int)).2 44 j = I 44 j := fun j => mtch_44
                        obtain ⟨k1, hk1, ek1, hp1⟩ := mtch_k (n := n) (d := d) (p := a / 4) (o := ((b / 4 : Nat) : Int)) hk hk2 hp (by omega)
                        generalize (mtch I n k d (a / 4) ((b / 4 : Nat) : Int)).2 = J at o1 o2 ek1 hp1 ⊢
                        have ekN : mkN J = k1 := by unfold mkN; rw [ek1]; rfl
                        have hnJ : J 44 0 = (n : Int) := by rw [o2 0 (by decide)]; exact hn
                        have hdJ : J 44 11 = (d : Int) := by rw [o2 11 (by decide)]; exact hd
                        refine q_aload_n (pc := 107) dM_shift_107 rfl ?_
                        refine q_iload_n (pc := 108) dM_shift_108 rfl ?_
                        refine q_iconst (pc := 109) dM_shift_109 (by decide) ?_
                        refine q_idiv (pc := 110) dM_shift_110 (by decide) ?_
                        rw [td4]
                        refine q_iload_n (pc := 111) dM_shift_111 rfl ?_
                        refine q_iconst (pc := 112) dM_shift_112 (by decide) ?_
                        refine q_idiv (pc := 113) dM_shift_113 (by decide) ?_
                        rw [td4]
                        refine q_callV1 (pc := 114) dM_shift_114 ((ct_M_touch (k := mkN J) ((a / 4 : Nat) : Int) J hnJ (by omega) (by rw [ekN]; exact ek1) (by omega) hdJ hd2 (by omega) (by rw [ekN]; exact hp1))) cd_M_touch in_M_touch se_M_touch ml_M131 rfl (by decide) rfl rfl (Nat.le_of_ble_eq_true rfl) ⟨by decide, by decide⟩ ⟨by decide, by decide⟩ rfl ?_
                        refine q_istore (pc := 117) dM_shift_117 (by decide) ?_
                        refine q_iload (pc := 119) dM_shift_119 rfl ?_
                        refine q_if_ge (tgt := 127) (pc := 121) dM_shift_121 (by decide) (fun h121 => ?_) (fun h121 => ?_)
                        · have h121' : (mtch J n (mkN J) d (b / 4) ((a / 4 : Nat) : Int)).1 = 0 := by rcases mtch_le (I := J) (n := n) (k := mkN J) (d := d) (p := b / 4) (o := ((a / 4 : Nat) : Int)) with z | z <;> omega
                          have e8 : bSh2 J n d t a b m = bSh3 (mtch J n (mkN J) d (b / 4) ((a / 4 : Nat) : Int)).2 n t a b m := by unfold bSh2; rw [if_pos h121']
                          rw [e8]
                          have p1 : ∀ q, q ≠ 56 → q ≠ 44 → (mtch J n (mkN J) d (b / 4) ((a / 4 : Nat) : Int)).2 q = J q := fun q => mtch_off
                          have p2 : ∀ j, j ≠ 16 → (mtch J n (mkN J) d (b / 4) ((a / 4 : Nat) : Int)).2 44 j = J 44 j := fun j => mtch_44
                          generalize (mtch J n (mkN J) d (b / 4) ((a / 4 : Nat) : Int)).2 = K at p1 p2 ⊢
                          have hnK : K 44 0 = (n : Int) := by rw [p2 0 (by decide)]; exact hnJ
                          have hvK : ∀ l, 1 ≤ l → l ≤ n → 0 ≤ K 47 l ∧ K 47 l ≤ 9999 := by rw [p1 47 (by decide) (by decide), o1 47 (by decide) (by decide)]; exact hv
                          have b1 := mval_bd (k := (a : Int)) hvK
                          have b2 := mval_bd (k := (b : Int)) hvK
                          refine q_aload_n (pc := 127) dM_shift_127 rfl ?_
                          refine q_iload_n (pc := 128) dM_shift_128 rfl ?_
                          refine q_aload_n (pc := 129) dM_shift_129 rfl ?_
                          refine q_getI (f := 0) (pc := 130) dM_shift_130 lay_6 (by decide) rfl (by decide) fl_M54 rfl rfl ?_
                          rw [hnK]
                          refine q_callV1 (pc := 133) dM_shift_133 ((ct_M_valueUpTo a K hnK (by omega) (Nat.le_refl _))) cd_M_valueUpTo in_M_valueUpTo se_M_valueUpTo ml_M68 rfl (by decide) rfl rfl (Nat.le_of_ble_eq_true rfl) ⟨by decide, by decide⟩ ⟨by decide, by decide⟩ rfl ?_
                          refine q_istore (pc := 136) dM_shift_136 (by decide) ?_
                          refine q_aload_n (pc := 138) dM_shift_138 rfl ?_
                          refine q_iload_n (pc := 139) dM_shift_139 rfl ?_
                          refine q_aload_n (pc := 140) dM_shift_140 rfl ?_
                          refine q_getI (f := 0) (pc := 141) dM_shift_141 lay_6 (by decide) rfl (by decide) fl_M54 rfl rfl ?_
                          rw [hnK]
                          refine q_callV1 (pc := 144) dM_shift_144 ((ct_M_valueUpTo b K hnK (by omega) (Nat.le_refl _))) cd_M_valueUpTo in_M_valueUpTo se_M_valueUpTo ml_M68 rfl (by decide) rfl rfl (Nat.le_of_ble_eq_true rfl) ⟨by decide, by decide⟩ ⟨by decide, by decide⟩ rfl ?_
                          refine q_istore (pc := 147) dM_shift_147 (by decide) ?_
                          refine q_iload (pc := 149) dM_shift_149 rfl ?_
                          refine q_iload (pc := 151) dM_shift_151 rfl ?_
                          refine q_icmp_lt (tgt := 167) (pc := 153) dM_shift_153 (by decide) (fun h153 => ?_) (fun h153 => ?_)
                          · refine q_bipush (pc := 167) dM_shift_167 (by decide) (by decide) ?_
                            refine q_iret rfl (pc := 169) dM_shift_169 ?_
                            exact rP_of (by unfold bSh3; rw [if_pos (Or.inl h153)])
                          · refine q_iload (pc := 156) dM_shift_156 rfl ?_
                            refine q_sipush (pc := 158) dM_shift_158 (by decide) (by decide) ?_
                            refine q_iload (pc := 161) dM_shift_161 rfl ?_
                            refine q_isub (pc := 163) dM_shift_163 rfl ⟨by omega, by omega⟩ ?_
                            refine q_icmp_le (tgt := 170) (pc := 164) dM_shift_164 (by decide) (fun h164 => ?_) (fun h164 => ?_)
                            · have e6 : q_up (q_up K 55 a t) 55 b t 44 0 = (n : Int) := by rw [q_up_off 44 (by decide), q_up_off 44 (by decide)]; exact hnK
                              have hn150 : n < 150 := by omega
                              refine q_aload_n (pc := 170) dM_shift_170 rfl ?_
                              refine q_getR (f := 14) (pc := 171) dM_shift_171 lay_6 (by decide) rfl (by decide) fl_M41 rfl rfl ?_
                              refine q_iload_n (pc := 174) dM_shift_174 rfl ?_
                              refine q_iload_n (pc := 175) dM_shift_175 rfl ?_
                              refine q_iast (i := a) (pc := 176) dM_shift_176 rfl rfl (by omega) rfl ?_
                              refine q_aload_n (pc := 177) dM_shift_177 rfl ?_
                              refine q_getR (f := 14) (pc := 178) dM_shift_178 lay_6 (by decide) rfl (by decide) fl_M41 rfl rfl ?_
                              refine q_iload_n (pc := 181) dM_shift_181 rfl ?_
                              refine q_iload_n (pc := 182) dM_shift_182 rfl ?_
                              refine q_iast (i := b) (pc := 183) dM_shift_183 rfl rfl (by omega) rfl ?_
                              refine q_aload_n (pc := 184) dM_shift_184 rfl ?_
                              refine q_iload_n (pc := 185) dM_shift_185 rfl ?_
                              refine q_iload_n (pc := 186) dM_shift_186 rfl ?_
                              refine q_iload (pc := 187) dM_shift_187 rfl ?_
                              refine q_iload (pc := 189) dM_shift_189 rfl ?_
                              refine q_isub (pc := 191) dM_shift_191 rfl ⟨by omega, by omega⟩ ?_
                              refine q_iconst (pc := 192) dM_shift_192 (by decide) ?_
                              refine q_iconst (pc := 193) dM_shift_193 (by decide) ?_
                              refine q_callV1 (pc := 194) dM_shift_194 ((ct_M_add t a _ 0 0 _ e6 (by omega) (Or.inl rfl))) cd_M_add in_M_add se_M_add ml_M61 rfl (by decide) rfl rfl (Nat.le_of_ble_eq_true rfl) ⟨by decide, by decide⟩ ⟨by decide, by decide⟩ rfl ?_
                              refine q_pop (pc := 197) dM_shift_197 ?_
                              refine q_aload_n (pc := 198) dM_shift_198 rfl ?_
                              refine q_iload_n (pc := 199) dM_shift_199 rfl ?_
                              refine q_iload_n (pc := 200) dM_shift_200 rfl ?_
                              refine q_iload (pc := 201) dM_shift_201 rfl ?_
                              refine q_iload (pc := 203) dM_shift_203 rfl ?_
                              refine q_iadd (pc := 205) dM_shift_205 rfl ⟨by omega, by omega⟩ ?_
                              refine q_iconst (pc := 206) dM_shift_206 (by decide) ?_
                              refine q_iconst (pc := 207) dM_shift_207 (by decide) ?_
                              refine q_callV1 (pc := 208) dM_shift_208 ((ct_M_add t b _ 0 1 _ mad_n (by omega) (Or.inr rfl))) cd_M_add in_M_add se_M_add ml_M61 rfl (by decide) rfl rfl (Nat.le_of_ble_eq_true rfl) ⟨by decide, by decide⟩ ⟨by decide, by decide⟩ rfl ?_
                              refine q_iret rfl (pc := 211) dM_shift_211 ?_
                              exact rP_of (by unfold bSh3; rw [if_neg (by omega)])
                            · refine q_bipush (pc := 167) dM_shift_167 (by decide) (by decide) ?_
                              refine q_iret rfl (pc := 169) dM_shift_169 ?_
                              exact rP_of (by unfold bSh3; rw [if_pos (Or.inr (by omega))])
                        · refine q_iload (pc := 124) dM_shift_124 rfl ?_
                          refine q_iret rfl (pc := 126) dM_shift_126 ?_
                          exact rP_of (by unfold bSh2; rw [if_neg (by omega)])
                    · refine q_bipush (pc := 87) dM_shift_87 (by decide) (by decide) ?_
                      refine q_iret rfl (pc := 89) dM_shift_89 ?_
                      have e2 : mrc I t a b = -5 := by unfold mrc; rw [if_pos e1, if_neg h84]
                      exact rP_of (by unfold bShift; rw [e2, if_neg (by decide)])
                  · refine q_bipush (pc := 74) dM_shift_74 (by decide) (by decide) ?_
                    refine q_iret rfl (pc := 76) dM_shift_76 ?_
                    exact bad (fun z => nb (bi_ne h71) z.2)
              · refine q_bipush (pc := 53) dM_shift_53 (by decide) (by decide) ?_
                refine q_iret rfl (pc := 55) dM_shift_55 ?_
                have e0 : mrt I t = -3 := by unfold mrt; rw [if_neg (not_not_intro h39), if_neg (by rw [bi_eq h50]; decide)]
                have e1 : mrk I t a b = -3 := by unfold mrk; rw [e0, if_neg (by decide)]
                have e2 : mrc I t a b = -3 := by unfold mrc; rw [e1, if_neg (by decide)]
                exact rP_of (by unfold bShift; rw [e2, if_neg (by decide)])
            · refine q_bipush (pc := 42) dM_shift_42 (by decide) (by decide) ?_
              refine q_iret rfl (pc := 44) dM_shift_44 ?_
              have e0 : mrt I t = -2 := by unfold mrt; rw [if_pos h39]
              have e1 : mrk I t a b = -2 := by unfold mrk; rw [e0, if_neg (by decide)]
              have e2 : mrc I t a b = -2 := by unfold mrc; rw [e1, if_neg (by decide)]
              exact rP_of (by unfold bShift; rw [e2, if_neg (by decide)])
          · omega
