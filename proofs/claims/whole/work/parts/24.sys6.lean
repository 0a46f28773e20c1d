/-! Recovery. -/
theorem gdr_off {g m a : Nat} (ha : a < 15 ∨ 40 < a) : ∀ {f c : Nat} {I : qI}, 6 * g + c + f ≤ 12 → gdr g m f c I a = I a
  | 0, c, I, h => rfl
  | f + 1, c, I, h => by
    show gdr g m f (c + 1) (qdrop I (6 * g + c) m 188) a = I a
    rw [gdr_off ha (by omega)]
    have := cp_bd (c := 6 * g + c) (by omega)
    funext j
    unfold qdrop
    rw [if_neg (by omega)]
theorem gtl_off {g n a : Nat} (ha : a < 15 ∨ 40 < a) : ∀ {f c : Nat} {I : qI}, 6 * g + c + f ≤ 12 → gtl g n f c I a = I a
  | 0, c, I, h => rfl
  | f + 1, c, I, h => by
    show gtl g n f (c + 1) (if I (cp (6 * g + c)) 2 = 0 then q_up I (cp (6 * g + c)) 4 (crc I (6 * g + c) n : Nat) else I) a = I a
    rw [gtl_off ha (by omega)]
    split
    · exact qup_cp (by omega) ha
    · rfl
theorem gfg_off {g a : Nat} (ha : a < 15 ∨ 40 < a) : ∀ {f c : Nat} {I : qI}, 6 * g + c + f ≤ 12 → gfg g f c I a = I a
  | 0, c, I, h => rfl
  | f + 1, c, I, h => by
    show gfg g f (c + 1) (q_up I (cp (6 * g + c)) 4 0) a = I a
    rw [gfg_off ha (by omega)]
    exact qup_cp (by omega) ha
theorem lcut_off {I : qI} {m a : Nat} (h2 : a ≠ 2) (h8 : a ≠ 8) : lcut I m a = I a := by
  unfold lcut
  rw [lct_off h8, q_up_off a h2]
theorem lcut_n {I : qI} {m : Nat} : lcut I m 2 6 = (m : Int) := by
  unfold lcut
  rw [lct_off (by decide)]
  simp [q_up]
theorem qrs_off {I : qI} {n a : Nat} (h : a ≠ 1) : qrs I n a = I a := q_up_off a h
theorem tfa_off {a : Nat} (h1 : a ≠ 9) (h2 : a ≠ 10) (h3 : a ≠ 11) : ∀ {f t : Nat} {I : qI}, tfa f t I a = I a
  | 0, t, I => rfl
  | f + 1, t, I => by
    show tfa f (t + 1) (if I 10 t = 0 then I else tfin I t) a = I a
    rw [tfa_off h1 h2 h3]
    split
    · rfl
    · exact tfin_off h1 h2 h3
theorem tfa_T : ∀ {f t : Nat} {I : qI}, tfa f t I 9 2 = I 9 2
  | 0, t, I => rfl
  | f + 1, t, I => by
    show tfa f (t + 1) (if I 10 t = 0 then I else tfin I t) 9 2 = I 9 2
    rw [tfa_T]
    split
    · rfl
    · exact tfin_T
def glv (I : qI) (g : Nat) : Nat := qz (fun c => clv I (6 * g + c)) 6
/-- up to where the log stands -/
def rcm (I : qI) (n : Nat) : Nat := ql (lcl I) (qp (qlr I) n 0)
def rc3 (I : qI) (m : Nat) : qI := q_up (lcut (gdr 1 m 6 0 (gdr 0 m 6 0 I)) m) 1 5 1
def rc5 (I : qI) (m : Nat) : qI := qrs (gtl 1 m 6 0 (gtl 0 m 6 0 (rc3 I m))) m
def rc7 (I : qI) (m T : Nat) : qI := lru T 1 (tfa T 1 (rc5 I m))
theorem rc3_n {I : qI} {m : Nat} : rc3 I m 2 6 = (m : Int) := by
  unfold rc3
  rw [q_up_off 2 (by decide), lcut_n]
theorem rc5_n {I : qI} {m : Nat} : rc5 I m 2 6 = (m : Int) := by
  unfold rc5
  rw [qrs_off (by decide), gtl_off (Or.inl (by decide)) (by decide), gtl_off (Or.inl (by decide)) (by decide), rc3_n]
theorem rc5_9 {I : qI} {m : Nat} : rc5 I m 9 = I 9 := by
  unfold rc5 rc3
  rw [qrs_off (by decide), gtl_off (Or.inl (by decide)) (by decide), gtl_off (Or.inl (by decide)) (by decide), q_up_off 9 (by decide), lcut_off (by decide) (by decide), gdr_off (Or.inl (by decide)) (by decide), gdr_off (Or.inl (by decide)) (by decide)]
theorem ct_Q_recover0 {L : Nat} (I : qI) (h : ¬ I 1 5 = 0) : qT M_Q_recover 4 [.inr (some 1)] L I (rI (-1) L I) := by
  refine q_enter (by decide) (Nat.le_of_ble_eq_true rfl) ?_
  refine q_aload_n (pc := 0) dQ_recover_0 rfl ?_
  refine q_getI (f := 5) (pc := 1) dQ_recover_1 lay_0 (by decide) rfl (by decide) fl_Q43 rfl rfl ?_
  refine q_if_eq (tgt := 9) (pc := 4) dQ_recover_4 (by decide) (fun h4 => ?_) (fun h4 => ?_)
  · exact absurd h4 h
  · refine q_iconst (pc := 7) dQ_recover_7 (by decide) ?_
    refine q_iret rfl (pc := 8) dQ_recover_8 ?_
    exact ⟨rfl, rfl, rfl⟩
theorem ct_Q_recover1 {L : Nat} (I : qI) (h : I 1 5 = 0) (hl : glv I 0 < 3 ∨ glv I 1 < 3) : qT M_Q_recover 4 [.inr (some 1)] L I (rI (-7) L I) := by
  refine q_enter (by decide) (Nat.le_of_ble_eq_true rfl) ?_
  unfold glv at hl
  refine q_aload_n (pc := 0) dQ_recover_0 rfl ?_
  refine q_getI (f := 5) (pc := 1) dQ_recover_1 lay_0 (by decide) rfl (by decide) fl_Q43 rfl rfl ?_
  refine q_if_eq (tgt := 9) (pc := 4) dQ_recover_4 (by decide) (fun h4 => ?_) (fun h4 => ?_)
  · refine q_iconst (pc := 9) dQ_recover_9 (by decide) ?_
    refine q_istore_n (pc := 10) dQ_recover_10 (by decide) ?_
    refine q_iload_n (pc := 11) dQ_recover_11 rfl ?_
    refine q_iconst (pc := 12) dQ_recover_12 (by decide) ?_
    refine q_icmp_ge (tgt := 38) (pc := 13) dQ_recover_13 (by decide) (fun h13 => ?_) (fun h13 => ?_)
    · omega
    · refine q_aload_n (pc := 16) dQ_recover_16 rfl ?_
      refine q_getR (f := 2) (pc := 17) dQ_recover_17 lay_0 (by decide) rfl (by decide) fl_Q25 rfl rfl ?_
      refine q_iload_n (pc := 20) dQ_recover_20 rfl ?_
      refine q_aald (i := 0) (pc := 21) dQ_recover_21 ⟨by decide, by decide, rfl⟩ (s_gs L) rfl (by omega) (v_gs 0 (by omega)) ?_
      refine q_callV1 (pc := 22) dQ_recover_22 ((ct_G_liveCopies (g := 0) (by omega) I)) cd_G_liveCopies in_G_liveCopies se_G_liveCopies ml_Q172 (s_gp L 0 (by omega)) (by decide) rfl rfl (Nat.le_of_ble_eq_true rfl) ⟨by decide, by decide⟩ ⟨by decide, by decide⟩ rfl ?_
      refine q_iconst (pc := 25) dQ_recover_25 (by decide) ?_
      refine q_icmp_ge (tgt := 32) (pc := 26) dQ_recover_26 (by decide) (fun h26 => ?_) (fun h26 => ?_)
      · refine q_iinc (pc := 32) dQ_recover_32 rfl (by decide) rfl ⟨by omega, by omega⟩ ?_
        refine q_goto (tgt := 11) (pc := 35) dQ_recover_35 (by decide) ?_
        refine q_iload_n (pc := 11) dQ_recover_11 rfl ?_
        refine q_iconst (pc := 12) dQ_recover_12 (by decide) ?_
        refine q_icmp_ge (tgt := 38) (pc := 13) dQ_recover_13 (by decide) (fun h13 => ?_) (fun h13 => ?_)
        · omega
        · refine q_aload_n (pc := 16) dQ_recover_16 rfl ?_
          refine q_getR (f := 2) (pc := 17) dQ_recover_17 lay_0 (by decide) rfl (by decide) fl_Q25 rfl rfl ?_
          refine q_iload_n (pc := 20) dQ_recover_20 rfl ?_
          refine q_aald (i := 1) (pc := 21) dQ_recover_21 ⟨by decide, by decide, rfl⟩ (s_gs L) rfl (by omega) (v_gs 1 (by omega)) ?_
          refine q_callV1 (pc := 22) dQ_recover_22 ((ct_G_liveCopies (g := 1) (by omega) I)) cd_G_liveCopies in_G_liveCopies se_G_liveCopies ml_Q172 (s_gp L 1 (by omega)) (by decide) rfl rfl (Nat.le_of_ble_eq_true rfl) ⟨by decide, by decide⟩ ⟨by decide, by decide⟩ rfl ?_
          refine q_iconst (pc := 25) dQ_recover_25 (by decide) ?_
          refine q_icmp_ge (tgt := 32) (pc := 26) dQ_recover_26 (by decide) (fun h26 => ?_) (fun h26 => ?_)
          · omega
          · refine q_bipush (pc := 29) dQ_recover_29 (by decide) (by decide) ?_
            refine q_iret rfl (pc := 31) dQ_recover_31 ?_
            exact ⟨rfl, rfl, rfl⟩
      · refine q_bipush (pc := 29) dQ_recover_29 (by decide) (by decide) ?_
        refine q_iret rfl (pc := 31) dQ_recover_31 ?_
        exact ⟨rfl, rfl, rfl⟩
  · exact absurd h h4
theorem ct_Q_recover {L n T k d : Nat} (I : qI) (hw : cw I n T k d) (h : I 1 5 = 0) (hl : 3 ≤ glv I 0 ∧ 3 ≤ glv I 1) (hB : (rc7 I (rcm I n) T) 2 6 ≤ 187) : qT M_Q_recover 4 [.inr (some 1)] L I (rI (rcm I n : Nat) L (rc7 I (rcm I n) T)) := by
  obtain ⟨⟨hn, hn2⟩, ⟨hT, hT2⟩, -, -, hg, -, hA, -⟩ := hw
  have hq := qp_le (qlr I) n 0
  have hm : rcm I n ≤ n := Nat.le_trans (ql_le _ _) (by omega)
  refine q_enter (by decide) (Nat.le_of_ble_eq_true rfl) ?_
  unfold glv at hl
  refine q_aload_n (pc := 0) dQ_recover_0 rfl ?_
  refine q_getI (f := 5) (pc := 1) dQ_recover_1 lay_0 (by decide) rfl (by decide) fl_Q43 rfl rfl ?_
  refine q_if_eq (tgt := 9) (pc := 4) dQ_recover_4 (by decide) (fun h4 => ?_) (fun h4 => ?_)
  · refine q_iconst (pc := 9) dQ_recover_9 (by decide) ?_
    refine q_istore_n (pc := 10) dQ_recover_10 (by decide) ?_
    refine q_iload_n (pc := 11) dQ_recover_11 rfl ?_
    refine q_iconst (pc := 12) dQ_recover_12 (by decide) ?_
    refine q_icmp_ge (tgt := 38) (pc := 13) dQ_recover_13 (by decide) (fun h13 => ?_) (fun h13 => ?_)
    · omega
    · refine q_aload_n (pc := 16) dQ_recover_16 rfl ?_
      refine q_getR (f := 2) (pc := 17) dQ_recover_17 lay_0 (by decide) rfl (by decide) fl_Q25 rfl rfl ?_
      refine q_iload_n (pc := 20) dQ_recover_20 rfl ?_
      refine q_aald (i := 0) (pc := 21) dQ_recover_21 ⟨by decide, by decide, rfl⟩ (s_gs L) rfl (by omega) (v_gs 0 (by omega)) ?_
      refine q_callV1 (pc := 22) dQ_recover_22 ((ct_G_liveCopies (g := 0) (by omega) I)) cd_G_liveCopies in_G_liveCopies se_G_liveCopies ml_Q172 (s_gp L 0 (by omega)) (by decide) rfl rfl (Nat.le_of_ble_eq_true rfl) ⟨by decide, by decide⟩ ⟨by decide, by decide⟩ rfl ?_
      refine q_iconst (pc := 25) dQ_recover_25 (by decide) ?_
      refine q_icmp_ge (tgt := 32) (pc := 26) dQ_recover_26 (by decide) (fun h26 => ?_) (fun h26 => ?_)
      · refine q_iinc (pc := 32) dQ_recover_32 rfl (by decide) rfl ⟨by omega, by omega⟩ ?_
        refine q_goto (tgt := 11) (pc := 35) dQ_recover_35 (by decide) ?_
        refine q_iload_n (pc := 11) dQ_recover_11 rfl ?_
        refine q_iconst (pc := 12) dQ_recover_12 (by decide) ?_
        refine q_icmp_ge (tgt := 38) (pc := 13) dQ_recover_13 (by decide) (fun h13 => ?_) (fun h13 => ?_)
        · omega
        · refine q_aload_n (pc := 16) dQ_recover_16 rfl ?_
          refine q_getR (f := 2) (pc := 17) dQ_recover_17 lay_0 (by decide) rfl (by decide) fl_Q25 rfl rfl ?_
          refine q_iload_n (pc := 20) dQ_recover_20 rfl ?_
          refine q_aald (i := 1) (pc := 21) dQ_recover_21 ⟨by decide, by decide, rfl⟩ (s_gs L) rfl (by omega) (v_gs 1 (by omega)) ?_
          refine q_callV1 (pc := 22) dQ_recover_22 ((ct_G_liveCopies (g := 1) (by omega) I)) cd_G_liveCopies in_G_liveCopies se_G_liveCopies ml_Q172 (s_gp L 1 (by omega)) (by decide) rfl rfl (Nat.le_of_ble_eq_true rfl) ⟨by decide, by decide⟩ ⟨by decide, by decide⟩ rfl ?_
          refine q_iconst (pc := 25) dQ_recover_25 (by decide) ?_
          refine q_icmp_ge (tgt := 32) (pc := 26) dQ_recover_26 (by decide) (fun h26 => ?_) (fun h26 => ?_)
          · refine q_iinc (pc := 32) dQ_recover_32 rfl (by decide) rfl ⟨by omega, by omega⟩ ?_
            refine q_goto (tgt := 11) (pc := 35) dQ_recover_35 (by decide) ?_
            refine q_iload_n (pc := 11) dQ_recover_11 rfl ?_
            refine q_iconst (pc := 12) dQ_recover_12 (by decide) ?_
            refine q_icmp_ge (tgt := 38) (pc := 13) dQ_recover_13 (by decide) (fun h13 => ?_) (fun h13 => ?_)
            · refine q_aload_n (pc := 38) dQ_recover_38 rfl ?_
              refine q_getR (f := 0) (pc := 39) dQ_recover_39 lay_0 (by decide) rfl (by decide) fl_Q10 rfl rfl ?_
              refine q_aload_n (pc := 42) dQ_recover_42 rfl ?_
              refine q_callV1 (pc := 43) dQ_recover_43 ((ct_Q_reachOfLiveCopies I hn hn2 hg)) cd_Q_reachOfLiveCopies in_Q_reachOfLiveCopies se_Q_reachOfLiveCopies ml_Q175 rfl (by decide) rfl rfl (Nat.le_of_ble_eq_true rfl) ⟨by decide, by decide⟩ ⟨by decide, by decide⟩ rfl ?_
              refine q_callV1 (pc := 46) dQ_recover_46 ((ct_L_lastCloseUpTo I (by omega))) cd_L_lastCloseUpTo in_L_lastCloseUpTo se_L_lastCloseUpTo ml_Q178 rfl (by decide) rfl rfl (Nat.le_of_ble_eq_true rfl) ⟨by decide, by decide⟩ ⟨by decide, by decide⟩ rfl ?_
              rw [show ql (lcl I) (qp (qlr I) n 0) = rcm I n from rfl]
              generalize rcm I n = m at hB hm ⊢
              refine q_istore_n (pc := 49) dQ_recover_49 (by decide) ?_
              refine q_iconst (pc := 50) dQ_recover_50 (by decide) ?_
              refine q_istore_n (pc := 51) dQ_recover_51 (by decide) ?_
              refine q_iload_n (pc := 52) dQ_recover_52 rfl ?_
              refine q_iconst (pc := 53) dQ_recover_53 (by decide) ?_
              refine q_icmp_ge (tgt := 73) (pc := 54) dQ_recover_54 (by decide) (fun h54 => ?_) (fun h54 => ?_)
              · omega
              · refine q_aload_n (pc := 57) dQ_recover_57 rfl ?_
                refine q_getR (f := 2) (pc := 58) dQ_recover_58 lay_0 (by decide) rfl (by decide) fl_Q25 rfl rfl ?_
                refine q_iload_n (pc := 61) dQ_recover_61 rfl ?_
                refine q_aald (i := 0) (pc := 62) dQ_recover_62 ⟨by decide, by decide, rfl⟩ (s_gs L) rfl (by omega) (v_gs 0 (by omega)) ?_
                refine q_iload_n (pc := 63) dQ_recover_63 rfl ?_
                refine q_callV0 (pc := 64) dQ_recover_64 ((ct_G_dropAfter (g := 0) (by omega) (by omega) I)) cd_G_dropAfter in_G_dropAfter se_G_dropAfter ml_Q181 (s_gp L 0 (by omega)) (by decide) rfl rfl (Nat.le_of_ble_eq_true rfl) ⟨by decide, by decide⟩ ⟨by decide, by decide⟩ rfl ?_
                refine q_iinc (pc := 67) dQ_recover_67 rfl (by decide) rfl ⟨by omega, by omega⟩ ?_
                refine q_goto (tgt := 52) (pc := 70) dQ_recover_70 (by decide) ?_
                refine q_iload_n (pc := 52) dQ_recover_52 rfl ?_
                refine q_iconst (pc := 53) dQ_recover_53 (by decide) ?_
                refine q_icmp_ge (tgt := 73) (pc := 54) dQ_recover_54 (by decide) (fun h54 => ?_) (fun h54 => ?_)
                · omega
                · refine q_aload_n (pc := 57) dQ_recover_57 rfl ?_
                  refine q_getR (f := 2) (pc := 58) dQ_recover_58 lay_0 (by decide) rfl (by decide) fl_Q25 rfl rfl ?_
                  refine q_iload_n (pc := 61) dQ_recover_61 rfl ?_
                  refine q_aald (i := 1) (pc := 62) dQ_recover_62 ⟨by decide, by decide, rfl⟩ (s_gs L) rfl (by omega) (v_gs 1 (by omega)) ?_
                  refine q_iload_n (pc := 63) dQ_recover_63 rfl ?_
                  refine q_callV0 (pc := 64) dQ_recover_64 ((ct_G_dropAfter (g := 1) (m := m) (by omega) (by omega) _)) cd_G_dropAfter in_G_dropAfter se_G_dropAfter ml_Q181 (s_gp L 1 (by omega)) (by decide) rfl rfl (Nat.le_of_ble_eq_true rfl) ⟨by decide, by decide⟩ ⟨by decide, by decide⟩ rfl ?_
                  refine q_iinc (pc := 67) dQ_recover_67 rfl (by decide) rfl ⟨by omega, by omega⟩ ?_
                  refine q_goto (tgt := 52) (pc := 70) dQ_recover_70 (by decide) ?_
                  refine q_iload_n (pc := 52) dQ_recover_52 rfl ?_
                  refine q_iconst (pc := 53) dQ_recover_53 (by decide) ?_
                  refine q_icmp_ge (tgt := 73) (pc := 54) dQ_recover_54 (by decide) (fun h54 => ?_) (fun h54 => ?_)
                  · have e1 : gdr 1 m 6 0 (gdr 0 m 6 0 I) 2 6 = (n : Int) := by rw [gdr_off (Or.inl (by decide)) (by decide), gdr_off (Or.inl (by decide)) (by decide)]; exact hn
                    refine q_aload_n (pc := 73) dQ_recover_73 rfl ?_
                    refine q_getR (f := 0) (pc := 74) dQ_recover_74 lay_0 (by decide) rfl (by decide) fl_Q10 rfl rfl ?_
                    refine q_iload_n (pc := 77) dQ_recover_77 rfl ?_
                    refine q_callV0 (pc := 78) dQ_recover_78 ((ct_L_cutAfter _ e1 hm)) cd_L_cutAfter in_L_cutAfter se_L_cutAfter ml_Q184 rfl (by decide) rfl rfl (Nat.le_of_ble_eq_true rfl) ⟨by decide, by decide⟩ ⟨by decide, by decide⟩ rfl ?_
                    refine q_aload_n (pc := 81) dQ_recover_81 rfl ?_
                    refine q_iconst (pc := 82) dQ_recover_82 (by decide) ?_
                    refine q_putI (f := 5) (pc := 83) dQ_recover_83 lay_0 typ_0 (by decide) rfl (by decide) fl_Q43 rfl (Or.inl rfl) (Or.inr ⟨rfl, by first | exact Or.inl rfl | exact Or.inr rfl⟩) rfl ?_
                    refine q_iconst (pc := 86) dQ_recover_86 (by decide) ?_
                    refine q_istore_n (pc := 87) dQ_recover_87 (by decide) ?_
                    rw [show q_up (lcut (gdr 1 m 6 0 (gdr 0 m 6 0 I)) m) 1 5 1 = rc3 I m from rfl]
                    have e2 : rc3 I m 2 6 = (m : Int) := rc3_n
                    have e3 : gtl 0 m 6 0 (rc3 I m) 2 6 = (m : Int) := by rw [gtl_off (Or.inl (by decide)) (by decide)]; exact e2
                    have e4 : gtl 1 m 6 0 (gtl 0 m 6 0 (rc3 I m)) 2 6 = (m : Int) := by rw [gtl_off (Or.inl (by decide)) (by decide)]; exact e3
                    refine q_iload_n (pc := 88) dQ_recover_88 rfl ?_
                    refine q_iconst (pc := 89) dQ_recover_89 (by decide) ?_
                    refine q_icmp_ge (tgt := 112) (pc := 90) dQ_recover_90 (by decide) (fun h90 => ?_) (fun h90 => ?_)
                    · omega
                    · refine q_aload_n (pc := 93) dQ_recover_93 rfl ?_
                      refine q_getR (f := 2) (pc := 94) dQ_recover_94 lay_0 (by decide) rfl (by decide) fl_Q25 rfl rfl ?_
                      refine q_iload_n (pc := 97) dQ_recover_97 rfl ?_
                      refine q_aald (i := 0) (pc := 98) dQ_recover_98 ⟨by decide, by decide, rfl⟩ (s_gs L) rfl (by omega) (v_gs 0 (by omega)) ?_
                      refine q_aload_n (pc := 99) dQ_recover_99 rfl ?_
                      refine q_getR (f := 0) (pc := 100) dQ_recover_100 lay_0 (by decide) rfl (by decide) fl_Q10 rfl rfl ?_
                      refine q_callV0 (pc := 103) dQ_recover_103 ((ct_G_tellReaches (g := 0) (by omega) _ e2 (by omega))) cd_G_tellReaches in_G_tellReaches se_G_tellReaches ml_Q187 (s_gp L 0 (by omega)) (by decide) rfl rfl (Nat.le_of_ble_eq_true rfl) ⟨by decide, by decide⟩ ⟨by decide, by decide⟩ rfl ?_
                      refine q_iinc (pc := 106) dQ_recover_106 rfl (by decide) rfl ⟨by omega, by omega⟩ ?_
                      refine q_goto (tgt := 88) (pc := 109) dQ_recover_109 (by decide) ?_
                      refine q_iload_n (pc := 88) dQ_recover_88 rfl ?_
                      refine q_iconst (pc := 89) dQ_recover_89 (by decide) ?_
                      refine q_icmp_ge (tgt := 112) (pc := 90) dQ_recover_90 (by decide) (fun h90 => ?_) (fun h90 => ?_)
                      · omega
                      · refine q_aload_n (pc := 93) dQ_recover_93 rfl ?_
                        refine q_getR (f := 2) (pc := 94) dQ_recover_94 lay_0 (by decide) rfl (by decide) fl_Q25 rfl rfl ?_
                        refine q_iload_n (pc := 97) dQ_recover_97 rfl ?_
                        refine q_aald (i := 1) (pc := 98) dQ_recover_98 ⟨by decide, by decide, rfl⟩ (s_gs L) rfl (by omega) (v_gs 1 (by omega)) ?_
                        refine q_aload_n (pc := 99) dQ_recover_99 rfl ?_
                        refine q_getR (f := 0) (pc := 100) dQ_recover_100 lay_0 (by decide) rfl (by decide) fl_Q10 rfl rfl ?_
                        refine q_callV0 (pc := 103) dQ_recover_103 ((ct_G_tellReaches (g := 1) (by omega) _ e3 (by omega))) cd_G_tellReaches in_G_tellReaches se_G_tellReaches ml_Q187 (s_gp L 1 (by omega)) (by decide) rfl rfl (Nat.le_of_ble_eq_true rfl) ⟨by decide, by decide⟩ ⟨by decide, by decide⟩ rfl ?_
                        refine q_iinc (pc := 106) dQ_recover_106 rfl (by decide) rfl ⟨by omega, by omega⟩ ?_
                        refine q_goto (tgt := 88) (pc := 109) dQ_recover_109 (by decide) ?_
                        refine q_iload_n (pc := 88) dQ_recover_88 rfl ?_
                        refine q_iconst (pc := 89) dQ_recover_89 (by decide) ?_
                        refine q_icmp_ge (tgt := 112) (pc := 90) dQ_recover_90 (by decide) (fun h90 => ?_) (fun h90 => ?_)
                        · have e5 : rc5 I m 9 2 = (T : Int) := by rw [rc5_9]; exact hT
                          have e6 : tfa T 1 (rc5 I m) 9 2 = (T : Int) := by rw [tfa_T]; exact e5
                          have e7 : tfa T 1 (rc5 I m) 2 6 = (m : Int) := by rw [tfa_off (by decide) (by decide) (by decide)]; exact rc5_n
                          refine q_aload_n (pc := 112) dQ_recover_112 rfl ?_
                          refine q_callV0 (pc := 113) dQ_recover_113 ((ct_Q_raiseDurable _ e4 (by omega))) cd_Q_raiseDurable in_Q_raiseDurable se_Q_raiseDurable ml_Q139 rfl (by decide) rfl rfl (Nat.le_of_ble_eq_true rfl) ⟨by decide, by decide⟩ ⟨by decide, by decide⟩ rfl ?_
                          refine q_aload_n (pc := 116) dQ_recover_116 rfl ?_
                          refine q_getR (f := 1) (pc := 117) dQ_recover_117 lay_0 (by decide) rfl (by decide) fl_Q19 rfl rfl ?_
                          refine q_callV0 (pc := 120) dQ_recover_120 ((ct_T_finishAll (rc5 I m) e5 hT2 (by rw [rc5_9]; omega))) cd_T_finishAll in_T_finishAll se_T_finishAll ml_Q190 rfl (by decide) rfl rfl (Nat.le_of_ble_eq_true rfl) ⟨by decide, by decide⟩ ⟨by decide, by decide⟩ rfl ?_
                          refine q_aload_n (pc := 123) dQ_recover_123 rfl ?_
                          refine q_callV0 (pc := 124) dQ_recover_124 ((ct_Q_rollBackUnended _ e7 e6 hT2 hB)) cd_Q_rollBackUnended in_Q_rollBackUnended se_Q_rollBackUnended ml_Q193 rfl (by decide) rfl rfl (Nat.le_of_ble_eq_true rfl) ⟨by decide, by decide⟩ ⟨by decide, by decide⟩ rfl ?_
                          refine q_iload_n (pc := 127) dQ_recover_127 rfl ?_
                          refine q_iret rfl (pc := 128) dQ_recover_128 ?_
                          exact ⟨rfl, rfl, rfl⟩
                        · omega
                  · omega
            · omega
          · omega
      · omega
  · exact absurd h h4
