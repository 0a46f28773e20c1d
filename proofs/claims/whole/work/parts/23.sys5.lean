/-! The system's own methods, fifth part. -/
theorem isC_mk {g c : Nat} (hg : g < 2) (hc : c < 6) : 0 ≤ (g : Int) ∧ (g : Int) < 2 ∧ 0 ≤ (c : Int) ∧ (c : Int) < 6 := by omega
theorem ct_Q_fault0 {L : Nat} {g c w : Int} (I : qI) (h0 : ¬ (isC g c ∧ 0 ≤ w ∧ w ≤ 3)) : qT M_Q_fault 3 [.inr (some 1), .inl g, .inl c, .inl w] L I (rI 0 L I) := by
  refine q_enter (by decide) (Nat.le_of_ble_eq_true rfl) ?_
  refine q_iload_n (pc := 0) dQ_fault_0 rfl ?_
  refine q_iload_n (pc := 1) dQ_fault_1 rfl ?_
  refine q_callS1 (pc := 2) dQ_fault_2 ((ct_Q_isCopy g c I)) cd_Q_isCopy st_Q_isCopy ml_Q142 rfl (Nat.le_of_ble_eq_true rfl) ⟨by decide, by decide⟩ ⟨by decide, by decide⟩ rfl ?_
  refine q_if_ne (tgt := 10) (pc := 5) dQ_fault_5 (by decide) (fun h5 => ?_) (fun h5 => ?_)
  · have h9 : isC g c := by have := of_decide_eq_true (bi_ne h5); exact this
    obtain ⟨a, b, ha, hb, rfl, rfl⟩ := isC_nat h9
    refine q_aload_n (pc := 10) dQ_fault_10 rfl ?_
    refine q_getR (f := 2) (pc := 11) dQ_fault_11 lay_0 (by decide) rfl (by decide) fl_Q25 rfl rfl ?_
    refine q_iload_n (pc := 14) dQ_fault_14 rfl ?_
    refine q_aald (i := a) (pc := 15) dQ_fault_15 ⟨by decide, by decide, rfl⟩ (s_gs L) rfl (by omega) (v_gs _ ha) ?_
    refine q_getR (f := 0) (pc := 16) dQ_fault_16 lay_3 (by decide) (s_gp L a ha) (by decide) fl_Q123 rfl rfl ?_
    refine q_iload_n (pc := 19) dQ_fault_19 rfl ?_
    refine q_aald (i := b) (pc := 20) dQ_fault_20 ⟨by decide, by decide, rfl⟩ (s_cps L a ha) rfl (by omega) (v_cps hb) ?_
    refine q_astore (pc := 21) dQ_fault_21 (by decide) ?_
    refine q_iload_n (pc := 23) dQ_fault_23 rfl ?_
    refine q_tableOut (tgt := 90) (pc := 24) dQ_fault_24 (by have : ¬ (0 ≤ w ∧ w ≤ 3) := fun z => h0 ⟨h9, z⟩
                                                             omega) (by decide) ?_
    refine q_iconst (pc := 90) dQ_fault_90 (by decide) ?_
    refine q_zret rfl (by first | exact Or.inl rfl | exact Or.inr rfl) (pc := 91) dQ_fault_91 ?_
    exact ⟨rfl, rfl, rfl⟩
  · refine q_iconst (pc := 8) dQ_fault_8 (by decide) ?_
    refine q_zret rfl (by first | exact Or.inl rfl | exact Or.inr rfl) (pc := 9) dQ_fault_9 ?_
    exact ⟨rfl, rfl, rfl⟩
theorem fault_head {L g c : Nat} {w : Int} (I : qI) (P : qP) (hg : g < 2) (hc : c < 6) (h : qE M_Q_fault 3 24 [some (.inr (some 1)), some (.inl ((g : Nat) : Int)), some (.inl ((c : Nat) : Int)), some (.inl w), some (.inr (some (cp (6 * g + c))))] [.inl w] L I P) : qT M_Q_fault 3 [.inr (some 1), .inl ((g : Nat) : Int), .inl ((c : Nat) : Int), .inl w] L I P := by
  refine q_enter (by decide) (Nat.le_of_ble_eq_true rfl) ?_
  refine q_iload_n (pc := 0) dQ_fault_0 rfl ?_
  refine q_iload_n (pc := 1) dQ_fault_1 rfl ?_
  refine q_callS1 (pc := 2) dQ_fault_2 ((ct_Q_isCopy g c I)) cd_Q_isCopy st_Q_isCopy ml_Q142 rfl (Nat.le_of_ble_eq_true rfl) ⟨by decide, by decide⟩ ⟨by decide, by decide⟩ rfl ?_
  refine q_if_ne (tgt := 10) (pc := 5) dQ_fault_5 (by decide) (fun h5 => ?_) (fun h5 => ?_)
  · refine q_aload_n (pc := 10) dQ_fault_10 rfl ?_
    refine q_getR (f := 2) (pc := 11) dQ_fault_11 lay_0 (by decide) rfl (by decide) fl_Q25 rfl rfl ?_
    refine q_iload_n (pc := 14) dQ_fault_14 rfl ?_
    refine q_aald (i := g) (pc := 15) dQ_fault_15 ⟨by decide, by decide, rfl⟩ (s_gs L) rfl (by omega) (v_gs _ hg) ?_
    refine q_getR (f := 0) (pc := 16) dQ_fault_16 lay_3 (by decide) (s_gp L g hg) (by decide) fl_Q123 rfl rfl ?_
    refine q_iload_n (pc := 19) dQ_fault_19 rfl ?_
    refine q_aald (i := c) (pc := 20) dQ_fault_20 ⟨by decide, by decide, rfl⟩ (s_cps L g hg) rfl (by omega) (v_cps hc) ?_
    refine q_astore (pc := 21) dQ_fault_21 (by decide) ?_
    refine q_iload_n (pc := 23) dQ_fault_23 rfl ?_
    exact h
  · have := of_decide_eq_false (bi_eq h5)
    omega
def aChange (I : qI) (x : Nat) (f t : Int) : Int × qI := (bi (decide (I (cp x) 2 = f)), if I (cp x) 2 = f then q_up I (cp x) 2 t else I)
theorem ct_Q_fault_0 {L g c : Nat} (I : qI) (hg : g < 2) (hc : c < 6) : qT M_Q_fault 3 [.inr (some 1), .inl ((g : Nat) : Int), .inl ((c : Nat) : Int), .inl 0] L I (rP (aChange I (6 * g + c) 0 1) L) := by
  have hx : 6 * g + c < 12 := by omega
  refine fault_head I _ hg hc ?_
  refine q_tableIn (tgt := 56) (pc := 24) dQ_fault_24 (by decide) (by decide) rfl (by decide) ?_
  refine q_aload (pc := 56) dQ_fault_56 rfl ?_
  refine q_iconst (pc := 58) dQ_fault_58 (by decide) ?_
  refine q_iconst (pc := 59) dQ_fault_59 (by decide) ?_
  refine q_callV1 (pc := 60) dQ_fault_60 ((ct_C_change hx 0 1 I)) cd_C_change in_C_change se_C_change ml_Q156 (s_cp L _ hx) (by decide) rfl rfl (Nat.le_of_ble_eq_true rfl) ⟨by decide, by decide⟩ ⟨by decide, by decide⟩ rfl ?_
  refine q_zret rfl (bi01 _) (pc := 63) dQ_fault_63 ?_
  exact ⟨rfl, rfl, rfl⟩
theorem ct_Q_fault_1 {L g c : Nat} (I : qI) (hg : g < 2) (hc : c < 6) : qT M_Q_fault 3 [.inr (some 1), .inl ((g : Nat) : Int), .inl ((c : Nat) : Int), .inl 1] L I (rP (aChange I (6 * g + c) 1 0) L) := by
  have hx : 6 * g + c < 12 := by omega
  refine fault_head I _ hg hc ?_
  refine q_tableIn (tgt := 64) (pc := 24) dQ_fault_24 (by decide) (by decide) rfl (by decide) ?_
  refine q_aload (pc := 64) dQ_fault_64 rfl ?_
  refine q_iconst (pc := 66) dQ_fault_66 (by decide) ?_
  refine q_iconst (pc := 67) dQ_fault_67 (by decide) ?_
  refine q_callV1 (pc := 68) dQ_fault_68 ((ct_C_change hx 1 0 I)) cd_C_change in_C_change se_C_change ml_Q156 (s_cp L _ hx) (by decide) rfl rfl (Nat.le_of_ble_eq_true rfl) ⟨by decide, by decide⟩ ⟨by decide, by decide⟩ rfl ?_
  refine q_zret rfl (bi01 _) (pc := 71) dQ_fault_71 ?_
  exact ⟨rfl, rfl, rfl⟩
def aLose (I : qI) (x : Nat) : Int × qI := (bi (decide (I (cp x) 2 ≠ 2)), if I (cp x) 2 = 2 then I else qlose I x)
theorem ct_Q_fault_2 {L g c : Nat} (I : qI) (hg : g < 2) (hc : c < 6) : qT M_Q_fault 3 [.inr (some 1), .inl ((g : Nat) : Int), .inl ((c : Nat) : Int), .inl 2] L I (rP (aLose I (6 * g + c)) L) := by
  have hx : 6 * g + c < 12 := by omega
  refine fault_head I _ hg hc ?_
  refine q_tableIn (tgt := 72) (pc := 24) dQ_fault_24 (by decide) (by decide) rfl (by decide) ?_
  refine q_aload (pc := 72) dQ_fault_72 rfl ?_
  refine q_callV1 (pc := 74) dQ_fault_74 ((ct_C_lose hx I)) cd_C_lose in_C_lose se_C_lose ml_Q159 (s_cp L _ hx) (by decide) rfl rfl (Nat.le_of_ble_eq_true rfl) ⟨by decide, by decide⟩ ⟨by decide, by decide⟩ rfl ?_
  refine q_zret rfl (bi01 _) (pc := 77) dQ_fault_77 ?_
  exact ⟨rfl, rfl, rfl⟩
def aRepair (I : qI) (g x : Nat) : Int × qI := (bi (gok I g x), if gok I g x = true then q_up (grp g x 6 0 I) (cp x) 2 0 else I)
theorem ct_Q_fault_3 {L g c : Nat} (I : qI) (hg : g < 2) (hc : c < 6) : qT M_Q_fault 3 [.inr (some 1), .inl ((g : Nat) : Int), .inl ((c : Nat) : Int), .inl 3] L I (rP (aRepair I g (6 * g + c)) L) := by
  have hx : 6 * g + c < 12 := by omega
  refine fault_head I _ hg hc ?_
  refine q_tableIn (tgt := 78) (pc := 24) dQ_fault_24 (by decide) (by decide) rfl (by decide) ?_
  refine q_aload_n (pc := 78) dQ_fault_78 rfl ?_
  refine q_getR (f := 2) (pc := 79) dQ_fault_79 lay_0 (by decide) rfl (by decide) fl_Q25 rfl rfl ?_
  refine q_iload_n (pc := 82) dQ_fault_82 rfl ?_
  refine q_aald (i := g) (pc := 83) dQ_fault_83 ⟨by decide, by decide, rfl⟩ (s_gs L) rfl (by omega) (v_gs _ hg) ?_
  refine q_aload (pc := 84) dQ_fault_84 rfl ?_
  refine q_callV1 (pc := 86) dQ_fault_86 ((ct_G_repair hg hx I)) cd_G_repair in_G_repair se_G_repair ml_Q162 (s_gp L _ hg) (by decide) rfl rfl (Nat.le_of_ble_eq_true rfl) ⟨by decide, by decide⟩ ⟨by decide, by decide⟩ rfl ?_
  refine q_zret rfl (bi01 _) (pc := 89) dQ_fault_89 ?_
  exact ⟨rfl, rfl, rfl⟩
def aCrash (I : qI) : Int × qI := if I 1 5 = 0 then (0, I) else (1, gfg 1 6 0 (gfg 0 6 0 (q_up (q_up I 1 5 0) 41 1 0)))
theorem ct_Q_crash {L : Nat} (I : qI) : qT M_Q_crash 1 [.inr (some 1)] L I (rP (aCrash I) L) := by
  refine q_enter (by decide) (Nat.le_of_ble_eq_true rfl) ?_
  refine q_aload_n (pc := 0) dQ_crash_0 rfl ?_
  refine q_getI (f := 5) (pc := 1) dQ_crash_1 lay_0 (by decide) rfl (by decide) fl_Q43 rfl rfl ?_
  refine q_if_ne (tgt := 9) (pc := 4) dQ_crash_4 (by decide) (fun h4 => ?_) (fun h4 => ?_)
  · refine q_aload_n (pc := 9) dQ_crash_9 rfl ?_
    refine q_iconst (pc := 10) dQ_crash_10 (by decide) ?_
    refine q_putI (f := 5) (pc := 11) dQ_crash_11 lay_0 typ_0 (by decide) rfl (by decide) fl_Q43 rfl (Or.inl rfl) (Or.inr ⟨rfl, by first | exact Or.inl rfl | exact Or.inr rfl⟩) rfl ?_
    refine q_aload_n (pc := 14) dQ_crash_14 rfl ?_
    refine q_getR (f := 3) (pc := 15) dQ_crash_15 lay_0 (by decide) rfl (by decide) fl_Q35 rfl rfl ?_
    refine q_callV0 (pc := 18) dQ_crash_18 ((ct_H_clear _)) cd_H_clear in_H_clear se_H_clear ml_Q166 rfl (by decide) rfl rfl (Nat.le_of_ble_eq_true rfl) ⟨by decide, by decide⟩ ⟨by decide, by decide⟩ rfl ?_
    refine q_iconst (pc := 21) dQ_crash_21 (by decide) ?_
    refine q_istore_n (pc := 22) dQ_crash_22 (by decide) ?_
    refine q_iload_n (pc := 23) dQ_crash_23 rfl ?_
    refine q_iconst (pc := 24) dQ_crash_24 (by decide) ?_
    refine q_icmp_ge (tgt := 43) (pc := 25) dQ_crash_25 (by decide) (fun h25 => ?_) (fun h25 => ?_)
    · omega
    · refine q_aload_n (pc := 28) dQ_crash_28 rfl ?_
      refine q_getR (f := 2) (pc := 29) dQ_crash_29 lay_0 (by decide) rfl (by decide) fl_Q25 rfl rfl ?_
      refine q_iload_n (pc := 32) dQ_crash_32 rfl ?_
      refine q_aald (i := 0) (pc := 33) dQ_crash_33 ⟨by decide, by decide, rfl⟩ (s_gs L) rfl (by omega) (v_gs 0 (by omega)) ?_
      refine q_callV0 (pc := 34) dQ_crash_34 ((ct_G_forgetReports (g := 0) (by omega) _)) cd_G_forgetReports in_G_forgetReports se_G_forgetReports ml_Q169 (s_gp L 0 (by omega)) (by decide) rfl rfl (Nat.le_of_ble_eq_true rfl) ⟨by decide, by decide⟩ ⟨by decide, by decide⟩ rfl ?_
      refine q_iinc (pc := 37) dQ_crash_37 rfl (by decide) rfl ⟨by omega, by omega⟩ ?_
      refine q_goto (tgt := 23) (pc := 40) dQ_crash_40 (by decide) ?_
      refine q_iload_n (pc := 23) dQ_crash_23 rfl ?_
      refine q_iconst (pc := 24) dQ_crash_24 (by decide) ?_
      refine q_icmp_ge (tgt := 43) (pc := 25) dQ_crash_25 (by decide) (fun h25 => ?_) (fun h25 => ?_)
      · omega
      · refine q_aload_n (pc := 28) dQ_crash_28 rfl ?_
        refine q_getR (f := 2) (pc := 29) dQ_crash_29 lay_0 (by decide) rfl (by decide) fl_Q25 rfl rfl ?_
        refine q_iload_n (pc := 32) dQ_crash_32 rfl ?_
        refine q_aald (i := 1) (pc := 33) dQ_crash_33 ⟨by decide, by decide, rfl⟩ (s_gs L) rfl (by omega) (v_gs 1 (by omega)) ?_
        refine q_callV0 (pc := 34) dQ_crash_34 ((ct_G_forgetReports (g := 1) (by omega) _)) cd_G_forgetReports in_G_forgetReports se_G_forgetReports ml_Q169 (s_gp L 1 (by omega)) (by decide) rfl rfl (Nat.le_of_ble_eq_true rfl) ⟨by decide, by decide⟩ ⟨by decide, by decide⟩ rfl ?_
        refine q_iinc (pc := 37) dQ_crash_37 rfl (by decide) rfl ⟨by omega, by omega⟩ ?_
        refine q_goto (tgt := 23) (pc := 40) dQ_crash_40 (by decide) ?_
        refine q_iload_n (pc := 23) dQ_crash_23 rfl ?_
        refine q_iconst (pc := 24) dQ_crash_24 (by decide) ?_
        refine q_icmp_ge (tgt := 43) (pc := 25) dQ_crash_25 (by decide) (fun h25 => ?_) (fun h25 => ?_)
        · refine q_iconst (pc := 43) dQ_crash_43 (by decide) ?_
          refine q_zret rfl (by first | exact Or.inl rfl | exact Or.inr rfl) (pc := 44) dQ_crash_44 ?_
          exact rP_of (by unfold aCrash; rw [if_neg h4])
        · omega
  · refine q_iconst (pc := 7) dQ_crash_7 (by decide) ?_
    refine q_zret rfl (by first | exact Or.inl rfl | exact Or.inr rfl) (pc := 8) dQ_crash_8 ?_
    exact rP_of (by unfold aCrash; rw [if_pos h4])
theorem ct_Q_point {L n T k d : Nat} (w : Int) (I : qI) (h : cw I n T k d) : qT M_Q_point 3 [.inr (some 1), .inl w] L I (rI (if w = 0 then (n : Int) else if w = 1 then (if I 1 5 = 0 then -2 else (qp (qcm I) n 0 : Nat)) else if w = 2 then (d : Int) else -1) L I) := by
  obtain ⟨⟨hn, hn2⟩, -, -, ⟨hd, -⟩, -⟩ := h
  refine q_enter (by decide) (Nat.le_of_ble_eq_true rfl) ?_
  refine q_iload_n (pc := 0) dQ_point_0 rfl ?_
  by_cases h0 : w = 0
  · subst h0
    refine q_tableIn (tgt := 28) (pc := 1) dQ_point_1 (by decide) (by decide) rfl (by decide) ?_
    refine q_aload_n (pc := 28) dQ_point_28 rfl ?_
    refine q_getR (f := 0) (pc := 29) dQ_point_29 lay_0 (by decide) rfl (by decide) fl_Q10 rfl rfl ?_
    refine q_getI (f := 6) (pc := 32) dQ_point_32 lay_1 (by decide) rfl (by decide) fl_Q55 rfl rfl ?_
    refine q_iret rfl (pc := 35) dQ_point_35 ?_
    exact ⟨by rw [if_pos rfl, hn], rfl, rfl⟩
  by_cases h1 : w = 1
  · subst h1
    refine q_tableIn (tgt := 36) (pc := 1) dQ_point_1 (by decide) (by decide) rfl (by decide) ?_
    refine q_aload_n (pc := 36) dQ_point_36 rfl ?_
    refine q_getI (f := 5) (pc := 37) dQ_point_37 lay_0 (by decide) rfl (by decide) fl_Q43 rfl rfl ?_
    refine q_if_eq (tgt := 50) (pc := 40) dQ_point_40 (by decide) (fun h40 => ?_) (fun h40 => ?_)
    · refine q_bipush (pc := 50) dQ_point_50 (by decide) (by decide) ?_
      refine q_iret rfl (pc := 52) dQ_point_52 ?_
      exact ⟨by rw [if_neg h0, if_pos rfl, if_pos h40], rfl, rfl⟩
    · refine q_aload_n (pc := 43) dQ_point_43 rfl ?_
      refine q_callV1 (pc := 44) dQ_point_44 ((ct_Q_completePoint I hn hn2)) cd_Q_completePoint in_Q_completePoint se_Q_completePoint ml_Q196 rfl (by decide) rfl rfl (Nat.le_of_ble_eq_true rfl) ⟨by decide, by decide⟩ ⟨by decide, by decide⟩ rfl ?_
      refine q_goto (tgt := 52) (pc := 47) dQ_point_47 (by decide) ?_
      refine q_iret rfl (pc := 52) dQ_point_52 ?_
      exact ⟨by rw [if_neg h0, if_pos rfl, if_neg h40], rfl, rfl⟩
  by_cases h2 : w = 2
  · subst h2
    refine q_tableIn (tgt := 53) (pc := 1) dQ_point_1 (by decide) (by decide) rfl (by decide) ?_
    refine q_aload_n (pc := 53) dQ_point_53 rfl ?_
    refine q_getI (f := 6) (pc := 54) dQ_point_54 lay_0 (by decide) rfl (by decide) fl_Q47 rfl rfl ?_
    refine q_iret rfl (pc := 57) dQ_point_57 ?_
    exact ⟨by rw [if_neg h0, if_neg h1, if_pos rfl, hd], rfl, rfl⟩
  · refine q_tableOut (tgt := 58) (pc := 1) dQ_point_1 (by omega) (by decide) ?_
    refine q_iconst (pc := 58) dQ_point_58 (by decide) ?_
    refine q_iret rfl (pc := 59) dQ_point_59 ?_
    exact ⟨by rw [if_neg h0, if_neg h1, if_neg h2], rfl, rfl⟩
theorem ct_Q_copy0 {L : Nat} {g c : Int} (w : Int) (I : qI) (h0 : ¬ isC g c) : qT M_Q_copy 1 [.inr (some 1), .inl g, .inl c, .inl w] L I (rI (-1) L I) := by
  refine q_enter (by decide) (Nat.le_of_ble_eq_true rfl) ?_
  refine q_iload_n (pc := 0) dQ_copy_0 rfl ?_
  refine q_iload_n (pc := 1) dQ_copy_1 rfl ?_
  refine q_callS1 (pc := 2) dQ_copy_2 ((ct_Q_isCopy g c I)) cd_Q_isCopy st_Q_isCopy ml_Q142 rfl (Nat.le_of_ble_eq_true rfl) ⟨by decide, by decide⟩ ⟨by decide, by decide⟩ rfl ?_
  refine q_if_ne (tgt := 10) (pc := 5) dQ_copy_5 (by decide) (fun h5 => ?_) (fun h5 => ?_)
  · exact absurd (by have := of_decide_eq_true (bi_ne h5); exact this) h0
  · refine q_iconst (pc := 8) dQ_copy_8 (by decide) ?_
    refine q_iret rfl (pc := 9) dQ_copy_9 ?_
    exact ⟨rfl, rfl, rfl⟩
theorem ct_Q_copy {L n T k d g c : Nat} (w : Int) (I : qI) (h : cw I n T k d) (hg : g < 2) (hc : c < 6) : qT M_Q_copy 1 [.inr (some 1), .inl ((g : Nat) : Int), .inl ((c : Nat) : Int), .inl w] L I (rI (if w = 0 then I (cp (6 * g + c)) 2 else if ¬ I (cp (6 * g + c)) 2 = 0 then -1 else if w = 1 then (crc I (6 * g + c) n : Nat) else if w = 2 then (qn (ckp I (6 * g + c)) n : Nat) else -1) L I) := by
  obtain ⟨⟨hn, hn2⟩, -, -, -, -, -, -, -, hf, -⟩ := h
  have hx : 6 * g + c < 12 := by omega
  obtain ⟨fo, hfo1, hfo2⟩ := hf _ hx
  refine q_enter (by decide) (Nat.le_of_ble_eq_true rfl) ?_
  refine q_iload_n (pc := 0) dQ_copy_0 rfl ?_
  refine q_iload_n (pc := 1) dQ_copy_1 rfl ?_
  refine q_callS1 (pc := 2) dQ_copy_2 ((ct_Q_isCopy g c I)) cd_Q_isCopy st_Q_isCopy ml_Q142 rfl (Nat.le_of_ble_eq_true rfl) ⟨by decide, by decide⟩ ⟨by decide, by decide⟩ rfl ?_
  refine q_if_ne (tgt := 10) (pc := 5) dQ_copy_5 (by decide) (fun h5 => ?_) (fun h5 => ?_)
  · refine q_aload_n (pc := 10) dQ_copy_10 rfl ?_
    refine q_getR (f := 2) (pc := 11) dQ_copy_11 lay_0 (by decide) rfl (by decide) fl_Q25 rfl rfl ?_
    refine q_iload_n (pc := 14) dQ_copy_14 rfl ?_
    refine q_aald (i := g) (pc := 15) dQ_copy_15 ⟨by decide, by decide, rfl⟩ (s_gs L) rfl (by omega) (v_gs _ hg) ?_
    refine q_getR (f := 0) (pc := 16) dQ_copy_16 lay_3 (by decide) (s_gp L g hg) (by decide) fl_Q123 rfl rfl ?_
    refine q_iload_n (pc := 19) dQ_copy_19 rfl ?_
    refine q_aald (i := c) (pc := 20) dQ_copy_20 ⟨by decide, by decide, rfl⟩ (s_cps L g hg) rfl (by omega) (v_cps hc) ?_
    refine q_astore (pc := 21) dQ_copy_21 (by decide) ?_
    refine q_iload_n (pc := 23) dQ_copy_23 rfl ?_
    refine q_if_ne (tgt := 33) (pc := 24) dQ_copy_24 (by decide) (fun h24 => ?_) (fun h24 => ?_)
    · refine q_aload (pc := 33) dQ_copy_33 rfl ?_
      refine q_callV1 (pc := 35) dQ_copy_35 ((ct_C_isLive hx I)) cd_C_isLive in_C_isLive se_C_isLive ml_Q127 (s_cp L _ hx) (by decide) rfl rfl (Nat.le_of_ble_eq_true rfl) ⟨by decide, by decide⟩ ⟨by decide, by decide⟩ rfl ?_
      refine q_if_ne (tgt := 43) (pc := 38) dQ_copy_38 (by decide) (fun h38 => ?_) (fun h38 => ?_)
      · have h9 := of_decide_eq_true (bi_ne h38)
        refine q_iload_n (pc := 43) dQ_copy_43 rfl ?_
        by_cases h1 : w = 1
        · subst h1
          refine q_lookup (tgt := 72) (pc := 44) dQ_copy_44 (by decide) rfl (by decide) ?_
          refine q_aload (pc := 72) dQ_copy_72 rfl ?_
          refine q_aload_n (pc := 74) dQ_copy_74 rfl ?_
          refine q_getR (f := 0) (pc := 75) dQ_copy_75 lay_0 (by decide) rfl (by decide) fl_Q10 rfl rfl ?_
          refine q_callV1 (pc := 78) dQ_copy_78 ((ct_C_reach hx I hn hn2)) cd_C_reach in_C_reach se_C_reach ml_Q202 (s_cp L _ hx) (by decide) rfl rfl (Nat.le_of_ble_eq_true rfl) ⟨by decide, by decide⟩ ⟨by decide, by decide⟩ rfl ?_
          refine q_iret rfl (pc := 81) dQ_copy_81 ?_
          exact ⟨by rw [if_neg h24, if_neg (not_not_intro h9), if_pos rfl], rfl, rfl⟩
        by_cases h2 : w = 2
        · subst h2
          refine q_lookup (tgt := 82) (pc := 44) dQ_copy_44 (by decide) rfl (by decide) ?_
          refine q_aload (pc := 82) dQ_copy_82 rfl ?_
          refine q_aload_n (pc := 84) dQ_copy_84 rfl ?_
          refine q_getR (f := 0) (pc := 85) dQ_copy_85 lay_0 (by decide) rfl (by decide) fl_Q10 rfl rfl ?_
          refine q_getI (f := 6) (pc := 88) dQ_copy_88 lay_1 (by decide) rfl (by decide) fl_Q55 rfl rfl ?_
          rw [hn]
          refine q_callV1 (pc := 91) dQ_copy_91 ((ct_C_keptUpTo hx hn2 I hfo2 (by omega))) cd_C_keptUpTo in_C_keptUpTo se_C_keptUpTo ml_Q206 (s_cp L _ hx) (by decide) rfl rfl (Nat.le_of_ble_eq_true rfl) ⟨by decide, by decide⟩ ⟨by decide, by decide⟩ rfl ?_
          refine q_iret rfl (pc := 94) dQ_copy_94 ?_
          exact ⟨by rw [if_neg h24, if_neg (not_not_intro h9), if_neg h1, if_pos rfl], rfl, rfl⟩
        · refine q_lookup (tgt := 95) (off := 51) (pc := 44) dQ_copy_44 (by decide) (by
            rw [Op.lookupswitch.offset_cons, if_neg (fun z => h1 z.symm), Op.lookupswitch.offset_cons, if_neg (fun z => h2 z.symm)]; rfl) (by decide) ?_
          refine q_iconst (pc := 95) dQ_copy_95 (by decide) ?_
          refine q_iret rfl (pc := 96) dQ_copy_96 ?_
          exact ⟨by rw [if_neg h24, if_neg (not_not_intro h9), if_neg h1, if_neg h2], rfl, rfl⟩
      · refine q_iconst (pc := 41) dQ_copy_41 (by decide) ?_
        refine q_iret rfl (pc := 42) dQ_copy_42 ?_
        exact ⟨by rw [if_neg h24, if_pos (of_decide_eq_false (bi_eq h38))], rfl, rfl⟩
    · refine q_aload (pc := 27) dQ_copy_27 rfl ?_
      refine q_getI (f := 2) (pc := 29) dQ_copy_29 lay_4 (by decide) (s_cp L _ hx) (by decide) fl_Q199 rfl rfl ?_
      refine q_iret rfl (pc := 32) dQ_copy_32 ?_
      exact ⟨by rw [if_pos h24], rfl, rfl⟩
  · have := of_decide_eq_false (bi_eq h5)
    omega
theorem ct_Q_collect0 {L : Nat} {g c : Int} (I : qI) (h0 : ¬ isC g c) : qT M_Q_collect 2 [.inr (some 1), .inl g, .inl c] L I (rI (-1) L I) := by
  refine q_enter (by decide) (Nat.le_of_ble_eq_true rfl) ?_
  refine q_aload_n (pc := 0) dQ_collect_0 rfl ?_
  refine q_iload_n (pc := 1) dQ_collect_1 rfl ?_
  refine q_iload_n (pc := 2) dQ_collect_2 rfl ?_
  refine q_callV1 (pc := 3) dQ_collect_3 ((ct_Q_refusalOfCopy0 I h0)) cd_Q_refusalOfCopy in_Q_refusalOfCopy se_Q_refusalOfCopy ml_Q150 rfl (by decide) rfl rfl (Nat.le_of_ble_eq_true rfl) ⟨by decide, by decide⟩ ⟨by decide, by decide⟩ rfl ?_
  refine q_istore_n (pc := 6) dQ_collect_6 (by decide) ?_
  refine q_iload_n (pc := 7) dQ_collect_7 rfl ?_
  refine q_if_eq (tgt := 13) (pc := 8) dQ_collect_8 (by decide) (fun h8 => ?_) (fun h8 => ?_)
  · omega
  · refine q_iload_n (pc := 11) dQ_collect_11 rfl ?_
    refine q_iret rfl (pc := 12) dQ_collect_12 ?_
    exact ⟨rfl, rfl, rfl⟩
def nmin (x y : Nat) : Nat := if y < x then y else x
theorem nmin_c (x y : Nat) : (if (y : Int) < (x : Int) then (y : Int) else (x : Int)) = ((nmin x y : Nat) : Int) := by
  unfold nmin
  split <;> split <;> omega
theorem nmin_le (x y : Nat) : nmin x y ≤ x ∧ nmin x y ≤ y := by unfold nmin; split <;> omega
def aLim (I : qI) (x n d v0 v1 : Nat) : Nat := nmin (nmin (nmin (crc I x n) (llow I d)) (llow I v0)) (llow I v1)
theorem crc_le {I : qI} {x n : Nat} : crc I x n ≤ n := by
  have := qr_le (g := cgr I x) (h := chd I x) (f := n) (l := 1) (r := 0) (by omega)
  unfold crc
  omega
theorem ct_Q_collect {L n T k d g c v0 v1 : Nat} (I : qI) (h : cw I n T k d) (hg : g < 2) (hc : c < 6) (hv0 : I 43 0 = (v0 : Int)) (hv1 : I 43 1 = (v1 : Int)) (hvn : v0 ≤ n ∧ v1 ≤ n) : qT M_Q_collect 2 [.inr (some 1), .inl ((g : Nat) : Int), .inl ((c : Nat) : Int)] L I (rP (if qcr I (6 * g + c) = 0 then ((qn (ckp I (6 * g + c)) (aLim I (6 * g + c) n d v0 v1) : Nat), q_up I (cp (6 * g + c)) 3 (qmax (I (cp (6 * g + c)) 3) (aLim I (6 * g + c) n d v0 v1))) else (qcr I (6 * g + c), I)) L) := by
  obtain ⟨⟨hn, hn2⟩, -, -, ⟨hd, hd2⟩, -, ho, -, -, hf, -⟩ := h
  have hx : 6 * g + c < 12 := by omega
  obtain ⟨fo, hfo1, hfo2⟩ := hf _ hx
  refine q_enter (by decide) (Nat.le_of_ble_eq_true rfl) ?_
  refine q_aload_n (pc := 0) dQ_collect_0 rfl ?_
  refine q_iload_n (pc := 1) dQ_collect_1 rfl ?_
  refine q_iload_n (pc := 2) dQ_collect_2 rfl ?_
  refine q_callV1 (pc := 3) dQ_collect_3 ((ct_Q_refusalOfCopy I hg hc)) cd_Q_refusalOfCopy in_Q_refusalOfCopy se_Q_refusalOfCopy ml_Q150 rfl (by decide) rfl rfl (Nat.le_of_ble_eq_true rfl) ⟨by decide, by decide⟩ ⟨by decide, by decide⟩ rfl ?_
  refine q_istore_n (pc := 6) dQ_collect_6 (by decide) ?_
  refine q_iload_n (pc := 7) dQ_collect_7 rfl ?_
  refine q_if_eq (tgt := 13) (pc := 8) dQ_collect_8 (by decide) (fun h8 => ?_) (fun h8 => ?_)
  · refine q_aload_n (pc := 13) dQ_collect_13 rfl ?_
    refine q_getR (f := 2) (pc := 14) dQ_collect_14 lay_0 (by decide) rfl (by decide) fl_Q25 rfl rfl ?_
    refine q_iload_n (pc := 17) dQ_collect_17 rfl ?_
    refine q_aald (i := g) (pc := 18) dQ_collect_18 ⟨by decide, by decide, rfl⟩ (s_gs L) rfl (by omega) (v_gs _ hg) ?_
    refine q_getR (f := 0) (pc := 19) dQ_collect_19 lay_3 (by decide) (s_gp L g hg) (by decide) fl_Q123 rfl rfl ?_
    refine q_iload_n (pc := 22) dQ_collect_22 rfl ?_
    refine q_aald (i := c) (pc := 23) dQ_collect_23 ⟨by decide, by decide, rfl⟩ (s_cps L g hg) rfl (by omega) (v_cps hc) ?_
    refine q_astore (pc := 24) dQ_collect_24 (by decide) ?_
    refine q_aload (pc := 26) dQ_collect_26 rfl ?_
    refine q_aload_n (pc := 28) dQ_collect_28 rfl ?_
    refine q_getR (f := 0) (pc := 29) dQ_collect_29 lay_0 (by decide) rfl (by decide) fl_Q10 rfl rfl ?_
    refine q_callV1 (pc := 32) dQ_collect_32 ((ct_C_reach hx I hn hn2)) cd_C_reach in_C_reach se_C_reach ml_Q202 (s_cp L _ hx) (by decide) rfl rfl (Nat.le_of_ble_eq_true rfl) ⟨by decide, by decide⟩ ⟨by decide, by decide⟩ rfl ?_
    refine q_aload_n (pc := 35) dQ_collect_35 rfl ?_
    refine q_getR (f := 0) (pc := 36) dQ_collect_36 lay_0 (by decide) rfl (by decide) fl_Q10 rfl rfl ?_
    refine q_aload_n (pc := 39) dQ_collect_39 rfl ?_
    refine q_getI (f := 6) (pc := 40) dQ_collect_40 lay_0 (by decide) rfl (by decide) fl_Q47 rfl rfl ?_
    rw [hd]
    refine q_callV1 (pc := 43) dQ_collect_43 ((ct_L_lowOf I (by omega) (fun l a b => ho l a (by omega)))) cd_L_lowOf in_L_lowOf se_L_lowOf ml_Q222 rfl (by decide) rfl rfl (Nat.le_of_ble_eq_true rfl) ⟨by decide, by decide⟩ ⟨by decide, by decide⟩ rfl ?_
    refine q_min (pc := 46) dQ_collect_46 mw_Q225 mn_1 mt_0 mn_2 ⟨by decide, by decide⟩ ⟨by decide, by decide⟩ (Nat.le_of_ble_eq_true rfl) ?_
    rw [nmin_c]
    refine q_istore (pc := 49) dQ_collect_49 (by decide) ?_
    refine q_iconst (pc := 51) dQ_collect_51 (by decide) ?_
    refine q_istore (pc := 52) dQ_collect_52 (by decide) ?_
    refine q_iload (pc := 54) dQ_collect_54 rfl ?_
    refine q_iconst (pc := 56) dQ_collect_56 (by decide) ?_
    refine q_icmp_ge (tgt := 87) (pc := 57) dQ_collect_57 (by decide) (fun h57 => ?_) (fun h57 => ?_)
    · omega
    · refine q_iload (pc := 60) dQ_collect_60 rfl ?_
      refine q_aload_n (pc := 62) dQ_collect_62 rfl ?_
      refine q_getR (f := 0) (pc := 63) dQ_collect_63 lay_0 (by decide) rfl (by decide) fl_Q10 rfl rfl ?_
      refine q_aload_n (pc := 66) dQ_collect_66 rfl ?_
      refine q_getR (f := 4) (pc := 67) dQ_collect_67 lay_0 (by decide) rfl (by decide) fl_Q39 rfl rfl ?_
      refine q_iload (pc := 70) dQ_collect_70 rfl ?_
      refine q_iald (i := 0) (pc := 72) dQ_collect_72 rfl rfl (by omega) rfl ?_
      rw [hv0]
      refine q_callV1 (pc := 73) dQ_collect_73 ((ct_L_lowOf I (by omega) (fun l a b => ho l a (by omega)))) cd_L_lowOf in_L_lowOf se_L_lowOf ml_Q222 rfl (by decide) rfl rfl (Nat.le_of_ble_eq_true rfl) ⟨by decide, by decide⟩ ⟨by decide, by decide⟩ rfl ?_
      refine q_min (pc := 76) dQ_collect_76 mw_Q225 mn_1 mt_0 mn_2 ⟨by decide, by decide⟩ ⟨by decide, by decide⟩ (Nat.le_of_ble_eq_true rfl) ?_
      rw [nmin_c]
      refine q_istore (pc := 79) dQ_collect_79 (by decide) ?_
      refine q_iinc (pc := 81) dQ_collect_81 rfl (by decide) rfl ⟨by omega, by omega⟩ ?_
      refine q_goto (tgt := 54) (pc := 84) dQ_collect_84 (by decide) ?_
      refine q_iload (pc := 54) dQ_collect_54 rfl ?_
      refine q_iconst (pc := 56) dQ_collect_56 (by decide) ?_
      refine q_icmp_ge (tgt := 87) (pc := 57) dQ_collect_57 (by decide) (fun h57 => ?_) (fun h57 => ?_)
      · omega
      · refine q_iload (pc := 60) dQ_collect_60 rfl ?_
        refine q_aload_n (pc := 62) dQ_collect_62 rfl ?_
        refine q_getR (f := 0) (pc := 63) dQ_collect_63 lay_0 (by decide) rfl (by decide) fl_Q10 rfl rfl ?_
        refine q_aload_n (pc := 66) dQ_collect_66 rfl ?_
        refine q_getR (f := 4) (pc := 67) dQ_collect_67 lay_0 (by decide) rfl (by decide) fl_Q39 rfl rfl ?_
        refine q_iload (pc := 70) dQ_collect_70 rfl ?_
        refine q_iald (i := 1) (pc := 72) dQ_collect_72 rfl rfl (by omega) rfl ?_
        rw [hv1]
        refine q_callV1 (pc := 73) dQ_collect_73 ((ct_L_lowOf I (by omega) (fun l a b => ho l a (by omega)))) cd_L_lowOf in_L_lowOf se_L_lowOf ml_Q222 rfl (by decide) rfl rfl (Nat.le_of_ble_eq_true rfl) ⟨by decide, by decide⟩ ⟨by decide, by decide⟩ rfl ?_
        refine q_min (pc := 76) dQ_collect_76 mw_Q225 mn_1 mt_0 mn_2 ⟨by decide, by decide⟩ ⟨by decide, by decide⟩ (Nat.le_of_ble_eq_true rfl) ?_
        rw [nmin_c]
        refine q_istore (pc := 79) dQ_collect_79 (by decide) ?_
        refine q_iinc (pc := 81) dQ_collect_81 rfl (by decide) rfl ⟨by omega, by omega⟩ ?_
        refine q_goto (tgt := 54) (pc := 84) dQ_collect_84 (by decide) ?_
        refine q_iload (pc := 54) dQ_collect_54 rfl ?_
        refine q_iconst (pc := 56) dQ_collect_56 (by decide) ?_
        refine q_icmp_ge (tgt := 87) (pc := 57) dQ_collect_57 (by decide) (fun h57 => ?_) (fun h57 => ?_)
        · have b1 := nmin_le (crc I (6 * g + c) n) (llow I d)
          have b2 := nmin_le (nmin (crc I (6 * g + c) n) (llow I d)) (llow I v0)
          have b3 := nmin_le (nmin (nmin (crc I (6 * g + c) n) (llow I d)) (llow I v0)) (llow I v1)
          have b4 := crc_le (I := I) (x := 6 * g + c) (n := n)
          refine q_aload (pc := 87) dQ_collect_87 rfl ?_
          refine q_iload (pc := 89) dQ_collect_89 rfl ?_
          refine q_callV1 (pc := 91) dQ_collect_91 ((ct_C_foldUpTo hx (by omega) I hfo2 (by omega))) cd_C_foldUpTo in_C_foldUpTo se_C_foldUpTo ml_Q230 (s_cp L _ hx) (by decide) rfl rfl (Nat.le_of_ble_eq_true rfl) ⟨by decide, by decide⟩ ⟨by decide, by decide⟩ rfl ?_
          refine q_iret rfl (pc := 94) dQ_collect_94 ?_
          exact rP_of (by rw [if_pos h8]; rfl)
        · omega
  · refine q_iload_n (pc := 11) dQ_collect_11 rfl ?_
    refine q_iret rfl (pc := 12) dQ_collect_12 ?_
    exact rP_of (by rw [if_neg h8])
