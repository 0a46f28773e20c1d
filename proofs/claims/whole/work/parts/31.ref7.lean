/-! The reference, seventh part. -/
theorem ct_M_fault0 {L : Nat} {g c w : Int} (I : qI) (h0 : ¬ (isC g c ∧ 0 ≤ w ∧ w ≤ 3)) : qT M_M_fault 1 [.inr (some 44), .inl g, .inl c, .inl w] L I (rI 0 L I) := by
  refine q_enter (by decide) (Nat.le_of_ble_eq_true rfl) ?_
  refine q_iload_n (pc := 0) dM_fault_0 rfl ?_
  refine q_iload_n (pc := 1) dM_fault_1 rfl ?_
  refine q_callS1 (pc := 2) dM_fault_2 ((ct_M_isCopy g c I)) cd_M_isCopy st_M_isCopy ml_M143 rfl (Nat.le_of_ble_eq_true rfl) ⟨by decide, by decide⟩ ⟨by decide, by decide⟩ rfl ?_
  refine q_if_eq (tgt := 17) (pc := 5) dM_fault_5 (by decide) (fun h5 => ?_) (fun h5 => ?_)
  · refine q_iconst (pc := 17) dM_fault_17 (by decide) ?_
    refine q_zret rfl (by first | exact Or.inl rfl | exact Or.inr rfl) (pc := 18) dM_fault_18 ?_
    exact ⟨rfl, rfl, rfl⟩
  · have hC : isC g c := by have := of_decide_eq_true (bi_ne h5); exact this
    refine q_iload_n (pc := 8) dM_fault_8 rfl ?_
    refine q_if_lt (tgt := 17) (pc := 9) dM_fault_9 (by decide) (fun h9 => ?_) (fun h9 => ?_)
    · refine q_iconst (pc := 17) dM_fault_17 (by decide) ?_
      refine q_zret rfl (by first | exact Or.inl rfl | exact Or.inr rfl) (pc := 18) dM_fault_18 ?_
      exact ⟨rfl, rfl, rfl⟩
    · refine q_iload_n (pc := 12) dM_fault_12 rfl ?_
      refine q_iconst (pc := 13) dM_fault_13 (by decide) ?_
      refine q_icmp_le (tgt := 19) (pc := 14) dM_fault_14 (by decide) (fun h14 => ?_) (fun h14 => ?_)
      · exact absurd ⟨hC, by omega, by omega⟩ h0
      · refine q_iconst (pc := 17) dM_fault_17 (by decide) ?_
        refine q_zret rfl (by first | exact Or.inl rfl | exact Or.inr rfl) (pc := 18) dM_fault_18 ?_
        exact ⟨rfl, rfl, rfl⟩
theorem mfault_head {L g c : Nat} {w : Int} (I : qI) (P : qP) (hg : g < 2) (hc : c < 6) (hw : 0 ≤ w ∧ w ≤ 3) (h : qE M_M_fault 1 36 [some (.inr (some 44)), some (.inl ((g : Nat) : Int)), some (.inl ((c : Nat) : Int)), some (.inl w), some (.inl ((6 * g + c : Nat) : Int)), some (.inl (I 51 (6 * g + c))), none, none] [] L I P) : qT M_M_fault 1 [.inr (some 44), .inl ((g : Nat) : Int), .inl ((c : Nat) : Int), .inl w] L I P := by
  refine q_enter (by decide) (Nat.le_of_ble_eq_true rfl) ?_
  refine q_iload_n (pc := 0) dM_fault_0 rfl ?_
  refine q_iload_n (pc := 1) dM_fault_1 rfl ?_
  refine q_callS1 (pc := 2) dM_fault_2 ((ct_M_isCopy g c I)) cd_M_isCopy st_M_isCopy ml_M143 rfl (Nat.le_of_ble_eq_true rfl) ⟨by decide, by decide⟩ ⟨by decide, by decide⟩ rfl ?_
  refine q_if_eq (tgt := 17) (pc := 5) dM_fault_5 (by decide) (fun h5 => ?_) (fun h5 => ?_)
  · have := of_decide_eq_false (bi_eq h5)
    omega
  · refine q_iload_n (pc := 8) dM_fault_8 rfl ?_
    refine q_if_lt (tgt := 17) (pc := 9) dM_fault_9 (by decide) (fun h9 => ?_) (fun h9 => ?_)
    · omega
    · refine q_iload_n (pc := 12) dM_fault_12 rfl ?_
      refine q_iconst (pc := 13) dM_fault_13 (by decide) ?_
      refine q_icmp_le (tgt := 19) (pc := 14) dM_fault_14 (by decide) (fun h14 => ?_) (fun h14 => ?_)
      · refine q_bipush (pc := 19) dM_fault_19 (by decide) (by decide) ?_
        refine q_iload_n (pc := 21) dM_fault_21 rfl ?_
        refine q_imul (pc := 22) dM_fault_22 (show (6 : Int) * (g : Int) = ((6 * g : Nat) : Int) by omega) ⟨by omega, by omega⟩ ?_
        refine q_iload_n (pc := 23) dM_fault_23 rfl ?_
        refine q_iadd (pc := 24) dM_fault_24 (show ((6 * g : Nat) : Int) + (c : Int) = ((6 * g + c : Nat) : Int) by omega) ⟨by omega, by omega⟩ ?_
        refine q_istore (pc := 25) dM_fault_25 (by decide) ?_
        refine q_aload_n (pc := 27) dM_fault_27 rfl ?_
        refine q_getR (f := 7) (pc := 28) dM_fault_28 lay_6 (by decide) rfl (by decide) fl_M29 rfl rfl ?_
        refine q_iload (pc := 31) dM_fault_31 rfl ?_
        refine q_iald (i := (6 * g + c)) (pc := 33) dM_fault_33 rfl rfl (by omega) rfl ?_
        refine q_istore (pc := 34) dM_fault_34 (by decide) ?_
        exact h
      · omega
def bChange (I : qI) (x : Nat) (f t : Int) : Int × qI := (bi (decide (I 51 x = f)), if I 51 x = f then q_up I 51 x t else I)
theorem ct_M_fault_0 {L g c : Nat} (I : qI) (hg : g < 2) (hc : c < 6) : qT M_M_fault 1 [.inr (some 44), .inl ((g : Nat) : Int), .inl ((c : Nat) : Int), .inl 0] L I (rP (bChange I (6 * g + c) 0 1) L) := by
  refine mfault_head I _ hg hc (by decide) ?_
  refine q_iload_n (pc := 36) dM_fault_36 rfl ?_
  refine q_if_ne (tgt := 53) (pc := 37) dM_fault_37 (by decide) (fun h37 => ?_) (fun h37 => ?_)
  · exact absurd rfl h37
  · refine q_iload (pc := 40) dM_fault_40 rfl ?_
    refine q_if_ne (tgt := 49) (pc := 42) dM_fault_42 (by decide) (fun h42 => ?_) (fun h42 => ?_)
    · refine q_iconst (pc := 49) dM_fault_49 (by decide) ?_
      refine q_goto (tgt := 111) (pc := 50) dM_fault_50 (by decide) ?_
      refine q_istore (pc := 111) dM_fault_111 (by decide) ?_
      refine q_iload (pc := 113) dM_fault_113 rfl ?_
      refine q_if_ne (tgt := 120) (pc := 115) dM_fault_115 (by decide) (fun h115 => ?_) (fun h115 => ?_)
      · exact absurd rfl h115
      · refine q_iconst (pc := 118) dM_fault_118 (by decide) ?_
        refine q_zret rfl (by first | exact Or.inl rfl | exact Or.inr rfl) (pc := 119) dM_fault_119 ?_
        exact rP_of (by unfold bChange; rw [decide_eq_false h42, if_neg h42]; rfl)
    · refine q_iconst (pc := 45) dM_fault_45 (by decide) ?_
      refine q_goto (tgt := 111) (pc := 46) dM_fault_46 (by decide) ?_
      refine q_istore (pc := 111) dM_fault_111 (by decide) ?_
      refine q_iload (pc := 113) dM_fault_113 rfl ?_
      refine q_if_ne (tgt := 120) (pc := 115) dM_fault_115 (by decide) (fun h115 => ?_) (fun h115 => ?_)
      · refine q_iload_n (pc := 120) dM_fault_120 rfl ?_
        refine q_iconst (pc := 121) dM_fault_121 (by decide) ?_
        refine q_icmp_ne (tgt := 174) (pc := 122) dM_fault_122 (by decide) (fun h122 => ?_) (fun h122 => ?_)
        · refine q_iload_n (pc := 174) dM_fault_174 rfl ?_
          refine q_iconst (pc := 175) dM_fault_175 (by decide) ?_
          refine q_icmp_ne (tgt := 222) (pc := 176) dM_fault_176 (by decide) (fun h176 => ?_) (fun h176 => ?_)
          · refine q_aload_n (pc := 222) dM_fault_222 rfl ?_
            refine q_getR (f := 7) (pc := 223) dM_fault_223 lay_6 (by decide) rfl (by decide) fl_M29 rfl rfl ?_
            refine q_iload (pc := 226) dM_fault_226 rfl ?_
            refine q_iload_n (pc := 228) dM_fault_228 rfl ?_
            refine q_if_ne (tgt := 236) (pc := 229) dM_fault_229 (by decide) (fun h229 => ?_) (fun h229 => ?_)
            · exact absurd rfl h229
            · refine q_iconst (pc := 232) dM_fault_232 (by decide) ?_
              refine q_goto (tgt := 246) (pc := 233) dM_fault_233 (by decide) ?_
              refine q_iast (i := (6 * g + c)) (pc := 246) dM_fault_246 rfl rfl (by omega) rfl ?_
              refine q_iconst (pc := 247) dM_fault_247 (by decide) ?_
              refine q_zret rfl (by first | exact Or.inl rfl | exact Or.inr rfl) (pc := 248) dM_fault_248 ?_
              exact rP_of (by unfold bChange; rw [decide_eq_true h42, if_pos h42]; rfl)
          · omega
        · omega
      · omega
theorem ct_M_fault_1 {L g c : Nat} (I : qI) (hg : g < 2) (hc : c < 6) : qT M_M_fault 1 [.inr (some 44), .inl ((g : Nat) : Int), .inl ((c : Nat) : Int), .inl 1] L I (rP (bChange I (6 * g + c) 1 0) L) := by
  refine mfault_head I _ hg hc (by decide) ?_
  refine q_iload_n (pc := 36) dM_fault_36 rfl ?_
  refine q_if_ne (tgt := 53) (pc := 37) dM_fault_37 (by decide) (fun h37 => ?_) (fun h37 => ?_)
  · refine q_iload_n (pc := 53) dM_fault_53 rfl ?_
    refine q_iconst (pc := 54) dM_fault_54 (by decide) ?_
    refine q_icmp_ne (tgt := 72) (pc := 55) dM_fault_55 (by decide) (fun h55 => ?_) (fun h55 => ?_)
    · exact absurd rfl h55
    · refine q_iload (pc := 58) dM_fault_58 rfl ?_
      refine q_iconst (pc := 60) dM_fault_60 (by decide) ?_
      refine q_icmp_ne (tgt := 68) (pc := 61) dM_fault_61 (by decide) (fun h61 => ?_) (fun h61 => ?_)
      · refine q_iconst (pc := 68) dM_fault_68 (by decide) ?_
        refine q_goto (tgt := 111) (pc := 69) dM_fault_69 (by decide) ?_
        refine q_istore (pc := 111) dM_fault_111 (by decide) ?_
        refine q_iload (pc := 113) dM_fault_113 rfl ?_
        refine q_if_ne (tgt := 120) (pc := 115) dM_fault_115 (by decide) (fun h115 => ?_) (fun h115 => ?_)
        · exact absurd rfl h115
        · refine q_iconst (pc := 118) dM_fault_118 (by decide) ?_
          refine q_zret rfl (by first | exact Or.inl rfl | exact Or.inr rfl) (pc := 119) dM_fault_119 ?_
          exact rP_of (by unfold bChange; rw [decide_eq_false h61, if_neg h61]; rfl)
      · refine q_iconst (pc := 64) dM_fault_64 (by decide) ?_
        refine q_goto (tgt := 111) (pc := 65) dM_fault_65 (by decide) ?_
        refine q_istore (pc := 111) dM_fault_111 (by decide) ?_
        refine q_iload (pc := 113) dM_fault_113 rfl ?_
        refine q_if_ne (tgt := 120) (pc := 115) dM_fault_115 (by decide) (fun h115 => ?_) (fun h115 => ?_)
        · refine q_iload_n (pc := 120) dM_fault_120 rfl ?_
          refine q_iconst (pc := 121) dM_fault_121 (by decide) ?_
          refine q_icmp_ne (tgt := 174) (pc := 122) dM_fault_122 (by decide) (fun h122 => ?_) (fun h122 => ?_)
          · refine q_iload_n (pc := 174) dM_fault_174 rfl ?_
            refine q_iconst (pc := 175) dM_fault_175 (by decide) ?_
            refine q_icmp_ne (tgt := 222) (pc := 176) dM_fault_176 (by decide) (fun h176 => ?_) (fun h176 => ?_)
            · refine q_aload_n (pc := 222) dM_fault_222 rfl ?_
              refine q_getR (f := 7) (pc := 223) dM_fault_223 lay_6 (by decide) rfl (by decide) fl_M29 rfl rfl ?_
              refine q_iload (pc := 226) dM_fault_226 rfl ?_
              refine q_iload_n (pc := 228) dM_fault_228 rfl ?_
              refine q_if_ne (tgt := 236) (pc := 229) dM_fault_229 (by decide) (fun h229 => ?_) (fun h229 => ?_)
              · refine q_iload_n (pc := 236) dM_fault_236 rfl ?_
                refine q_iconst (pc := 237) dM_fault_237 (by decide) ?_
                refine q_icmp_ne (tgt := 245) (pc := 238) dM_fault_238 (by decide) (fun h238 => ?_) (fun h238 => ?_)
                · refine q_iconst (pc := 245) dM_fault_245 (by decide) ?_
                  refine q_iast (i := (6 * g + c)) (pc := 246) dM_fault_246 rfl rfl (by omega) rfl ?_
                  refine q_iconst (pc := 247) dM_fault_247 (by decide) ?_
                  refine q_zret rfl (by first | exact Or.inl rfl | exact Or.inr rfl) (pc := 248) dM_fault_248 ?_
                  exact rP_of (by unfold bChange; rw [decide_eq_true h61, if_pos h61]; rfl)
                · omega
              · omega
            · omega
          · omega
        · omega
  · omega
/-- what x holds of 1 .. l - 1 is cleared -/
def mlo (I : qI) (x l : Nat) : qI := fun a j => if a = 50 ∧ j / 200 = x ∧ 1 ≤ j % 200 ∧ j % 200 < l then 0 else I a j
theorem mlo_off {I : qI} {x l a : Nat} (h : a ≠ 50) : mlo I x l a = I a := by funext j; simp [mlo, h]
theorem mlo_up {I : qI} {x l : Nat} (hl : l < 200) (h1 : 1 ≤ l) : q_up (mlo I x l) 50 (200 * x + l) 0 = mlo I x (l + 1) := by
  funext a j
  unfold q_up mlo
  by_cases ha : a = 50
  · by_cases hj : j = 200 * x + l
    · subst hj
      have e1 : (200 * x + l) % 200 = l := by omega
      have e2 : (200 * x + l) / 200 = x := by omega
      simp [ha, e1, e2, h1]
    · simp only [ha, hj, and_false, if_false, true_and]
      by_cases hm : j % 200 = l
      · have : ¬ j / 200 = x := by omega
        simp [this]
      · have : (j % 200 < l + 1) = (j % 200 < l) := by apply propext; omega
        simp only [this]
  · simp [ha]
def mlose (I : qI) (x n : Nat) : qI := q_up (q_up (q_up (mlo I x (n + 1)) 52 x 0) 53 x 0) 51 x 2
def bLose (I : qI) (x n : Nat) : Int × qI := (bi (decide (I 51 x ≠ 2)), if I 51 x = 2 then I else mlose I x n)
theorem ct_M_fault_2 {L n g c : Nat} (I : qI) (hn : I 44 0 = (n : Int)) (hn2 : n < 199) (hg : g < 2) (hc : c < 6) : qT M_M_fault 1 [.inr (some 44), .inl ((g : Nat) : Int), .inl ((c : Nat) : Int), .inl 2] L I (rP (bLose I (6 * g + c) n) L) := by
  have hx : 6 * g + c < 12 := by omega
  refine mfault_head I _ hg hc (by decide) ?_
  refine q_iload_n (pc := 36) dM_fault_36 rfl ?_
  refine q_if_ne (tgt := 53) (pc := 37) dM_fault_37 (by decide) (fun h37 => ?_) (fun h37 => ?_)
  · refine q_iload_n (pc := 53) dM_fault_53 rfl ?_
    refine q_iconst (pc := 54) dM_fault_54 (by decide) ?_
    refine q_icmp_ne (tgt := 72) (pc := 55) dM_fault_55 (by decide) (fun h55 => ?_) (fun h55 => ?_)
    · refine q_iload_n (pc := 72) dM_fault_72 rfl ?_
      refine q_iconst (pc := 73) dM_fault_73 (by decide) ?_
      refine q_icmp_ne (tgt := 91) (pc := 74) dM_fault_74 (by decide) (fun h74 => ?_) (fun h74 => ?_)
      · exact absurd rfl h74
      · refine q_iload (pc := 77) dM_fault_77 rfl ?_
        refine q_iconst (pc := 79) dM_fault_79 (by decide) ?_
        refine q_icmp_eq (tgt := 87) (pc := 80) dM_fault_80 (by decide) (fun h80 => ?_) (fun h80 => ?_)
        · refine q_iconst (pc := 87) dM_fault_87 (by decide) ?_
          refine q_goto (tgt := 111) (pc := 88) dM_fault_88 (by decide) ?_
          refine q_istore (pc := 111) dM_fault_111 (by decide) ?_
          refine q_iload (pc := 113) dM_fault_113 rfl ?_
          refine q_if_ne (tgt := 120) (pc := 115) dM_fault_115 (by decide) (fun h115 => ?_) (fun h115 => ?_)
          · exact absurd rfl h115
          · refine q_iconst (pc := 118) dM_fault_118 (by decide) ?_
            refine q_zret rfl (by first | exact Or.inl rfl | exact Or.inr rfl) (pc := 119) dM_fault_119 ?_
            exact rP_of (by unfold bLose; rw [if_pos h80, decide_eq_false (not_not_intro h80)]; rfl)
        · refine q_iconst (pc := 83) dM_fault_83 (by decide) ?_
          refine q_goto (tgt := 111) (pc := 84) dM_fault_84 (by decide) ?_
          refine q_istore (pc := 111) dM_fault_111 (by decide) ?_
          refine q_iload (pc := 113) dM_fault_113 rfl ?_
          refine q_if_ne (tgt := 120) (pc := 115) dM_fault_115 (by decide) (fun h115 => ?_) (fun h115 => ?_)
          · refine q_iload_n (pc := 120) dM_fault_120 rfl ?_
            refine q_iconst (pc := 121) dM_fault_121 (by decide) ?_
            refine q_icmp_ne (tgt := 174) (pc := 122) dM_fault_122 (by decide) (fun h122 => ?_) (fun h122 => ?_)
            · exact absurd rfl h122
            · have lp : ∀ f l : Nat, l + f = n + 1 → 1 ≤ l → qE M_M_fault 1 128 [some (.inr (some 44)), some (.inl ((g : Nat) : Int)), some (.inl ((c : Nat) : Int)), some (.inl 2), some (.inl ((6 * g + c : Nat) : Int)), some (.inl (I 51 (6 * g + c))), some (.inl 1), some (.inl ((l : Nat) : Int))] [] L (mlo I (6 * g + c) l) (rP (bLose I (6 * g + c) n) L) := by
                intro f
                induction f with
                | zero =>
                  intro l hl h1
                  obtain rfl : l = n + 1 := by omega
                  have e0 : mlo I (6 * g + c) (n + 1) 44 0 = (n : Int) := by rw [mlo_off (by decide)]; exact hn
                  refine q_iload (pc := 128) dM_fault_128 rfl ?_
                  refine q_aload_n (pc := 130) dM_fault_130 rfl ?_
                  refine q_getI (f := 0) (pc := 131) dM_fault_131 lay_6 (by decide) rfl (by decide) fl_M54 rfl rfl ?_
                  refine q_icmp_gt (tgt := 158) (pc := 134) dM_fault_134 (by decide) (fun h134 => ?_) (fun h134 => ?_)
                  · refine q_aload_n (pc := 158) dM_fault_158 rfl ?_
                    refine q_getR (f := 8) (pc := 159) dM_fault_159 lay_6 (by decide) rfl (by decide) fl_M32 rfl rfl ?_
                    refine q_iload (pc := 162) dM_fault_162 rfl ?_
                    refine q_iconst (pc := 164) dM_fault_164 (by decide) ?_
                    refine q_iast (i := (6 * g + c)) (pc := 165) dM_fault_165 rfl rfl (by omega) rfl ?_
                    refine q_aload_n (pc := 166) dM_fault_166 rfl ?_
                    refine q_getR (f := 9) (pc := 167) dM_fault_167 lay_6 (by decide) rfl (by decide) fl_M35 rfl rfl ?_
                    refine q_iload (pc := 170) dM_fault_170 rfl ?_
                    refine q_iconst (pc := 172) dM_fault_172 (by decide) ?_
                    refine q_iast (i := (6 * g + c)) (pc := 173) dM_fault_173 rfl rfl (by omega) rfl ?_
                    refine q_iload_n (pc := 174) dM_fault_174 rfl ?_
                    refine q_iconst (pc := 175) dM_fault_175 (by decide) ?_
                    refine q_icmp_ne (tgt := 222) (pc := 176) dM_fault_176 (by decide) (fun h176 => ?_) (fun h176 => ?_)
                    · refine q_aload_n (pc := 222) dM_fault_222 rfl ?_
                      refine q_getR (f := 7) (pc := 223) dM_fault_223 lay_6 (by decide) rfl (by decide) fl_M29 rfl rfl ?_
                      refine q_iload (pc := 226) dM_fault_226 rfl ?_
                      refine q_iload_n (pc := 228) dM_fault_228 rfl ?_
                      refine q_if_ne (tgt := 236) (pc := 229) dM_fault_229 (by decide) (fun h229 => ?_) (fun h229 => ?_)
                      · refine q_iload_n (pc := 236) dM_fault_236 rfl ?_
                        refine q_iconst (pc := 237) dM_fault_237 (by decide) ?_
                        refine q_icmp_ne (tgt := 245) (pc := 238) dM_fault_238 (by decide) (fun h238 => ?_) (fun h238 => ?_)
                        · exact absurd rfl h238
                        · refine q_iconst (pc := 241) dM_fault_241 (by decide) ?_
                          refine q_goto (tgt := 246) (pc := 242) dM_fault_242 (by decide) ?_
                          refine q_iast (i := (6 * g + c)) (pc := 246) dM_fault_246 rfl rfl (by omega) rfl ?_
                          refine q_iconst (pc := 247) dM_fault_247 (by decide) ?_
                          refine q_zret rfl (by first | exact Or.inl rfl | exact Or.inr rfl) (pc := 248) dM_fault_248 ?_
                          exact rP_of (by unfold bLose; rw [if_neg h80, decide_eq_true h80]; rfl)
                      · omega
                    · omega
                  · omega
                | succ f ih =>
                  intro l hl h1
                  have e0 : mlo I (6 * g + c) l 44 0 = (n : Int) := by rw [mlo_off (by decide)]; exact hn
                  refine q_iload (pc := 128) dM_fault_128 rfl ?_
                  refine q_aload_n (pc := 130) dM_fault_130 rfl ?_
                  refine q_getI (f := 0) (pc := 131) dM_fault_131 lay_6 (by decide) rfl (by decide) fl_M54 rfl rfl ?_
                  refine q_icmp_gt (tgt := 158) (pc := 134) dM_fault_134 (by decide) (fun h134 => ?_) (fun h134 => ?_)
                  · omega
                  · refine q_aload_n (pc := 137) dM_fault_137 rfl ?_
                    refine q_getR (f := 6) (pc := 138) dM_fault_138 lay_6 (by decide) rfl (by decide) fl_M26 rfl rfl ?_
                    refine q_sipush (pc := 141) dM_fault_141 (by decide) (by decide) ?_
                    refine q_iload (pc := 144) dM_fault_144 rfl ?_
                    refine q_imul (pc := 146) dM_fault_146 (show (200 : Int) * ((6 * g + c : Nat) : Int) = ((200 * (6 * g + c) : Nat) : Int) by omega) ⟨by omega, by omega⟩ ?_
                    refine q_iload (pc := 147) dM_fault_147 rfl ?_
                    refine q_iadd (pc := 149) dM_fault_149 (show ((200 * (6 * g + c) : Nat) : Int) + (l : Int) = ((200 * (6 * g + c) + l : Nat) : Int) by omega) ⟨by omega, by omega⟩ ?_
                    refine q_iconst (pc := 150) dM_fault_150 (by decide) ?_
                    refine q_zast (i := (200 * (6 * g + c) + l)) (pc := 151) dM_fault_151 rfl rfl (by omega) rfl (by first | exact Or.inl rfl | exact Or.inr rfl) ?_
                    refine q_iinc (pc := 152) dM_fault_152 rfl (by decide) rfl ⟨by omega, by omega⟩ ?_
                    refine q_goto (tgt := 128) (pc := 155) dM_fault_155 (by decide) ?_
                    rw [mlo_up (by omega) h1]
                    exact ih (l + 1) (by omega) (by omega)
              have e : I = mlo I (6 * g + c) 1 := by
                funext a j
                unfold mlo
                rw [if_neg (by omega)]
              have h9 := lp n 1 (by omega) (by omega)
              rw [← e] at h9
              refine q_iconst (pc := 125) dM_fault_125 (by decide) ?_
              refine q_istore (pc := 126) dM_fault_126 (by decide) ?_
              exact h9
          · omega
    · omega
  · omega
def mrp (g x n : Nat) : Nat → Nat → qI → qI
  | 0, _, I => I
  | f + 1, c, I => mrp g x n f (c + 1) (if I 51 (6 * g + c) = 0 then mjoin I (6 * g + c) x n else I)
theorem mjoin_51 {I : qI} {x y n : Nat} : mjoin I x y n 51 = I 51 := by
  unfold mjoin
  rw [q_up_off 51 (by decide), mtk_off (by decide)]
theorem mjoin_44 {I : qI} {x y n : Nat} : mjoin I x y n 44 = I 44 := by
  unfold mjoin
  rw [q_up_off 44 (by decide), mtk_off (by decide)]
def mok (I : qI) (g x : Nat) : Bool := decide (I 51 x = 2) && decide (3 ≤ mlv I g)
def bRepair (I : qI) (g x n : Nat) : Int × qI := (bi (mok I g x), if mok I g x = true then q_up (mrp g x n 6 0 I) 51 x 0 else I)
theorem lp_M_repair {L n g c z : Nat} (hn2 : n < 199) (hg : g < 2) (hc : c < 6) (x5 : Option qV) : ∀ (f d : Nat) (I : qI), I 44 0 = (n : Int) → I 51 (6 * g + c) = 2 → d + f = 6 → qE M_M_fault 1 185 [some (.inr (some 44)), some (.inl ((g : Nat) : Int)), some (.inl ((c : Nat) : Int)), some (.inl 3), some (.inl ((6 * g + c : Nat) : Int)), x5, some (.inl ((z : Nat) : Int)), some (.inl ((6 * g + d : Nat) : Int))] [] L I (rI 1 L (q_up (mrp g (6 * g + c) n f d I) 51 (6 * g + c) 0)) := by
  have hx : 6 * g + c < 12 := by omega
  intro f
  induction f with
  | zero =>
    intro d I hn hs hd
    refine q_iload (pc := 185) dM_fault_185 rfl ?_
    refine q_bipush (pc := 187) dM_fault_187 (by decide) (by decide) ?_
    refine q_iload_n (pc := 189) dM_fault_189 rfl ?_
    refine q_imul (pc := 190) dM_fault_190 (show (6 : Int) * (g : Int) = ((6 * g : Nat) : Int) by omega) ⟨by omega, by omega⟩ ?_
    refine q_bipush (pc := 191) dM_fault_191 (by decide) (by decide) ?_
    refine q_iadd (pc := 193) dM_fault_193 rfl ⟨by omega, by omega⟩ ?_
    refine q_icmp_ge (tgt := 222) (pc := 194) dM_fault_194 (by decide) (fun h194 => ?_) (fun h194 => ?_)
    · refine q_aload_n (pc := 222) dM_fault_222 rfl ?_
      refine q_getR (f := 7) (pc := 223) dM_fault_223 lay_6 (by decide) rfl (by decide) fl_M29 rfl rfl ?_
      refine q_iload (pc := 226) dM_fault_226 rfl ?_
      refine q_iload_n (pc := 228) dM_fault_228 rfl ?_
      refine q_if_ne (tgt := 236) (pc := 229) dM_fault_229 (by decide) (fun h229 => ?_) (fun h229 => ?_)
      · refine q_iload_n (pc := 236) dM_fault_236 rfl ?_
        refine q_iconst (pc := 237) dM_fault_237 (by decide) ?_
        refine q_icmp_ne (tgt := 245) (pc := 238) dM_fault_238 (by decide) (fun h238 => ?_) (fun h238 => ?_)
        · refine q_iconst (pc := 245) dM_fault_245 (by decide) ?_
          refine q_iast (i := (6 * g + c)) (pc := 246) dM_fault_246 rfl rfl (by omega) rfl ?_
          refine q_iconst (pc := 247) dM_fault_247 (by decide) ?_
          refine q_zret rfl (by first | exact Or.inl rfl | exact Or.inr rfl) (pc := 248) dM_fault_248 ?_
          exact ⟨rfl, rfl, rfl⟩
        · omega
      · omega
    · omega
  | succ f ih =>
    intro d I hn hs hd
    have hy : 6 * g + d < 12 := by omega
    refine q_iload (pc := 185) dM_fault_185 rfl ?_
    refine q_bipush (pc := 187) dM_fault_187 (by decide) (by decide) ?_
    refine q_iload_n (pc := 189) dM_fault_189 rfl ?_
    refine q_imul (pc := 190) dM_fault_190 (show (6 : Int) * (g : Int) = ((6 * g : Nat) : Int) by omega) ⟨by omega, by omega⟩ ?_
    refine q_bipush (pc := 191) dM_fault_191 (by decide) (by decide) ?_
    refine q_iadd (pc := 193) dM_fault_193 rfl ⟨by omega, by omega⟩ ?_
    refine q_icmp_ge (tgt := 222) (pc := 194) dM_fault_194 (by decide) (fun h194 => ?_) (fun h194 => ?_)
    · omega
    · refine q_aload_n (pc := 197) dM_fault_197 rfl ?_
      refine q_getR (f := 7) (pc := 198) dM_fault_198 lay_6 (by decide) rfl (by decide) fl_M29 rfl rfl ?_
      refine q_iload (pc := 201) dM_fault_201 rfl ?_
      refine q_iald (i := (6 * g + d)) (pc := 203) dM_fault_203 rfl rfl (by omega) rfl ?_
      refine q_if_ne (tgt := 216) (pc := 204) dM_fault_204 (by decide) (fun h204 => ?_) (fun h204 => ?_)
      · refine q_iinc (pc := 216) dM_fault_216 rfl (by decide) rfl ⟨by omega, by omega⟩ ?_
        refine q_goto (tgt := 185) (pc := 219) dM_fault_219 (by decide) ?_
        have e : mrp g (6 * g + c) n (f + 1) d I = mrp g (6 * g + c) n f (d + 1) I := by rw [mrp, if_neg h204]
        rw [e]
        exact ih (d + 1) I hn hs (by omega)
      · have hne : 6 * g + d ≠ 6 * g + c := by intro h; rw [h] at h204; omega
        refine q_aload_n (pc := 207) dM_fault_207 rfl ?_
        refine q_iload (pc := 208) dM_fault_208 rfl ?_
        refine q_iload (pc := 210) dM_fault_210 rfl ?_
        refine q_callV1 (pc := 212) dM_fault_212 ((ct_M_join hy hx hne I hn hn2)) cd_M_join in_M_join se_M_join ml_M146 rfl (by decide) rfl rfl (Nat.le_of_ble_eq_true rfl) ⟨by decide, by decide⟩ ⟨by decide, by decide⟩ rfl ?_
        refine q_pop (pc := 215) dM_fault_215 ?_
        refine q_iinc (pc := 216) dM_fault_216 rfl (by decide) rfl ⟨by omega, by omega⟩ ?_
        refine q_goto (tgt := 185) (pc := 219) dM_fault_219 (by decide) ?_
        have e : mrp g (6 * g + c) n (f + 1) d I = mrp g (6 * g + c) n f (d + 1) (mjoin I (6 * g + d) (6 * g + c) n) := by rw [mrp, if_pos h204]
        rw [e]
        exact ih (d + 1) _ (by rw [mjoin_44]; exact hn) (by rw [mjoin_51]; exact hs) (by omega)
theorem ct_M_fault_3 {L n g c : Nat} (I : qI) (hn : I 44 0 = (n : Int)) (hn2 : n < 199) (hg : g < 2) (hc : c < 6) : qT M_M_fault 1 [.inr (some 44), .inl ((g : Nat) : Int), .inl ((c : Nat) : Int), .inl 3] L I (rP (bRepair I g (6 * g + c) n) L) := by
  have hx : 6 * g + c < 12 := by omega
  have bad : mok I g (6 * g + c) = false → qE M_M_fault 1 110 [some (.inr (some 44)), some (.inl ((g : Nat) : Int)), some (.inl ((c : Nat) : Int)), some (.inl 3), some (.inl ((6 * g + c : Nat) : Int)), some (.inl (I 51 (6 * g + c))), none, none] [] L I (rP (bRepair I g (6 * g + c) n) L) := by
    intro h
    refine q_iconst (pc := 110) dM_fault_110 (by decide) ?_
    refine q_istore (pc := 111) dM_fault_111 (by decide) ?_
    refine q_iload (pc := 113) dM_fault_113 rfl ?_
    refine q_if_ne (tgt := 120) (pc := 115) dM_fault_115 (by decide) (fun h115 => ?_) (fun h115 => ?_)
    · exact absurd rfl h115
    · refine q_iconst (pc := 118) dM_fault_118 (by decide) ?_
      refine q_zret rfl (by first | exact Or.inl rfl | exact Or.inr rfl) (pc := 119) dM_fault_119 ?_
      exact rP_of (by unfold bRepair; rw [h]; rfl)
  refine mfault_head I _ hg hc (by decide) ?_
  refine q_iload_n (pc := 36) dM_fault_36 rfl ?_
  refine q_if_ne (tgt := 53) (pc := 37) dM_fault_37 (by decide) (fun h37 => ?_) (fun h37 => ?_)
  · refine q_iload_n (pc := 53) dM_fault_53 rfl ?_
    refine q_iconst (pc := 54) dM_fault_54 (by decide) ?_
    refine q_icmp_ne (tgt := 72) (pc := 55) dM_fault_55 (by decide) (fun h55 => ?_) (fun h55 => ?_)
    · refine q_iload_n (pc := 72) dM_fault_72 rfl ?_
      refine q_iconst (pc := 73) dM_fault_73 (by decide) ?_
      refine q_icmp_ne (tgt := 91) (pc := 74) dM_fault_74 (by decide) (fun h74 => ?_) (fun h74 => ?_)
      · refine q_iload (pc := 91) dM_fault_91 rfl ?_
        refine q_iconst (pc := 93) dM_fault_93 (by decide) ?_
        refine q_icmp_ne (tgt := 110) (pc := 94) dM_fault_94 (by decide) (fun h94 => ?_) (fun h94 => ?_)
        · exact bad (by simp [mok, h94])
        · refine q_aload_n (pc := 97) dM_fault_97 rfl ?_
          refine q_iload_n (pc := 98) dM_fault_98 rfl ?_
          refine q_callV1 (pc := 99) dM_fault_99 ((ct_M_live hg I)) cd_M_live in_M_live se_M_live ml_M149 rfl (by decide) rfl rfl (Nat.le_of_ble_eq_true rfl) ⟨by decide, by decide⟩ ⟨by decide, by decide⟩ rfl ?_
          refine q_iconst (pc := 102) dM_fault_102 (by decide) ?_
          refine q_icmp_lt (tgt := 110) (pc := 103) dM_fault_103 (by decide) (fun h103 => ?_) (fun h103 => ?_)
          · exact bad (by unfold mok; rw [decide_eq_false (p := 3 ≤ _) (by omega)]; simp)
          · have e : mok I g (6 * g + c) = true := by unfold mok; rw [decide_eq_true h94, decide_eq_true (by omega)]; rfl
            have e2 : bRepair I g (6 * g + c) n = (1, q_up (mrp g (6 * g + c) n 6 0 I) 51 (6 * g + c) 0) := by unfold bRepair; rw [e]; rfl
            rw [e2]
            refine q_iconst (pc := 106) dM_fault_106 (by decide) ?_
            refine q_goto (tgt := 111) (pc := 107) dM_fault_107 (by decide) ?_
            refine q_istore (pc := 111) dM_fault_111 (by decide) ?_
            refine q_iload (pc := 113) dM_fault_113 rfl ?_
            refine q_if_ne (tgt := 120) (pc := 115) dM_fault_115 (by decide) (fun h115 => ?_) (fun h115 => ?_)
            · refine q_iload_n (pc := 120) dM_fault_120 rfl ?_
              refine q_iconst (pc := 121) dM_fault_121 (by decide) ?_
              refine q_icmp_ne (tgt := 174) (pc := 122) dM_fault_122 (by decide) (fun h122 => ?_) (fun h122 => ?_)
              · refine q_iload_n (pc := 174) dM_fault_174 rfl ?_
                refine q_iconst (pc := 175) dM_fault_175 (by decide) ?_
                refine q_icmp_ne (tgt := 222) (pc := 176) dM_fault_176 (by decide) (fun h176 => ?_) (fun h176 => ?_)
                · exact absurd rfl h176
                · refine q_bipush (pc := 179) dM_fault_179 (by decide) (by decide) ?_
                  refine q_iload_n (pc := 181) dM_fault_181 rfl ?_
                  refine q_imul (pc := 182) dM_fault_182 (show (6 : Int) * (g : Int) = ((6 * g + 0 : Nat) : Int) by omega) ⟨by omega, by omega⟩ ?_
                  refine q_istore (pc := 183) dM_fault_183 (by decide) ?_
                  exact lp_M_repair (z := 1) hn2 hg hc _ 6 0 I hn h94 (by omega)
              · omega
            · omega
      · omega
    · omega
  · omega
def mrz (I : qI) (c : Nat) : qI := fun a j => if a = 53 ∧ j < c then 0 else I a j
theorem mrz_up {I : qI} {c : Nat} : q_up (mrz I c) 53 c 0 = mrz I (c + 1) := by
  funext a j
  unfold q_up mrz
  by_cases ha : a = 53
  · by_cases hj : j = c
    · subst hj; simp [ha]
    · have : (j < c + 1) = (j < c) := by apply propext; omega
      simp [ha, hj, this]
  · simp [ha]
def bCrash (I : qI) : Int × qI := if ¬ I 44 10 = 0 then (0, I) else (1, mrz (q_up (q_up I 44 10 1) 44 16 0) 12)
theorem ct_M_crash {L : Nat} (I : qI) : qT M_M_crash 0 [.inr (some 44)] L I (rP (bCrash I) L) := by
  refine q_enter (by decide) (Nat.le_of_ble_eq_true rfl) ?_
  refine q_aload_n (pc := 0) dM_crash_0 rfl ?_
  refine q_getI (f := 10) (pc := 1) dM_crash_1 lay_6 (by decide) rfl (by decide) fl_M117 rfl rfl ?_
  refine q_if_eq (tgt := 9) (pc := 4) dM_crash_4 (by decide) (fun h4 => ?_) (fun h4 => ?_)
  · have lp : ∀ f c : Nat, c + f = 12 → qE M_M_crash 0 21 [some (.inr (some 44)), some (.inl ((c : Nat) : Int))] [] L (mrz (q_up (q_up I 44 10 1) 44 16 0) c) (rP (bCrash I) L) := by
      intro f
      induction f with
      | zero =>
        intro c hc
        obtain rfl : c = 12 := by omega
        refine q_iload_n (pc := 21) dM_crash_21 rfl ?_
        refine q_bipush (pc := 22) dM_crash_22 (by decide) (by decide) ?_
        refine q_icmp_ge (tgt := 40) (pc := 24) dM_crash_24 (by decide) (fun h24 => ?_) (fun h24 => ?_)
        · refine q_iconst (pc := 40) dM_crash_40 (by decide) ?_
          refine q_zret rfl (by first | exact Or.inl rfl | exact Or.inr rfl) (pc := 41) dM_crash_41 ?_
          exact rP_of (by unfold bCrash; rw [if_neg (not_not_intro h4)])
        · omega
      | succ f ih =>
        intro c hc
        refine q_iload_n (pc := 21) dM_crash_21 rfl ?_
        refine q_bipush (pc := 22) dM_crash_22 (by decide) (by decide) ?_
        refine q_icmp_ge (tgt := 40) (pc := 24) dM_crash_24 (by decide) (fun h24 => ?_) (fun h24 => ?_)
        · omega
        · refine q_aload_n (pc := 27) dM_crash_27 rfl ?_
          refine q_getR (f := 9) (pc := 28) dM_crash_28 lay_6 (by decide) rfl (by decide) fl_M35 rfl rfl ?_
          refine q_iload_n (pc := 31) dM_crash_31 rfl ?_
          refine q_iconst (pc := 32) dM_crash_32 (by decide) ?_
          refine q_iast (i := c) (pc := 33) dM_crash_33 rfl rfl (by omega) rfl ?_
          refine q_iinc (pc := 34) dM_crash_34 rfl (by decide) rfl ⟨by omega, by omega⟩ ?_
          refine q_goto (tgt := 21) (pc := 37) dM_crash_37 (by decide) ?_
          rw [mrz_up]
          exact ih (c + 1) (by omega)
    have e : ∀ J : qI, J = mrz J 0 := fun J => by funext a j; simp [mrz]
    have h9 := lp 12 0 (by omega)
    rw [← e] at h9
    refine q_aload_n (pc := 9) dM_crash_9 rfl ?_
    refine q_iconst (pc := 10) dM_crash_10 (by decide) ?_
    refine q_putI (f := 10) (pc := 11) dM_crash_11 lay_6 typ_6 (by decide) rfl (by decide) fl_M117 rfl (Or.inl rfl) (Or.inr ⟨rfl, by first | exact Or.inl rfl | exact Or.inr rfl⟩) rfl ?_
    refine q_aload_n (pc := 14) dM_crash_14 rfl ?_
    refine q_iconst (pc := 15) dM_crash_15 (by decide) ?_
    refine q_putI (f := 16) (pc := 16) dM_crash_16 lay_6 typ_6 (by decide) rfl (by decide) fl_M97 rfl (Or.inl rfl) (Or.inl rfl) rfl ?_
    refine q_iconst (pc := 19) dM_crash_19 (by decide) ?_
    refine q_istore_n (pc := 20) dM_crash_20 (by decide) ?_
    exact h9
  · refine q_iconst (pc := 7) dM_crash_7 (by decide) ?_
    refine q_zret rfl (by first | exact Or.inl rfl | exact Or.inr rfl) (pc := 8) dM_crash_8 ?_
    exact rP_of (by unfold bCrash; rw [if_pos h4])
theorem ct_M_point {L n T k d : Nat} (w : Int) (I : qI) (h : mw I n T k d) : qT M_M_point 2 [.inr (some 44), .inl w] L I (rI (if w = 0 then (n : Int) else if w = 1 then (if ¬ I 44 10 = 0 then -2 else (qp (mcm I) n 0 : Nat)) else if w = 2 then (d : Int) else -1) L I) := by
  obtain ⟨⟨hn, hn2⟩, -, -, ⟨hd, -⟩, -⟩ := h
  refine q_enter (by decide) (Nat.le_of_ble_eq_true rfl) ?_
  refine q_iload_n (pc := 0) dM_point_0 rfl ?_
  refine q_iconst (pc := 1) dM_point_1 (by decide) ?_
  refine q_icmp_ne (tgt := 15) (pc := 2) dM_point_2 (by decide) (fun h2 => ?_) (fun h2 => ?_)
  · refine q_iload_n (pc := 15) dM_point_15 rfl ?_
    refine q_if_ne (tgt := 26) (pc := 16) dM_point_16 (by decide) (fun h16 => ?_) (fun h16 => ?_)
    · refine q_iload_n (pc := 26) dM_point_26 rfl ?_
      refine q_iconst (pc := 27) dM_point_27 (by decide) ?_
      refine q_icmp_ne (tgt := 38) (pc := 28) dM_point_28 (by decide) (fun h28 => ?_) (fun h28 => ?_)
      · refine q_iload_n (pc := 38) dM_point_38 rfl ?_
        refine q_iconst (pc := 39) dM_point_39 (by decide) ?_
        refine q_icmp_ne (tgt := 50) (pc := 40) dM_point_40 (by decide) (fun h40 => ?_) (fun h40 => ?_)
        · refine q_iconst (pc := 50) dM_point_50 (by decide) ?_
          refine q_iret rfl (pc := 51) dM_point_51 ?_
          exact ⟨by rw [if_neg h16, if_neg h2, if_neg h40], rfl, rfl⟩
        · refine q_aload_n (pc := 43) dM_point_43 rfl ?_
          refine q_getI (f := 11) (pc := 44) dM_point_44 lay_6 (by decide) rfl (by decide) fl_M94 rfl rfl ?_
          refine q_goto (tgt := 51) (pc := 47) dM_point_47 (by decide) ?_
          refine q_iret rfl (pc := 51) dM_point_51 ?_
          exact ⟨by rw [if_neg h16, if_neg h2, if_pos h40, hd], rfl, rfl⟩
      · exact absurd h28 h2
    · refine q_aload_n (pc := 19) dM_point_19 rfl ?_
      refine q_getI (f := 0) (pc := 20) dM_point_20 lay_6 (by decide) rfl (by decide) fl_M54 rfl rfl ?_
      refine q_goto (tgt := 51) (pc := 23) dM_point_23 (by decide) ?_
      refine q_iret rfl (pc := 51) dM_point_51 ?_
      exact ⟨by rw [if_pos h16, hn], rfl, rfl⟩
  · refine q_aload_n (pc := 5) dM_point_5 rfl ?_
    refine q_getI (f := 10) (pc := 6) dM_point_6 lay_6 (by decide) rfl (by decide) fl_M117 rfl rfl ?_
    refine q_if_eq (tgt := 15) (pc := 9) dM_point_9 (by decide) (fun h9 => ?_) (fun h9 => ?_)
    · refine q_iload_n (pc := 15) dM_point_15 rfl ?_
      refine q_if_ne (tgt := 26) (pc := 16) dM_point_16 (by decide) (fun h16 => ?_) (fun h16 => ?_)
      · refine q_iload_n (pc := 26) dM_point_26 rfl ?_
        refine q_iconst (pc := 27) dM_point_27 (by decide) ?_
        refine q_icmp_ne (tgt := 38) (pc := 28) dM_point_28 (by decide) (fun h28 => ?_) (fun h28 => ?_)
        · exact absurd h2 h28
        · refine q_aload_n (pc := 31) dM_point_31 rfl ?_
          refine q_callV1 (pc := 32) dM_point_32 ((ct_M_complete I hn (by omega))) cd_M_complete in_M_complete se_M_complete ml_M87 rfl (by decide) rfl rfl (Nat.le_of_ble_eq_true rfl) ⟨by decide, by decide⟩ ⟨by decide, by decide⟩ rfl ?_
          refine q_goto (tgt := 51) (pc := 35) dM_point_35 (by decide) ?_
          refine q_iret rfl (pc := 51) dM_point_51 ?_
          exact ⟨by rw [if_neg h16, if_pos h2, if_neg (not_not_intro h9)], rfl, rfl⟩
      · omega
    · refine q_bipush (pc := 12) dM_point_12 (by decide) (by decide) ?_
      refine q_iret rfl (pc := 14) dM_point_14 ?_
      exact ⟨by rw [if_neg (by omega), if_pos h2, if_pos h9], rfl, rfl⟩
theorem ct_M_follow0 {L : Nat} {r : Int} (I : qI) (hr : ¬ (0 ≤ r ∧ r < 2)) : qT M_M_follow 0 [.inr (some 44), .inl r] L I (rI (-1) L I) := by
  refine q_enter (by decide) (Nat.le_of_ble_eq_true rfl) ?_
  refine q_iload_n (pc := 0) dM_follow_0 rfl ?_
  refine q_if_eq (tgt := 11) (pc := 1) dM_follow_1 (by decide) (fun h1 => ?_) (fun h1 => ?_)
  · omega
  · refine q_iload_n (pc := 4) dM_follow_4 rfl ?_
    refine q_iconst (pc := 5) dM_follow_5 (by decide) ?_
    refine q_icmp_eq (tgt := 11) (pc := 6) dM_follow_6 (by decide) (fun h6 => ?_) (fun h6 => ?_)
    · omega
    · refine q_iconst (pc := 9) dM_follow_9 (by decide) ?_
      refine q_iret rfl (pc := 10) dM_follow_10 ?_
      exact ⟨rfl, rfl, rfl⟩
theorem ct_M_follow {L r : Nat} (I : qI) (hr : r < 2) : qT M_M_follow 0 [.inr (some 44), .inl ((r : Nat) : Int)] L I (rP (if ¬ I 44 10 = 0 then (-2, I) else (I 44 11, q_up I 57 r (I 44 11))) L) := by
  refine q_enter (by decide) (Nat.le_of_ble_eq_true rfl) ?_
  have tl : qE M_M_follow 0 11 [some (.inr (some 44)), some (.inl ((r : Nat) : Int))] [] L I (rP (if ¬ I 44 10 = 0 then (-2, I) else (I 44 11, q_up I 57 r (I 44 11))) L) := by
    refine q_aload_n (pc := 11) dM_follow_11 rfl ?_
    refine q_getI (f := 10) (pc := 12) dM_follow_12 lay_6 (by decide) rfl (by decide) fl_M117 rfl rfl ?_
    refine q_if_eq (tgt := 21) (pc := 15) dM_follow_15 (by decide) (fun h15 => ?_) (fun h15 => ?_)
    · refine q_aload_n (pc := 21) dM_follow_21 rfl ?_
      refine q_getR (f := 17) (pc := 22) dM_follow_22 lay_6 (by decide) rfl (by decide) fl_M47 rfl rfl ?_
      refine q_iload_n (pc := 25) dM_follow_25 rfl ?_
      refine q_aload_n (pc := 26) dM_follow_26 rfl ?_
      refine q_getI (f := 11) (pc := 27) dM_follow_27 lay_6 (by decide) rfl (by decide) fl_M94 rfl rfl ?_
      refine q_iast (i := r) (pc := 30) dM_follow_30 rfl rfl (by omega) rfl ?_
      refine q_aload_n (pc := 31) dM_follow_31 rfl ?_
      refine q_getI (f := 11) (pc := 32) dM_follow_32 lay_6 (by decide) rfl (by decide) fl_M94 rfl rfl ?_
      refine q_iret rfl (pc := 35) dM_follow_35 ?_
      refine rP_of ?_
      rw [if_neg (not_not_intro h15), q_up_off 44 (by decide)]
    · refine q_bipush (pc := 18) dM_follow_18 (by decide) (by decide) ?_
      refine q_iret rfl (pc := 20) dM_follow_20 ?_
      exact rP_of (by rw [if_pos h15])
  refine q_iload_n (pc := 0) dM_follow_0 rfl ?_
  refine q_if_eq (tgt := 11) (pc := 1) dM_follow_1 (by decide) (fun h1 => ?_) (fun h1 => ?_)
  · exact tl
  · refine q_iload_n (pc := 4) dM_follow_4 rfl ?_
    refine q_iconst (pc := 5) dM_follow_5 (by decide) ?_
    refine q_icmp_eq (tgt := 11) (pc := 6) dM_follow_6 (by decide) (fun h6 => ?_) (fun h6 => ?_)
    · exact tl
    · omega
