/-! The system's own methods, third part. -/
theorem ct_Q_shift0 {L : Nat} (t : Int) {a b m : Int} (I : qI) (hk : ¬ ((0 ≤ a ∧ a < 32) ∧ (0 ≤ b ∧ b < 32) ∧ ¬ a = b ∧ 1 ≤ m ∧ m ≤ 9999)) : qT M_Q_shift 5 [.inr (some 1), .inl t, .inl a, .inl b, .inl m] L I (rI (-1) L I) := by
  refine q_enter (by decide) (Nat.le_of_ble_eq_true rfl) ?_
  refine q_iload_n (pc := 0) dQ_shift_0 rfl ?_
  refine q_callS1 (pc := 1) dQ_shift_1 ((ct_Q_isKey a I)) cd_Q_isKey st_Q_isKey ml_Q62 rfl (Nat.le_of_ble_eq_true rfl) ⟨by decide, by decide⟩ ⟨by decide, by decide⟩ rfl ?_
  refine q_if_eq (tgt := 33) (pc := 4) dQ_shift_4 (by decide) (fun h4 => ?_) (fun h4 => ?_)
  · refine q_iconst (pc := 33) dQ_shift_33 (by decide) ?_
    refine q_iret rfl (pc := 34) dQ_shift_34 ?_
    exact ⟨rfl, rfl, rfl⟩
  · have h9 := of_decide_eq_true (bi_ne h4)
    refine q_iload_n (pc := 7) dQ_shift_7 rfl ?_
    refine q_callS1 (pc := 8) dQ_shift_8 ((ct_Q_isKey b I)) cd_Q_isKey st_Q_isKey ml_Q62 rfl (Nat.le_of_ble_eq_true rfl) ⟨by decide, by decide⟩ ⟨by decide, by decide⟩ rfl ?_
    refine q_if_eq (tgt := 33) (pc := 11) dQ_shift_11 (by decide) (fun h11 => ?_) (fun h11 => ?_)
    · refine q_iconst (pc := 33) dQ_shift_33 (by decide) ?_
      refine q_iret rfl (pc := 34) dQ_shift_34 ?_
      exact ⟨rfl, rfl, rfl⟩
    · have h8 := of_decide_eq_true (bi_ne h11)
      refine q_iload_n (pc := 14) dQ_shift_14 rfl ?_
      refine q_iload_n (pc := 15) dQ_shift_15 rfl ?_
      refine q_icmp_eq (tgt := 33) (pc := 16) dQ_shift_16 (by decide) (fun h16 => ?_) (fun h16 => ?_)
      · refine q_iconst (pc := 33) dQ_shift_33 (by decide) ?_
        refine q_iret rfl (pc := 34) dQ_shift_34 ?_
        exact ⟨rfl, rfl, rfl⟩
      · refine q_iload (pc := 19) dQ_shift_19 rfl ?_
        refine q_iconst (pc := 21) dQ_shift_21 (by decide) ?_
        refine q_icmp_lt (tgt := 33) (pc := 22) dQ_shift_22 (by decide) (fun h22 => ?_) (fun h22 => ?_)
        · refine q_iconst (pc := 33) dQ_shift_33 (by decide) ?_
          refine q_iret rfl (pc := 34) dQ_shift_34 ?_
          exact ⟨rfl, rfl, rfl⟩
        · refine q_iload (pc := 25) dQ_shift_25 rfl ?_
          refine q_sipush (pc := 27) dQ_shift_27 (by decide) (by decide) ?_
          refine q_icmp_le (tgt := 35) (pc := 30) dQ_shift_30 (by decide) (fun h30 => ?_) (fun h30 => ?_)
          · omega
          · refine q_iconst (pc := 33) dQ_shift_33 (by decide) ?_
            refine q_iret rfl (pc := 34) dQ_shift_34 ?_
            exact ⟨rfl, rfl, rfl⟩
/-- the second touch of a shift -/
def kN (I : qI) : Nat := (I 41 1).toNat
def aSh3 (J : qI) (n : Nat) (t : Int) (a b : Nat) (m : Int) : Int × qI :=
  if lval J a n - m < 0 ∨ 9999 < lval J b n + m then (-8, J)
  else (((n + 2 : Nat) : Int), ladd (ladd (q_up (q_up J 11 a t) 11 b t) n 0 t a (lval J a n - m) ((a / 4 % 2 : Nat) : Int)) (n + 1) 1 t b (lval J b n + m) ((b / 4 % 2 : Nat) : Int))
def aSh2 (J : qI) (n d : Nat) (t : Int) (a b : Nat) (m : Int) : Int × qI :=
  if (qtch J n (kN J) d (b / 4) ((a / 4 : Nat) : Int)).1 = 0 then aSh3 (qtch J n (kN J) d (b / 4) ((a / 4 : Nat) : Int)).2 n t a b m else qtch J n (kN J) d (b / 4) ((a / 4 : Nat) : Int)
def aShift (I : qI) (n k d : Nat) (t : Int) (a b : Nat) (m : Int) : Int × qI :=
  if qrc I t a b = 0 then (if (qtch I n k d (a / 4) ((b / 4 : Nat) : Int)).1 = 0 then aSh2 (qtch I n k d (a / 4) ((b / 4 : Nat) : Int)).2 n d t a b m else qtch I n k d (a / 4) ((b / 4 : Nat) : Int)) else (qrc I t a b, I)
theorem lval_bd {I : qI} {k : Int} {n : Nat} (h : ∀ l, 1 ≤ l → l ≤ n → 0 ≤ I 6 l ∧ I 6 l ≤ 9999) : 0 ≤ lval I k n ∧ lval I k n ≤ 9999 := by
  unfold lval
  split
  · omega
  · exact h _ (by omega) (ql_le _ _)
theorem ct_Q_shift {L n T k d a b : Nat} (t m : Int) (I : qI) (h : cw I n T k d) (ha : a < 32) (hb : b < 32) (hab : a ≠ b) (hm : 1 ≤ m ∧ m ≤ 9999) : qT M_Q_shift 5 [.inr (some 1), .inl t, .inl ((a : Nat) : Int), .inl ((b : Nat) : Int), .inl m] L I (rP (aShift I n k d t a b m) L) := by
  obtain ⟨⟨hn, hn2⟩, ⟨hT, hT2⟩, ⟨hk, hk2⟩, ⟨hd, hd2⟩, -, -, -, -, -, -, hv⟩ := h
  refine q_enter (by decide) (Nat.le_of_ble_eq_true rfl) ?_
  refine q_iload_n (pc := 0) dQ_shift_0 rfl ?_
  refine q_callS1 (pc := 1) dQ_shift_1 ((ct_Q_isKey a I)) cd_Q_isKey st_Q_isKey ml_Q62 rfl (Nat.le_of_ble_eq_true rfl) ⟨by decide, by decide⟩ ⟨by decide, by decide⟩ rfl ?_
  refine q_if_eq (tgt := 33) (pc := 4) dQ_shift_4 (by decide) (fun h4 => ?_) (fun h4 => ?_)
  · have := of_decide_eq_false (bi_eq h4)
    omega
  · refine q_iload_n (pc := 7) dQ_shift_7 rfl ?_
    refine q_callS1 (pc := 8) dQ_shift_8 ((ct_Q_isKey b I)) cd_Q_isKey st_Q_isKey ml_Q62 rfl (Nat.le_of_ble_eq_true rfl) ⟨by decide, by decide⟩ ⟨by decide, by decide⟩ rfl ?_
    refine q_if_eq (tgt := 33) (pc := 11) dQ_shift_11 (by decide) (fun h11 => ?_) (fun h11 => ?_)
    · have := of_decide_eq_false (bi_eq h11)
      omega
    · refine q_iload_n (pc := 14) dQ_shift_14 rfl ?_
      refine q_iload_n (pc := 15) dQ_shift_15 rfl ?_
      refine q_icmp_eq (tgt := 33) (pc := 16) dQ_shift_16 (by decide) (fun h16 => ?_) (fun h16 => ?_)
      · omega
      · refine q_iload (pc := 19) dQ_shift_19 rfl ?_
        refine q_iconst (pc := 21) dQ_shift_21 (by decide) ?_
        refine q_icmp_lt (tgt := 33) (pc := 22) dQ_shift_22 (by decide) (fun h22 => ?_) (fun h22 => ?_)
        · omega
        · refine q_iload (pc := 25) dQ_shift_25 rfl ?_
          refine q_sipush (pc := 27) dQ_shift_27 (by decide) (by decide) ?_
          refine q_icmp_le (tgt := 35) (pc := 30) dQ_shift_30 (by decide) (fun h30 => ?_) (fun h30 => ?_)
          · refine q_aload_n (pc := 35) dQ_shift_35 rfl ?_
            refine q_iload_n (pc := 36) dQ_shift_36 rfl ?_
            refine q_iload_n (pc := 37) dQ_shift_37 rfl ?_
            refine q_iload_n (pc := 38) dQ_shift_38 rfl ?_
            refine q_callV1 (pc := 39) dQ_shift_39 ((ct_Q_refusalOfChanges t I hT hT2 ha hb)) cd_Q_refusalOfChanges in_Q_refusalOfChanges se_Q_refusalOfChanges ml_Q85 rfl (by decide) rfl rfl (Nat.le_of_ble_eq_true rfl) ⟨by decide, by decide⟩ ⟨by decide, by decide⟩ rfl ?_
            refine q_istore (pc := 42) dQ_shift_42 (by decide) ?_
            refine q_iload (pc := 44) dQ_shift_44 rfl ?_
            refine q_if_ne (tgt := 63) (pc := 46) dQ_shift_46 (by decide) (fun h46 => ?_) (fun h46 => ?_)
            · refine q_iload (pc := 63) dQ_shift_63 rfl ?_
              refine q_if_ne (tgt := 82) (pc := 65) dQ_shift_65 (by decide) (fun h65 => ?_) (fun h65 => ?_)
              · refine q_iload (pc := 82) dQ_shift_82 rfl ?_
                refine q_if_eq (tgt := 90) (pc := 84) dQ_shift_84 (by decide) (fun h84 => ?_) (fun h84 => ?_)
                · exact absurd h84 h46
                · refine q_iload (pc := 87) dQ_shift_87 rfl ?_
                  refine q_iret rfl (pc := 89) dQ_shift_89 ?_
                  exact rP_of (by unfold aShift; rw [if_neg h46])
              · exact absurd h65 h46
            · have hn9 := qrc_n hn h46
              refine q_aload_n (pc := 49) dQ_shift_49 rfl ?_
              refine q_iload_n (pc := 50) dQ_shift_50 rfl ?_
              refine q_callS1 (pc := 51) dQ_shift_51 ((ct_Q_pageOf a I)) cd_Q_pageOf st_Q_pageOf ml_Q70 rfl (Nat.le_of_ble_eq_true rfl) ⟨by decide, by decide⟩ ⟨by decide, by decide⟩ rfl ?_
              refine q_iload_n (pc := 54) dQ_shift_54 rfl ?_
              refine q_callS1 (pc := 55) dQ_shift_55 ((ct_Q_pageOf b I)) cd_Q_pageOf st_Q_pageOf ml_Q70 rfl (Nat.le_of_ble_eq_true rfl) ⟨by decide, by decide⟩ ⟨by decide, by decide⟩ rfl ?_
              rw [td4, td4]
              refine q_callV1 (pc := 58) dQ_shift_58 ((ct_Q_touch ((b / 4 : Nat) : Int) I hn hn2 hk hk2 hd (by omega))) cd_Q_touch in_Q_touch se_Q_touch ml_Q74 rfl (by decide) rfl rfl (Nat.le_of_ble_eq_true rfl) ⟨by decide, by decide⟩ ⟨by decide, by decide⟩ rfl ?_
              refine q_istore (pc := 61) dQ_shift_61 (by decide) ?_
              refine q_iload (pc := 63) dQ_shift_63 rfl ?_
              refine q_if_ne (tgt := 82) (pc := 65) dQ_shift_65 (by decide) (fun h65 => ?_) (fun h65 => ?_)
              · refine q_iload (pc := 82) dQ_shift_82 rfl ?_
                refine q_if_eq (tgt := 90) (pc := 84) dQ_shift_84 (by decide) (fun h84 => ?_) (fun h84 => ?_)
                · exact absurd h84 h65
                · refine q_iload (pc := 87) dQ_shift_87 rfl ?_
                  refine q_iret rfl (pc := 89) dQ_shift_89 ?_
                  exact rP_of (by unfold aShift; rw [if_pos h46, if_neg h65])
              · have e9 : aShift I n k d t a b m = aSh2 (qtch I n k d (a / 4) ((b / 4 : Nat) : Int)).2 n d t a b m := by unfold aShift; rw [if_pos h46, if_pos h65]
                rw [e9]
                have o1 : ∀ q, q ≠ 42 → q ≠ 41 → (qtch I n k d (a / 4) ((b / 4 : Nat) : Int)).2 q = I q := fun q => qtch_off
                obtain ⟨k1, hk1, ek1⟩ := qtch_k (n := n) (d := d) (p := a / 4) (o := ((b / 4 : Nat) : Int)) hk hk2
                generalize (qtch I n k d (a / 4) ((b / 4 : Nat) : Int)).2 = J at o1 ek1 ⊢
                have ekN : kN J = k1 := by unfold kN; rw [ek1]; rfl
                have hnJ : J 2 6 = (n : Int) := by rw [o1 2 (by decide) (by decide)]; exact hn
                have hdJ : J 1 6 = (d : Int) := by rw [o1 1 (by decide) (by decide)]; exact hd
                refine q_aload_n (pc := 68) dQ_shift_68 rfl ?_
                refine q_iload_n (pc := 69) dQ_shift_69 rfl ?_
                refine q_callS1 (pc := 70) dQ_shift_70 ((ct_Q_pageOf b J)) cd_Q_pageOf st_Q_pageOf ml_Q70 rfl (Nat.le_of_ble_eq_true rfl) ⟨by decide, by decide⟩ ⟨by decide, by decide⟩ rfl ?_
                refine q_iload_n (pc := 73) dQ_shift_73 rfl ?_
                refine q_callS1 (pc := 74) dQ_shift_74 ((ct_Q_pageOf a J)) cd_Q_pageOf st_Q_pageOf ml_Q70 rfl (Nat.le_of_ble_eq_true rfl) ⟨by decide, by decide⟩ ⟨by decide, by decide⟩ rfl ?_
                rw [td4, td4]
                refine q_callV1 (pc := 77) dQ_shift_77 ((ct_Q_touch (k := kN J) ((a / 4 : Nat) : Int) J hnJ hn2 (by rw [ekN]; exact ek1) (by omega) hdJ (by omega))) cd_Q_touch in_Q_touch se_Q_touch ml_Q74 rfl (by decide) rfl rfl (Nat.le_of_ble_eq_true rfl) ⟨by decide, by decide⟩ ⟨by decide, by decide⟩ rfl ?_
                refine q_istore (pc := 80) dQ_shift_80 (by decide) ?_
                refine q_iload (pc := 82) dQ_shift_82 rfl ?_
                refine q_if_eq (tgt := 90) (pc := 84) dQ_shift_84 (by decide) (fun h84 => ?_) (fun h84 => ?_)
                · have e8 : aSh2 J n d t a b m = aSh3 (qtch J n (kN J) d (b / 4) ((a / 4 : Nat) : Int)).2 n t a b m := by unfold aSh2; rw [if_pos h84]
                  rw [e8]
                  have o2 : ∀ q, q ≠ 42 → q ≠ 41 → (qtch J n (kN J) d (b / 4) ((a / 4 : Nat) : Int)).2 q = J q := fun q => qtch_off
                  generalize (qtch J n (kN J) d (b / 4) ((a / 4 : Nat) : Int)).2 = K at o2 ⊢
                  have hnK : K 2 6 = (n : Int) := by rw [o2 2 (by decide) (by decide)]; exact hnJ
                  have hvK : ∀ l, 1 ≤ l → l ≤ n → 0 ≤ K 6 l ∧ K 6 l ≤ 9999 := by rw [o2 6 (by decide) (by decide), o1 6 (by decide) (by decide)]; exact hv
                  have b1 := lval_bd (k := (a : Int)) hvK
                  have b2 := lval_bd (k := (b : Int)) hvK
                  refine q_aload_n (pc := 90) dQ_shift_90 rfl ?_
                  refine q_getR (f := 0) (pc := 91) dQ_shift_91 lay_0 (by decide) rfl (by decide) fl_Q10 rfl rfl ?_
                  refine q_iload_n (pc := 94) dQ_shift_94 rfl ?_
                  refine q_aload_n (pc := 95) dQ_shift_95 rfl ?_
                  refine q_getR (f := 0) (pc := 96) dQ_shift_96 lay_0 (by decide) rfl (by decide) fl_Q10 rfl rfl ?_
                  refine q_getI (f := 6) (pc := 99) dQ_shift_99 lay_1 (by decide) rfl (by decide) fl_Q55 rfl rfl ?_
                  rw [hnK]
                  refine q_callV1 (pc := 102) dQ_shift_102 ((ct_L_valueUpTo a K hn2)) cd_L_valueUpTo in_L_valueUpTo se_L_valueUpTo ml_Q82 rfl (by decide) rfl rfl (Nat.le_of_ble_eq_true rfl) ⟨by decide, by decide⟩ ⟨by decide, by decide⟩ rfl ?_
                  refine q_iload (pc := 105) dQ_shift_105 rfl ?_
                  refine q_isub (pc := 107) dQ_shift_107 rfl ⟨by omega, by omega⟩ ?_
                  refine q_istore (pc := 108) dQ_shift_108 (by decide) ?_
                  refine q_aload_n (pc := 110) dQ_shift_110 rfl ?_
                  refine q_getR (f := 0) (pc := 111) dQ_shift_111 lay_0 (by decide) rfl (by decide) fl_Q10 rfl rfl ?_
                  refine q_iload_n (pc := 114) dQ_shift_114 rfl ?_
                  refine q_aload_n (pc := 115) dQ_shift_115 rfl ?_
                  refine q_getR (f := 0) (pc := 116) dQ_shift_116 lay_0 (by decide) rfl (by decide) fl_Q10 rfl rfl ?_
                  refine q_getI (f := 6) (pc := 119) dQ_shift_119 lay_1 (by decide) rfl (by decide) fl_Q55 rfl rfl ?_
                  rw [hnK]
                  refine q_callV1 (pc := 122) dQ_shift_122 ((ct_L_valueUpTo b K hn2)) cd_L_valueUpTo in_L_valueUpTo se_L_valueUpTo ml_Q82 rfl (by decide) rfl rfl (Nat.le_of_ble_eq_true rfl) ⟨by decide, by decide⟩ ⟨by decide, by decide⟩ rfl ?_
                  refine q_iload (pc := 125) dQ_shift_125 rfl ?_
                  refine q_iadd (pc := 127) dQ_shift_127 rfl ⟨by omega, by omega⟩ ?_
                  refine q_istore (pc := 128) dQ_shift_128 (by decide) ?_
                  refine q_iload (pc := 130) dQ_shift_130 rfl ?_
                  refine q_if_lt (tgt := 143) (pc := 132) dQ_shift_132 (by decide) (fun h132 => ?_) (fun h132 => ?_)
                  · refine q_bipush (pc := 143) dQ_shift_143 (by decide) (by decide) ?_
                    refine q_iret rfl (pc := 145) dQ_shift_145 ?_
                    exact rP_of (by unfold aSh3; rw [if_pos (Or.inl h132)])
                  · refine q_iload (pc := 135) dQ_shift_135 rfl ?_
                    refine q_sipush (pc := 137) dQ_shift_137 (by decide) (by decide) ?_
                    refine q_icmp_le (tgt := 146) (pc := 140) dQ_shift_140 (by decide) (fun h140 => ?_) (fun h140 => ?_)
                    · have e7 : ladd (q_up (q_up K 11 a t) 11 b t) n 0 t a (lval K a n - m) (((a : Int).tdiv 4).tmod 2) 2 6 = ((n + 1 : Nat) : Int) := by simp [ladd, q_up]
                      have e6 : q_up (q_up K 11 a t) 11 b t 2 6 = (n : Int) := by rw [q_up_off 2 (by decide), q_up_off 2 (by decide)]; exact hnK
                      refine q_aload_n (pc := 146) dQ_shift_146 rfl ?_
                      refine q_getR (f := 1) (pc := 147) dQ_shift_147 lay_0 (by decide) rfl (by decide) fl_Q19 rfl rfl ?_
                      refine q_iload_n (pc := 150) dQ_shift_150 rfl ?_
                      refine q_iload_n (pc := 151) dQ_shift_151 rfl ?_
                      refine q_callV0 (pc := 152) dQ_shift_152 ((ct_T_hold t _ ha)) cd_T_hold in_T_hold se_T_hold ml_Q78 rfl (by decide) rfl rfl (Nat.le_of_ble_eq_true rfl) ⟨by decide, by decide⟩ ⟨by decide, by decide⟩ rfl ?_
                      refine q_aload_n (pc := 155) dQ_shift_155 rfl ?_
                      refine q_getR (f := 1) (pc := 156) dQ_shift_156 lay_0 (by decide) rfl (by decide) fl_Q19 rfl rfl ?_
                      refine q_iload_n (pc := 159) dQ_shift_159 rfl ?_
                      refine q_iload_n (pc := 160) dQ_shift_160 rfl ?_
                      refine q_callV0 (pc := 161) dQ_shift_161 ((ct_T_hold t _ hb)) cd_T_hold in_T_hold se_T_hold ml_Q78 rfl (by decide) rfl rfl (Nat.le_of_ble_eq_true rfl) ⟨by decide, by decide⟩ ⟨by decide, by decide⟩ rfl ?_
                      refine q_aload_n (pc := 164) dQ_shift_164 rfl ?_
                      refine q_getR (f := 0) (pc := 165) dQ_shift_165 lay_0 (by decide) rfl (by decide) fl_Q10 rfl rfl ?_
                      refine q_iload_n (pc := 168) dQ_shift_168 rfl ?_
                      refine q_iload_n (pc := 169) dQ_shift_169 rfl ?_
                      refine q_iload (pc := 170) dQ_shift_170 rfl ?_
                      refine q_iconst (pc := 172) dQ_shift_172 (by decide) ?_
                      refine q_callV1 (pc := 173) dQ_shift_173 ((ct_L_addChange t a _ 0 _ e6 (by omega))) cd_L_addChange in_L_addChange se_L_addChange ml_Q88 rfl (by decide) rfl rfl (Nat.le_of_ble_eq_true rfl) ⟨by decide, by decide⟩ ⟨by decide, by decide⟩ rfl ?_
                      refine q_pop (pc := 176) dQ_shift_176 ?_
                      refine q_aload_n (pc := 177) dQ_shift_177 rfl ?_
                      refine q_getR (f := 0) (pc := 178) dQ_shift_178 lay_0 (by decide) rfl (by decide) fl_Q10 rfl rfl ?_
                      refine q_iload_n (pc := 181) dQ_shift_181 rfl ?_
                      refine q_iload_n (pc := 182) dQ_shift_182 rfl ?_
                      refine q_iload (pc := 183) dQ_shift_183 rfl ?_
                      refine q_iconst (pc := 185) dQ_shift_185 (by decide) ?_
                      refine q_callV1 (pc := 186) dQ_shift_186 ((ct_L_addChange t b _ 1 _ e7 (by omega))) cd_L_addChange in_L_addChange se_L_addChange ml_Q88 rfl (by decide) rfl rfl (Nat.le_of_ble_eq_true rfl) ⟨by decide, by decide⟩ ⟨by decide, by decide⟩ rfl ?_
                      refine q_iret rfl (pc := 189) dQ_shift_189 ?_
                      exact rP_of (by unfold aSh3; rw [if_neg (by omega), td4, tm2, td4, tm2]; rfl)
                    · refine q_bipush (pc := 143) dQ_shift_143 (by decide) (by decide) ?_
                      refine q_iret rfl (pc := 145) dQ_shift_145 ?_
                      exact rP_of (by unfold aSh3; rw [if_pos (Or.inr (by omega))])
                · refine q_iload (pc := 87) dQ_shift_87 rfl ?_
                  refine q_iret rfl (pc := 89) dQ_shift_89 ?_
                  exact rP_of (by unfold aSh2; rw [if_neg h84])
          · omega
theorem tac_nat {I : qI} {T : Nat} {t : Int} (hT : I 9 2 = (T : Int)) (h : tac I t = true) : ∃ s : Nat, 1 ≤ s ∧ s ≤ T ∧ t = (s : Int) ∧ I 10 s ≠ 0 := by
  have := of_decide_eq_true h
  exact ⟨t.toNat, by omega, by omega, by omega, this.2.2⟩
theorem qrt_0 {I : qI} {t : Int} (h : qrt I t = 0) : I 1 5 ≠ 0 ∧ tac I t = true := by
  unfold qrt at h
  split at h
  · omega
  · next h1 =>
    split at h
    · next h2 => exact ⟨h1, h2⟩
    · omega
theorem ct_Q_commit0 {L n T k d : Nat} (t : Int) (I : qI) (h : cw I n T k d) (h0 : qrt I t ≠ 0) : qT M_Q_commit 2 [.inr (some 1), .inl t] L I (rI (qrt I t) L I) := by
  obtain ⟨-, ⟨hT, hT2⟩, -⟩ := h
  refine q_enter (by decide) (Nat.le_of_ble_eq_true rfl) ?_
  refine q_aload_n (pc := 0) dQ_commit_0 rfl ?_
  refine q_iload_n (pc := 1) dQ_commit_1 rfl ?_
  refine q_callV1 (pc := 2) dQ_commit_2 ((ct_Q_refusalOfTransaction t I hT hT2)) cd_Q_refusalOfTransaction in_Q_refusalOfTransaction se_Q_refusalOfTransaction ml_Q92 rfl (by decide) rfl rfl (Nat.le_of_ble_eq_true rfl) ⟨by decide, by decide⟩ ⟨by decide, by decide⟩ rfl ?_
  refine q_istore_n (pc := 5) dQ_commit_5 (by decide) ?_
  refine q_iload_n (pc := 6) dQ_commit_6 rfl ?_
  refine q_if_eq (tgt := 12) (pc := 7) dQ_commit_7 (by decide) (fun h7 => ?_) (fun h7 => ?_)
  · exact absurd h7 h0
  · refine q_iload_n (pc := 10) dQ_commit_10 rfl ?_
    refine q_iret rfl (pc := 11) dQ_commit_11 ?_
    exact ⟨rfl, rfl, rfl⟩
theorem tfin_off {I : qI} {t a : Nat} (h1 : a ≠ 9) (h2 : a ≠ 10) (h3 : a ≠ 11) : tfin I t a = I a := by
  funext j
  simp [tfin, tfr, q_up, h1, h2, h3]
theorem ct_Q_commit {L n T k d t : Nat} (I : qI) (h : cw I n T k d) (h0 : qrt I (t : Int) = 0) (ht : t ≤ 60) (hn3 : n < 187) : qT M_Q_commit 2 [.inr (some 1), .inl ((t : Nat) : Int)] L I (rI ((n + 1 : Nat) : Int) L (lend (tfin I t) n t 1)) := by
  obtain ⟨⟨hn, hn2⟩, ⟨hT, hT2⟩, -, -, -, -, hA, -⟩ := h
  refine q_enter (by decide) (Nat.le_of_ble_eq_true rfl) ?_
  refine q_aload_n (pc := 0) dQ_commit_0 rfl ?_
  refine q_iload_n (pc := 1) dQ_commit_1 rfl ?_
  refine q_callV1 (pc := 2) dQ_commit_2 ((ct_Q_refusalOfTransaction t I hT hT2)) cd_Q_refusalOfTransaction in_Q_refusalOfTransaction se_Q_refusalOfTransaction ml_Q92 rfl (by decide) rfl rfl (Nat.le_of_ble_eq_true rfl) ⟨by decide, by decide⟩ ⟨by decide, by decide⟩ rfl ?_
  refine q_istore_n (pc := 5) dQ_commit_5 (by decide) ?_
  refine q_iload_n (pc := 6) dQ_commit_6 rfl ?_
  refine q_if_eq (tgt := 12) (pc := 7) dQ_commit_7 (by decide) (fun h7 => ?_) (fun h7 => ?_)
  · refine q_aload_n (pc := 12) dQ_commit_12 rfl ?_
    refine q_getR (f := 1) (pc := 13) dQ_commit_13 lay_0 (by decide) rfl (by decide) fl_Q19 rfl rfl ?_
    refine q_iload_n (pc := 16) dQ_commit_16 rfl ?_
    refine q_callV0 (pc := 17) dQ_commit_17 ((ct_T_finish ht I ⟨by omega, by omega⟩)) cd_T_finish in_T_finish se_T_finish ml_Q95 rfl (by decide) rfl rfl (Nat.le_of_ble_eq_true rfl) ⟨by decide, by decide⟩ ⟨by decide, by decide⟩ rfl ?_
    refine q_aload_n (pc := 20) dQ_commit_20 rfl ?_
    refine q_getR (f := 0) (pc := 21) dQ_commit_21 lay_0 (by decide) rfl (by decide) fl_Q10 rfl rfl ?_
    refine q_iload_n (pc := 24) dQ_commit_24 rfl ?_
    refine q_iconst (pc := 25) dQ_commit_25 (by decide) ?_
    refine q_callV1 (pc := 26) dQ_commit_26 ((ct_L_addEnd 1 _ ht (by rw [tfin_off (by decide) (by decide) (by decide)]; exact hn) hn3)) cd_L_addEnd in_L_addEnd se_L_addEnd ml_Q98 rfl (by decide) rfl rfl (Nat.le_of_ble_eq_true rfl) ⟨by decide, by decide⟩ ⟨by decide, by decide⟩ rfl ?_
    refine q_iret rfl (pc := 29) dQ_commit_29 ?_
    exact ⟨rfl, rfl, rfl⟩
  · exact absurd h0 h7
/-- one key of a roll back -/
def nN (I : qI) : Nat := (I 2 6).toNat
def lrb1 (I : qI) (t k : Nat) : qI := if qf (lfp I t k) (nN I) 1 = 0 then I else ladd I (nN I) 0 t k (lval I k (qf (lfp I t k) (nN I) 1 - 1)) ((k / 4 % 2 : Nat) : Int)
def lrb (t : Nat) : Nat → Nat → qI → qI
  | 0, _, I => I
  | f + 1, k, I => lrb t f (k + 1) (lrb1 I t k)
theorem ladd_n {I : qI} {n : Nat} {kd t k v g : Int} : ladd I n kd t k v g 2 6 = ((n + 1 : Nat) : Int) := by simp [ladd, q_up]
theorem nN_of {I : qI} {n : Nat} (h : I 2 6 = (n : Int)) : nN I = n := by unfold nN; rw [h]; rfl
theorem lrb1_n {I : qI} {t k n : Nat} (h : I 2 6 = (n : Int)) : ∃ m : Nat, n ≤ m ∧ m ≤ n + 1 ∧ lrb1 I t k 2 6 = (m : Int) := by
  unfold lrb1
  split
  · exact ⟨n, by omega, by omega, h⟩
  · exact ⟨n + 1, by omega, by omega, by rw [ladd_n, nN_of h]⟩
theorem lrb_n {t : Nat} : ∀ {f k : Nat} {I : qI} {n : Nat}, I 2 6 = (n : Int) → ∃ m : Nat, n ≤ m ∧ lrb t f k I 2 6 = (m : Int)
  | 0, k, I, n, h => ⟨n, by omega, h⟩
  | f + 1, k, I, n, h => by
    obtain ⟨m, h1, h2, h3⟩ := lrb1_n (t := t) (k := k) h
    obtain ⟨m', h4, h5⟩ := lrb_n (t := t) (f := f) (k := k + 1) h3
    exact ⟨m', by omega, h5⟩
theorem lp_L_rollBack {L t : Nat} (ht : t ≤ 60) : ∀ (f k : Nat) (I : qI) (n : Nat) (z : Option qV), I 2 6 = (n : Int) → k + f = 32 → (lrb t f k I) 2 6 ≤ 186 → qE M_L_rollBack 2 2 [some (.inr (some 2)), some (.inl ((t : Nat) : Int)), some (.inl ((k : Nat) : Int)), z] [] L I (rI ((nN (lrb t f k I) + 1 : Nat) : Int) L (lend (lrb t f k I) (nN (lrb t f k I)) t 0)) := by
  intro f
  induction f with
  | zero =>
    intro k I n z hn hk hB
    have hB : I 2 6 ≤ 186 := hB
    refine q_iload_n (pc := 2) dL_rollBack_2 rfl ?_
    refine q_bipush (pc := 3) dL_rollBack_3 (by decide) (by decide) ?_
    refine q_icmp_ge (tgt := 41) (pc := 5) dL_rollBack_5 (by decide) (fun h5 => ?_) (fun h5 => ?_)
    · refine q_aload_n (pc := 41) dL_rollBack_41 rfl ?_
      refine q_iload_n (pc := 42) dL_rollBack_42 rfl ?_
      refine q_iconst (pc := 43) dL_rollBack_43 (by decide) ?_
      refine q_callV1 (pc := 44) dL_rollBack_44 ((ct_L_addEnd 0 I ht hn (by omega))) cd_L_addEnd in_L_addEnd se_L_addEnd ml_L61 rfl (by decide) rfl rfl (Nat.le_of_ble_eq_true rfl) ⟨by decide, by decide⟩ ⟨by decide, by decide⟩ rfl ?_
      refine q_iret rfl (pc := 47) dL_rollBack_47 ?_
      exact ⟨by rw [show lrb t 0 k I = I from rfl, nN_of hn], rfl, by rw [show lrb t 0 k I = I from rfl, nN_of hn]⟩
    · omega
  | succ f ih =>
    intro k I n z hn hk hB
    obtain ⟨m, hm1, hm2, hm3⟩ := lrb1_n (t := t) (k := k) hn
    obtain ⟨m', hm4, hm5⟩ := lrb_n (t := t) (f := f) (k := k + 1) hm3
    have hB' : (lrb t f (k + 1) (lrb1 I t k)) 2 6 ≤ 186 := hB
    have hfl := qf_has (p := lfp I t k) (f := n) (l := 1)
    refine q_iload_n (pc := 2) dL_rollBack_2 rfl ?_
    refine q_bipush (pc := 3) dL_rollBack_3 (by decide) (by decide) ?_
    refine q_icmp_ge (tgt := 41) (pc := 5) dL_rollBack_5 (by decide) (fun h5 => ?_) (fun h5 => ?_)
    · omega
    · refine q_aload_n (pc := 8) dL_rollBack_8 rfl ?_
      refine q_iload_n (pc := 9) dL_rollBack_9 rfl ?_
      refine q_iload_n (pc := 10) dL_rollBack_10 rfl ?_
      refine q_callV1 (pc := 11) dL_rollBack_11 ((ct_L_firstChange t k I hn (by omega))) cd_L_firstChange in_L_firstChange se_L_firstChange ml_L51 rfl (by decide) rfl rfl (Nat.le_of_ble_eq_true rfl) ⟨by decide, by decide⟩ ⟨by decide, by decide⟩ rfl ?_
      refine q_istore_n (pc := 14) dL_rollBack_14 (by decide) ?_
      refine q_iload_n (pc := 15) dL_rollBack_15 rfl ?_
      refine q_if_le (tgt := 35) (pc := 16) dL_rollBack_16 (by decide) (fun h16 => ?_) (fun h16 => ?_)
      · refine q_iinc (pc := 35) dL_rollBack_35 rfl (by decide) rfl ⟨by omega, by omega⟩ ?_
        refine q_goto (tgt := 2) (pc := 38) dL_rollBack_38 (by decide) ?_
        have e : lrb1 I t k = I := by unfold lrb1; rw [nN_of hn, if_pos (by omega)]
        have h9 := ih (k + 1) I n (some (.inl ((qf (lfp I t k) n 1 : Nat) : Int))) hn (by omega) (by rw [e] at hB'; exact hB')
        have e2 : lrb t (f + 1) k I = lrb t f (k + 1) I := by show lrb t f (k + 1) (lrb1 I t k) = _; rw [e]
        rw [e2]
        exact h9
      · have e : lrb1 I t k = ladd I n 0 t k (lval I k (qf (lfp I t k) n 1 - 1)) ((k / 4 % 2 : Nat) : Int) := by unfold lrb1; rw [nN_of hn, if_neg (by omega)]
        have en : ladd I n 0 t k (lval I k (qf (lfp I t k) n 1 - 1)) ((k / 4 % 2 : Nat) : Int) 2 6 = ((n + 1 : Nat) : Int) := ladd_n
        rw [e] at hm3
        refine q_aload_n (pc := 19) dL_rollBack_19 rfl ?_
        refine q_iload_n (pc := 20) dL_rollBack_20 rfl ?_
        refine q_iload_n (pc := 21) dL_rollBack_21 rfl ?_
        refine q_aload_n (pc := 22) dL_rollBack_22 rfl ?_
        refine q_iload_n (pc := 23) dL_rollBack_23 rfl ?_
        refine q_iload_n (pc := 24) dL_rollBack_24 rfl ?_
        refine q_iconst (pc := 25) dL_rollBack_25 (by decide) ?_
        refine q_isub (pc := 26) dL_rollBack_26 (show ((qf (lfp I t k) n 1 : Nat) : Int) - 1 = ((qf (lfp I t k) n 1 - 1 : Nat) : Int) by omega) ⟨by omega, by omega⟩ ?_
        refine q_callV1 (pc := 27) dL_rollBack_27 ((ct_L_valueUpTo k I (by omega))) cd_L_valueUpTo in_L_valueUpTo se_L_valueUpTo ml_L54 rfl (by decide) rfl rfl (Nat.le_of_ble_eq_true rfl) ⟨by decide, by decide⟩ ⟨by decide, by decide⟩ rfl ?_
        refine q_iconst (pc := 30) dL_rollBack_30 (by decide) ?_
        refine q_callV1 (pc := 31) dL_rollBack_31 ((ct_L_addChange t k _ 0 I hn (by omega))) cd_L_addChange in_L_addChange se_L_addChange ml_L57 rfl (by decide) rfl rfl (Nat.le_of_ble_eq_true rfl) ⟨by decide, by decide⟩ ⟨by decide, by decide⟩ rfl ?_
        refine q_pop (pc := 34) dL_rollBack_34 ?_
        refine q_iinc (pc := 35) dL_rollBack_35 rfl (by decide) rfl ⟨by omega, by omega⟩ ?_
        refine q_goto (tgt := 2) (pc := 38) dL_rollBack_38 (by decide) ?_
        rw [td4, tm2, if_pos rfl]
        have h9 := ih (k + 1) (ladd I n 0 t k (lval I k (qf (lfp I t k) n 1 - 1)) ((k / 4 % 2 : Nat) : Int)) (n + 1) (some (.inl ((qf (lfp I t k) n 1 : Nat) : Int))) en (by omega) (by rw [e] at hB'; exact hB')
        have e2 : lrb t (f + 1) k I = lrb t f (k + 1) (ladd I n 0 t k (lval I k (qf (lfp I t k) n 1 - 1)) ((k / 4 % 2 : Nat) : Int)) := by show lrb t f (k + 1) (lrb1 I t k) = _; rw [e]
        rw [e2]
        exact h9
/-- a transaction is rolled back -/
def lroll (I : qI) (t : Nat) : qI := lend (lrb t 32 0 I) (nN (lrb t 32 0 I)) t 0
theorem ct_L_rollBack {L t n : Nat} (ht : t ≤ 60) (I : qI) (hn : I 2 6 = (n : Int)) (hB : (lrb t 32 0 I) 2 6 ≤ 186) : qT M_L_rollBack 2 [.inr (some 2), .inl ((t : Nat) : Int)] L I (rI ((nN (lrb t 32 0 I) + 1 : Nat) : Int) L (lroll I t)) := by
  refine q_enter (by decide) (Nat.le_of_ble_eq_true rfl) ?_
  refine q_iconst (pc := 0) dL_rollBack_0 (by decide) ?_
  refine q_istore_n (pc := 1) dL_rollBack_1 (by decide) ?_
  exact lp_L_rollBack ht 32 0 I n _ hn (by omega) hB
theorem ct_Q_abort0 {L n T k d : Nat} (t : Int) (I : qI) (h : cw I n T k d) (h0 : qrt I t ≠ 0) : qT M_Q_abort 3 [.inr (some 1), .inl t] L I (rI (qrt I t) L I) := by
  obtain ⟨-, ⟨hT, hT2⟩, -⟩ := h
  refine q_enter (by decide) (Nat.le_of_ble_eq_true rfl) ?_
  refine q_aload_n (pc := 0) dQ_abort_0 rfl ?_
  refine q_iload_n (pc := 1) dQ_abort_1 rfl ?_
  refine q_callV1 (pc := 2) dQ_abort_2 ((ct_Q_refusalOfTransaction t I hT hT2)) cd_Q_refusalOfTransaction in_Q_refusalOfTransaction se_Q_refusalOfTransaction ml_Q92 rfl (by decide) rfl rfl (Nat.le_of_ble_eq_true rfl) ⟨by decide, by decide⟩ ⟨by decide, by decide⟩ rfl ?_
  refine q_istore_n (pc := 5) dQ_abort_5 (by decide) ?_
  refine q_iload_n (pc := 6) dQ_abort_6 rfl ?_
  refine q_if_eq (tgt := 12) (pc := 7) dQ_abort_7 (by decide) (fun h7 => ?_) (fun h7 => ?_)
  · exact absurd h7 h0
  · refine q_iload_n (pc := 10) dQ_abort_10 rfl ?_
    refine q_iret rfl (pc := 11) dQ_abort_11 ?_
    exact ⟨rfl, rfl, rfl⟩
theorem ct_Q_abort {L n T k d t : Nat} (I : qI) (h : cw I n T k d) (h0 : qrt I (t : Int) = 0) (ht : t ≤ 60) (hB : (lrb t 32 0 (tfin I t)) 2 6 ≤ 186) : qT M_Q_abort 3 [.inr (some 1), .inl ((t : Nat) : Int)] L I (rI ((nN (lrb t 32 0 (tfin I t)) + 1 : Nat) : Int) L (lroll (tfin I t) t)) := by
  obtain ⟨⟨hn, hn2⟩, ⟨hT, hT2⟩, -, -, -, -, hA, -⟩ := h
  refine q_enter (by decide) (Nat.le_of_ble_eq_true rfl) ?_
  refine q_aload_n (pc := 0) dQ_abort_0 rfl ?_
  refine q_iload_n (pc := 1) dQ_abort_1 rfl ?_
  refine q_callV1 (pc := 2) dQ_abort_2 ((ct_Q_refusalOfTransaction t I hT hT2)) cd_Q_refusalOfTransaction in_Q_refusalOfTransaction se_Q_refusalOfTransaction ml_Q92 rfl (by decide) rfl rfl (Nat.le_of_ble_eq_true rfl) ⟨by decide, by decide⟩ ⟨by decide, by decide⟩ rfl ?_
  refine q_istore_n (pc := 5) dQ_abort_5 (by decide) ?_
  refine q_iload_n (pc := 6) dQ_abort_6 rfl ?_
  refine q_if_eq (tgt := 12) (pc := 7) dQ_abort_7 (by decide) (fun h7 => ?_) (fun h7 => ?_)
  · refine q_aload_n (pc := 12) dQ_abort_12 rfl ?_
    refine q_getR (f := 1) (pc := 13) dQ_abort_13 lay_0 (by decide) rfl (by decide) fl_Q19 rfl rfl ?_
    refine q_iload_n (pc := 16) dQ_abort_16 rfl ?_
    refine q_callV0 (pc := 17) dQ_abort_17 ((ct_T_finish ht I ⟨by omega, by omega⟩)) cd_T_finish in_T_finish se_T_finish ml_Q95 rfl (by decide) rfl rfl (Nat.le_of_ble_eq_true rfl) ⟨by decide, by decide⟩ ⟨by decide, by decide⟩ rfl ?_
    refine q_aload_n (pc := 20) dQ_abort_20 rfl ?_
    refine q_getR (f := 0) (pc := 21) dQ_abort_21 lay_0 (by decide) rfl (by decide) fl_Q10 rfl rfl ?_
    refine q_iload_n (pc := 24) dQ_abort_24 rfl ?_
    refine q_callV1 (pc := 25) dQ_abort_25 ((ct_L_rollBack (n := n) ht _ (by rw [tfin_off (by decide) (by decide) (by decide)]; exact hn) hB)) cd_L_rollBack in_L_rollBack se_L_rollBack ml_Q102 rfl (by decide) rfl rfl (Nat.le_of_ble_eq_true rfl) ⟨by decide, by decide⟩ ⟨by decide, by decide⟩ rfl ?_
    refine q_iret rfl (pc := 28) dQ_abort_28 ?_
    exact ⟨rfl, rfl, rfl⟩
  · exact absurd h0 h7
