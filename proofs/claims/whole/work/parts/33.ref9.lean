/-! The reference's recovery. -/
def mlh (I : qI) (g l : Nat) (c : Nat) : Bool := mll I (6 * g + c) && mhd I (6 * g + c) l
theorem ct_M_survives {L l g : Nat} (I : qI) (hl : l < 200) (hg : g < 2) (hgl : mg I l = (g : Int)) : qT M_M_survives 1 [.inr (some 44), .inl ((l : Nat) : Int)] L I (rI (bi (qe (mlh I g l) 6)) L I) := by
  refine q_enter (by decide) (Nat.le_of_ble_eq_true rfl) ?_
  have lp : ∀ f c : Nat, c + f = 6 → qE M_M_survives 1 14 [some (.inr (some 44)), some (.inl ((l : Nat) : Int)), some (.inl (bi (qe (mlh I g l) c))), some (.inl ((g : Nat) : Int)), some (.inl ((6 * g + c : Nat) : Int))] [] L I (rI (bi (qe (mlh I g l) 6)) L I) := by
    intro f
    induction f with
    | zero =>
      intro c hc
      obtain rfl : c = 6 := by omega
      refine q_iload (pc := 14) dM_survives_14 rfl ?_
      refine q_bipush (pc := 16) dM_survives_16 (by decide) (by decide) ?_
      refine q_iload_n (pc := 18) dM_survives_18 rfl ?_
      refine q_imul (pc := 19) dM_survives_19 (show (6 : Int) * (g : Int) = ((6 * g : Nat) : Int) by omega) ⟨by omega, by omega⟩ ?_
      refine q_bipush (pc := 20) dM_survives_20 (by decide) (by decide) ?_
      refine q_iadd (pc := 22) dM_survives_22 rfl ⟨by omega, by omega⟩ ?_
      refine q_icmp_ge (tgt := 68) (pc := 23) dM_survives_23 (by decide) (fun h23 => ?_) (fun h23 => ?_)
      · refine q_iload_n (pc := 68) dM_survives_68 rfl ?_
        refine q_zret rfl (bi01 _) (pc := 69) dM_survives_69 ?_
        exact ⟨rfl, rfl, rfl⟩
      · omega
    | succ f ih =>
      intro c hc
      have h9 := ih (c + 1) (by omega)
      have eq : qe (mlh I g l) (c + 1) = (qe (mlh I g l) c || mlh I g l c) := rfl
      refine q_iload (pc := 14) dM_survives_14 rfl ?_
      refine q_bipush (pc := 16) dM_survives_16 (by decide) (by decide) ?_
      refine q_iload_n (pc := 18) dM_survives_18 rfl ?_
      refine q_imul (pc := 19) dM_survives_19 (show (6 : Int) * (g : Int) = ((6 * g : Nat) : Int) by omega) ⟨by omega, by omega⟩ ?_
      refine q_bipush (pc := 20) dM_survives_20 (by decide) (by decide) ?_
      refine q_iadd (pc := 22) dM_survives_22 rfl ⟨by omega, by omega⟩ ?_
      refine q_icmp_ge (tgt := 68) (pc := 23) dM_survives_23 (by decide) (fun h23 => ?_) (fun h23 => ?_)
      · omega
      · refine q_iload_n (pc := 26) dM_survives_26 rfl ?_
        refine q_if_ne (tgt := 56) (pc := 27) dM_survives_27 (by decide) (fun h27 => ?_) (fun h27 => ?_)
        · refine q_iconst (pc := 56) dM_survives_56 (by decide) ?_
          refine q_goto (tgt := 61) (pc := 57) dM_survives_57 (by decide) ?_
          refine q_istore_n (pc := 61) dM_survives_61 (by decide) ?_
          refine q_iinc (pc := 62) dM_survives_62 rfl (by decide) rfl ⟨by omega, by omega⟩ ?_
          refine q_goto (tgt := 14) (pc := 65) dM_survives_65 (by decide) ?_
          have e : qe (mlh I g l) (c + 1) = true := by rw [eq, bi_ne h27]; rfl
          rw [e] at h9
          exact h9
        · have h8 := bi_eq h27
          refine q_aload_n (pc := 30) dM_survives_30 rfl ?_
          refine q_getR (f := 7) (pc := 31) dM_survives_31 lay_6 (by decide) rfl (by decide) fl_M29 rfl rfl ?_
          refine q_iload (pc := 34) dM_survives_34 rfl ?_
          refine q_iald (i := (6 * g + c)) (pc := 36) dM_survives_36 rfl rfl (by omega) rfl ?_
          refine q_if_ne (tgt := 60) (pc := 37) dM_survives_37 (by decide) (fun h37 => ?_) (fun h37 => ?_)
          · refine q_iconst (pc := 60) dM_survives_60 (by decide) ?_
            refine q_istore_n (pc := 61) dM_survives_61 (by decide) ?_
            refine q_iinc (pc := 62) dM_survives_62 rfl (by decide) rfl ⟨by omega, by omega⟩ ?_
            refine q_goto (tgt := 14) (pc := 65) dM_survives_65 (by decide) ?_
            have e : qe (mlh I g l) (c + 1) = false := by rw [eq, h8]; simp [mlh, mll, h37]
            rw [e] at h9
            exact h9
          · refine q_aload_n (pc := 40) dM_survives_40 rfl ?_
            refine q_getR (f := 6) (pc := 41) dM_survives_41 lay_6 (by decide) rfl (by decide) fl_M26 rfl rfl ?_
            refine q_sipush (pc := 44) dM_survives_44 (by decide) (by decide) ?_
            refine q_iload (pc := 47) dM_survives_47 rfl ?_
            refine q_imul (pc := 49) dM_survives_49 (show (200 : Int) * ((6 * g + c : Nat) : Int) = ((200 * (6 * g + c) : Nat) : Int) by omega) ⟨by omega, by omega⟩ ?_
            refine q_iload_n (pc := 50) dM_survives_50 rfl ?_
            refine q_iadd (pc := 51) dM_survives_51 (show ((200 * (6 * g + c) : Nat) : Int) + (l : Int) = ((200 * (6 * g + c) + l : Nat) : Int) by omega) ⟨by omega, by omega⟩ ?_
            refine q_zald (i := (200 * (6 * g + c) + l)) (pc := 52) dM_survives_52 rfl rfl (by omega) rfl ?_
            refine q_if_eq (tgt := 60) (pc := 53) dM_survives_53 (by decide) (fun h53 => ?_) (fun h53 => ?_)
            · refine q_iconst (pc := 60) dM_survives_60 (by decide) ?_
              refine q_istore_n (pc := 61) dM_survives_61 (by decide) ?_
              refine q_iinc (pc := 62) dM_survives_62 rfl (by decide) rfl ⟨by omega, by omega⟩ ?_
              refine q_goto (tgt := 14) (pc := 65) dM_survives_65 (by decide) ?_
              have e : qe (mlh I g l) (c + 1) = false := by rw [eq, h8]; simp [mlh, mhd, h53]
              rw [e] at h9
              exact h9
            · refine q_iconst (pc := 56) dM_survives_56 (by decide) ?_
              refine q_goto (tgt := 61) (pc := 57) dM_survives_57 (by decide) ?_
              refine q_istore_n (pc := 61) dM_survives_61 (by decide) ?_
              refine q_iinc (pc := 62) dM_survives_62 rfl (by decide) rfl ⟨by omega, by omega⟩ ?_
              refine q_goto (tgt := 14) (pc := 65) dM_survives_65 (by decide) ?_
              have e : qe (mlh I g l) (c + 1) = true := by rw [eq, h8]; simp [mlh, mll, mhd, h37, h53]
              rw [e] at h9
              exact h9
  refine q_iconst (pc := 0) dM_survives_0 (by decide) ?_
  refine q_istore_n (pc := 1) dM_survives_1 (by decide) ?_
  refine q_aload_n (pc := 2) dM_survives_2 rfl ?_
  refine q_iload_n (pc := 3) dM_survives_3 rfl ?_
  refine q_callV1 (pc := 4) dM_survives_4 ((ct_M_groupOf (l := l) I hl)) cd_M_groupOf in_M_groupOf se_M_groupOf ml_M74 rfl (by decide) rfl rfl (Nat.le_of_ble_eq_true rfl) ⟨by decide, by decide⟩ ⟨by decide, by decide⟩ rfl ?_
  rw [hgl]
  refine q_istore_n (pc := 7) dM_survives_7 (by decide) ?_
  refine q_bipush (pc := 8) dM_survives_8 (by decide) (by decide) ?_
  refine q_iload_n (pc := 10) dM_survives_10 rfl ?_
  refine q_imul (pc := 11) dM_survives_11 (show (6 : Int) * (g : Int) = ((6 * g + 0 : Nat) : Int) by omega) ⟨by omega, by omega⟩ ?_
  refine q_istore (pc := 12) dM_survives_12 (by decide) ?_
  exact lp 6 0 (by omega)
def msu (I : qI) (l : Nat) : Bool := qe (mlh I (mg I l).toNat l) 6
def mrm (I : qI) (n : Nat) : Nat := ql (mcl I) (qp (msu I) n 0)
def mtl (m : Nat) : Nat → Nat → qI → qI
  | 0, _, I => I
  | f + 1, c, I => mtl m f (c + 1) (q_up I 53 c (if I 51 c = 0 then (mpt I c m : Nat) else I 53 c))
theorem mtl_off {m a : Nat} (h : a ≠ 53) : ∀ {f c : Nat} {I : qI}, mtl m f c I a = I a
  | 0, c, I => rfl
  | f + 1, c, I => by
    show mtl m f (c + 1) (q_up I 53 c (if I 51 c = 0 then (mpt I c m : Nat) else I 53 c)) a = I a
    rw [mtl_off h, q_up_off a h]
def mh0 (I : qI) (k : Nat) : qI := fun a j => if a = 55 ∧ j < k then 0 else I a j
theorem mh0_up {I : qI} {k : Nat} : q_up (mh0 I k) 55 k 0 = mh0 I (k + 1) := by
  funext a j
  unfold q_up mh0
  by_cases ha : a = 55
  · by_cases hj : j = k
    · subst hj; simp [ha]
    · have : (j < k + 1) = (j < k) := by apply propext; omega
      simp [ha, hj, this]
  · simp [ha]
theorem mh0_off {I : qI} {k a : Nat} (h : a ≠ 55) : mh0 I k a = I a := by funext j; simp [mh0, h]
def ma0 (I : qI) (t : Nat) : qI := fun a j => if a = 54 ∧ 1 ≤ j ∧ j < t then 0 else I a j
theorem ma0_up {I : qI} {t : Nat} (h : 1 ≤ t) : q_up (ma0 I t) 54 t 0 = ma0 I (t + 1) := by
  funext a j
  unfold q_up ma0
  by_cases ha : a = 54
  · by_cases hj : j = t
    · subst hj; simp [ha, h]
    · have : (j < t + 1) = (j < t) := by apply propext; omega
      simp [ha, hj, this]
  · simp [ha]
theorem ma0_off {I : qI} {t a : Nat} (h : a ≠ 54) : ma0 I t a = I a := by funext j; simp [ma0, h]
/-- t has no change among 1 .. l -/
def mnc (I : qI) (t : Int) (l : Nat) : Bool := !(decide (I 45 l = t) && decide (I 48 l = 0))
def mru1 (I : qI) (m t : Nat) : qI := if qa (mnc I t) m = false ∧ qf (mep I t) m 1 = 0 then mroll I t else I
def mru (m : Nat) : Nat → Nat → qI → qI
  | 0, _, I => I
  | f + 1, t, I => mru m f (t + 1) (mru1 I m t)
theorem mhz_44 {J : qI} {m c : Nat} : mhz J m c 44 = J 44 := mhz_off (by decide)
theorem mad_n2 {I : qI} {n j : Nat} {t k v e z : Int} (hj : j ≠ 0) : mad I n t k v e z 44 j = I 44 j := by
  unfold mad
  rw [mhz_off (by decide)]
  simp [mad0, q_up, hj]
theorem mfin_n {I : qI} {n t : Nat} {e : Int} : mfin I n t e 44 0 = ((n + 1 : Nat) : Int) := mad_n
theorem mfin_44 {I : qI} {n t j : Nat} {e : Int} (hj : j ≠ 0) : mfin I n t e 44 j = I 44 j := by
  unfold mfin mfin0
  rw [mad_n2 hj, mfr_off (by decide), q_up_off 44 (by decide)]
theorem mrb1_44 {I : qI} {b t k j : Nat} (hj : j ≠ 0) : mrb1 I b t k 44 j = I 44 j := by
  unfold mrb1
  split
  · rfl
  · exact mad_n2 hj
theorem mrb_44 {b t j : Nat} (hj : j ≠ 0) : ∀ {f k : Nat} {I : qI}, mrb b t f k I 44 j = I 44 j
  | 0, k, I => rfl
  | f + 1, k, I => by
    show mrb b t f (k + 1) (mrb1 I b t k) 44 j = I 44 j
    rw [mrb_44 hj, mrb1_44 hj]
theorem mroll_44 {I : qI} {t j : Nat} (hj : j ≠ 0) : mroll I t 44 j = I 44 j := by
  unfold mroll
  rw [mfin_44 hj, mrb_44 hj]
theorem mru1_n {I : qI} {m t n : Nat} (h : I 44 0 = (n : Int)) : ∃ q : Nat, n ≤ q ∧ mru1 I m t 44 0 = (q : Int) := by
  unfold mru1
  split
  · obtain ⟨q, h1, h2⟩ := mrb_n (b := mnN I) (t := t) (f := 32) (k := 0) h
    exact ⟨q + 1, by omega, by unfold mroll; rw [mfin_n, mnN_of h2]⟩
  · exact ⟨n, by omega, h⟩
theorem mru_n {m : Nat} : ∀ {f t : Nat} {I : qI} {n : Nat}, I 44 0 = (n : Int) → ∃ q : Nat, n ≤ q ∧ mru m f t I 44 0 = (q : Int)
  | 0, t, I, n, h => ⟨n, by omega, h⟩
  | f + 1, t, I, n, h => by
    obtain ⟨q, h1, h3⟩ := mru1_n (m := m) (t := t) h
    obtain ⟨q', h4, h5⟩ := mru_n (m := m) (f := f) (t := t + 1) h3
    exact ⟨q', by omega, h5⟩
theorem mru1_44 {I : qI} {m t j : Nat} (hj : j ≠ 0) : mru1 I m t 44 j = I 44 j := by
  unfold mru1
  split
  · exact mroll_44 hj
  · rfl
def ms1 (I : qI) (m : Nat) : qI := q_up (q_up I 44 0 m) 44 10 0
def ms3 (I : qI) (m : Nat) : qI := madv (mtl m 12 0 (ms1 I m)) m
def ms5 (I : qI) (m T : Nat) : qI := ma0 (mh0 (ms3 I m) 32) (T + 1)
def ms6 (I : qI) (m T : Nat) : qI := mru m T 1 (ms5 I m T)
theorem lp_M_unended {L m T : Nat} (x1 : Option qV) (hT2 : T ≤ 60) : ∀ (f t : Nat) (I : qI) (n : Nat) (y z : Option qV), I 44 0 = (n : Int) → I 44 12 = (T : Int) → m ≤ n → t + f = T + 1 → 1 ≤ t → (mru m f t I) 44 0 ≤ 187 → qE M_M_recover 3 165 [some (.inr (some 44)), x1, some (.inl ((m : Nat) : Int)), some (.inl ((t : Nat) : Int)), y, z] [] L I (rI (m : Int) L (mru m f t I)) := by
  intro f
  induction f with
  | zero =>
    intro t I n y z hn hT hm ht h1 hB
    refine q_iload_n (pc := 165) dM_recover_165 rfl ?_
    refine q_aload_n (pc := 166) dM_recover_166 rfl ?_
    refine q_getI (f := 12) (pc := 167) dM_recover_167 lay_6 (by decide) rfl (by decide) fl_M50 rfl rfl ?_
    refine q_icmp_gt (tgt := 250) (pc := 170) dM_recover_170 (by decide) (fun h170 => ?_) (fun h170 => ?_)
    · refine q_iload_n (pc := 250) dM_recover_250 rfl ?_
      refine q_iret rfl (pc := 251) dM_recover_251 ?_
      exact ⟨rfl, rfl, rfl⟩
    · omega
  | succ f ih =>
    intro t I n y z hn hT hm ht h1 hB
    have hB' : (mru m f (t + 1) (mru1 I m t)) 44 0 ≤ 187 := hB
    obtain ⟨q, h4, h5⟩ := mru1_n (m := m) (t := t) hn
    obtain ⟨q', h6, h7⟩ := mru_n (m := m) (f := f) (t := t + 1) h5
    have hn9 : n ≤ 187 := by omega
    have no : ¬ (qa (mnc I t) m = false ∧ qf (mep I t) m 1 = 0) → ∀ y z, qE M_M_recover 3 165 [some (.inr (some 44)), x1, some (.inl ((m : Nat) : Int)), some (.inl ((t + 1 : Nat) : Int)), y, z] [] L I (rI (m : Int) L (mru m (f + 1) t I)) := by
      intro h y z
      have e : mru1 I m t = I := by unfold mru1; rw [if_neg h]
      have e2 : mru m (f + 1) t I = mru m f (t + 1) I := by show mru m f (t + 1) (mru1 I m t) = _; rw [e]
      rw [e2]
      rw [e] at hB'
      exact ih (t + 1) I n y z hn hT hm (by omega) (by omega) hB'
    have K : ∀ z, qE M_M_recover 3 224 [some (.inr (some 44)), x1, some (.inl ((m : Nat) : Int)), some (.inl ((t : Nat) : Int)), some (.inl (bi (!qa (mnc I t) m))), z] [] L I (rI (m : Int) L (mru m (f + 1) t I)) := by
      intro z
      refine q_iload (pc := 224) dM_recover_224 rfl ?_
      refine q_if_eq (tgt := 244) (pc := 226) dM_recover_226 (by decide) (fun h226 => ?_) (fun h226 => ?_)
      · refine q_iinc (pc := 244) dM_recover_244 rfl (by decide) rfl ⟨by omega, by omega⟩ ?_
        refine q_goto (tgt := 165) (pc := 247) dM_recover_247 (by decide) ?_
        exact no (fun h => by have := bi_eq h226; rw [h.1] at this; cases this) _ _
      · refine q_aload_n (pc := 229) dM_recover_229 rfl ?_
        refine q_iload_n (pc := 230) dM_recover_230 rfl ?_
        refine q_iload_n (pc := 231) dM_recover_231 rfl ?_
        refine q_callV1 (pc := 232) dM_recover_232 ((ct_M_endOf t I hn (by omega) hm)) cd_M_endOf in_M_endOf se_M_endOf ml_M137 rfl (by decide) rfl rfl (Nat.le_of_ble_eq_true rfl) ⟨by decide, by decide⟩ ⟨by decide, by decide⟩ rfl ?_
        refine q_if_ne (tgt := 244) (pc := 235) dM_recover_235 (by decide) (fun h235 => ?_) (fun h235 => ?_)
        · refine q_iinc (pc := 244) dM_recover_244 rfl (by decide) rfl ⟨by omega, by omega⟩ ?_
          refine q_goto (tgt := 165) (pc := 247) dM_recover_247 (by decide) ?_
          exact no (fun h => h235 (by rw [h.2]; rfl)) _ _
        · have hh : qa (mnc I t) m = false := by have := bi_ne h226; simpa using this
          have e : mru1 I m t = mroll I t := by unfold mru1; rw [if_pos ⟨hh, by omega⟩]
          have e2 : mru m (f + 1) t I = mru m f (t + 1) (mroll I t) := by show mru m f (t + 1) (mru1 I m t) = _; rw [e]
          rw [e] at hB' h5 h7
          have hr : (mrb n t 32 0 I) 44 0 ≤ 186 := by
            obtain ⟨w, hw1, hw2⟩ := mrb_n (b := n) (t := t) (f := 32) (k := 0) hn
            have : mroll I t 44 0 = ((w + 1 : Nat) : Int) := by unfold mroll; rw [mnN_of hn, mfin_n, mnN_of hw2]
            omega
          refine q_aload_n (pc := 238) dM_recover_238 rfl ?_
          refine q_iload_n (pc := 239) dM_recover_239 rfl ?_
          refine q_callV1 (pc := 240) dM_recover_240 ((ct_M_rollBack (n := n) (by omega) I hn hr)) cd_M_rollBack in_M_rollBack se_M_rollBack ml_M134 rfl (by decide) rfl rfl (Nat.le_of_ble_eq_true rfl) ⟨by decide, by decide⟩ ⟨by decide, by decide⟩ rfl ?_
          refine q_pop (pc := 243) dM_recover_243 ?_
          refine q_iinc (pc := 244) dM_recover_244 rfl (by decide) rfl ⟨by omega, by omega⟩ ?_
          refine q_goto (tgt := 165) (pc := 247) dM_recover_247 (by decide) ?_
          rw [e2]
          exact ih (t + 1) _ q _ _ h5 (by rw [mroll_44 (by decide)]; exact hT) (by omega) (by omega) (by omega) hB'
    have lp : ∀ g l : Nat, l + g = m → qE M_M_recover 3 179 [some (.inr (some 44)), x1, some (.inl ((m : Nat) : Int)), some (.inl ((t : Nat) : Int)), some (.inl (bi (!qa (mnc I t) l))), some (.inl ((l + 1 : Nat) : Int))] [] L I (rI (m : Int) L (mru m (f + 1) t I)) := by
      intro g
      induction g with
      | zero =>
        intro l hl
        obtain rfl : l = m := by omega
        refine q_iload (pc := 179) dM_recover_179 rfl ?_
        refine q_iload_n (pc := 181) dM_recover_181 rfl ?_
        refine q_icmp_gt (tgt := 224) (pc := 182) dM_recover_182 (by decide) (fun h182 => ?_) (fun h182 => ?_)
        · exact K _
        · omega
      | succ g ihg =>
        intro l hl
        have h9 := ihg (l + 1) (by omega)
        have eq : qa (mnc I t) (l + 1) = (qa (mnc I t) l && mnc I t (l + 1)) := rfl
        refine q_iload (pc := 179) dM_recover_179 rfl ?_
        refine q_iload_n (pc := 181) dM_recover_181 rfl ?_
        refine q_icmp_gt (tgt := 224) (pc := 182) dM_recover_182 (by decide) (fun h182 => ?_) (fun h182 => ?_)
        · omega
        · refine q_iload (pc := 185) dM_recover_185 rfl ?_
          refine q_if_ne (tgt := 211) (pc := 187) dM_recover_187 (by decide) (fun h187 => ?_) (fun h187 => ?_)
          · have h8 : qa (mnc I t) l = false := by have := bi_ne h187; simpa using this
            refine q_iconst (pc := 211) dM_recover_211 (by decide) ?_
            refine q_goto (tgt := 216) (pc := 212) dM_recover_212 (by decide) ?_
            refine q_istore (pc := 216) dM_recover_216 (by decide) ?_
            refine q_iinc (pc := 218) dM_recover_218 rfl (by decide) rfl ⟨by omega, by omega⟩ ?_
            refine q_goto (tgt := 179) (pc := 221) dM_recover_221 (by decide) ?_
            rw [show (!qa (mnc I t) (l + 1)) = true by rw [eq, h8]; rfl] at h9
            exact h9
          · have h8 : qa (mnc I t) l = true := by have := bi_eq h187; simpa using this
            refine q_aload_n (pc := 190) dM_recover_190 rfl ?_
            refine q_getR (f := 1) (pc := 191) dM_recover_191 lay_6 (by decide) rfl (by decide) fl_M7 rfl rfl ?_
            refine q_iload (pc := 194) dM_recover_194 rfl ?_
            refine q_iald (i := (l + 1)) (pc := 196) dM_recover_196 rfl rfl (by omega) rfl ?_
            refine q_iload_n (pc := 197) dM_recover_197 rfl ?_
            refine q_icmp_ne (tgt := 215) (pc := 198) dM_recover_198 (by decide) (fun h198 => ?_) (fun h198 => ?_)
            · refine q_iconst (pc := 215) dM_recover_215 (by decide) ?_
              refine q_istore (pc := 216) dM_recover_216 (by decide) ?_
              refine q_iinc (pc := 218) dM_recover_218 rfl (by decide) rfl ⟨by omega, by omega⟩ ?_
              refine q_goto (tgt := 179) (pc := 221) dM_recover_221 (by decide) ?_
              rw [show (!qa (mnc I t) (l + 1)) = false by rw [eq, h8]; simp [mnc, h198]] at h9
              exact h9
            · refine q_aload_n (pc := 201) dM_recover_201 rfl ?_
              refine q_getR (f := 4) (pc := 202) dM_recover_202 lay_6 (by decide) rfl (by decide) fl_M19 rfl rfl ?_
              refine q_iload (pc := 205) dM_recover_205 rfl ?_
              refine q_iald (i := (l + 1)) (pc := 207) dM_recover_207 rfl rfl (by omega) rfl ?_
              refine q_if_ne (tgt := 215) (pc := 208) dM_recover_208 (by decide) (fun h208 => ?_) (fun h208 => ?_)
              · refine q_iconst (pc := 215) dM_recover_215 (by decide) ?_
                refine q_istore (pc := 216) dM_recover_216 (by decide) ?_
                refine q_iinc (pc := 218) dM_recover_218 rfl (by decide) rfl ⟨by omega, by omega⟩ ?_
                refine q_goto (tgt := 179) (pc := 221) dM_recover_221 (by decide) ?_
                rw [show (!qa (mnc I t) (l + 1)) = false by rw [eq, h8]; simp [mnc, h208]] at h9
                exact h9
              · refine q_iconst (pc := 211) dM_recover_211 (by decide) ?_
                refine q_goto (tgt := 216) (pc := 212) dM_recover_212 (by decide) ?_
                refine q_istore (pc := 216) dM_recover_216 (by decide) ?_
                refine q_iinc (pc := 218) dM_recover_218 rfl (by decide) rfl ⟨by omega, by omega⟩ ?_
                refine q_goto (tgt := 179) (pc := 221) dM_recover_221 (by decide) ?_
                rw [show (!qa (mnc I t) (l + 1)) = true by rw [eq, h8]; simp [mnc, h198, h208]] at h9
                exact h9
    refine q_iload_n (pc := 165) dM_recover_165 rfl ?_
    refine q_aload_n (pc := 166) dM_recover_166 rfl ?_
    refine q_getI (f := 12) (pc := 167) dM_recover_167 lay_6 (by decide) rfl (by decide) fl_M50 rfl rfl ?_
    refine q_icmp_gt (tgt := 250) (pc := 170) dM_recover_170 (by decide) (fun h170 => ?_) (fun h170 => ?_)
    · omega
    · refine q_iconst (pc := 173) dM_recover_173 (by decide) ?_
      refine q_istore (pc := 174) dM_recover_174 (by decide) ?_
      refine q_iconst (pc := 176) dM_recover_176 (by decide) ?_
      refine q_istore (pc := 177) dM_recover_177 (by decide) ?_
      exact lp m 0 (by omega)
theorem lp_M_active {L m T : Nat} (x1 y z : Option qV) (hT2 : T ≤ 60) (J : qI) (hn : J 44 0 = (m : Int)) (hT : J 44 12 = (T : Int)) (hB : (mru m T 1 (ma0 J (T + 1))) 44 0 ≤ 187) : ∀ f t : Nat, t + f = T + 1 → 1 ≤ t → qE M_M_recover 3 142 [some (.inr (some 44)), x1, some (.inl ((m : Nat) : Int)), some (.inl ((t : Nat) : Int)), y, z] [] L (ma0 J t) (rI (m : Int) L (mru m T 1 (ma0 J (T + 1)))) := by
  intro f
  induction f with
  | zero =>
    intro t ht h1
    obtain rfl : t = T + 1 := by omega
    have e : ma0 J (T + 1) 44 12 = (T : Int) := by rw [ma0_off (by decide)]; exact hT
    refine q_iload_n (pc := 142) dM_recover_142 rfl ?_
    refine q_aload_n (pc := 143) dM_recover_143 rfl ?_
    refine q_getI (f := 12) (pc := 144) dM_recover_144 lay_6 (by decide) rfl (by decide) fl_M50 rfl rfl ?_
    refine q_icmp_gt (tgt := 163) (pc := 147) dM_recover_147 (by decide) (fun h147 => ?_) (fun h147 => ?_)
    · refine q_iconst (pc := 163) dM_recover_163 (by decide) ?_
      refine q_istore_n (pc := 164) dM_recover_164 (by decide) ?_
      exact lp_M_unended x1 hT2 T 1 _ m _ _ (by rw [ma0_off (by decide)]; exact hn) e (Nat.le_refl _) (by omega) (by omega) hB
    · omega
  | succ f ih =>
    intro t ht h1
    have e : ma0 J t 44 12 = (T : Int) := by rw [ma0_off (by decide)]; exact hT
    refine q_iload_n (pc := 142) dM_recover_142 rfl ?_
    refine q_aload_n (pc := 143) dM_recover_143 rfl ?_
    refine q_getI (f := 12) (pc := 144) dM_recover_144 lay_6 (by decide) rfl (by decide) fl_M50 rfl rfl ?_
    refine q_icmp_gt (tgt := 163) (pc := 147) dM_recover_147 (by decide) (fun h147 => ?_) (fun h147 => ?_)
    · omega
    · refine q_aload_n (pc := 150) dM_recover_150 rfl ?_
      refine q_getR (f := 13) (pc := 151) dM_recover_151 lay_6 (by decide) rfl (by decide) fl_M38 rfl rfl ?_
      refine q_iload_n (pc := 154) dM_recover_154 rfl ?_
      refine q_iconst (pc := 155) dM_recover_155 (by decide) ?_
      refine q_zast (i := t) (pc := 156) dM_recover_156 rfl rfl (by omega) rfl (by first | exact Or.inl rfl | exact Or.inr rfl) ?_
      refine q_iinc (pc := 157) dM_recover_157 rfl (by decide) rfl ⟨by omega, by omega⟩ ?_
      refine q_goto (tgt := 142) (pc := 160) dM_recover_160 (by decide) ?_
      rw [ma0_up h1]
      exact ih (t + 1) (by omega) (by omega)
theorem lp_M_keys {L m T : Nat} (x1 y z : Option qV) (hT2 : T ≤ 60) (J : qI) (hn : J 44 0 = (m : Int)) (hT : J 44 12 = (T : Int)) (hB : (mru m T 1 (ma0 (mh0 J 32) (T + 1))) 44 0 ≤ 187) : ∀ f k : Nat, k + f = 32 → qE M_M_recover 3 121 [some (.inr (some 44)), x1, some (.inl ((m : Nat) : Int)), some (.inl ((k : Nat) : Int)), y, z] [] L (mh0 J k) (rI (m : Int) L (mru m T 1 (ma0 (mh0 J 32) (T + 1)))) := by
  intro f
  induction f with
  | zero =>
    intro k hk
    obtain rfl : k = 32 := by omega
    refine q_iload_n (pc := 121) dM_recover_121 rfl ?_
    refine q_bipush (pc := 122) dM_recover_122 (by decide) (by decide) ?_
    refine q_icmp_ge (tgt := 140) (pc := 124) dM_recover_124 (by decide) (fun h124 => ?_) (fun h124 => ?_)
    · refine q_iconst (pc := 140) dM_recover_140 (by decide) ?_
      refine q_istore_n (pc := 141) dM_recover_141 (by decide) ?_
      have h := lp_M_active (L := L) x1 y z hT2 (mh0 J 32) (by rw [mh0_off (by decide)]; exact hn) (by rw [mh0_off (by decide)]; exact hT) hB T 1 (by omega) (by omega)
      have e : mh0 J 32 = ma0 (mh0 J 32) 1 := by
        funext a j
        unfold ma0
        rw [if_neg (by omega)]
      rw [← e] at h
      exact h
    · omega
  | succ f ih =>
    intro k hk
    refine q_iload_n (pc := 121) dM_recover_121 rfl ?_
    refine q_bipush (pc := 122) dM_recover_122 (by decide) (by decide) ?_
    refine q_icmp_ge (tgt := 140) (pc := 124) dM_recover_124 (by decide) (fun h124 => ?_) (fun h124 => ?_)
    · omega
    · refine q_aload_n (pc := 127) dM_recover_127 rfl ?_
      refine q_getR (f := 14) (pc := 128) dM_recover_128 lay_6 (by decide) rfl (by decide) fl_M41 rfl rfl ?_
      refine q_iload_n (pc := 131) dM_recover_131 rfl ?_
      refine q_iconst (pc := 132) dM_recover_132 (by decide) ?_
      refine q_iast (i := k) (pc := 133) dM_recover_133 rfl rfl (by omega) rfl ?_
      refine q_iinc (pc := 134) dM_recover_134 rfl (by decide) rfl ⟨by omega, by omega⟩ ?_
      refine q_goto (tgt := 121) (pc := 137) dM_recover_137 (by decide) ?_
      rw [mh0_up]
      exact ih (k + 1) (by omega)
theorem lp_M_tell {L m T : Nat} (x1 y z : Option qV) (hm : m ≤ 187) (P : qP) : ∀ (f c : Nat) (I : qI), I 44 0 = (m : Int) → c + f = 12 → (∀ w, qE M_M_recover 3 115 [some (.inr (some 44)), x1, some (.inl ((m : Nat) : Int)), w, y, z] [] L (mtl m f c I) P) → qE M_M_recover 3 74 [some (.inr (some 44)), x1, some (.inl ((m : Nat) : Int)), some (.inl ((c : Nat) : Int)), y, z] [] L I P := by
  intro f
  induction f with
  | zero =>
    intro c I hn hc K
    refine q_iload_n (pc := 74) dM_recover_74 rfl ?_
    refine q_bipush (pc := 75) dM_recover_75 (by decide) (by decide) ?_
    refine q_icmp_ge (tgt := 115) (pc := 77) dM_recover_77 (by decide) (fun h77 => ?_) (fun h77 => ?_)
    · exact K _
    · omega
  | succ f ih =>
    intro c I hn hc K
    have hc2 : c < 12 := by omega
    refine q_iload_n (pc := 74) dM_recover_74 rfl ?_
    refine q_bipush (pc := 75) dM_recover_75 (by decide) (by decide) ?_
    refine q_icmp_ge (tgt := 115) (pc := 77) dM_recover_77 (by decide) (fun h77 => ?_) (fun h77 => ?_)
    · omega
    · refine q_aload_n (pc := 80) dM_recover_80 rfl ?_
      refine q_getR (f := 9) (pc := 81) dM_recover_81 lay_6 (by decide) rfl (by decide) fl_M35 rfl rfl ?_
      refine q_iload_n (pc := 84) dM_recover_84 rfl ?_
      refine q_aload_n (pc := 85) dM_recover_85 rfl ?_
      refine q_getR (f := 7) (pc := 86) dM_recover_86 lay_6 (by decide) rfl (by decide) fl_M29 rfl rfl ?_
      refine q_iload_n (pc := 89) dM_recover_89 rfl ?_
      refine q_iald (i := c) (pc := 90) dM_recover_90 rfl rfl (by omega) rfl ?_
      refine q_if_ne (tgt := 102) (pc := 91) dM_recover_91 (by decide) (fun h91 => ?_) (fun h91 => ?_)
      · refine q_aload_n (pc := 102) dM_recover_102 rfl ?_
        refine q_getR (f := 9) (pc := 103) dM_recover_103 lay_6 (by decide) rfl (by decide) fl_M35 rfl rfl ?_
        refine q_iload_n (pc := 106) dM_recover_106 rfl ?_
        refine q_iald (i := c) (pc := 107) dM_recover_107 rfl rfl (by omega) rfl ?_
        refine q_iast (i := c) (pc := 108) dM_recover_108 rfl rfl (by omega) rfl ?_
        refine q_iinc (pc := 109) dM_recover_109 rfl (by decide) rfl ⟨by omega, by omega⟩ ?_
        refine q_goto (tgt := 74) (pc := 112) dM_recover_112 (by decide) ?_
        have e : mtl m (f + 1) c I = mtl m f (c + 1) (q_up I 53 c (I 53 c)) := by rw [mtl, if_neg h91]
        rw [e] at K
        exact ih (c + 1) _ (by rw [q_up_off 44 (by decide)]; exact hn) (by omega) K
      · refine q_aload_n (pc := 94) dM_recover_94 rfl ?_
        refine q_iload_n (pc := 95) dM_recover_95 rfl ?_
        refine q_callV1 (pc := 96) dM_recover_96 ((ct_M_pointOf hc2 I hn (by omega))) cd_M_pointOf in_M_pointOf se_M_pointOf ml_M81 rfl (by decide) rfl rfl (Nat.le_of_ble_eq_true rfl) ⟨by decide, by decide⟩ ⟨by decide, by decide⟩ rfl ?_
        refine q_goto (tgt := 108) (pc := 99) dM_recover_99 (by decide) ?_
        refine q_iast (i := c) (pc := 108) dM_recover_108 rfl rfl (by omega) rfl ?_
        refine q_iinc (pc := 109) dM_recover_109 rfl (by decide) rfl ⟨by omega, by omega⟩ ?_
        refine q_goto (tgt := 74) (pc := 112) dM_recover_112 (by decide) ?_
        have e : mtl m (f + 1) c I = mtl m f (c + 1) (q_up I 53 c (mpt I c m : Nat)) := by rw [mtl, if_pos h91]
        rw [e] at K
        exact ih (c + 1) _ (by rw [q_up_off 44 (by decide)]; exact hn) (by omega) K
theorem ct_M_recover0 {L : Nat} (I : qI) (h : I 44 10 = 0) : qT M_M_recover 3 [.inr (some 44)] L I (rI (-1) L I) := by
  refine q_enter (by decide) (Nat.le_of_ble_eq_true rfl) ?_
  refine q_aload_n (pc := 0) dM_recover_0 rfl ?_
  refine q_getI (f := 10) (pc := 1) dM_recover_1 lay_6 (by decide) rfl (by decide) fl_M117 rfl rfl ?_
  refine q_if_ne (tgt := 9) (pc := 4) dM_recover_4 (by decide) (fun h4 => ?_) (fun h4 => ?_)
  · exact absurd h h4
  · refine q_iconst (pc := 7) dM_recover_7 (by decide) ?_
    refine q_iret rfl (pc := 8) dM_recover_8 ?_
    exact ⟨rfl, rfl, rfl⟩
theorem ct_M_recover1 {L : Nat} (I : qI) (h : ¬ I 44 10 = 0) (hl : mlv I 0 < 3 ∨ mlv I 1 < 3) : qT M_M_recover 3 [.inr (some 44)] L I (rI (-7) L I) := by
  refine q_enter (by decide) (Nat.le_of_ble_eq_true rfl) ?_
  refine q_aload_n (pc := 0) dM_recover_0 rfl ?_
  refine q_getI (f := 10) (pc := 1) dM_recover_1 lay_6 (by decide) rfl (by decide) fl_M117 rfl rfl ?_
  refine q_if_ne (tgt := 9) (pc := 4) dM_recover_4 (by decide) (fun h4 => ?_) (fun h4 => ?_)
  · refine q_aload_n (pc := 9) dM_recover_9 rfl ?_
    refine q_iconst (pc := 10) dM_recover_10 (by decide) ?_
    refine q_callV1 (pc := 11) dM_recover_11 ((ct_M_live (g := 0) (by omega) I)) cd_M_live in_M_live se_M_live ml_M149 rfl (by decide) rfl rfl (Nat.le_of_ble_eq_true rfl) ⟨by decide, by decide⟩ ⟨by decide, by decide⟩ rfl ?_
    refine q_iconst (pc := 14) dM_recover_14 (by decide) ?_
    refine q_icmp_lt (tgt := 27) (pc := 15) dM_recover_15 (by decide) (fun h15 => ?_) (fun h15 => ?_)
    · refine q_bipush (pc := 27) dM_recover_27 (by decide) (by decide) ?_
      refine q_iret rfl (pc := 29) dM_recover_29 ?_
      exact ⟨rfl, rfl, rfl⟩
    · refine q_aload_n (pc := 18) dM_recover_18 rfl ?_
      refine q_iconst (pc := 19) dM_recover_19 (by decide) ?_
      refine q_callV1 (pc := 20) dM_recover_20 ((ct_M_live (g := 1) (by omega) I)) cd_M_live in_M_live se_M_live ml_M149 rfl (by decide) rfl rfl (Nat.le_of_ble_eq_true rfl) ⟨by decide, by decide⟩ ⟨by decide, by decide⟩ rfl ?_
      refine q_iconst (pc := 23) dM_recover_23 (by decide) ?_
      refine q_icmp_ge (tgt := 30) (pc := 24) dM_recover_24 (by decide) (fun h24 => ?_) (fun h24 => ?_)
      · omega
      · refine q_bipush (pc := 27) dM_recover_27 (by decide) (by decide) ?_
        refine q_iret rfl (pc := 29) dM_recover_29 ?_
        exact ⟨rfl, rfl, rfl⟩
  · exact absurd h4 h
theorem ct_M_recover {L n T k d : Nat} (I : qI) (hw : mw I n T k d) (h : ¬ I 44 10 = 0) (hl : 3 ≤ mlv I 0 ∧ 3 ≤ mlv I 1) (hB : (ms6 I (mrm I n) T) 44 0 ≤ 187) : qT M_M_recover 3 [.inr (some 44)] L I (rI (mrm I n : Nat) L (ms6 I (mrm I n) T)) := by
  obtain ⟨⟨hn, hn2⟩, ⟨hT, hT2⟩, -, -, -, hg, -⟩ := hw
  have hq := qp_le (msu I) n 0
  have hm : mrm I n ≤ n := Nat.le_trans (ql_le _ _) (by omega)
  refine q_enter (by decide) (Nat.le_of_ble_eq_true rfl) ?_
  have tl : qE M_M_recover 3 56 [some (.inr (some 44)), some (.inl ((qp (msu I) n 0 : Nat) : Int)), none, none, none, none] [] L I (rI (mrm I n : Nat) L (ms6 I (mrm I n) T)) := by
    refine q_aload_n (pc := 56) dM_recover_56 rfl ?_
    refine q_iload_n (pc := 57) dM_recover_57 rfl ?_
    refine q_callV1 (pc := 58) dM_recover_58 ((ct_M_closeUpTo I (by omega))) cd_M_closeUpTo in_M_closeUpTo se_M_closeUpTo ml_M91 rfl (by decide) rfl rfl (Nat.le_of_ble_eq_true rfl) ⟨by decide, by decide⟩ ⟨by decide, by decide⟩ rfl ?_
    rw [show ql (mcl I) (qp (msu I) n 0) = mrm I n from rfl]
    generalize mrm I n = m at hB hm ⊢
    refine q_istore_n (pc := 61) dM_recover_61 (by decide) ?_
    refine q_aload_n (pc := 62) dM_recover_62 rfl ?_
    refine q_iload_n (pc := 63) dM_recover_63 rfl ?_
    refine q_putI (f := 0) (pc := 64) dM_recover_64 lay_6 typ_6 (by decide) rfl (by decide) fl_M54 rfl (Or.inl rfl) (Or.inl rfl) rfl ?_
    refine q_aload_n (pc := 67) dM_recover_67 rfl ?_
    refine q_iconst (pc := 68) dM_recover_68 (by decide) ?_
    refine q_putI (f := 10) (pc := 69) dM_recover_69 lay_6 typ_6 (by decide) rfl (by decide) fl_M117 rfl (Or.inl rfl) (Or.inr ⟨rfl, by first | exact Or.inl rfl | exact Or.inr rfl⟩) rfl ?_
    refine q_iconst (pc := 72) dM_recover_72 (by decide) ?_
    refine q_istore_n (pc := 73) dM_recover_73 (by decide) ?_
    rw [show q_up (q_up I 44 0 (m : Int)) 44 10 0 = ms1 I m from rfl]
    have e1 : ms1 I m 44 0 = (m : Int) := by simp [ms1, q_up]
    have e2 : ms1 I m 44 12 = (T : Int) := by simp [ms1, q_up, hT]
    refine lp_M_tell (T := T) _ _ _ (by omega) _ 12 0 (ms1 I m) e1 (by omega) (fun w => ?_)
    have e3 : mtl m 12 0 (ms1 I m) 44 0 = (m : Int) := by rw [mtl_off (by decide)]; exact e1
    refine q_aload_n (pc := 115) dM_recover_115 rfl ?_
    refine q_callV0 (pc := 116) dM_recover_116 ((ct_M_advance _ e3 (by omega))) cd_M_advance in_M_advance se_M_advance ml_M84 rfl (by decide) rfl rfl (Nat.le_of_ble_eq_true rfl) ⟨by decide, by decide⟩ ⟨by decide, by decide⟩ rfl ?_
    refine q_iconst (pc := 119) dM_recover_119 (by decide) ?_
    refine q_istore_n (pc := 120) dM_recover_120 (by decide) ?_
    have e4 : ms3 I m 44 0 = (m : Int) := by
      unfold ms3 madv
      simp only [q_up]
      rw [if_neg (by decide)]
      exact e3
    have e5 : ms3 I m 44 12 = (T : Int) := by
      unfold ms3 madv
      simp only [q_up]
      rw [if_neg (by decide), mtl_off (by decide)]
      exact e2
    have h9 := fun x1 y z => lp_M_keys (L := L) x1 y z hT2 (ms3 I m) e4 e5 hB 32 0 (by omega)
    have e : ms3 I m = mh0 (ms3 I m) 0 := by
      funext a j
      simp [mh0]
    rw [← e] at h9
    exact h9 _ _ _
  have lp : ∀ f l : Nat, l + f = n → qp (msu I) n 0 = qp (msu I) f l → qE M_M_recover 3 32 [some (.inr (some 44)), some (.inl ((l : Nat) : Int)), none, none, none, none] [] L I (rI (mrm I n : Nat) L (ms6 I (mrm I n) T)) := by
    intro f
    induction f with
    | zero =>
      intro l hl he
      refine q_iload_n (pc := 32) dM_recover_32 rfl ?_
      refine q_aload_n (pc := 33) dM_recover_33 rfl ?_
      refine q_getI (f := 0) (pc := 34) dM_recover_34 lay_6 (by decide) rfl (by decide) fl_M54 rfl rfl ?_
      refine q_icmp_ge (tgt := 56) (pc := 37) dM_recover_37 (by decide) (fun h37 => ?_) (fun h37 => ?_)
      · rw [show qp (msu I) 0 l = l from rfl] at he
        rw [he] at tl
        exact tl
      · omega
    | succ f ih =>
      intro l hl he
      obtain ⟨g, hg1, hg2⟩ := hg (l + 1) (by omega) (by omega)
      have eg : (mg I (l + 1)).toNat = g := by rw [hg2]; rfl
      refine q_iload_n (pc := 32) dM_recover_32 rfl ?_
      refine q_aload_n (pc := 33) dM_recover_33 rfl ?_
      refine q_getI (f := 0) (pc := 34) dM_recover_34 lay_6 (by decide) rfl (by decide) fl_M54 rfl rfl ?_
      refine q_icmp_ge (tgt := 56) (pc := 37) dM_recover_37 (by decide) (fun h37 => ?_) (fun h37 => ?_)
      · omega
      · refine q_aload_n (pc := 40) dM_recover_40 rfl ?_
        refine q_iload_n (pc := 41) dM_recover_41 rfl ?_
        refine q_iconst (pc := 42) dM_recover_42 (by decide) ?_
        refine q_iadd (pc := 43) dM_recover_43 rfl ⟨by omega, by omega⟩ ?_
        refine q_callV1 (pc := 44) dM_recover_44 ((ct_M_survives (l := l + 1) I (by omega) hg1 hg2)) cd_M_survives in_M_survives se_M_survives ml_M152 rfl (by decide) rfl rfl (Nat.le_of_ble_eq_true rfl) ⟨by decide, by decide⟩ ⟨by decide, by decide⟩ rfl ?_
        refine q_if_eq (tgt := 56) (pc := 47) dM_recover_47 (by decide) (fun h47 => ?_) (fun h47 => ?_)
        · have e : qp (msu I) (f + 1) l = l := by rw [qp, if_neg (by unfold msu; rw [eg, bi_eq h47]; decide)]
          rw [e] at he
          rw [he] at tl
          exact tl
        · refine q_iinc (pc := 50) dM_recover_50 rfl (by decide) rfl ⟨by omega, by omega⟩ ?_
          refine q_goto (tgt := 32) (pc := 53) dM_recover_53 (by decide) ?_
          have e : qp (msu I) (f + 1) l = qp (msu I) f (l + 1) := by rw [qp, if_pos (by unfold msu; rw [eg]; exact bi_ne h47)]
          rw [e] at he
          exact ih (l + 1) (by omega) he
  refine q_aload_n (pc := 0) dM_recover_0 rfl ?_
  refine q_getI (f := 10) (pc := 1) dM_recover_1 lay_6 (by decide) rfl (by decide) fl_M117 rfl rfl ?_
  refine q_if_ne (tgt := 9) (pc := 4) dM_recover_4 (by decide) (fun h4 => ?_) (fun h4 => ?_)
  · refine q_aload_n (pc := 9) dM_recover_9 rfl ?_
    refine q_iconst (pc := 10) dM_recover_10 (by decide) ?_
    refine q_callV1 (pc := 11) dM_recover_11 ((ct_M_live (g := 0) (by omega) I)) cd_M_live in_M_live se_M_live ml_M149 rfl (by decide) rfl rfl (Nat.le_of_ble_eq_true rfl) ⟨by decide, by decide⟩ ⟨by decide, by decide⟩ rfl ?_
    refine q_iconst (pc := 14) dM_recover_14 (by decide) ?_
    refine q_icmp_lt (tgt := 27) (pc := 15) dM_recover_15 (by decide) (fun h15 => ?_) (fun h15 => ?_)
    · omega
    · refine q_aload_n (pc := 18) dM_recover_18 rfl ?_
      refine q_iconst (pc := 19) dM_recover_19 (by decide) ?_
      refine q_callV1 (pc := 20) dM_recover_20 ((ct_M_live (g := 1) (by omega) I)) cd_M_live in_M_live se_M_live ml_M149 rfl (by decide) rfl rfl (Nat.le_of_ble_eq_true rfl) ⟨by decide, by decide⟩ ⟨by decide, by decide⟩ rfl ?_
      refine q_iconst (pc := 23) dM_recover_23 (by decide) ?_
      refine q_icmp_ge (tgt := 30) (pc := 24) dM_recover_24 (by decide) (fun h24 => ?_) (fun h24 => ?_)
      · refine q_iconst (pc := 30) dM_recover_30 (by decide) ?_
        refine q_istore_n (pc := 31) dM_recover_31 (by decide) ?_
        exact lp n 0 (by omega) rfl
      · omega
  · exact absurd h4 h
