/-! Storage copies. -/
abbrev qE (M : qM) (d pc : Nat) (Ls : List (Option qV)) (st : List qV) (L : Nat) (I : qI) (P : qP) : Prop := q_Ev M (q_rm d 0 0) 0 0 0 0 pc Ls st (S0 L) I P
abbrev qT (M : qM) (d : Nat) (as : List qV) (L : Nat) (I : qI) (P : qP) : Prop := q_Met M d 0 0 as (S0 L) I P
abbrev rI (x : Int) (L : Nat) (I : qI) : qP := q_is (some (.inl x)) (S0 L) I
abbrev rV (L : Nat) (I : qI) : qP := q_is none (S0 L) I
theorem ct_C_isLive {L c : Nat} (hc : c < 12) (I : qI) : qT M_C_isLive 0 [.inr (some (cp c))] L I (rI (bi (decide (I (cp c) 2 = 0))) L I) := by
  refine q_enter (by decide) (Nat.le_of_ble_eq_true rfl) ?_
  refine q_aload_n (pc := 0) dC_isLive_0 rfl ?_
  refine q_getI (f := 2) (pc := 1) dC_isLive_1 lay_4 (by decide) (s_cp L c hc) (by decide) fl_C15 rfl rfl ?_
  refine q_if_ne (tgt := 11) (pc := 4) dC_isLive_4 (by decide) (fun h4 => ?_) (fun h4 => ?_)
  · refine q_iconst (pc := 11) dC_isLive_11 (by decide) ?_
    refine q_zret rfl (by first | exact Or.inl rfl | exact Or.inr rfl) (pc := 12) dC_isLive_12 ?_
    exact ⟨by simp [bi, h4], rfl, rfl⟩
  · refine q_iconst (pc := 7) dC_isLive_7 (by decide) ?_
    refine q_goto (tgt := 12) (pc := 8) dC_isLive_8 (by decide) ?_
    refine q_zret rfl (by first | exact Or.inl rfl | exact Or.inr rfl) (pc := 12) dC_isLive_12 ?_
    exact ⟨by simp [bi, h4], rfl, rfl⟩
theorem ct_C_change {L c : Nat} (hc : c < 12) (f t : Int) (I : qI) : qT M_C_change 0 [.inr (some (cp c)), .inl f, .inl t] L I (rI (bi (decide (I (cp c) 2 = f))) L (if I (cp c) 2 = f then q_up I (cp c) 2 t else I)) := by
  refine q_enter (by decide) (Nat.le_of_ble_eq_true rfl) ?_
  refine q_aload_n (pc := 0) dC_change_0 rfl ?_
  refine q_getI (f := 2) (pc := 1) dC_change_1 lay_4 (by decide) (s_cp L c hc) (by decide) fl_C15 rfl rfl ?_
  refine q_iload_n (pc := 4) dC_change_4 rfl ?_
  refine q_icmp_eq (tgt := 10) (pc := 5) dC_change_5 (by decide) (fun h5 => ?_) (fun h5 => ?_)
  · refine q_aload_n (pc := 10) dC_change_10 rfl ?_
    refine q_iload_n (pc := 11) dC_change_11 rfl ?_
    refine q_putI (f := 2) (pc := 12) dC_change_12 lay_4 typ_4 (by decide) (s_cp L c hc) (by decide) fl_C15 rfl (Or.inl rfl) (Or.inl rfl) rfl ?_
    refine q_iconst (pc := 15) dC_change_15 (by decide) ?_
    refine q_zret rfl (by first | exact Or.inl rfl | exact Or.inr rfl) (pc := 16) dC_change_16 ?_
    exact ⟨by simp [bi, h5], rfl, by simp [h5]⟩
  · refine q_iconst (pc := 8) dC_change_8 (by decide) ?_
    refine q_zret rfl (by first | exact Or.inl rfl | exact Or.inr rfl) (pc := 9) dC_change_9 ?_
    exact ⟨by simp [bi, h5], rfl, by simp [h5]⟩
/-- what is held behind m goes -/
def qdrop (I : qI) (c m l : Nat) : qI := fun a j => if a = cp c + 1 ∧ m < j ∧ j < l then 0 else I a j
theorem qdrop_up {I : qI} {c m l : Nat} (h : m < l) : q_up (qdrop I c m l) (cp c + 1) l 0 = qdrop I c m (l + 1) := by
  funext a j
  unfold q_up qdrop
  by_cases h1 : a = cp c + 1
  · by_cases h2 : j = l
    · subst h2; simp [h1, h]
    · simp only [h1, h2, and_false, if_false, true_and]
      split <;> split <;> first | rfl | omega
  · simp [h1]
theorem lp_C_dropAfter {L c m : Nat} (hc : c < 12) (I : qI) : ∀ f l, l + f = 188 → m < l → qE M_C_dropAfter 0 4 [some (.inr (some (cp c))), some (.inl (m : Int)), some (.inl (l : Int))] [] L (qdrop I c m l) (rV L (qdrop I c m 188)) := by
  intro f
  induction f with
  | zero =>
    intro l hl hm
    refine q_iload_n (pc := 4) dC_dropAfter_4 rfl ?_
    refine q_sipush (pc := 5) dC_dropAfter_5 (by decide) (by decide) ?_
    refine q_icmp_gt (tgt := 24) (pc := 8) dC_dropAfter_8 (by decide) (fun h8 => ?_) (fun h8 => ?_)
    · refine q_vret rfl (pc := 24) dC_dropAfter_24 ?_
      exact ⟨rfl, rfl, by rw [show l = 188 by omega]⟩
    · omega
  | succ f ih =>
    intro l hl hm
    refine q_iload_n (pc := 4) dC_dropAfter_4 rfl ?_
    refine q_sipush (pc := 5) dC_dropAfter_5 (by decide) (by decide) ?_
    refine q_icmp_gt (tgt := 24) (pc := 8) dC_dropAfter_8 (by decide) (fun h8 => ?_) (fun h8 => ?_)
    · omega
    · refine q_aload_n (pc := 11) dC_dropAfter_11 rfl ?_
      refine q_getR (f := 1) (pc := 12) dC_dropAfter_12 lay_4 (by decide) (s_cp L c hc) (by decide) fl_C9 rfl rfl ?_
      refine q_iload_n (pc := 15) dC_dropAfter_15 rfl ?_
      refine q_iconst (pc := 16) dC_dropAfter_16 (by decide) ?_
      refine q_zast (i := l) (pc := 17) dC_dropAfter_17 (s_hd L c hc) rfl (by omega) rfl (by first | exact Or.inl rfl | exact Or.inr rfl) ?_
      refine q_iinc (pc := 18) dC_dropAfter_18 rfl (by decide) rfl ⟨by omega, by omega⟩ ?_
      refine q_goto (tgt := 4) (pc := 21) dC_dropAfter_21 (by decide) ?_
      rw [qdrop_up hm]
      exact ih (l + 1) (by omega) (by omega)
theorem ct_C_dropAfter {L c m : Nat} (hc : c < 12) (hm : m ≤ 187) (I : qI) : qT M_C_dropAfter 0 [.inr (some (cp c)), .inl (m : Int)] L I (rV L (qdrop I c m 188)) := by
  refine q_enter (by decide) (Nat.le_of_ble_eq_true rfl) ?_
  refine q_iload_n (pc := 0) dC_dropAfter_0 rfl ?_
  refine q_iconst (pc := 1) dC_dropAfter_1 (by decide) ?_
  refine q_iadd (pc := 2) dC_dropAfter_2 rfl ⟨by omega, by omega⟩ ?_
  refine q_istore_n (pc := 3) dC_dropAfter_3 (by decide) ?_
  have e : I = qdrop I c m (m + 1) := by
    funext a j
    unfold qdrop
    rw [if_neg (by omega)]
  have h := lp_C_dropAfter (L := L) (m := m) hc I (187 - m) (m + 1) (by omega) (by omega)
  rw [← e] at h
  exact h
def qlose (I : qI) (c : Nat) : qI := q_up (q_up (qdrop (q_up I (cp c) 2 2) c 0 188) (cp c) 3 0) (cp c) 4 0
theorem ct_C_lose {L c : Nat} (hc : c < 12) (I : qI) : qT M_C_lose 1 [.inr (some (cp c))] L I (rI (bi (decide (I (cp c) 2 ≠ 2))) L (if I (cp c) 2 = 2 then I else qlose I c)) := by
  refine q_enter (by decide) (Nat.le_of_ble_eq_true rfl) ?_
  refine q_aload_n (pc := 0) dC_lose_0 rfl ?_
  refine q_getI (f := 2) (pc := 1) dC_lose_1 lay_4 (by decide) (s_cp L c hc) (by decide) fl_C15 rfl rfl ?_
  refine q_iconst (pc := 4) dC_lose_4 (by decide) ?_
  refine q_icmp_ne (tgt := 10) (pc := 5) dC_lose_5 (by decide) (fun h5 => ?_) (fun h5 => ?_)
  · refine q_aload_n (pc := 10) dC_lose_10 rfl ?_
    refine q_iconst (pc := 11) dC_lose_11 (by decide) ?_
    refine q_putI (f := 2) (pc := 12) dC_lose_12 lay_4 typ_4 (by decide) (s_cp L c hc) (by decide) fl_C15 rfl (Or.inl rfl) (Or.inl rfl) rfl ?_
    refine q_aload_n (pc := 15) dC_lose_15 rfl ?_
    refine q_iconst (pc := 16) dC_lose_16 (by decide) ?_
    refine q_callV0 (pc := 17) dC_lose_17 ((ct_C_dropAfter (m := 0) hc (by omega) _)) cd_C_dropAfter in_C_dropAfter se_C_dropAfter ml_C28 (s_cp L c hc) (by decide) rfl rfl (Nat.le_of_ble_eq_true rfl) ⟨by decide, by decide⟩ ⟨by decide, by decide⟩ rfl ?_
    refine q_aload_n (pc := 20) dC_lose_20 rfl ?_
    refine q_iconst (pc := 21) dC_lose_21 (by decide) ?_
    refine q_putI (f := 3) (pc := 22) dC_lose_22 lay_4 typ_4 (by decide) (s_cp L c hc) (by decide) fl_C19 rfl (Or.inl rfl) (Or.inl rfl) rfl ?_
    refine q_aload_n (pc := 25) dC_lose_25 rfl ?_
    refine q_iconst (pc := 26) dC_lose_26 (by decide) ?_
    refine q_putI (f := 4) (pc := 27) dC_lose_27 lay_4 typ_4 (by decide) (s_cp L c hc) (by decide) fl_C22 rfl (Or.inl rfl) (Or.inl rfl) rfl ?_
    refine q_iconst (pc := 30) dC_lose_30 (by decide) ?_
    refine q_zret rfl (by first | exact Or.inl rfl | exact Or.inr rfl) (pc := 31) dC_lose_31 ?_
    exact ⟨by simp [bi, h5], rfl, by simp [h5, qlose]⟩
  · refine q_iconst (pc := 8) dC_lose_8 (by decide) ?_
    refine q_zret rfl (by first | exact Or.inl rfl | exact Or.inr rfl) (pc := 9) dC_lose_9 ?_
    exact ⟨by simp [bi, h5], rfl, by simp [h5]⟩
theorem ct_C_take {L c l : Nat} (hc : c < 12) (hl : l ≤ 187) (I : qI) : qT M_C_take 0 [.inr (some (cp c)), .inl (l : Int)] L I (rI (bi (decide (I (cp c + 1) l = 0))) L (q_up I (cp c + 1) l 1)) := by
  refine q_enter (by decide) (Nat.le_of_ble_eq_true rfl) ?_
  refine q_aload_n (pc := 0) dC_take_0 rfl ?_
  refine q_getR (f := 1) (pc := 1) dC_take_1 lay_4 (by decide) (s_cp L c hc) (by decide) fl_C9 rfl rfl ?_
  refine q_iload_n (pc := 4) dC_take_4 rfl ?_
  refine q_zald (i := l) (pc := 5) dC_take_5 (s_hd L c hc) rfl (by omega) rfl ?_
  refine q_if_ne (tgt := 13) (pc := 6) dC_take_6 (by decide) (fun h6 => ?_) (fun h6 => ?_)
  · refine q_iconst (pc := 13) dC_take_13 (by decide) ?_
    refine q_istore_n (pc := 14) dC_take_14 (by decide) ?_
    refine q_aload_n (pc := 15) dC_take_15 rfl ?_
    refine q_getR (f := 1) (pc := 16) dC_take_16 lay_4 (by decide) (s_cp L c hc) (by decide) fl_C9 rfl rfl ?_
    refine q_iload_n (pc := 19) dC_take_19 rfl ?_
    refine q_iconst (pc := 20) dC_take_20 (by decide) ?_
    refine q_zast (i := l) (pc := 21) dC_take_21 (s_hd L c hc) rfl (by omega) rfl (by first | exact Or.inl rfl | exact Or.inr rfl) ?_
    refine q_iload_n (pc := 22) dC_take_22 rfl ?_
    refine q_zret rfl (by first | exact Or.inl rfl | exact Or.inr rfl) (pc := 23) dC_take_23 ?_
    exact ⟨by simp [bi, h6], rfl, rfl⟩
  · refine q_iconst (pc := 9) dC_take_9 (by decide) ?_
    refine q_goto (tgt := 14) (pc := 10) dC_take_10 (by decide) ?_
    refine q_istore_n (pc := 14) dC_take_14 (by decide) ?_
    refine q_aload_n (pc := 15) dC_take_15 rfl ?_
    refine q_getR (f := 1) (pc := 16) dC_take_16 lay_4 (by decide) (s_cp L c hc) (by decide) fl_C9 rfl rfl ?_
    refine q_iload_n (pc := 19) dC_take_19 rfl ?_
    refine q_iconst (pc := 20) dC_take_20 (by decide) ?_
    refine q_zast (i := l) (pc := 21) dC_take_21 (s_hd L c hc) rfl (by omega) rfl (by first | exact Or.inl rfl | exact Or.inr rfl) ?_
    refine q_iload_n (pc := 22) dC_take_22 rfl ?_
    refine q_zret rfl (by first | exact Or.inl rfl | exact Or.inr rfl) (pc := 23) dC_take_23 ?_
    exact ⟨by simp [bi, h6], rfl, rfl⟩
/-- the copy's group, what it holds -/
def cgr (I : qI) (c : Nat) (l : Nat) : Bool := decide (I 7 l = I (cp c) 0)
def chd (I : qI) (c : Nat) (l : Nat) : Bool := decide (I (cp c + 1) l ≠ 0)
theorem lp_C_reach {L c n : Nat} (hc : c < 12) (I : qI) (hn : I 2 6 = (n : Int)) (hn2 : n ≤ 187) : ∀ f l r, l + f = n + 1 → 1 ≤ l → r < l → qE M_C_reach 0 4 [some (.inr (some (cp c))), some (.inr (some 2)), some (.inl ((r : Nat) : Int)), some (.inl ((l : Nat) : Int))] [] L I (rI (qr (cgr I c) (chd I c) f l r : Nat) L I) := by
  intro f
  induction f with
  | zero =>
    intro l r hl h1 hr
    refine q_iload_n (pc := 4) dC_reach_4 rfl ?_
    refine q_aload_n (pc := 5) dC_reach_5 rfl ?_
    refine q_getI (f := 6) (pc := 6) dC_reach_6 lay_1 (by decide) rfl (by decide) fl_C42 rfl rfl ?_
    refine q_icmp_gt (tgt := 45) (pc := 9) dC_reach_9 (by decide) (fun h9 => ?_) (fun h9 => ?_)
    · refine q_iload_n (pc := 45) dC_reach_45 rfl ?_
      refine q_iret rfl (pc := 46) dC_reach_46 ?_
      exact ⟨rfl, rfl, rfl⟩
    · omega
  | succ f ih =>
    intro l r hl h1 hr
    refine q_iload_n (pc := 4) dC_reach_4 rfl ?_
    refine q_aload_n (pc := 5) dC_reach_5 rfl ?_
    refine q_getI (f := 6) (pc := 6) dC_reach_6 lay_1 (by decide) rfl (by decide) fl_C42 rfl rfl ?_
    refine q_icmp_gt (tgt := 45) (pc := 9) dC_reach_9 (by decide) (fun h9 => ?_) (fun h9 => ?_)
    · omega
    · refine q_aload_n (pc := 12) dC_reach_12 rfl ?_
      refine q_getR (f := 4) (pc := 13) dC_reach_13 lay_1 (by decide) rfl (by decide) fl_C45 rfl rfl ?_
      refine q_iload_n (pc := 16) dC_reach_16 rfl ?_
      refine q_iald (i := l) (pc := 17) dC_reach_17 rfl rfl (by omega) rfl ?_
      refine q_aload_n (pc := 18) dC_reach_18 rfl ?_
      refine q_getI (f := 0) (pc := 19) dC_reach_19 lay_4 (by decide) (s_cp L c hc) (by decide) fl_C25 rfl rfl ?_
      refine q_icmp_ne (tgt := 39) (pc := 22) dC_reach_22 (by decide) (fun h22 => ?_) (fun h22 => ?_)
      · refine q_iinc (pc := 39) dC_reach_39 rfl (by decide) rfl ⟨by omega, by omega⟩ ?_
        refine q_goto (tgt := 4) (pc := 42) dC_reach_42 (by decide) ?_
        have e : qr (cgr I c) (chd I c) (f + 1) l r = qr (cgr I c) (chd I c) f (l + 1) r := by
          rw [qr, if_neg (by simp [cgr, h22])]
        rw [e]
        exact ih (l + 1) r (by omega) (by omega) (by omega)
      · refine q_aload_n (pc := 25) dC_reach_25 rfl ?_
        refine q_getR (f := 1) (pc := 26) dC_reach_26 lay_4 (by decide) (s_cp L c hc) (by decide) fl_C9 rfl rfl ?_
        refine q_iload_n (pc := 29) dC_reach_29 rfl ?_
        refine q_zald (i := l) (pc := 30) dC_reach_30 (s_hd L c hc) rfl (by omega) rfl ?_
        refine q_if_ne (tgt := 37) (pc := 31) dC_reach_31 (by decide) (fun h31 => ?_) (fun h31 => ?_)
        · refine q_iload_n (pc := 37) dC_reach_37 rfl ?_
          refine q_istore_n (pc := 38) dC_reach_38 (by decide) ?_
          refine q_iinc (pc := 39) dC_reach_39 rfl (by decide) rfl ⟨by omega, by omega⟩ ?_
          refine q_goto (tgt := 4) (pc := 42) dC_reach_42 (by decide) ?_
          have e : qr (cgr I c) (chd I c) (f + 1) l r = qr (cgr I c) (chd I c) f (l + 1) l := by
            rw [qr, if_pos (by simp [cgr, h22]), if_pos (by simp [chd, h31])]
          rw [e]
          exact ih (l + 1) l (by omega) (by omega) (by omega)
        · refine q_goto (tgt := 45) (pc := 34) dC_reach_34 (by decide) ?_
          refine q_iload_n (pc := 45) dC_reach_45 rfl ?_
          refine q_iret rfl (pc := 46) dC_reach_46 ?_
          exact ⟨by rw [qr, if_pos (by simp [cgr, h22]), if_neg (by simp [chd, h31])], rfl, rfl⟩
/-- how far the copy has reached -/
def crc (I : qI) (c n : Nat) : Nat := qr (cgr I c) (chd I c) n 1 0
theorem ct_C_reach {L c n : Nat} (hc : c < 12) (I : qI) (hn : I 2 6 = (n : Int)) (hn2 : n ≤ 187) : qT M_C_reach 0 [.inr (some (cp c)), .inr (some 2)] L I (rI (crc I c n : Nat) L I) := by
  refine q_enter (by decide) (Nat.le_of_ble_eq_true rfl) ?_
  refine q_iconst (pc := 0) dC_reach_0 (by decide) ?_
  refine q_istore_n (pc := 1) dC_reach_1 (by decide) ?_
  refine q_iconst (pc := 2) dC_reach_2 (by decide) ?_
  refine q_istore_n (pc := 3) dC_reach_3 (by decide) ?_
  exact lp_C_reach hc I hn hn2 n 1 0 (by omega) (by omega) (by omega)
theorem ct_C_tellReach {L c n : Nat} (hc : c < 12) (I : qI) (hn : I 2 6 = (n : Int)) (hn2 : n ≤ 187) : qT M_C_tellReach 1 [.inr (some (cp c)), .inr (some 2)] L I (rV L (q_up I (cp c) 4 (crc I c n : Nat))) := by
  refine q_enter (by decide) (Nat.le_of_ble_eq_true rfl) ?_
  refine q_aload_n (pc := 0) dC_tellReach_0 rfl ?_
  refine q_aload_n (pc := 1) dC_tellReach_1 rfl ?_
  refine q_aload_n (pc := 2) dC_tellReach_2 rfl ?_
  refine q_callV1 (pc := 3) dC_tellReach_3 ((ct_C_reach hc I hn hn2)) cd_C_reach in_C_reach se_C_reach ml_C48 (s_cp L c hc) (by decide) rfl rfl (Nat.le_of_ble_eq_true rfl) ⟨by decide, by decide⟩ ⟨by decide, by decide⟩ rfl ?_
  refine q_putI (f := 4) (pc := 6) dC_tellReach_6 lay_4 typ_4 (by decide) (s_cp L c hc) (by decide) fl_C22 rfl (Or.inl rfl) (Or.inl rfl) rfl ?_
  refine q_vret rfl (pc := 9) dC_tellReach_9 ?_
  exact ⟨rfl, rfl, rfl⟩
def call_ (I : qI) (c : Nat) (l : Nat) : Bool := !(cgr I c l) || chd I c l
theorem lp_C_holdsAllUpTo {L c m : Nat} (hc : c < 12) (hm : m ≤ 187) (I : qI) : ∀ f l, l + f = m + 1 → 1 ≤ l → (∀ i, 1 ≤ i → i < l → call_ I c i = true) → qE M_C_holdsAllUpTo 0 2 [some (.inr (some (cp c))), some (.inl ((m : Nat) : Int)), some (.inr (some 2)), some (.inl ((l : Nat) : Int))] [] L I (rI (bi (qa (call_ I c) m)) L I) := by
  intro f
  induction f with
  | zero =>
    intro l hl h1 hp
    refine q_iload_n (pc := 2) dC_holdsAllUpTo_2 rfl ?_
    refine q_iload_n (pc := 3) dC_holdsAllUpTo_3 rfl ?_
    refine q_icmp_gt (tgt := 37) (pc := 4) dC_holdsAllUpTo_4 (by decide) (fun h4 => ?_) (fun h4 => ?_)
    · refine q_iconst (pc := 37) dC_holdsAllUpTo_37 (by decide) ?_
      refine q_zret rfl (by first | exact Or.inl rfl | exact Or.inr rfl) (pc := 38) dC_holdsAllUpTo_38 ?_
      exact ⟨by rw [qa_iff.mpr (fun i a b => hp i a (by omega))]; rfl, rfl, rfl⟩
    · omega
  | succ f ih =>
    intro l hl h1 hp
    refine q_iload_n (pc := 2) dC_holdsAllUpTo_2 rfl ?_
    refine q_iload_n (pc := 3) dC_holdsAllUpTo_3 rfl ?_
    refine q_icmp_gt (tgt := 37) (pc := 4) dC_holdsAllUpTo_4 (by decide) (fun h4 => ?_) (fun h4 => ?_)
    · omega
    · refine q_aload_n (pc := 7) dC_holdsAllUpTo_7 rfl ?_
      refine q_getR (f := 4) (pc := 8) dC_holdsAllUpTo_8 lay_1 (by decide) rfl (by decide) fl_C45 rfl rfl ?_
      refine q_iload_n (pc := 11) dC_holdsAllUpTo_11 rfl ?_
      refine q_iald (i := l) (pc := 12) dC_holdsAllUpTo_12 rfl rfl (by omega) rfl ?_
      refine q_aload_n (pc := 13) dC_holdsAllUpTo_13 rfl ?_
      refine q_getI (f := 0) (pc := 14) dC_holdsAllUpTo_14 lay_4 (by decide) (s_cp L c hc) (by decide) fl_C25 rfl rfl ?_
      refine q_icmp_ne (tgt := 31) (pc := 17) dC_holdsAllUpTo_17 (by decide) (fun h17 => ?_) (fun h17 => ?_)
      · refine q_iinc (pc := 31) dC_holdsAllUpTo_31 rfl (by decide) rfl ⟨by omega, by omega⟩ ?_
        refine q_goto (tgt := 2) (pc := 34) dC_holdsAllUpTo_34 (by decide) ?_
        refine ih (l + 1) (by omega) (by omega) (fun i a b => ?_)
        by_cases hi : i = l
        · subst hi; simp [call_, cgr, h17]
        · exact hp i a (by omega)
      · refine q_aload_n (pc := 20) dC_holdsAllUpTo_20 rfl ?_
        refine q_getR (f := 1) (pc := 21) dC_holdsAllUpTo_21 lay_4 (by decide) (s_cp L c hc) (by decide) fl_C9 rfl rfl ?_
        refine q_iload_n (pc := 24) dC_holdsAllUpTo_24 rfl ?_
        refine q_zald (i := l) (pc := 25) dC_holdsAllUpTo_25 (s_hd L c hc) rfl (by omega) rfl ?_
        refine q_if_ne (tgt := 31) (pc := 26) dC_holdsAllUpTo_26 (by decide) (fun h26 => ?_) (fun h26 => ?_)
        · refine q_iinc (pc := 31) dC_holdsAllUpTo_31 rfl (by decide) rfl ⟨by omega, by omega⟩ ?_
          refine q_goto (tgt := 2) (pc := 34) dC_holdsAllUpTo_34 (by decide) ?_
          refine ih (l + 1) (by omega) (by omega) (fun i a b => ?_)
          by_cases hi : i = l
          · subst hi; simp [call_, chd, h26]
          · exact hp i a (by omega)
        · refine q_iconst (pc := 29) dC_holdsAllUpTo_29 (by decide) ?_
          refine q_zret rfl (by first | exact Or.inl rfl | exact Or.inr rfl) (pc := 30) dC_holdsAllUpTo_30 ?_
          refine ⟨?_, rfl, rfl⟩
          have e : qa (call_ I c) m = false := by
            apply Bool.eq_false_iff.mpr
            intro h
            have h2 := qa_iff.mp h l h1 (by omega)
            simp [call_, cgr, chd, h17, h26] at h2
          rw [e]; rfl
theorem ct_C_holdsAllUpTo {L c m : Nat} (hc : c < 12) (hm : m ≤ 187) (I : qI) : qT M_C_holdsAllUpTo 0 [.inr (some (cp c)), .inl ((m : Nat) : Int), .inr (some 2)] L I (rI (bi (qa (call_ I c) m)) L I) := by
  refine q_enter (by decide) (Nat.le_of_ble_eq_true rfl) ?_
  refine q_iconst (pc := 0) dC_holdsAllUpTo_0 (by decide) ?_
  refine q_istore_n (pc := 1) dC_holdsAllUpTo_1 (by decide) ?_
  exact lp_C_holdsAllUpTo hc hm I m 1 (by omega) (by omega) (fun i a b => by omega)
def ckp (I : qI) (c : Nat) (l : Nat) : Bool := decide (I (cp c) 3 < (l : Int)) && chd I c l
theorem lp_C_keptUpTo {L c m : Nat} (hc : c < 12) (hm : m ≤ 187) (I : qI) : ∀ f l k, l + f = m + 1 → 1 ≤ l → I (cp c) 3 < (l : Int) → k = qn (ckp I c) (l - 1) → qE M_C_keptUpTo 0 9 [some (.inr (some (cp c))), some (.inl ((m : Nat) : Int)), some (.inl ((k : Nat) : Int)), some (.inl ((l : Nat) : Int))] [] L I (rI (qn (ckp I c) m : Nat) L I) := by
  intro f
  induction f with
  | zero =>
    intro l k hl h1 hf hk
    refine q_iload_n (pc := 9) dC_keptUpTo_9 rfl ?_
    refine q_iload_n (pc := 10) dC_keptUpTo_10 rfl ?_
    refine q_icmp_gt (tgt := 32) (pc := 11) dC_keptUpTo_11 (by decide) (fun h11 => ?_) (fun h11 => ?_)
    · refine q_iload_n (pc := 32) dC_keptUpTo_32 rfl ?_
      refine q_iret rfl (pc := 33) dC_keptUpTo_33 ?_
      exact ⟨by rw [hk, show l - 1 = m by omega], rfl, rfl⟩
    · omega
  | succ f ih =>
    intro l k hl h1 hf hk
    have hkl := qn_le (ckp I c) (l - 1)
    have e : qn (ckp I c) (l + 1 - 1) = qn (ckp I c) (l - 1) + (if ckp I c l = true then 1 else 0) := by
      obtain ⟨j, rfl⟩ : ∃ j, l = j + 1 := ⟨l - 1, by omega⟩
      rfl
    refine q_iload_n (pc := 9) dC_keptUpTo_9 rfl ?_
    refine q_iload_n (pc := 10) dC_keptUpTo_10 rfl ?_
    refine q_icmp_gt (tgt := 32) (pc := 11) dC_keptUpTo_11 (by decide) (fun h11 => ?_) (fun h11 => ?_)
    · omega
    · refine q_aload_n (pc := 14) dC_keptUpTo_14 rfl ?_
      refine q_getR (f := 1) (pc := 15) dC_keptUpTo_15 lay_4 (by decide) (s_cp L c hc) (by decide) fl_C9 rfl rfl ?_
      refine q_iload_n (pc := 18) dC_keptUpTo_18 rfl ?_
      refine q_zald (i := l) (pc := 19) dC_keptUpTo_19 (s_hd L c hc) rfl (by omega) rfl ?_
      refine q_if_eq (tgt := 26) (pc := 20) dC_keptUpTo_20 (by decide) (fun h20 => ?_) (fun h20 => ?_)
      · refine q_iinc (pc := 26) dC_keptUpTo_26 rfl (by decide) rfl ⟨by omega, by omega⟩ ?_
        refine q_goto (tgt := 9) (pc := 29) dC_keptUpTo_29 (by decide) ?_
        exact ih (l + 1) k (by omega) (by omega) (by omega) (by rw [e, if_neg (by simp [ckp, chd, h20]), hk]; rfl)
      · refine q_iinc (pc := 23) dC_keptUpTo_23 rfl (by decide) rfl ⟨by omega, by omega⟩ ?_
        refine q_iinc (pc := 26) dC_keptUpTo_26 rfl (by decide) rfl ⟨by omega, by omega⟩ ?_
        refine q_goto (tgt := 9) (pc := 29) dC_keptUpTo_29 (by decide) ?_
        exact ih (l + 1) (k + 1) (by omega) (by omega) (by omega) (by rw [e, if_pos (by simp [ckp, chd, h20, hf]), hk])
theorem ct_C_keptUpTo {L c m : Nat} (hc : c < 12) (hm : m ≤ 187) (I : qI) {fo : Nat} (hfo : I (cp c) 3 = (fo : Int)) (hfb : fo ≤ 1000) : qT M_C_keptUpTo 0 [.inr (some (cp c)), .inl ((m : Nat) : Int)] L I (rI (qn (ckp I c) m : Nat) L I) := by
  refine q_enter (by decide) (Nat.le_of_ble_eq_true rfl) ?_
  refine q_iconst (pc := 0) dC_keptUpTo_0 (by decide) ?_
  refine q_istore_n (pc := 1) dC_keptUpTo_1 (by decide) ?_
  refine q_aload_n (pc := 2) dC_keptUpTo_2 rfl ?_
  refine q_getI (f := 3) (pc := 3) dC_keptUpTo_3 lay_4 (by decide) (s_cp L c hc) (by decide) fl_C19 rfl rfl ?_
  refine q_iconst (pc := 6) dC_keptUpTo_6 (by decide) ?_
  refine q_iadd (pc := 7) dC_keptUpTo_7 rfl ⟨by omega, by omega⟩ ?_
  refine q_istore_n (pc := 8) dC_keptUpTo_8 (by decide) ?_
  by_cases h : fo ≤ m
  · have h9 := lp_C_keptUpTo (L := L) hc hm I (m - fo) (fo + 1) 0 (by omega) (by omega) (by omega) (by
      symm
      apply qn_zero
      intro l a b
      have : ¬ ((fo : Int) < (l : Int)) := by omega
      simp [ckp, hfo, this])
    rw [hfo]
    exact h9
  · refine q_iload_n (pc := 9) dC_keptUpTo_9 rfl ?_
    refine q_iload_n (pc := 10) dC_keptUpTo_10 rfl ?_
    refine q_icmp_gt (tgt := 32) (pc := 11) dC_keptUpTo_11 (by decide) (fun h11 => ?_) (fun h11 => ?_)
    · refine q_iload_n (pc := 32) dC_keptUpTo_32 rfl ?_
      refine q_iret rfl (pc := 33) dC_keptUpTo_33 ?_
      refine ⟨?_, rfl, rfl⟩
      rw [qn_zero]
      · rfl
      · intro l a b
        have : ¬ ((fo : Int) < (l : Int)) := by omega
        simp [ckp, hfo, this]
    · omega
def qmax (x y : Int) : Int := if x < y then y else x
def qmin (x y : Int) : Int := if y < x then y else x
theorem ct_C_foldUpTo {L c m : Nat} (hc : c < 12) (hm : m ≤ 187) (I : qI) {fo : Nat} (hfo : I (cp c) 3 = (fo : Int)) (hfb : fo ≤ 1000) : qT M_C_foldUpTo 1 [.inr (some (cp c)), .inl ((m : Nat) : Int)] L I (rI (qn (ckp I c) m : Nat) L (q_up I (cp c) 3 (qmax (I (cp c) 3) m))) := by
  refine q_enter (by decide) (Nat.le_of_ble_eq_true rfl) ?_
  refine q_aload_n (pc := 0) dC_foldUpTo_0 rfl ?_
  refine q_iload_n (pc := 1) dC_foldUpTo_1 rfl ?_
  refine q_callV1 (pc := 2) dC_foldUpTo_2 ((ct_C_keptUpTo hc hm I hfo hfb)) cd_C_keptUpTo in_C_keptUpTo se_C_keptUpTo ml_C52 (s_cp L c hc) (by decide) rfl rfl (Nat.le_of_ble_eq_true rfl) ⟨by decide, by decide⟩ ⟨by decide, by decide⟩ rfl ?_
  refine q_istore_n (pc := 5) dC_foldUpTo_5 (by decide) ?_
  refine q_aload_n (pc := 6) dC_foldUpTo_6 rfl ?_
  refine q_aload_n (pc := 7) dC_foldUpTo_7 rfl ?_
  refine q_getI (f := 3) (pc := 8) dC_foldUpTo_8 lay_4 (by decide) (s_cp L c hc) (by decide) fl_C19 rfl rfl ?_
  refine q_iload_n (pc := 11) dC_foldUpTo_11 rfl ?_
  refine q_max (pc := 12) dC_foldUpTo_12 mw_C36 mx_1 mt_0 mx_2 ⟨by decide, by decide⟩ ⟨by decide, by decide⟩ (Nat.le_of_ble_eq_true rfl) ?_
  refine q_putI (f := 3) (pc := 15) dC_foldUpTo_15 lay_4 typ_4 (by decide) (s_cp L c hc) (by decide) fl_C19 rfl (Or.inl rfl) (Or.inl rfl) rfl ?_
  refine q_iload_n (pc := 18) dC_foldUpTo_18 rfl ?_
  refine q_iret rfl (pc := 19) dC_foldUpTo_19 ?_
  exact ⟨rfl, rfl, rfl⟩
/-- c takes what d holds, of 1 .. l - 1 -/
def qtk (I : qI) (c d l : Nat) : qI := fun a j => if a = cp c + 1 ∧ 1 ≤ j ∧ j < l ∧ I (cp d + 1) j ≠ 0 then 1 else I a j
def qtn (I : qI) (c d : Nat) (l : Nat) : Bool := chd I d l && !chd I c l
theorem qtk_d {I : qI} {c d l j : Nat} (hcd : c ≠ d) : qtk I c d l (cp d + 1) j = I (cp d + 1) j := by
  unfold qtk
  rw [if_neg]
  rintro ⟨h, -⟩
  exact hcd (cp_inj (by omega)).symm
theorem qtk_c {I : qI} {c d l : Nat} : qtk I c d l (cp c + 1) l = I (cp c + 1) l := by
  unfold qtk
  rw [if_neg]
  rintro ⟨-, -, h, -⟩
  omega
theorem qtk_no {I : qI} {c d l : Nat} (h : I (cp d + 1) l = 0) : qtk I c d (l + 1) = qtk I c d l := by
  funext a j
  unfold qtk
  by_cases hj : j = l
  · subst hj; simp [h]
  · have : (j < l + 1) = (j < l) := by apply propext; omega
    simp only [this]
theorem qtk_up {I : qI} {c d l : Nat} (h1 : 1 ≤ l) (h : I (cp d + 1) l ≠ 0) : q_up (qtk I c d l) (cp c + 1) l 1 = qtk I c d (l + 1) := by
  funext a j
  unfold q_up qtk
  by_cases ha : a = cp c + 1
  · by_cases hj : j = l
    · subst hj; simp [ha, h, h1]
    · have : (j < l + 1) = (j < l) := by apply propext; omega
      simp [ha, hj, this]
  · simp [ha]
theorem lp_C_takeAllOf {L c d : Nat} (hc : c < 12) (hd : d < 12) (hcd : c ≠ d) (I : qI) : ∀ f l k, l + f = 188 → 1 ≤ l → k = qn (qtn I c d) (l - 1) → qE M_C_takeAllOf 1 4 [some (.inr (some (cp c))), some (.inr (some (cp d))), some (.inl ((k : Nat) : Int)), some (.inl ((l : Nat) : Int))] [] L (qtk I c d l) (rI (qn (qtn I c d) 187 : Nat) L (q_up (qtk I c d 188) (cp c) 3 (qmax (I (cp c) 3) (I (cp d) 3)))) := by
  intro f
  induction f with
  | zero =>
    intro l k hl h1 hk
    refine q_iload_n (pc := 4) dC_takeAllOf_4 rfl ?_
    refine q_sipush (pc := 5) dC_takeAllOf_5 (by decide) (by decide) ?_
    refine q_icmp_gt (tgt := 37) (pc := 8) dC_takeAllOf_8 (by decide) (fun h8 => ?_) (fun h8 => ?_)
    · refine q_aload_n (pc := 37) dC_takeAllOf_37 rfl ?_
      refine q_aload_n (pc := 38) dC_takeAllOf_38 rfl ?_
      refine q_getI (f := 3) (pc := 39) dC_takeAllOf_39 lay_4 (by decide) (s_cp L c hc) (by decide) fl_C19 rfl rfl ?_
      refine q_aload_n (pc := 42) dC_takeAllOf_42 rfl ?_
      refine q_getI (f := 3) (pc := 43) dC_takeAllOf_43 lay_4 (by decide) (s_cp L d hd) (by decide) fl_C19 rfl rfl ?_
      refine q_max (pc := 46) dC_takeAllOf_46 mw_C36 mx_1 mt_0 mx_2 ⟨by decide, by decide⟩ ⟨by decide, by decide⟩ (Nat.le_of_ble_eq_true rfl) ?_
      refine q_putI (f := 3) (pc := 49) dC_takeAllOf_49 lay_4 typ_4 (by decide) (s_cp L c hc) (by decide) fl_C19 rfl (Or.inl rfl) (Or.inl rfl) rfl ?_
      refine q_iload_n (pc := 52) dC_takeAllOf_52 rfl ?_
      refine q_iret rfl (pc := 53) dC_takeAllOf_53 ?_
      obtain rfl : l = 188 := by omega
      refine ⟨by rw [hk], rfl, ?_⟩
      have e1 : ∀ x, qtk I c d 188 (cp x) 3 = I (cp x) 3 := fun x => by unfold qtk; rw [if_neg]; rintro ⟨h, -⟩; exact cp_ne h
      rw [e1, e1]
      rfl
    · omega
  | succ f ih =>
    intro l k hl h1 hk
    have hkl := qn_le (qtn I c d) (l - 1)
    have e : qn (qtn I c d) (l + 1 - 1) = qn (qtn I c d) (l - 1) + (if qtn I c d l = true then 1 else 0) := by
      obtain ⟨j, rfl⟩ : ∃ j, l = j + 1 := ⟨l - 1, by omega⟩
      rfl
    refine q_iload_n (pc := 4) dC_takeAllOf_4 rfl ?_
    refine q_sipush (pc := 5) dC_takeAllOf_5 (by decide) (by decide) ?_
    refine q_icmp_gt (tgt := 37) (pc := 8) dC_takeAllOf_8 (by decide) (fun h8 => ?_) (fun h8 => ?_)
    · omega
    · refine q_aload_n (pc := 11) dC_takeAllOf_11 rfl ?_
      refine q_getR (f := 1) (pc := 12) dC_takeAllOf_12 lay_4 (by decide) (s_cp L d hd) (by decide) fl_C9 rfl rfl ?_
      refine q_iload_n (pc := 15) dC_takeAllOf_15 rfl ?_
      refine q_zald (i := l) (pc := 16) dC_takeAllOf_16 (s_hd L d hd) rfl (by omega) rfl ?_
      refine q_if_eq (tgt := 31) (pc := 17) dC_takeAllOf_17 (by decide) (fun h17 => ?_) (fun h17 => ?_)
      · refine q_iinc (pc := 31) dC_takeAllOf_31 rfl (by decide) rfl ⟨by omega, by omega⟩ ?_
        refine q_goto (tgt := 4) (pc := 34) dC_takeAllOf_34 (by decide) ?_
        rw [qtk_d hcd] at h17
        rw [← qtk_no h17]
        exact ih (l + 1) k (by omega) (by omega) (by rw [e, if_neg (by simp [qtn, chd, h17]), hk]; rfl)
      · rw [qtk_d hcd] at h17
        refine q_aload_n (pc := 20) dC_takeAllOf_20 rfl ?_
        refine q_iload_n (pc := 21) dC_takeAllOf_21 rfl ?_
        refine q_callV1 (pc := 22) dC_takeAllOf_22 ((ct_C_take (l := l) hc (by omega) _)) cd_C_take in_C_take se_C_take ml_C32 (s_cp L c hc) (by decide) rfl rfl (Nat.le_of_ble_eq_true rfl) ⟨by decide, by decide⟩ ⟨by decide, by decide⟩ rfl ?_
        refine q_if_eq (tgt := 31) (pc := 25) dC_takeAllOf_25 (by decide) (fun h25 => ?_) (fun h25 => ?_)
        · refine q_iinc (pc := 31) dC_takeAllOf_31 rfl (by decide) rfl ⟨by omega, by omega⟩ ?_
          refine q_goto (tgt := 4) (pc := 34) dC_takeAllOf_34 (by decide) ?_
          rw [qtk_up h1 h17]
          rw [qtk_c] at h25
          exact ih (l + 1) k (by omega) (by omega) (by rw [e, if_neg (by simp [qtn, chd, bi] at h25 ⊢; exact fun _ => h25), hk]; rfl)
        · refine q_iinc (pc := 28) dC_takeAllOf_28 rfl (by decide) rfl ⟨by omega, by omega⟩ ?_
          refine q_iinc (pc := 31) dC_takeAllOf_31 rfl (by decide) rfl ⟨by omega, by omega⟩ ?_
          refine q_goto (tgt := 4) (pc := 34) dC_takeAllOf_34 (by decide) ?_
          rw [qtk_up h1 h17]
          rw [qtk_c] at h25
          exact ih (l + 1) (k + 1) (by omega) (by omega) (by rw [e, if_pos (by simp [qtn, chd, bi] at h25 ⊢; exact ⟨h17, h25⟩), hk])
def qtake (I : qI) (c d : Nat) : qI := q_up (qtk I c d 188) (cp c) 3 (qmax (I (cp c) 3) (I (cp d) 3))
theorem ct_C_takeAllOf {L c d : Nat} (hc : c < 12) (hd : d < 12) (hcd : c ≠ d) (I : qI) : qT M_C_takeAllOf 1 [.inr (some (cp c)), .inr (some (cp d))] L I (rI (qn (qtn I c d) 187 : Nat) L (qtake I c d)) := by
  refine q_enter (by decide) (Nat.le_of_ble_eq_true rfl) ?_
  refine q_iconst (pc := 0) dC_takeAllOf_0 (by decide) ?_
  refine q_istore_n (pc := 1) dC_takeAllOf_1 (by decide) ?_
  refine q_iconst (pc := 2) dC_takeAllOf_2 (by decide) ?_
  refine q_istore_n (pc := 3) dC_takeAllOf_3 (by decide) ?_
  have e : I = qtk I c d 1 := by
    funext a j
    unfold qtk
    rw [if_neg (by omega)]
  have h := lp_C_takeAllOf (L := L) hc hd hcd I 187 1 0 (by omega) (by omega) rfl
  rw [← e] at h
  exact h
