/-! The reference, third part. -/
/-- a page's place, f pages from i on -/
def mpl (I : qI) (p : Int) : Nat → Nat → Int
  | 0, _ => -1
  | f + 1, i => if I 56 i = p then (i : Int) else mpl I p f (i + 1)
theorem ct_M_placeOf {L k : Nat} (p : Int) (I : qI) (hk : I 44 16 = (k : Int)) (hk2 : k ≤ 4) : qT M_M_placeOf 0 [.inr (some 44), .inl p] L I (rI (mpl I p k 0) L I) := by
  refine q_enter (by decide) (Nat.le_of_ble_eq_true rfl) ?_
  refine q_iconst (pc := 0) dM_placeOf_0 (by decide) ?_
  refine q_istore_n (pc := 1) dM_placeOf_1 (by decide) ?_
  have lp : ∀ f i : Nat, i + f = k → qE M_M_placeOf 0 2 [some (.inr (some 44)), some (.inl p), some (.inl ((i : Nat) : Int))] [] L I (rI (mpl I p f i) L I) := by
    intro f
    induction f with
    | zero =>
      intro i hi
      refine q_iload_n (pc := 2) dM_placeOf_2 rfl ?_
      refine q_aload_n (pc := 3) dM_placeOf_3 rfl ?_
      refine q_getI (f := 16) (pc := 4) dM_placeOf_4 lay_6 (by decide) rfl (by decide) fl_M97 rfl rfl ?_
      refine q_icmp_ge (tgt := 28) (pc := 7) dM_placeOf_7 (by decide) (fun h7 => ?_) (fun h7 => ?_)
      · refine q_iconst (pc := 28) dM_placeOf_28 (by decide) ?_
        refine q_iret rfl (pc := 29) dM_placeOf_29 ?_
        exact ⟨rfl, rfl, rfl⟩
      · omega
    | succ f ih =>
      intro i hi
      refine q_iload_n (pc := 2) dM_placeOf_2 rfl ?_
      refine q_aload_n (pc := 3) dM_placeOf_3 rfl ?_
      refine q_getI (f := 16) (pc := 4) dM_placeOf_4 lay_6 (by decide) rfl (by decide) fl_M97 rfl rfl ?_
      refine q_icmp_ge (tgt := 28) (pc := 7) dM_placeOf_7 (by decide) (fun h7 => ?_) (fun h7 => ?_)
      · omega
      · refine q_aload_n (pc := 10) dM_placeOf_10 rfl ?_
        refine q_getR (f := 15) (pc := 11) dM_placeOf_11 lay_6 (by decide) rfl (by decide) fl_M44 rfl rfl ?_
        refine q_iload_n (pc := 14) dM_placeOf_14 rfl ?_
        refine q_iald (i := i) (pc := 15) dM_placeOf_15 rfl rfl (by omega) rfl ?_
        refine q_iload_n (pc := 16) dM_placeOf_16 rfl ?_
        refine q_icmp_ne (tgt := 22) (pc := 17) dM_placeOf_17 (by decide) (fun h17 => ?_) (fun h17 => ?_)
        · refine q_iinc (pc := 22) dM_placeOf_22 rfl (by decide) rfl ⟨by omega, by omega⟩ ?_
          refine q_goto (tgt := 2) (pc := 25) dM_placeOf_25 (by decide) ?_
          have e : mpl I p (f + 1) i = mpl I p f (i + 1) := by rw [mpl, if_neg h17]
          rw [e]
          exact ih (i + 1) (by omega)
        · refine q_iload_n (pc := 20) dM_placeOf_20 rfl ?_
          refine q_iret rfl (pc := 21) dM_placeOf_21 ?_
          exact ⟨by rw [mpl, if_pos h17], rfl, rfl⟩
  exact lp k 0 (by omega)
theorem mpl_bd (I : qI) (p : Int) : ∀ f i : Nat, mpl I p f i = -1 ∨ ((i : Int) ≤ mpl I p f i ∧ mpl I p f i < (i : Int) + f)
  | 0, i => Or.inl rfl
  | f + 1, i => by
    rw [mpl]
    split
    · right; omega
    · rcases mpl_bd I p f (i + 1) with h | h
      · exact Or.inl h
      · right; omega
def mdr : Nat → Nat → qI → qI
  | 0, _, I => I
  | f + 1, j, I => mdr f (j + 1) (q_up I 56 j (I 56 (j + 1)))
theorem mdr_off {a : Nat} (h : a ≠ 56) : ∀ {f j : Nat} {I : qI}, mdr f j I a = I a
  | 0, j, I => rfl
  | f + 1, j, I => by
    show mdr f (j + 1) (q_up I 56 j (I 56 (j + 1))) a = I a
    rw [mdr_off h, q_up_off a h]
def mdrp (I : qI) (k s : Nat) : qI := mdr (k - 1 - s) s (q_up I 44 16 ((k - 1 : Nat) : Int))
theorem lp_M_drop {L m : Nat} (x : Option qV) (hm : m ≤ 3) : ∀ (f j : Nat) (I : qI), I 44 16 = (m : Int) → j + f = m → qE M_M_drop 0 12 [some (.inr (some 44)), x, some (.inl ((j : Nat) : Int))] [] L I (rV L (mdr f j I)) := by
  intro f
  induction f with
  | zero =>
    intro j I hI hj
    refine q_iload_n (pc := 12) dM_drop_12 rfl ?_
    refine q_aload_n (pc := 13) dM_drop_13 rfl ?_
    refine q_getI (f := 16) (pc := 14) dM_drop_14 lay_6 (by decide) rfl (by decide) fl_M97 rfl rfl ?_
    refine q_icmp_ge (tgt := 40) (pc := 17) dM_drop_17 (by decide) (fun h17 => ?_) (fun h17 => ?_)
    · refine q_vret rfl (pc := 40) dM_drop_40 ?_
      exact ⟨rfl, rfl, rfl⟩
    · omega
  | succ f ih =>
    intro j I hI hj
    refine q_iload_n (pc := 12) dM_drop_12 rfl ?_
    refine q_aload_n (pc := 13) dM_drop_13 rfl ?_
    refine q_getI (f := 16) (pc := 14) dM_drop_14 lay_6 (by decide) rfl (by decide) fl_M97 rfl rfl ?_
    refine q_icmp_ge (tgt := 40) (pc := 17) dM_drop_17 (by decide) (fun h17 => ?_) (fun h17 => ?_)
    · omega
    · refine q_aload_n (pc := 20) dM_drop_20 rfl ?_
      refine q_getR (f := 15) (pc := 21) dM_drop_21 lay_6 (by decide) rfl (by decide) fl_M44 rfl rfl ?_
      refine q_iload_n (pc := 24) dM_drop_24 rfl ?_
      refine q_aload_n (pc := 25) dM_drop_25 rfl ?_
      refine q_getR (f := 15) (pc := 26) dM_drop_26 lay_6 (by decide) rfl (by decide) fl_M44 rfl rfl ?_
      refine q_iload_n (pc := 29) dM_drop_29 rfl ?_
      refine q_iconst (pc := 30) dM_drop_30 (by decide) ?_
      refine q_iadd (pc := 31) dM_drop_31 rfl ⟨by omega, by omega⟩ ?_
      refine q_iald (i := (j + 1)) (pc := 32) dM_drop_32 rfl rfl (by omega) rfl ?_
      refine q_iast (i := j) (pc := 33) dM_drop_33 rfl rfl (by omega) rfl ?_
      refine q_iinc (pc := 34) dM_drop_34 rfl (by decide) rfl ⟨by omega, by omega⟩ ?_
      refine q_goto (tgt := 12) (pc := 37) dM_drop_37 (by decide) ?_
      exact ih (j + 1) _ (by rw [q_up_off 44 (by decide)]; exact hI) (by omega)
theorem ct_M_drop {L k s : Nat} (I : qI) (hk : I 44 16 = (k : Int)) (hk2 : k ≤ 4) (hs : s < k) : qT M_M_drop 0 [.inr (some 44), .inl ((s : Nat) : Int)] L I (rV L (mdrp I k s)) := by
  refine q_enter (by decide) (Nat.le_of_ble_eq_true rfl) ?_
  refine q_aload_n (pc := 0) dM_drop_0 rfl ?_
  refine q_dup (pc := 1) dM_drop_1 ?_
  refine q_getI (f := 16) (pc := 2) dM_drop_2 lay_6 (by decide) rfl (by decide) fl_M97 rfl rfl ?_
  refine q_iconst (pc := 5) dM_drop_5 (by decide) ?_
  refine q_isub (pc := 6) dM_drop_6 (show I 44 16 - 1 = ((k - 1 : Nat) : Int) by omega) ⟨by omega, by omega⟩ ?_
  refine q_putI (f := 16) (pc := 7) dM_drop_7 lay_6 typ_6 (by decide) rfl (by decide) fl_M97 rfl (Or.inl rfl) (Or.inl rfl) rfl ?_
  refine q_iload_n (pc := 10) dM_drop_10 rfl ?_
  refine q_istore_n (pc := 11) dM_drop_11 (by decide) ?_
  exact lp_M_drop (m := k - 1) _ (by omega) (k - 1 - s) s _ (by simp [q_up]) (by omega)
/-- which page goes, f pages from i on -/
def mgo (I : qI) (n d : Nat) (o : Int) : Nat → Nat → Int
  | 0, _ => -1
  | f + 1, i => if ¬ I 56 i = o ∧ ¬ d < mlm I n (I 56 i).toNat 4 then (i : Int) else mgo I n d o f (i + 1)
theorem mgo_bd (I : qI) (n d : Nat) (o : Int) : ∀ f i : Nat, mgo I n d o f i = -1 ∨ ((i : Int) ≤ mgo I n d o f i ∧ mgo I n d o f i < (i : Int) + f)
  | 0, i => Or.inl rfl
  | f + 1, i => by
    rw [mgo]
    split
    · right; omega
    · rcases mgo_bd I n d o f (i + 1) with h | h
      · exact Or.inl h
      · right; omega
theorem ct_M_goes {L n k d : Nat} (o : Int) (I : qI) (hn : I 44 0 = (n : Int)) (hn2 : n < 200) (hk : I 44 16 = (k : Int)) (hk2 : k ≤ 4) (hd : I 44 11 = (d : Int)) (hp : ∀ i, i < k → ∃ p : Nat, p ≤ 7 ∧ I 56 i = (p : Int)) : qT M_M_goes 2 [.inr (some 44), .inl o] L I (rI (mgo I n d o k 0) L I) := by
  refine q_enter (by decide) (Nat.le_of_ble_eq_true rfl) ?_
  refine q_iconst (pc := 0) dM_goes_0 (by decide) ?_
  refine q_istore_n (pc := 1) dM_goes_1 (by decide) ?_
  have lp : ∀ f i : Nat, i + f = k → qE M_M_goes 2 2 [some (.inr (some 44)), some (.inl o), some (.inl ((i : Nat) : Int))] [] L I (rI (mgo I n d o f i) L I) := by
    intro f
    induction f with
    | zero =>
      intro i hi
      refine q_iload_n (pc := 2) dM_goes_2 rfl ?_
      refine q_aload_n (pc := 3) dM_goes_3 rfl ?_
      refine q_getI (f := 16) (pc := 4) dM_goes_4 lay_6 (by decide) rfl (by decide) fl_M97 rfl rfl ?_
      refine q_icmp_ge (tgt := 45) (pc := 7) dM_goes_7 (by decide) (fun h7 => ?_) (fun h7 => ?_)
      · refine q_iconst (pc := 45) dM_goes_45 (by decide) ?_
        refine q_iret rfl (pc := 46) dM_goes_46 ?_
        exact ⟨rfl, rfl, rfl⟩
      · omega
    | succ f ih =>
      intro i hi
      obtain ⟨p, hp1, hp2⟩ := hp i (by omega)
      have et : (I 56 i).toNat = p := by rw [hp2]; rfl
      have h9 := ih (i + 1) (by omega)
      have no : ¬ (¬ I 56 i = o ∧ ¬ d < mlm I n (I 56 i).toNat 4) → mgo I n d o (f + 1) i = mgo I n d o f (i + 1) := fun h => by rw [mgo, if_neg h]
      refine q_iload_n (pc := 2) dM_goes_2 rfl ?_
      refine q_aload_n (pc := 3) dM_goes_3 rfl ?_
      refine q_getI (f := 16) (pc := 4) dM_goes_4 lay_6 (by decide) rfl (by decide) fl_M97 rfl rfl ?_
      refine q_icmp_ge (tgt := 45) (pc := 7) dM_goes_7 (by decide) (fun h7 => ?_) (fun h7 => ?_)
      · omega
      · refine q_aload_n (pc := 10) dM_goes_10 rfl ?_
        refine q_getR (f := 15) (pc := 11) dM_goes_11 lay_6 (by decide) rfl (by decide) fl_M44 rfl rfl ?_
        refine q_iload_n (pc := 14) dM_goes_14 rfl ?_
        refine q_iald (i := i) (pc := 15) dM_goes_15 rfl rfl (by omega) rfl ?_
        refine q_iload_n (pc := 16) dM_goes_16 rfl ?_
        refine q_icmp_eq (tgt := 39) (pc := 17) dM_goes_17 (by decide) (fun h17 => ?_) (fun h17 => ?_)
        · refine q_iinc (pc := 39) dM_goes_39 rfl (by decide) rfl ⟨by omega, by omega⟩ ?_
          refine q_goto (tgt := 2) (pc := 42) dM_goes_42 (by decide) ?_
          rw [no (fun h => h.1 h17)]
          exact h9
        · refine q_aload_n (pc := 20) dM_goes_20 rfl ?_
          refine q_aload_n (pc := 21) dM_goes_21 rfl ?_
          refine q_getR (f := 15) (pc := 22) dM_goes_22 lay_6 (by decide) rfl (by decide) fl_M44 rfl rfl ?_
          refine q_iload_n (pc := 25) dM_goes_25 rfl ?_
          refine q_iald (i := i) (pc := 26) dM_goes_26 rfl rfl (by omega) rfl ?_
          rw [hp2]
          refine q_callV1 (pc := 27) dM_goes_27 ((ct_M_latest (p := p) I hn hn2 (by omega))) cd_M_latest in_M_latest se_M_latest ml_M100 rfl (by decide) rfl rfl (Nat.le_of_ble_eq_true rfl) ⟨by decide, by decide⟩ ⟨by decide, by decide⟩ rfl ?_
          refine q_aload_n (pc := 30) dM_goes_30 rfl ?_
          refine q_getI (f := 11) (pc := 31) dM_goes_31 lay_6 (by decide) rfl (by decide) fl_M94 rfl rfl ?_
          refine q_icmp_gt (tgt := 39) (pc := 34) dM_goes_34 (by decide) (fun h34 => ?_) (fun h34 => ?_)
          · refine q_iinc (pc := 39) dM_goes_39 rfl (by decide) rfl ⟨by omega, by omega⟩ ?_
            refine q_goto (tgt := 2) (pc := 42) dM_goes_42 (by decide) ?_
            rw [no (fun h => h.2 (by rw [et]; omega))]
            exact h9
          · refine q_iload_n (pc := 37) dM_goes_37 rfl ?_
            refine q_iret rfl (pc := 38) dM_goes_38 ?_
            exact ⟨by rw [mgo, if_pos ⟨h17, by rw [et]; omega⟩], rfl, rfl⟩
  exact lp k 0 (by omega)
def mapp (I : qI) (k : Nat) (p : Int) : qI := q_up (q_up I 56 k p) 44 16 ((k + 1 : Nat) : Int)
theorem mapp_off {I : qI} {k a : Nat} {p : Int} (h1 : a ≠ 56) (h2 : a ≠ 44) : mapp I k p a = I a := by
  unfold mapp
  rw [q_up_off a h2, q_up_off a h1]
def mtch (I : qI) (n k d p : Nat) (o : Int) : Int × qI :=
  if 0 ≤ mpl I p k 0 then (0, mapp (mdrp I k (mpl I p k 0).toNat) (k - 1) p)
  else if d < mlm I n p 4 ∨ (k = 4 ∧ mgo I n d o k 0 = -1) then (-6, I)
  else if qe (msv I (p % 2) d) 6 = false then (-7, I)
  else if k = 4 then (0, mapp (mdrp I k (mgo I n d o k 0).toNat) (k - 1) p)
  else (0, mapp I k p)
theorem mdrp_k {I : qI} {k s : Nat} : mdrp I k s 44 16 = ((k - 1 : Nat) : Int) := by
  unfold mdrp
  rw [mdr_off (by decide)]
  simp [q_up]
theorem M_touch_end {L k p : Nat} (x1 x2 x3 x4 : Option qV) (J : qI) (hk : J 44 16 = (k : Int)) (hk2 : k ≤ 3) : qE M_M_touch 3 88 [some (.inr (some 44)), some (.inl ((p : Nat) : Int)), x2, x3, x4] [] L J (rP (0, mapp J k p) L) := by
  refine q_aload_n (pc := 88) dM_touch_88 rfl ?_
  refine q_getR (f := 15) (pc := 89) dM_touch_89 lay_6 (by decide) rfl (by decide) fl_M44 rfl rfl ?_
  refine q_aload_n (pc := 92) dM_touch_92 rfl ?_
  refine q_getI (f := 16) (pc := 93) dM_touch_93 lay_6 (by decide) rfl (by decide) fl_M97 rfl rfl ?_
  refine q_iload_n (pc := 96) dM_touch_96 rfl ?_
  refine q_iast (i := k) (pc := 97) dM_touch_97 rfl hk (by omega) rfl ?_
  refine q_aload_n (pc := 98) dM_touch_98 rfl ?_
  refine q_dup (pc := 99) dM_touch_99 ?_
  refine q_getI (f := 16) (pc := 100) dM_touch_100 lay_6 (by decide) rfl (by decide) fl_M97 rfl rfl ?_
  refine q_iconst (pc := 103) dM_touch_103 (by decide) ?_
  refine q_iadd (pc := 104) dM_touch_104 (show q_up J 56 k (p : Int) 44 16 + 1 = ((k + 1 : Nat) : Int) by rw [q_up_off 44 (by decide), hk]; rfl) ⟨by omega, by omega⟩ ?_
  refine q_putI (f := 16) (pc := 105) dM_touch_105 lay_6 typ_6 (by decide) rfl (by decide) fl_M97 rfl (Or.inl rfl) (Or.inl rfl) rfl ?_
  refine q_iconst (pc := 108) dM_touch_108 (by decide) ?_
  refine q_iret rfl (pc := 109) dM_touch_109 ?_
  exact ⟨rfl, rfl, rfl⟩
theorem ct_M_touch {L n k d p : Nat} (o : Int) (I : qI) (hn : I 44 0 = (n : Int)) (hn2 : n < 200) (hk : I 44 16 = (k : Int)) (hk2 : k ≤ 4) (hd : I 44 11 = (d : Int)) (hd2 : d ≤ n) (hpp : p ≤ 7) (hp : ∀ i, i < k → ∃ p : Nat, p ≤ 7 ∧ I 56 i = (p : Int)) : qT M_M_touch 3 [.inr (some 44), .inl ((p : Nat) : Int), .inl o] L I (rP (mtch I n k d p o) L) := by
  refine q_enter (by decide) (Nat.le_of_ble_eq_true rfl) ?_
  have hb := mpl_bd I p k 0
  have hbg := mgo_bd I n d o k 0
  have hg : p % 2 < 2 := by omega
  refine q_aload_n (pc := 0) dM_touch_0 rfl ?_
  refine q_iload_n (pc := 1) dM_touch_1 rfl ?_
  refine q_callV1 (pc := 2) dM_touch_2 ((ct_M_placeOf p I hk hk2)) cd_M_placeOf in_M_placeOf se_M_placeOf ml_M103 rfl (by decide) rfl rfl (Nat.le_of_ble_eq_true rfl) ⟨by decide, by decide⟩ ⟨by decide, by decide⟩ rfl ?_
  refine q_istore_n (pc := 5) dM_touch_5 (by decide) ?_
  refine q_iload_n (pc := 6) dM_touch_6 rfl ?_
  refine q_if_ge (tgt := 83) (pc := 7) dM_touch_7 (by decide) (fun h7 => ?_) (fun h7 => ?_)
  · have e : mpl I p k 0 = (((mpl I p k 0).toNat : Nat) : Int) := by omega
    have e2 : mtch I n k d p o = (0, mapp (mdrp I k (mpl I p k 0).toNat) (k - 1) p) := by unfold mtch; rw [if_pos h7]
    refine q_aload_n (pc := 83) dM_touch_83 rfl ?_
    refine q_iload_n (pc := 84) dM_touch_84 rfl ?_
    rw [e]
    refine q_callV0 (pc := 85) dM_touch_85 ((ct_M_drop I hk hk2 (by omega))) cd_M_drop in_M_drop se_M_drop ml_M113 rfl (by decide) rfl rfl (Nat.le_of_ble_eq_true rfl) ⟨by decide, by decide⟩ ⟨by decide, by decide⟩ rfl ?_
    rw [e2]
    exact M_touch_end none _ _ _ _ mdrp_k (by omega)
  · have tail : ∀ z : Int, (k = 4 → z = mgo I n d o k 0) → (¬ k = 4 → z = 4) → qE M_M_touch 3 29 [some (.inr (some 44)), some (.inl ((p : Nat) : Int)), some (.inl o), some (.inl (mpl I p k 0)), some (.inl z)] [] L I (rP (mtch I n k d p o) L) := by
      intro z hz1 hz2
      refine q_aload_n (pc := 29) dM_touch_29 rfl ?_
      refine q_iload_n (pc := 30) dM_touch_30 rfl ?_
      refine q_callV1 (pc := 31) dM_touch_31 ((ct_M_latest (p := p) I hn hn2 (by omega))) cd_M_latest in_M_latest se_M_latest ml_M100 rfl (by decide) rfl rfl (Nat.le_of_ble_eq_true rfl) ⟨by decide, by decide⟩ ⟨by decide, by decide⟩ rfl ?_
      refine q_aload_n (pc := 34) dM_touch_34 rfl ?_
      refine q_getI (f := 11) (pc := 35) dM_touch_35 lay_6 (by decide) rfl (by decide) fl_M94 rfl rfl ?_
      refine q_icmp_gt (tgt := 46) (pc := 38) dM_touch_38 (by decide) (fun h38 => ?_) (fun h38 => ?_)
      · refine q_bipush (pc := 46) dM_touch_46 (by decide) (by decide) ?_
        refine q_iret rfl (pc := 48) dM_touch_48 ?_
        exact rP_of (by unfold mtch; rw [if_neg h7, if_pos (Or.inl (by omega))])
      · refine q_iload (pc := 41) dM_touch_41 rfl ?_
        refine q_if_ge (tgt := 49) (pc := 43) dM_touch_43 (by decide) (fun h43 => ?_) (fun h43 => ?_)
        · refine q_aload_n (pc := 49) dM_touch_49 rfl ?_
          refine q_iload_n (pc := 50) dM_touch_50 rfl ?_
          refine q_iconst (pc := 51) dM_touch_51 (by decide) ?_
          refine q_irem (pc := 52) dM_touch_52 (by decide) ?_
          rw [tm2]
          refine q_aload_n (pc := 53) dM_touch_53 rfl ?_
          refine q_getI (f := 11) (pc := 54) dM_touch_54 lay_6 (by decide) rfl (by decide) fl_M94 rfl rfl ?_
          rw [hd]
          refine q_callV1 (pc := 57) dM_touch_57 ((ct_M_served hg I hn hn2 hd2)) cd_M_served in_M_served se_M_served ml_M109 rfl (by decide) rfl rfl (Nat.le_of_ble_eq_true rfl) ⟨by decide, by decide⟩ ⟨by decide, by decide⟩ rfl ?_
          refine q_if_ne (tgt := 66) (pc := 60) dM_touch_60 (by decide) (fun h60 => ?_) (fun h60 => ?_)
          · refine q_aload_n (pc := 66) dM_touch_66 rfl ?_
            refine q_getI (f := 16) (pc := 67) dM_touch_67 lay_6 (by decide) rfl (by decide) fl_M97 rfl rfl ?_
            refine q_iconst (pc := 70) dM_touch_70 (by decide) ?_
            refine q_icmp_ne (tgt := 80) (pc := 71) dM_touch_71 (by decide) (fun h71 => ?_) (fun h71 => ?_)
            · refine q_goto (tgt := 88) (pc := 80) dM_touch_80 (by decide) ?_
              have e2 : mtch I n k d p o = (0, mapp I k p) := by
                unfold mtch; rw [if_neg h7, if_neg (by omega), if_neg (by rw [bi_ne h60]; decide), if_neg (by omega)]
              rw [e2]
              exact M_touch_end none _ _ _ _ hk (by omega)
            · have h4 : k = 4 := by omega
              have hz := hz1 h4
              have e : z = (((mgo I n d o k 0).toNat : Nat) : Int) := by omega
              have e2 : mtch I n k d p o = (0, mapp (mdrp I k (mgo I n d o k 0).toNat) (k - 1) p) := by
                unfold mtch; rw [if_neg h7, if_neg (by omega), if_neg (by rw [bi_ne h60]; decide), if_pos h4]
              rw [e2]
              refine q_aload_n (pc := 74) dM_touch_74 rfl ?_
              refine q_iload (pc := 75) dM_touch_75 rfl ?_
              rw [e]
              refine q_callV0 (pc := 77) dM_touch_77 ((ct_M_drop I hk hk2 (by omega))) cd_M_drop in_M_drop se_M_drop ml_M113 rfl (by decide) rfl rfl (Nat.le_of_ble_eq_true rfl) ⟨by decide, by decide⟩ ⟨by decide, by decide⟩ rfl ?_
              refine q_goto (tgt := 88) (pc := 80) dM_touch_80 (by decide) ?_
              exact M_touch_end none _ _ _ _ mdrp_k (by omega)
          · refine q_bipush (pc := 63) dM_touch_63 (by decide) (by decide) ?_
            refine q_iret rfl (pc := 65) dM_touch_65 ?_
            exact rP_of (by unfold mtch; rw [if_neg h7, if_neg (by omega), if_pos (bi_eq h60)])
        · refine q_bipush (pc := 46) dM_touch_46 (by decide) (by decide) ?_
          refine q_iret rfl (pc := 48) dM_touch_48 ?_
          refine rP_of ?_
          unfold mtch
          have h4 : k = 4 := by apply Classical.byContradiction; intro h; have := hz2 h; omega
          have := hz1 h4
          rw [if_neg h7, if_pos (Or.inr ⟨h4, by omega⟩)]
    refine q_aload_n (pc := 10) dM_touch_10 rfl ?_
    refine q_getI (f := 16) (pc := 11) dM_touch_11 lay_6 (by decide) rfl (by decide) fl_M97 rfl rfl ?_
    refine q_iconst (pc := 14) dM_touch_14 (by decide) ?_
    refine q_icmp_ne (tgt := 26) (pc := 15) dM_touch_15 (by decide) (fun h15 => ?_) (fun h15 => ?_)
    · refine q_iconst (pc := 26) dM_touch_26 (by decide) ?_
      refine q_istore (pc := 27) dM_touch_27 (by decide) ?_
      exact tail 4 (fun h => by omega) (fun _ => rfl)
    · refine q_aload_n (pc := 18) dM_touch_18 rfl ?_
      refine q_iload_n (pc := 19) dM_touch_19 rfl ?_
      refine q_callV1 (pc := 20) dM_touch_20 ((ct_M_goes o I hn hn2 hk hk2 hd hp)) cd_M_goes in_M_goes se_M_goes ml_M106 rfl (by decide) rfl rfl (Nat.le_of_ble_eq_true rfl) ⟨by decide, by decide⟩ ⟨by decide, by decide⟩ rfl ?_
      refine q_goto (tgt := 27) (pc := 23) dM_touch_23 (by decide) ?_
      refine q_istore (pc := 27) dM_touch_27 (by decide) ?_
      exact tail _ (fun _ => rfl) (fun h => by omega)
theorem ct_M_cached {L k : Nat} (p : Int) (I : qI) (hk : I 44 16 = (k : Int)) (hk2 : k ≤ 4) : qT M_M_cached 1 [.inr (some 44), .inl p] L I (rI (if mpl I p k 0 < 0 then 0 else (k : Int) - mpl I p k 0) L I) := by
  have hb := mpl_bd I p k 0
  refine q_enter (by decide) (Nat.le_of_ble_eq_true rfl) ?_
  refine q_aload_n (pc := 0) dM_cached_0 rfl ?_
  refine q_iload_n (pc := 1) dM_cached_1 rfl ?_
  refine q_callV1 (pc := 2) dM_cached_2 ((ct_M_placeOf p I hk hk2)) cd_M_placeOf in_M_placeOf se_M_placeOf ml_M103 rfl (by decide) rfl rfl (Nat.le_of_ble_eq_true rfl) ⟨by decide, by decide⟩ ⟨by decide, by decide⟩ rfl ?_
  refine q_istore_n (pc := 5) dM_cached_5 (by decide) ?_
  refine q_iload_n (pc := 6) dM_cached_6 rfl ?_
  refine q_if_ge (tgt := 14) (pc := 7) dM_cached_7 (by decide) (fun h7 => ?_) (fun h7 => ?_)
  · refine q_aload_n (pc := 14) dM_cached_14 rfl ?_
    refine q_getI (f := 16) (pc := 15) dM_cached_15 lay_6 (by decide) rfl (by decide) fl_M97 rfl rfl ?_
    refine q_iload_n (pc := 18) dM_cached_18 rfl ?_
    refine q_isub (pc := 19) dM_cached_19 rfl ⟨by omega, by omega⟩ ?_
    refine q_iret rfl (pc := 20) dM_cached_20 ?_
    exact ⟨by rw [if_neg (by omega), hk], rfl, rfl⟩
  · refine q_iconst (pc := 10) dM_cached_10 (by decide) ?_
    refine q_goto (tgt := 20) (pc := 11) dM_cached_11 (by decide) ?_
    refine q_iret rfl (pc := 20) dM_cached_20 ?_
    exact ⟨by rw [if_pos (by omega)], rfl, rfl⟩
def mct (I : qI) (t : Nat) : Bool := decide (I 54 t ≠ 0)
def mst (I : qI) (T : Nat) : qI := q_up (q_up I 44 12 ((T + 1 : Nat) : Int)) 54 (T + 1) 1
def bBegin (I : qI) (n T : Nat) : Int × qI := if ¬ I 44 10 = 0 then (-2, I) else if qn (mct I) T = 4 ∨ T = 60 ∨ 150 ≤ n then (-5, I) else (((T + 1 : Nat) : Int), mst I T)
theorem ct_M_begin {L n T : Nat} (I : qI) (hn : I 44 0 = (n : Int)) (hT : I 44 12 = (T : Int)) (hT2 : T ≤ 60) : qT M_M_begin 0 [.inr (some 44)] L I (rP (bBegin I n T) L) := by
  refine q_enter (by decide) (Nat.le_of_ble_eq_true rfl) ?_
  refine q_aload_n (pc := 0) dM_begin_0 rfl ?_
  refine q_getI (f := 10) (pc := 1) dM_begin_1 lay_6 (by decide) rfl (by decide) fl_M117 rfl rfl ?_
  refine q_if_eq (tgt := 10) (pc := 4) dM_begin_4 (by decide) (fun h4 => ?_) (fun h4 => ?_)
  · have tail : ∀ z, qE M_M_begin 0 45 [some (.inr (some 44)), some (.inl ((qn (mct I) T : Nat) : Int)), z] [] L I (rP (bBegin I n T) L) := by
      intro z
      refine q_iload_n (pc := 45) dM_begin_45 rfl ?_
      refine q_iconst (pc := 46) dM_begin_46 (by decide) ?_
      refine q_icmp_eq (tgt := 69) (pc := 47) dM_begin_47 (by decide) (fun h47 => ?_) (fun h47 => ?_)
      · refine q_bipush (pc := 69) dM_begin_69 (by decide) (by decide) ?_
        refine q_iret rfl (pc := 71) dM_begin_71 ?_
        exact rP_of (by unfold bBegin; rw [if_neg (not_not_intro h4), if_pos (Or.inl (by omega))])
      · refine q_aload_n (pc := 50) dM_begin_50 rfl ?_
        refine q_getI (f := 12) (pc := 51) dM_begin_51 lay_6 (by decide) rfl (by decide) fl_M50 rfl rfl ?_
        refine q_bipush (pc := 54) dM_begin_54 (by decide) (by decide) ?_
        refine q_icmp_eq (tgt := 69) (pc := 56) dM_begin_56 (by decide) (fun h56 => ?_) (fun h56 => ?_)
        · refine q_bipush (pc := 69) dM_begin_69 (by decide) (by decide) ?_
          refine q_iret rfl (pc := 71) dM_begin_71 ?_
          exact rP_of (by unfold bBegin; rw [if_neg (not_not_intro h4), if_pos (Or.inr (Or.inl (by omega)))])
        · refine q_aload_n (pc := 59) dM_begin_59 rfl ?_
          refine q_getI (f := 0) (pc := 60) dM_begin_60 lay_6 (by decide) rfl (by decide) fl_M54 rfl rfl ?_
          refine q_sipush (pc := 63) dM_begin_63 (by decide) (by decide) ?_
          refine q_icmp_lt (tgt := 72) (pc := 66) dM_begin_66 (by decide) (fun h66 => ?_) (fun h66 => ?_)
          · refine q_aload_n (pc := 72) dM_begin_72 rfl ?_
            refine q_dup (pc := 73) dM_begin_73 ?_
            refine q_getI (f := 12) (pc := 74) dM_begin_74 lay_6 (by decide) rfl (by decide) fl_M50 rfl rfl ?_
            refine q_iconst (pc := 77) dM_begin_77 (by decide) ?_
            refine q_iadd (pc := 78) dM_begin_78 (show I 44 12 + 1 = ((T + 1 : Nat) : Int) by omega) ⟨by omega, by omega⟩ ?_
            refine q_putI (f := 12) (pc := 79) dM_begin_79 lay_6 typ_6 (by decide) rfl (by decide) fl_M50 rfl (Or.inl rfl) (Or.inl rfl) rfl ?_
            refine q_aload_n (pc := 82) dM_begin_82 rfl ?_
            refine q_getR (f := 13) (pc := 83) dM_begin_83 lay_6 (by decide) rfl (by decide) fl_M38 rfl rfl ?_
            refine q_aload_n (pc := 86) dM_begin_86 rfl ?_
            refine q_getI (f := 12) (pc := 87) dM_begin_87 lay_6 (by decide) rfl (by decide) fl_M50 rfl rfl ?_
            refine q_iconst (pc := 90) dM_begin_90 (by decide) ?_
            refine q_zast (i := (T + 1)) (pc := 91) dM_begin_91 rfl (by simp [q_up]) (by omega) rfl (by first | exact Or.inl rfl | exact Or.inr rfl) ?_
            refine q_aload_n (pc := 92) dM_begin_92 rfl ?_
            refine q_getI (f := 12) (pc := 93) dM_begin_93 lay_6 (by decide) rfl (by decide) fl_M50 rfl rfl ?_
            refine q_iret rfl (pc := 96) dM_begin_96 ?_
            refine rP_of ?_
            unfold bBegin
            rw [if_neg (not_not_intro h4), if_neg (by omega), q_up_off 44 (by decide)]
            simp [q_up, mst]
          · refine q_bipush (pc := 69) dM_begin_69 (by decide) (by decide) ?_
            refine q_iret rfl (pc := 71) dM_begin_71 ?_
            exact rP_of (by unfold bBegin; rw [if_neg (not_not_intro h4), if_pos (Or.inr (Or.inr (by omega)))])
    have lp : ∀ f t : Nat, t + f = T → qE M_M_begin 0 14 [some (.inr (some 44)), some (.inl ((qn (mct I) t : Nat) : Int)), some (.inl ((t + 1 : Nat) : Int))] [] L I (rP (bBegin I n T) L) := by
      intro f
      induction f with
      | zero =>
        intro t ht
        obtain rfl : t = T := by omega
        refine q_iload_n (pc := 14) dM_begin_14 rfl ?_
        refine q_aload_n (pc := 15) dM_begin_15 rfl ?_
        refine q_getI (f := 12) (pc := 16) dM_begin_16 lay_6 (by decide) rfl (by decide) fl_M50 rfl rfl ?_
        refine q_icmp_gt (tgt := 45) (pc := 19) dM_begin_19 (by decide) (fun h19 => ?_) (fun h19 => ?_)
        · exact tail _
        · omega
      | succ f ih =>
        intro t ht
        have h9 := ih (t + 1) (by omega)
        have hl := qn_le (mct I) t
        refine q_iload_n (pc := 14) dM_begin_14 rfl ?_
        refine q_aload_n (pc := 15) dM_begin_15 rfl ?_
        refine q_getI (f := 12) (pc := 16) dM_begin_16 lay_6 (by decide) rfl (by decide) fl_M50 rfl rfl ?_
        refine q_icmp_gt (tgt := 45) (pc := 19) dM_begin_19 (by decide) (fun h19 => ?_) (fun h19 => ?_)
        · omega
        · refine q_iload_n (pc := 22) dM_begin_22 rfl ?_
          refine q_aload_n (pc := 23) dM_begin_23 rfl ?_
          refine q_getR (f := 13) (pc := 24) dM_begin_24 lay_6 (by decide) rfl (by decide) fl_M38 rfl rfl ?_
          refine q_iload_n (pc := 27) dM_begin_27 rfl ?_
          refine q_zald (i := (t + 1)) (pc := 28) dM_begin_28 rfl rfl (by omega) rfl ?_
          refine q_if_eq (tgt := 36) (pc := 29) dM_begin_29 (by decide) (fun h29 => ?_) (fun h29 => ?_)
          · refine q_iconst (pc := 36) dM_begin_36 (by decide) ?_
            refine q_iadd (pc := 37) dM_begin_37 rfl ⟨by omega, by omega⟩ ?_
            refine q_istore_n (pc := 38) dM_begin_38 (by decide) ?_
            refine q_iinc (pc := 39) dM_begin_39 rfl (by decide) rfl ⟨by omega, by omega⟩ ?_
            refine q_goto (tgt := 14) (pc := 42) dM_begin_42 (by decide) ?_
            have e : qn (mct I) (t + 1) = qn (mct I) t + 0 := by rw [qn, if_neg (by simp [mct, h29])]
            rw [e] at h9
            exact h9
          · refine q_iconst (pc := 32) dM_begin_32 (by decide) ?_
            refine q_goto (tgt := 37) (pc := 33) dM_begin_33 (by decide) ?_
            refine q_iadd (pc := 37) dM_begin_37 rfl ⟨by omega, by omega⟩ ?_
            refine q_istore_n (pc := 38) dM_begin_38 (by decide) ?_
            refine q_iinc (pc := 39) dM_begin_39 rfl (by decide) rfl ⟨by omega, by omega⟩ ?_
            refine q_goto (tgt := 14) (pc := 42) dM_begin_42 (by decide) ?_
            have e : qn (mct I) (t + 1) = qn (mct I) t + 1 := by rw [qn, if_pos (by simp [mct, h29])]
            rw [e] at h9
            exact h9
    refine q_iconst (pc := 10) dM_begin_10 (by decide) ?_
    refine q_istore_n (pc := 11) dM_begin_11 (by decide) ?_
    refine q_iconst (pc := 12) dM_begin_12 (by decide) ?_
    refine q_istore_n (pc := 13) dM_begin_13 (by decide) ?_
    exact lp T 0 (by omega)
  · refine q_bipush (pc := 7) dM_begin_7 (by decide) (by decide) ?_
    refine q_iret rfl (pc := 9) dM_begin_9 ?_
    exact rP_of (by unfold bBegin; rw [if_pos h4])
def mmay (I : qI) (t : Int) (k : Nat) : Bool := decide (I 55 k = 0 ∨ I 55 k = t)
theorem ct_M_locked {L k : Nat} (t : Int) (I : qI) (hk : k < 32) : qT M_M_locked 0 [.inr (some 44), .inl t, .inl ((k : Nat) : Int)] L I (rI (bi (!mmay I t k)) L I) := by
  refine q_enter (by decide) (Nat.le_of_ble_eq_true rfl) ?_
  refine q_aload_n (pc := 0) dM_locked_0 rfl ?_
  refine q_getR (f := 14) (pc := 1) dM_locked_1 lay_6 (by decide) rfl (by decide) fl_M41 rfl rfl ?_
  refine q_iload_n (pc := 4) dM_locked_4 rfl ?_
  refine q_iald (i := k) (pc := 5) dM_locked_5 rfl rfl (by omega) rfl ?_
  refine q_if_eq (tgt := 23) (pc := 6) dM_locked_6 (by decide) (fun h6 => ?_) (fun h6 => ?_)
  · refine q_iconst (pc := 23) dM_locked_23 (by decide) ?_
    refine q_zret rfl (by first | exact Or.inl rfl | exact Or.inr rfl) (pc := 24) dM_locked_24 ?_
    exact ⟨by simp [bi, mmay, h6], rfl, rfl⟩
  · refine q_aload_n (pc := 9) dM_locked_9 rfl ?_
    refine q_getR (f := 14) (pc := 10) dM_locked_10 lay_6 (by decide) rfl (by decide) fl_M41 rfl rfl ?_
    refine q_iload_n (pc := 13) dM_locked_13 rfl ?_
    refine q_iald (i := k) (pc := 14) dM_locked_14 rfl rfl (by omega) rfl ?_
    refine q_iload_n (pc := 15) dM_locked_15 rfl ?_
    refine q_icmp_eq (tgt := 23) (pc := 16) dM_locked_16 (by decide) (fun h16 => ?_) (fun h16 => ?_)
    · refine q_iconst (pc := 23) dM_locked_23 (by decide) ?_
      refine q_zret rfl (by first | exact Or.inl rfl | exact Or.inr rfl) (pc := 24) dM_locked_24 ?_
      exact ⟨by simp [bi, mmay, h16], rfl, rfl⟩
    · refine q_iconst (pc := 19) dM_locked_19 (by decide) ?_
      refine q_goto (tgt := 24) (pc := 20) dM_locked_20 (by decide) ?_
      refine q_zret rfl (by first | exact Or.inl rfl | exact Or.inr rfl) (pc := 24) dM_locked_24 ?_
      exact ⟨by simp [bi, mmay, h6, h16], rfl, rfl⟩
