/-! shift. -/
theorem bSh3_hi {A B : qI} {n a b : Nat} {t m : Int} (h : agr A B) : (bSh3 A n t a b m).1 = (bSh3 B n t a b m).1 ∧ agr (bSh3 A n t a b m).2 (bSh3 B n t a b m).2 := by
  unfold bSh3
  rw [mval_hi h, mval_hi h]
  split
  · exact ⟨rfl, h⟩
  · exact ⟨rfl, loc_mad.hi (loc_mad.hi (up_hi (up_hi h)))⟩
theorem bSh2_hi {A B : qI} {n d a b : Nat} {t m : Int} (h : agr A B) : (bSh2 A n d t a b m).1 = (bSh2 B n d t a b m).1 ∧ agr (bSh2 A n d t a b m).2 (bSh2 B n d t a b m).2 := by
  have e : mkN A = mkN B := by unfold mkN; rw [h 44 (by omega)]
  unfold bSh2
  rw [e, (mtch_hi h).1]
  split
  · exact bSh3_hi (mtch_hi h).2
  · exact mtch_hi h
theorem bShift_hi {A B : qI} {n k d a b : Nat} {t m : Int} (h : agr A B) : (bShift A n k d t a b m).1 = (bShift B n k d t a b m).1 ∧ agr (bShift A n k d t a b m).2 (bShift B n k d t a b m).2 := by
  unfold bShift
  rw [mrc_hi h, (mtch_hi h).1]
  split
  · split
    · exact bSh2_hi (mtch_hi h).2
    · exact mtch_hi h
  · exact ⟨rfl, h⟩
theorem mad_lo {A : qI} {n a : Nat} {t k v e z : Int} (h : a < 44) : mad A n t k v e z a = A a := loc_mad.lo A h
theorem bSh3_lo {A : qI} {n a b q : Nat} {t m : Int} (h : q < 44) : (bSh3 A n t a b m).2 q = A q := by
  unfold bSh3
  split
  · rfl
  · show mad (mad (q_up (q_up A 55 a t) 55 b t) n t a (mval A a n - m) 0 0) (n + 1) t b (mval A b n + m) 0 1 q = A q
    rw [mad_lo h, mad_lo h, q_up_off q (by omega), q_up_off q (by omega)]
theorem bSh2_lo {A : qI} {n d a b q : Nat} {t m : Int} (h : q < 44) : (bSh2 A n d t a b m).2 q = A q := by
  unfold bSh2
  split
  · rw [bSh3_lo h, mtch_off (by omega) (by omega)]
  · rw [mtch_off (by omega) (by omega)]
theorem bShift_lo {A : qI} {n k d a b q : Nat} {t m : Int} (h : q < 44) : (bShift A n k d t a b m).2 q = A q := by
  unfold bShift
  split
  · split
    · rw [bSh2_lo h, mtch_off (by omega) (by omega)]
    · rw [mtch_off (by omega) (by omega)]
  · rfl
theorem aSh3_off {A : qI} {n a b q : Nat} {t m : Int} (h1 : ¬ (2 ≤ q ∧ q ≤ 7)) (h2 : q ≠ 11) : (aSh3 A n t a b m).2 q = A q := by
  unfold aSh3
  split
  · rfl
  · show ladd (ladd (q_up (q_up A 11 a t) 11 b t) n 0 t a (lval A a n - m) ((a / 4 % 2 : Nat) : Int)) (n + 1) 1 t b (lval A b n + m) ((b / 4 % 2 : Nat) : Int) q = A q
    rw [ladd_off h1, ladd_off h1, q_up_off q h2, q_up_off q h2]
theorem aSh2_off {A : qI} {n d a b q : Nat} {t m : Int} (h1 : ¬ (2 ≤ q ∧ q ≤ 7)) (h2 : q ≠ 11) (h3 : q ≠ 41) (h4 : q ≠ 42) : (aSh2 A n d t a b m).2 q = A q := by
  unfold aSh2
  split
  · rw [aSh3_off h1 h2, qtch_off h4 h3]
  · rw [qtch_off h4 h3]
theorem aShift_off {A : qI} {n k d a b q : Nat} {t m : Int} (h1 : ¬ (2 ≤ q ∧ q ≤ 7)) (h2 : q ≠ 11) (h3 : q ≠ 41) (h4 : q ≠ 42) : (aShift A n k d t a b m).2 q = A q := by
  unfold aShift
  split
  · split
    · rw [aSh2_off h1 h2 h3 h4, qtch_off h4 h3]
    · rw [qtch_off h4 h3]
  · rfl
theorem sh3_rel {A B : qI} {n T k d a b s : Nat} {m : Int} (h : INV (mrg A B) n T k d) (hn : n < 150) (up : B 44 10 = 0) (ha : a < 32) (hb : b < 32) (hab : a ≠ b) (hm : 1 ≤ m ∧ m ≤ 9999) (h1 : 1 ≤ s) (h2 : s ≤ T) (h3 : B 54 s ≠ 0) (h4 : B 55 a = 0 ∨ B 55 a = (s : Int)) (h5 : B 55 b = 0 ∨ B 55 b = (s : Int)) : (aSh3 A n s a b m).1 = (bSh3 B n s a b m).1 ∧ Inv (mrg (aSh3 A n s a b m).2 (bSh3 B n s a b m).2) := by
  have ea : lval A a n = mval B a n := by
    rw [lval_lo (mrg_alo (B := B)), mval_hi (mrg_agr (A := A))]
    exact e_val h.1 (by omega) (Nat.le_refl _)
  have eb : lval A b n = mval B b n := by
    rw [lval_lo (mrg_alo (B := B)), mval_hi (mrg_agr (A := A))]
    exact e_val h.1 (by omega) (Nat.le_refl _)
  have va : 0 ≤ lval A a n ∧ lval A a n ≤ 9999 := lval_bd fun l x y => by
    have := (h.1.2 l x y).2.2
    rw [mrg_lo (a := 6) (by decide)] at this
    omega
  have vb : 0 ≤ lval A b n ∧ lval A b n ≤ 9999 := lval_bd fun l x y => by
    have := (h.1.2 l x y).2.2
    rw [mrg_lo (a := 6) (by decide)] at this
    omega
  unfold aSh3 bSh3
  rw [ea, eb]
  rw [ea] at va
  rw [eb] at vb
  by_cases c : mval B a n < m ∨ 9999 - m < mval B b n
  · rw [if_pos (by omega), if_pos c]
    exact ⟨rfl, n, T, k, d, h⟩
  · rw [if_neg (by omega), if_neg c]
    refine ⟨rfl, n + 2, T, k, d, ?_⟩
    have k1 := inv_hold h ha h1 h2 h3 h4
    have k2 := inv_hold k1 hb h1 h2 (by rw [q_up_off 54 (by decide)]; exact h3) (by
      unfold q_up
      rw [if_neg (fun z => hab z.2.symm)]
      exact h5)
    have e55 : q_up (q_up B 55 a s) 55 b s 55 a = (s : Int) := by
      by_cases e : a = b <;> simp [q_up, e]
    have k3 := inv_chgrec (v := mval B a n - m) (z := 0) k2 (by omega) (by rw [q_up_off 44 (by decide), q_up_off 44 (by decide)]; exact up) ha h1 h2 (by rw [q_up_off 54 (by decide), q_up_off 54 (by decide)]; exact h3) e55 (by omega) (Or.inl rfl)
    have o : ∀ q, 50 < q ∨ q < 44 → mad (q_up (q_up B 55 a s) 55 b s) n s a (mval B a n - m) 0 0 q = q_up (q_up B 55 a s) 55 b s q := fun q hq => by
      unfold mad
      rw [mhz_off (by omega)]
      unfold mad0
      rw [q_up_off q (by omega), q_up_off q (by omega), q_up_off q (by omega), q_up_off q (by omega), q_up_off q (by omega), q_up_off q (by omega)]
    have o10 : mad (q_up (q_up B 55 a s) 55 b s) n s a (mval B a n - m) 0 0 44 10 = 0 := by
      have := (add_spec (q_up (q_up A 11 a s) 11 b s) (q_up (q_up B 55 a s) 55 b s) n 0 s a (mval B a n - m) ((a / 4 % 2 : Nat) : Int) s a (mval B a n - m) 0 0).2.2.1 10 (by decide)
      rw [mrg_hi (by decide), mrg_hi (by decide), q_up_off 44 (by decide), q_up_off 44 (by decide)] at this
      rw [this]; exact up
    exact inv_chgrec (v := mval B b n + m) (z := 1) k3 (by omega) o10 hb h1 h2 (by rw [o 54 (by omega), q_up_off 54 (by decide), q_up_off 54 (by decide)]; exact h3) (by rw [o 55 (by omega)]; simp [q_up]) (by omega) (Or.inr rfl)
theorem mtch_44j {I : qI} {n k d p j : Nat} {o : Int} (hj : j ≠ 16) : (mtch I n k d p o).2 44 j = I 44 j := by
  have e : ∀ (J : qI) (m : Nat), mapp J m p 44 j = J 44 j := fun J m => by
    unfold mapp
    have : q_up (q_up J 56 m p) 44 16 ((m + 1 : Nat) : Int) 44 j = q_up J 56 m p 44 j := by unfold q_up; rw [if_neg (fun z => hj z.2)]
    rw [this, q_up_off 44 (by decide)]
  have e2 : ∀ s, mdrp I k s 44 j = I 44 j := fun s => by
    unfold mdrp
    rw [mdr_off (by decide)]
    unfold q_up
    rw [if_neg (fun z => hj z.2)]
  unfold mtch
  split
  · exact (e _ _).trans (e2 _)
  split
  · rfl
  split
  · rfl
  split
  · exact (e _ _).trans (e2 _)
  · exact e _ _
theorem shift_rel {I : qI} {n T k d a b : Nat} {t m : Int} (h : INV I n T k d) (ha : a < 32) (hb : b < 32) (hab : a ≠ b) (hm : 1 ≤ m ∧ m ≤ 9999) : (aShift I n k d t a b m).1 = (bShift I n k d t a b m).1 ∧ Inv (mrg (aShift I n k d t a b m).2 (bShift I n k d t a b m).2) := by
  have same : Inv (mrg I I) := by
    have : mrg I I = I := by funext a; unfold mrg; split <;> rfl
    rw [this]; exact ⟨n, T, k, d, h⟩
  unfold aShift bShift
  rw [e_rc h t ha hb]
  by_cases c1 : mrc I t a b = 0
  · rw [if_pos c1, if_pos c1]
    obtain ⟨hn, c1'⟩ := rc_rk h c1
    obtain ⟨up, s, rfl, s1, s2, s3, s4, s5⟩ := rk_ok h c1'
    obtain ⟨e1, k1, hk1⟩ := tch ((b / 4 : Nat) : Int) h (show a / 4 ≤ 7 by omega)
    have oB : ∀ q, q ≠ 56 → q ≠ 44 → (mtch I n k d (a / 4) ((b / 4 : Nat) : Int)).2 q = I q := fun q x y => mtch_off x y
    have o10 : (mtch I n k d (a / 4) ((b / 4 : Nat) : Int)).2 44 10 = 0 := by rw [mtch_44j (by decide)]; exact up
    rw [e1]
    generalize (qtch I n k d (a / 4) ((b / 4 : Nat) : Int)) = P at hk1 e1
    generalize (mtch I n k d (a / 4) ((b / 4 : Nat) : Int)) = Q at hk1 e1 oB o10
    by_cases c2 : Q.1 = 0
    · rw [if_pos c2, if_pos c2]
      unfold aSh2 bSh2
      have ek : kN P.2 = k1 := by
        have := hk1.2.2.2.2.1.1.1
        rw [mrg_lo (by decide)] at this
        unfold kN
        rw [this]; rfl
      have em : mkN Q.2 = k1 := by
        have := hk1.2.2.2.2.1.1.2.1
        rw [mrg_hi (by decide)] at this
        unfold mkN
        rw [this]; rfl
      rw [ek, em]
      obtain ⟨e2, k2, hk2⟩ := tch ((a / 4 : Nat) : Int) hk1 (show b / 4 ≤ 7 by omega)
      have l1 := qtch_lo (n := n) (k := k1) (d := d) (p := b / 4) (o := ((a / 4 : Nat) : Int)) (mrg_alo (A := P.2) (B := Q.2))
      have l2 := mtch_hi (n := n) (k := k1) (d := d) (p := b / 4) (o := ((a / 4 : Nat) : Int)) (mrg_agr (A := P.2) (B := Q.2))
      rw [← mrg_congr l1.2 l2.2] at hk2
      rw [← l1.1, ← l2.1] at e2
      have oB2 : ∀ q, q ≠ 56 → q ≠ 44 → (mtch Q.2 n k1 d (b / 4) ((a / 4 : Nat) : Int)).2 q = I q := fun q x y => by rw [mtch_off x y, oB q x y]
      have o102 : (mtch Q.2 n k1 d (b / 4) ((a / 4 : Nat) : Int)).2 44 10 = 0 := by rw [mtch_44j (by decide)]; exact o10
      rw [e2]
      by_cases c3 : (mtch Q.2 n k1 d (b / 4) ((a / 4 : Nat) : Int)).1 = 0
      · rw [if_pos c3, if_pos c3]
        exact sh3_rel hk2 hn o102 ha hb hab hm s1 s2 (by rw [oB2 54 (by decide) (by decide)]; exact s3) (by rw [oB2 55 (by decide) (by decide)]; exact s4) (by rw [oB2 55 (by decide) (by decide)]; exact s5)
      · rw [if_neg c3, if_neg c3]
        exact ⟨e2, n, T, k2, d, hk2⟩
    · rw [if_neg c2, if_neg c2]
      exact ⟨e1, n, T, k1, d, hk1⟩
  · rw [if_neg c1, if_neg c1]
    exact ⟨rfl, same⟩
theorem ok_shift {N : Nat} (I : qI) (hI : Inv I) (t x y m : Int) : okk Inv N 5 4 M_Q_shift M_M_shift [.inl t, .inl x, .inl y, .inl m] I := by
  obtain ⟨n, T, k, d, h⟩ := hI
  by_cases h0 : (0 ≤ x ∧ x < 32) ∧ (0 ≤ y ∧ y < 32) ∧ ¬ x = y ∧ 1 ≤ m ∧ m ≤ 9999
  · obtain ⟨a, rfl⟩ : ∃ a : Nat, x = (a : Int) := ⟨x.toNat, by omega⟩
    obtain ⟨b, rfl⟩ : ∃ b : Nat, y = (b : Int) := ⟨y.toNat, by omega⟩
    have ha : a < 32 := by omega
    have hb : b < 32 := by omega
    have hab : a ≠ b := by omega
    have hA := ct_Q_shift (L := N) t m I h.cw ha hb hab h0.2.2.2
    obtain ⟨e, hJ⟩ := shift_rel (t := t) h ha hb hab h0.2.2.2
    have hlow : agr (aShift I n k d t a b m).2 I := fun q hq => aShift_off (by omega) (by omega) (by omega) (by omega)
    have hB : qT M_M_shift 4 [.inr (some 44), .inl t, .inl ((a : Nat) : Int), .inl ((b : Nat) : Int), .inl m] N (aShift I n k d t a b m).2 (rI (bShift (aShift I n k d t a b m).2 n k d t a b m).1 N (bShift (aShift I n k d t a b m).2 n k d t a b m).2) := ct_M_shift (L := N) t m (aShift I n k d t a b m).2 (inv_mw1 h hlow) ha hb hab h0.2.2.2
    rw [(bShift_hi hlow).1] at hB
    exact okk_fin (v := (bShift I n k d t a b m).1) (A1 := (aShift I n k d t a b m).2) (F := fun I => (bShift I n k d t a b m).2) (by rw [← e]; exact hA) hlow (aShift_off (by omega) (by omega) (by omega) (by omega)) (loc_of (fun A q hq => bShift_lo hq) (fun A B h => (bShift_hi h).2)) hB hJ
  · exact okk_same ⟨n, T, k, d, h⟩ (ct_Q_shift0 t I h0) (ct_M_shift0 t I h0)
