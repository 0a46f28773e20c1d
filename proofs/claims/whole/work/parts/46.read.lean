/-! A touch on each side sees its own rows alone; read. -/
theorem hrk_lo {A B : qI} {p : Int} (h : A 42 = B 42) : ∀ f i, hrk A p f i = hrk B p f i
  | 0, _ => rfl
  | f + 1, i => by rw [hrk, hrk, h, hrk_lo h f (i + 1)]
theorem hrm_lo {p : Int} : ∀ f i w (A B : qI), alo A B → (hrm p f i w A).2 = (hrm p f i w B).2 ∧ alo (hrm p f i w A).1 (hrm p f i w B).1
  | 0, _, _, _, _, h => ⟨rfl, h⟩
  | f + 1, i, w, A, B, h => by
    rw [hrm, hrm, h 42 (by omega)]
    by_cases e : B 42 i = p
    · rw [if_pos e, if_pos e]; exact hrm_lo f (i + 1) w A B h
    · rw [if_neg e, if_neg e]
      exact hrm_lo f (i + 1) (w + 1) _ _ (fun a ha => by funext j; unfold q_up; rw [h a ha])
theorem up_lo {A B : qI} {b j : Nat} {v : Int} (h : alo A B) : alo (q_up A b j v) (q_up B b j v) := fun a ha => by funext i; unfold q_up; rw [h a ha]
theorem up_hi {A B : qI} {b j : Nat} {v : Int} (h : agr A B) : agr (q_up A b j v) (q_up B b j v) := fun a ha => by funext i; unfold q_up; rw [h a ha]
theorem happ_lo {A B : qI} {k : Nat} {p : Int} (h : alo A B) : alo (happ A k p) (happ B k p) := by
  unfold happ
  split
  · exact up_lo (up_lo h)
  · exact h
theorem hrem_lo {A B : qI} {k : Nat} {p : Int} (h : alo A B) : alo (hrem A k p) (hrem B k p) := by
  unfold hrem
  rw [(hrm_lo k 0 0 A B h).1]
  exact up_lo (hrm_lo k 0 0 A B h).2
theorem llt_lo {A B : qI} (h : alo A B) : llt A = llt B := by funext p l; unfold llt; rw [h 3 (by omega), h 5 (by omega)]
theorem pmg_lo {A B : qI} {n : Nat} {o : Int} (h : alo A B) : ∀ f i, pmg A n o f i = pmg B n o f i
  | 0, _ => rfl
  | f + 1, i => by rw [pmg, pmg, h 42 (by omega), h 1 (by omega), llt_lo h, pmg_lo h f (i + 1)]
theorem gsv_lo {A B : qI} {g m : Nat} (h : alo A B) (hg : g < 2) : qe (gsv A g m) 6 = qe (gsv B g m) 6 := qe_congr fun c hc => by
  have hb := cp_bd (show 6 * g + c < 12 by omega)
  unfold gsv
  have e : qa (call_ A (6 * g + c)) m = qa (call_ B (6 * g + c)) m := qa_congr fun l _ _ => by
    unfold call_ cgr chd
    rw [h 7 (by omega), h (cp (6 * g + c)) (by omega), h (cp (6 * g + c) + 1) (by omega)]
  rw [e]
  unfold clv
  rw [h (cp (6 * g + c)) (by omega)]
theorem qtch_lo {A B : qI} {n k d p : Nat} {o : Int} (h : alo A B) : (qtch A n k d p o).1 = (qtch B n k d p o).1 ∧ alo (qtch A n k d p o).2 (qtch B n k d p o).2 := by
  unfold qtch
  rw [hrk_lo (h 42 (by omega)), llt_lo h, pmg_lo h, gsv_lo h (by omega), (hrm_lo k 0 0 A B h).1, (hrm_lo k 0 0 A B h).1]
  split
  · exact ⟨rfl, happ_lo (hrem_lo h)⟩
  split
  · exact ⟨rfl, h⟩
  split
  · exact ⟨rfl, h⟩
  split
  · exact ⟨rfl, happ_lo (hrem_lo h)⟩
  · exact ⟨rfl, happ_lo h⟩
theorem mpl_hi {A B : qI} {p : Int} (h : agr A B) : ∀ f i, mpl A p f i = mpl B p f i
  | 0, _ => rfl
  | f + 1, i => by rw [mpl, mpl, h 56 (by omega), mpl_hi h f (i + 1)]
theorem mck_hi {A B : qI} (h : agr A B) : mck A = mck B := by funext k l; unfold mck; rw [h 46 (by omega), h 48 (by omega)]
theorem mlm_hi {A B : qI} {n p : Nat} (h : agr A B) : ∀ i, mlm A n p i = mlm B n p i
  | 0 => rfl
  | i + 1 => by rw [mlm, mlm, mlm_hi h i, mck_hi h]
theorem mgo_hi {A B : qI} {n d : Nat} {o : Int} (h : agr A B) : ∀ f i, mgo A n d o f i = mgo B n d o f i
  | 0, _ => rfl
  | f + 1, i => by rw [mgo, mgo, h 56 (by omega), mlm_hi h, mgo_hi h f (i + 1)]
theorem msv_hi {A B : qI} (h : agr A B) : msv A = msv B := by
  have e : mal A = mal B := by funext g x l; unfold mal mhd; rw [mg_hi h, h 50 (by omega)]
  funext g m c
  unfold msv mll
  rw [e, h 51 (by omega)]
theorem mdr_hi : ∀ f j (A B : qI), agr A B → agr (mdr f j A) (mdr f j B)
  | 0, _, _, _, h => h
  | f + 1, j, A, B, h => by
    rw [mdr, mdr, h 56 (by omega)]
    exact mdr_hi f (j + 1) _ _ (up_hi h)
theorem mtch_hi {A B : qI} {n k d p : Nat} {o : Int} (h : agr A B) : (mtch A n k d p o).1 = (mtch B n k d p o).1 ∧ agr (mtch A n k d p o).2 (mtch B n k d p o).2 := by
  unfold mtch mapp mdrp
  rw [mpl_hi h, mlm_hi h, mgo_hi h, msv_hi h]
  split
  · exact ⟨rfl, up_hi (up_hi (mdr_hi _ _ _ _ (up_hi h)))⟩
  split
  · exact ⟨rfl, h⟩
  split
  · exact ⟨rfl, h⟩
  split
  · exact ⟨rfl, up_hi (up_hi (mdr_hi _ _ _ _ (up_hi h)))⟩
  · exact ⟨rfl, up_hi (up_hi h)⟩
theorem loc_mtch {n k d p : Nat} {o : Int} : loc (fun I => (mtch I n k d p o).2) := loc_of (fun A a ha => mtch_off (by omega) (by omega)) (fun A B h => (mtch_hi h).2)
theorem loc_set {a j : Nat} {v : Int} (ha : 44 ≤ a) : loc (fun I => q_up I a j v) := loc_up (v := fun _ => v) ha (fun _ _ _ => rfl)
theorem e_may {I : qI} {T a : Nat} {t : Int} (h : RT I T) (ha : a < 32) : may I t a = mmay I t a := by unfold may mmay; rw [h.2.2.2 a ha]
theorem e_rt {I : qI} {n T k d : Nat} (h : INV I n T k d) (t : Int) : qrt I t = mrt I t := by
  have hu := up_iff h.2.2.2.2.2.1
  unfold qrt mrt
  rw [e_act h.2.2.1]
  by_cases hz : I 1 5 = 0
  · rw [if_pos hz, if_pos (hu.mp hz)]
  · rw [if_neg hz, if_neg (fun z => hz (hu.mpr z))]
theorem e_rk {I : qI} {n T k d a b : Nat} (h : INV I n T k d) (t : Int) (ha : a < 32) (hb : b < 32) : qrk I t a b = mrk I t a b := by
  unfold qrk mrk
  rw [e_rt h, e_may h.2.2.1 ha, e_may h.2.2.1 hb]
theorem e_rc {I : qI} {n T k d a b : Nat} (h : INV I n T k d) (t : Int) (ha : a < 32) (hb : b < 32) : qrc I t a b = mrc I t a b := by
  unfold qrc mrc
  rw [e_rk h t ha hb, h.1.1.1, h.1.1.2.1]
theorem mrt_hi {A B : qI} (h : agr A B) : mrt A = mrt B := by funext t; unfold mrt mac; rw [h 44 (by omega), h 54 (by omega)]
theorem mrk_hi {A B : qI} (h : agr A B) : mrk A = mrk B := by funext t a b; unfold mrk mmay; rw [mrt_hi h, h 55 (by omega)]
theorem mrc_hi {A B : qI} (h : agr A B) : mrc A = mrc B := by funext t a b; unfold mrc; rw [mrk_hi h, h 44 (by omega)]
/-- who may touch a key: the transaction is active, the system is up, the key is free or its own -/
theorem rk_ok {I : qI} {n T k d a b : Nat} {t : Int} (h : INV I n T k d) (hr : mrk I t a b = 0) : I 44 10 = 0 ∧ ∃ s : Nat, t = (s : Int) ∧ 1 ≤ s ∧ s ≤ T ∧ I 54 s ≠ 0 ∧ (I 55 a = 0 ∨ I 55 a = (s : Int)) ∧ (I 55 b = 0 ∨ I 55 b = (s : Int)) := by
  have hT := h.2.2.1
  unfold mrk at hr
  split at hr
  · next hm =>
    split at hr
    · next hy =>
      unfold mrt at hm
      split at hm
      · omega
      · next hz =>
        split at hm
        · next hq =>
          unfold mac at hq
          have hq := of_decide_eq_true hq
          rw [hT.1.2.1] at hq
          obtain ⟨s, rfl⟩ : ∃ s : Nat, t = (s : Int) := ⟨t.toNat, by omega⟩
          have et : ((s : Int)).toNat = s := rfl
          rw [et] at hq
          unfold mmay at hy
          exact ⟨Classical.not_not.mp hz, s, rfl, by omega, by omega, hq.2.2, of_decide_eq_true hy.1, of_decide_eq_true hy.2⟩
        · omega
    · omega
  · next hm => exact absurd hr hm
theorem inv_hold {A B : qI} {n T k d a s : Nat} (h : INV (mrg A B) n T k d) (ha : a < 32) (h1 : 1 ≤ s) (h2 : s ≤ T) (h3 : B 54 s ≠ 0) (h4 : B 55 a = 0 ∨ B 55 a = (s : Int)) : INV (mrg (q_up A 11 a s) (q_up B 55 a s)) n T k d := by
  have off : ∀ q, q ≠ 11 → q ≠ 55 → mrg (q_up A 11 a s) (q_up B 55 a s) q = mrg A B q := by
    intro q h1 h2
    by_cases hq : q < 44
    · rw [mrg_lo hq, mrg_lo hq, q_up_off q h1]
    · rw [mrg_hi (by omega), mrg_hi (by omega), q_up_off q h2]
  have e11 : ∀ i, mrg (q_up A 11 a s) (q_up B 55 a s) 11 i = if i = a then (s : Int) else mrg A B 11 i := by
    intro i
    rw [mrg_lo (by decide), mrg_lo (by decide)]
    by_cases e : i = a <;> simp [q_up, e]
  have e55 : ∀ i, mrg (q_up A 11 a s) (q_up B 55 a s) 55 i = if i = a then (s : Int) else mrg A B 55 i := by
    intro i
    rw [mrg_hi (by decide), mrg_hi (by decide)]
    by_cases e : i = a <;> simp [q_up, e]
  have h3' : mrg A B 54 s ≠ 0 := by rw [mrg_hi (by decide)]; exact h3
  have h4' : mrg A B 55 a = 0 ∨ mrg A B 55 a = (s : Int) := by rw [mrg_hi (by decide)]; exact h4
  generalize mrg (q_up A 11 a s) (q_up B 55 a s) = J at off e11 e55
  generalize mrg A B = I at h off e11 e55 h3' h4'
  obtain ⟨hL, hN, hT, hC, hH, hX, w3, w4, w6, w7, w8, w9, w10⟩ := h
  have o : ∀ a, (1 ≤ a ∧ a ≤ 10) ∨ (12 ≤ a ∧ a ≤ 54) ∨ (56 ≤ a) → J a = I a := fun a ha => off a (by omega) (by omega)
  have o44 : J 44 = I 44 := o 44 (by omega)
  refine ⟨hL.fr (by rw [o 2 (by omega)]) (by rw [o44]) (fun a ha => o a (by omega)), hN.fr (fun a ha => o a (by omega)), ⟨by rw [o 9 (by omega), o44]; exact hT.1, by rw [o 10 (by omega), o 54 (by omega)]; exact hT.2.1, by rw [o 9 (by omega), mct_fr (o 54 (by omega))]; exact hT.2.2.1, fun i hi => ?_⟩, hC.fr (fun a ha => o a (by omega)), hH.fr (by rw [o44]) (fun a ha => o a (by omega)), hX.fr (by rw [o44]) (by rw [o44]) (fun a ha => o a (by omega)), w3.fr (fun a ha => o a (by omega)), w4.fr (fun a ha => o a (by omega)), fun i hi => ?_, w7.fr (o 54 (by omega)) (o 45 (by omega)) (o 48 (by omega)), fun z l l1 l2 => ?_, w9.fr (fun a ha => o a (by omega)), w10.fr (by rw [o44]; exact id) (fun a ha => o a (by omega))⟩
  · rw [e11, e55]
    by_cases e : i = a
    · rw [if_pos e, if_pos e]
    · rw [if_neg e, if_neg e]; exact hT.2.2.2 i hi
  · rw [e55, o 54 (by omega)]
    by_cases e : i = a
    · rw [if_pos e]; exact fun _ => ⟨s, h1, h2, rfl, h3'⟩
    · rw [if_neg e]; exact w6 i hi
  · rw [o44] at z
    rw [mep_fr (o 45 (by omega)) (o 48 (by omega)), o 45 (by omega), o 46 (by omega), o 48 (by omega), o 54 (by omega), e55]
    intro z1 z2
    have := w8 z l l1 l2 z1 z2
    refine ⟨this.1, ?_⟩
    split
    · next e =>
      rw [e] at this
      have hb := (hL.2 l l1 l2).2.1
      omega
    · exact this.2
theorem lval_lo {A B : qI} {k : Int} {m : Nat} (h : alo A B) : lval A k m = lval B k m := by
  have e : lky A = lky B := by funext k l; unfold lky; rw [h 5 (by omega)]
  unfold lval
  rw [e, h 6 (by omega)]
theorem mval_hi {A B : qI} {k : Int} {m : Nat} (h : agr A B) : mval A k m = mval B k m := by
  unfold mval
  rw [mck_hi h, h 47 (by omega)]
theorem qtch_hi {I : qI} {n k d p a : Nat} {o : Int} (ha : 43 ≤ a) : (qtch I n k d p o).2 a = I a := qtch_off (by omega) (by omega)
theorem ok_read {N : Nat} (I : qI) (hI : Inv I) (t key : Int) : okk Inv N 5 4 M_Q_read M_M_read [.inl t, .inl key] I := by
  obtain ⟨n, T, k, d, h⟩ := hI
  by_cases h0 : 0 ≤ key ∧ key < 32
  · obtain ⟨a, rfl⟩ : ∃ a : Nat, key = (a : Int) := ⟨key.toNat, by omega⟩
    have ha : a < 32 := by omega
    have hA := ct_Q_read (L := N) t I h.cw ha
    have hB := ct_M_read (L := N) t I h.mw ha
    unfold aRead at hA
    unfold bRead at hB
    rw [e_rk h t ha ha] at hA
    by_cases c1 : mrk I t a a = 0
    · rw [if_pos c1] at hA
      obtain ⟨up, s, rfl, s1, s2, s3, s4, -⟩ := rk_ok h c1
      obtain ⟨e1, k', hk'⟩ := tch (-1) h (show a / 4 ≤ 7 by omega)
      have hlow : agr (qtch I n k d (a / 4) (-1)).2 I := fun q hq => qtch_hi (by omega)
      by_cases c2 : (mtch I n k d (a / 4) (-1)).1 = 0
      · rw [if_pos (by rw [e1]; exact c2)] at hA
        have hlow2 : agr (q_up (qtch I n k d (a / 4) (-1)).2 11 a s) I := fun q hq => by rw [q_up_off q (by omega)]; exact hlow q hq
        have s3' : (mtch I n k d (a / 4) (-1)).2 54 s ≠ 0 := by rw [mtch_off (by decide) (by decide)]; exact s3
        have s4' : (mtch I n k d (a / 4) (-1)).2 55 a = 0 ∨ (mtch I n k d (a / 4) (-1)).2 55 a = (s : Int) := by rw [mtch_off (by decide) (by decide)]; exact s4
        have hJ := inv_hold hk' ha s1 s2 s3' s4'
        have ev : lval (q_up (qtch I n k d (a / 4) (-1)).2 11 a s) a n = mval (q_up (mtch I n k d (a / 4) (-1)).2 55 a s) a n := by
          rw [lval_lo (mrg_alo (B := q_up (mtch I n k d (a / 4) (-1)).2 55 a s)), mval_hi (mrg_agr (A := q_up (qtch I n k d (a / 4) (-1)).2 11 a s))]
          exact e_val hJ.1 (by omega) (Nat.le_refl _)
        rw [ev] at hA
        refine okk_fin (A1 := q_up (qtch I n k d (a / 4) (-1)).2 11 a s) (F := fun I => q_up (mtch I n k d (a / 4) (-1)).2 55 a s) hA hlow2 (by rw [q_up_off 0 (by decide), qtch_off (by decide) (by decide)]) (loc_mtch.comp (loc_set (by omega))) ?_ ⟨n, T, k', d, hJ⟩
        have hB := ct_M_read (L := N) (s : Int) (q_up (qtch I n k d (a / 4) (-1)).2 11 a s) (inv_mw1 h hlow2) ha
        unfold bRead at hB
        rw [mrk_hi hlow2, if_pos c1, (mtch_hi hlow2).1, if_pos c2] at hB
        rw [mval_hi (up_hi (mtch_hi hlow2).2)] at hB
        exact hB
      · rw [if_neg (by rw [e1]; exact c2)] at hA
        refine okk_fin (v := (mtch I n k d (a / 4) (-1)).1) (A1 := (qtch I n k d (a / 4) (-1)).2) (F := fun I => (mtch I n k d (a / 4) (-1)).2) (by rw [← e1]; exact hA) hlow (qtch_off (by decide) (by decide)) loc_mtch ?_ ⟨n, T, k', d, hk'⟩
        have hB := ct_M_read (L := N) (s : Int) (qtch I n k d (a / 4) (-1)).2 (inv_mw1 h hlow) ha
        unfold bRead at hB
        rw [mrk_hi hlow, if_pos c1, (mtch_hi hlow).1, if_neg c2] at hB
        rw [← (mtch_hi (n := n) (k := k) (d := d) (p := a / 4) (o := -1) hlow).1]
        exact hB
    · rw [if_neg c1] at hA hB
      exact okk_same ⟨n, T, k, d, h⟩ hA hB
  · exact okk_same ⟨n, T, k, d, h⟩ (ct_Q_read0 t I h0) (ct_M_read0 t I h0)
