/-! A transaction ends; commit. -/
theorem qn_drop {p q : Nat → Bool} {t : Nat} : ∀ {T : Nat}, 1 ≤ t → t ≤ T → p t = true → q t = false → (∀ j, j ≠ t → q j = p j) → qn p T = qn q T + 1
  | 0, a, b, _, _, _ => by omega
  | T + 1, a, b, hp, hq, h => by
    rw [qn, qn]
    by_cases e : t = T + 1
    · subst e
      rw [hp, hq, qn_congr (p := q) (q := p) (n := T) (fun l x y => h l (by omega))]
      rfl
    · rw [qn_drop (T := T) a (by omega) hp hq h, h (T + 1) (by omega)]
      omega
theorem psum_drop {f g : Nat → Nat} {t : Nat} : ∀ {T : Nat}, 1 ≤ t → t ≤ T → (∀ j, j ≠ t → g j = f j) → psum f T + g t = psum g T + f t
  | 0, a, b, _ => by omega
  | T + 1, a, b, h => by
    rw [psum, psum]
    by_cases e : t = T + 1
    · subst e
      rw [psum_congr (f := g) (g := f) (T := T) (fun l x y => h l (by omega))]
      omega
    · have := psum_drop (T := T) a (by omega) h
      rw [h (T + 1) (by omega)]
      omega
/-- what stands after a transaction is struck off -/
def FIN (I J : qI) (t : Nat) : Prop := J 9 2 = I 9 2 ∧ J 9 3 = I 9 3 - 1 ∧ (∀ j, J 10 j = if j = t then 0 else I 10 j) ∧ (∀ j, j < 32 → J 11 j = if I 11 j = (t : Int) then 0 else I 11 j) ∧ (∀ j, J 54 j = if j = t then 0 else I 54 j) ∧ (∀ j, j < 32 → J 55 j = if I 55 j = (t : Int) then 0 else I 55 j)
theorem tfin_spec (I : qI) (t : Nat) : tfin I t 9 2 = I 9 2 ∧ tfin I t 9 3 = I 9 3 - 1 ∧ (∀ j, tfin I t 10 j = if j = t then 0 else I 10 j) ∧ (∀ j, j < 32 → tfin I t 11 j = if I 11 j = (t : Int) then 0 else I 11 j) := by
  refine ⟨by simp [tfin, tfr, q_up], by simp [tfin, tfr, q_up], fun j => ?_, fun j hj => ?_⟩
  · by_cases e : j = t <;> simp [tfin, tfr, q_up, e]
  · by_cases e : I 11 j = (t : Int) <;> simp [tfin, tfr, q_up, e, hj]
theorem mfin0_spec (I : qI) (t : Nat) : (∀ j, mfin0 I t 54 j = if j = t then 0 else I 54 j) ∧ (∀ j, j < 32 → mfin0 I t 55 j = if I 55 j = (t : Int) then 0 else I 55 j) := by
  refine ⟨fun j => ?_, fun j hj => ?_⟩
  · by_cases e : j = t <;> simp [mfin0, mfr, q_up, e]
  · by_cases e : I 55 j = (t : Int) <;> simp [mfin0, mfr, q_up, e, hj]
theorem mfin0_off {I : qI} {t a : Nat} (h1 : a ≠ 54) (h2 : a ≠ 55) : mfin0 I t a = I a := by unfold mfin0; rw [mfr_off h2, q_up_off a h1]
theorem mfin0_hi {A B : qI} {t : Nat} (h : agr A B) : agr (mfin0 A t) (mfin0 B t) := fun a ha => by
  have h' : agr (q_up A 54 t 0) (q_up B 54 t 0) := up_hi h
  unfold mfin0
  funext j
  unfold mfr
  rw [h' 55 (by omega), h' a ha]
theorem loc_mfin0 {t : Nat} : loc (fun I => mfin0 I t) := loc_of (fun A a ha => mfin0_off (by omega) (by omega)) (fun A B h => mfin0_hi h)
theorem fin_rt {I J : qI} {T t : Nat} (hT : RT I T) (w6 : W6 I T) (h1 : 1 ≤ t) (h2 : t ≤ T) (h3 : I 54 t ≠ 0) (hf : FIN I J t) (h44 : J 44 12 = I 44 12) : RT J T ∧ W6 J T := by
  obtain ⟨f1, f2, f3, f4, f5, f6⟩ := hf
  have hq : qn (mct I) T = qn (mct J) T + 1 := qn_drop h1 h2 (by unfold mct; exact decide_eq_true h3) (by unfold mct; rw [f5, if_pos rfl]; rfl) (fun j hj => by unfold mct; rw [f5, if_neg hj])
  refine ⟨⟨⟨by rw [f1]; exact hT.1.1, by rw [h44]; exact hT.1.2.1, hT.1.2.2⟩, fun s a b => ?_, ⟨by rw [f2, hT.2.2.1.1, hq]; omega, by have := hT.2.2.1.2; omega⟩, fun i hi => by rw [f4 i hi, f6 i hi, hT.2.2.2 i hi]⟩, fun i hi => ?_⟩
  · rw [f3, f5]
    by_cases e : s = t
    · rw [if_pos e, if_pos e]; exact ⟨rfl, Or.inl rfl⟩
    · rw [if_neg e, if_neg e]; exact hT.2.1 s a b
  · rw [f6 i hi]
    by_cases e : I 55 i = (t : Int)
    · rw [if_pos e]; exact fun z => absurd rfl z
    · rw [if_neg e]
      intro z
      obtain ⟨s, a, b, c, d⟩ := w6 i hi z
      exact ⟨s, a, b, c, by rw [f5, if_neg (by rintro rfl; exact e c)]; exact d⟩
theorem mrg_up8 {A B : qI} {t : Nat} {v : Int} : mrg (q_up A 8 t v) B = q_up (mrg A B) 8 t v := by
  funext a
  by_cases h : a < 44
  · rw [mrg_lo h]
    funext j
    unfold q_up
    rw [mrg_lo h]
  · rw [mrg_hi (by omega), q_up_off a (by omega), mrg_hi (by omega)]
/-- what an END leaves -/
theorem end_spec (A B : qI) (n t : Nat) (z e : Int) (he : (z = 0 ∧ e = 2) ∨ (z = 1 ∧ e = 1)) : ADD (mrg A B) (mrg (lend A n t z) (mad B n t 0 0 e 1)) n ∧
    (∀ a, ¬ (2 ≤ a ∧ a ≤ 8) → ¬ (44 ≤ a ∧ a ≤ 50) → mrg (lend A n t z) (mad B n t 0 0 e 1) a = mrg A B a) ∧
    (∀ j, j ≠ 0 → mrg (lend A n t z) (mad B n t 0 0 e 1) 44 j = mrg A B 44 j) ∧
    (∀ s, mrg (lend A n t z) (mad B n t 0 0 e 1) 8 s = if s = t then ((n + 1 : Nat) : Int) else mrg A B 8 s) ∧
    (mrg (lend A n t z) (mad B n t 0 0 e 1) 45 (n + 1) = t ∧ mrg (lend A n t z) (mad B n t 0 0 e 1) 48 (n + 1) = e ∧ mrg (lend A n t z) (mad B n t 0 0 e 1) 49 (n + 1) = 1) ∧
    ∀ T : Nat, 1 ≤ t → t ≤ T → rec_ (mrg (lend A n t z) (mad B n t 0 0 e 1)) T (n + 1) := by
  unfold lend
  rw [mrg_up8]
  obtain ⟨hadd, off, o44, c, m⟩ := add_spec A B n (if z = 0 then 3 else 2) t (-1) 0 ((t : Int).tmod 2) t 0 0 e 1
  generalize mrg (ladd A n (if z = 0 then 3 else 2) t (-1) 0 ((t : Int).tmod 2)) (mad B n t 0 0 e 1) = J at hadd off o44 c m
  generalize mrg A B = I at hadd off o44
  have o : ∀ a, a ≠ 8 → q_up J 8 t ((n + 1 : Nat) : Int) a = J a := fun a ha => q_up_off a ha
  have hadd' : ADD I (q_up J 8 t ((n + 1 : Nat) : Int)) n := by
    refine ⟨fun a ha j hj => by rw [o a (by omega)]; exact hadd.1 a ha j hj, by rw [o 2 (by decide)]; exact hadd.2.1, by rw [o 44 (by decide)]; exact hadd.2.2.1, fun a ha => by rw [o a (by omega)]; exact hadd.2.2.2.1 a ha, fun j => by rw [o 50 (by decide)]; exact hadd.2.2.2.2 j⟩
  refine ⟨hadd', fun a h1 h2 => by rw [o a (by omega)]; exact off a (by omega) h2, fun j hj => by rw [o 44 (by decide)]; exact o44 j hj, fun s => ?_, ⟨by rw [o 45 (by decide)]; exact m.1, by rw [o 48 (by decide)]; exact m.2.2.2.1, by rw [o 49 (by decide)]; exact m.2.2.2.2⟩, fun T h1 h2 => ?_⟩
  · have := off 8 (by omega) (by omega)
    by_cases e8 : s = t
    · subst e8; simp [q_up]
    · rw [if_neg e8, ← this]
      simp [q_up, e8]
  · unfold rec_
    rw [o 3 (by decide), o 4 (by decide), o 5 (by decide), o 6 (by decide), o 7 (by decide), o 45 (by decide), o 46 (by decide), o 47 (by decide), o 48 (by decide), o 49 (by decide)]
    obtain ⟨c1, c2, c3, c4, c5⟩ := c
    obtain ⟨m1, m2, m3, m4, m5⟩ := m
    rw [c1, c2, c3, c4, c5, m1, m3, m4, m5]
    refine ⟨rfl, ⟨by omega, by omega⟩, rfl, by omega, Or.inr ⟨by omega, rfl, ?_, rfl, rfl⟩⟩
    rcases he with ⟨rfl, rfl⟩ | ⟨rfl, rfl⟩ <;> rfl
/-- the END of t is written, all but its own records are sound -/
theorem inv_end {A B : qI} {n T k d t : Nat} {z e : Int} (he : (z = 0 ∧ e = 2) ∨ (z = 1 ∧ e = 1)) (hR : LR (mrg A B) n T d) (hT : RT (mrg A B) T) (hH : RH (mrg A B) k) (hX : RX (mrg A B) n d) (w6 : W6 (mrg A B) T) (w7 : W7 (mrg A B) n T) (w8 : mrg A B 44 10 = 0 → ∀ l, 1 ≤ l → l ≤ n → mrg A B 48 l = 0 → qf (mep (mrg A B) (mrg A B 45 l)) n 1 = 0 → mrg A B 45 l ≠ (t : Int) → mrg A B 54 (mrg A B 45 l).toNat ≠ 0 ∧ mrg A B 55 (mrg A B 46 l).toNat = mrg A B 45 l) (up : mrg A B 44 10 = 0) (h1 : 1 ≤ t) (h2 : t ≤ T) (h3 : mrg A B 54 t = 0) (hq : qf (mep (mrg A B) t) n 1 = 0) (hp : n + 1 + psum (pac (mrg A B) n) T ≤ 187) : INV (mrg (lend A n t z) (mad B n t 0 0 e 1)) (n + 1) T k d := by
  obtain ⟨hadd, off, o44, o8, m, hr⟩ := end_spec A B n t z e he
  have hr := hr T h1 h2
  generalize mrg (lend A n t z) (mad B n t 0 0 e 1) = J at hadd off o44 o8 m hr
  generalize mrg A B = I at hR hT hH hX w6 w7 w8 up h3 hq hp hadd off o44 o8
  have hlr := hR
  obtain ⟨hL, hN, hC, w3, w4, w9, hd⟩ := hR
  have hN' := rn_end hN hadd o8 m.1 (by rw [m.2.1]; omega) hq
  have eqt : qf (mep J t) (n + 1) 1 = n + 1 := by
    rw [qf_succ, hadd.qep1 (Nat.le_refl _), if_pos hq, if_pos (mep_iff.mpr ⟨m.1, by rw [m.2.1]; omega⟩)]
  have eq : ∀ s : Int, s ≠ (t : Int) → qf (mep J s) (n + 1) 1 = qf (mep I s) n 1 := fun s hs => by
    have em : mep J s (n + 1) = false := by
      rw [← Bool.not_eq_true]
      intro w
      have := (mep_iff.mp w).1
      rw [m.1] at this
      exact hs this.symm
    rw [qf_succ, em, hadd.qep1 (Nat.le_refl _)]
    split
    · next w => rw [w]; rfl
    · rfl
  have efp : ∀ s k : Int, qf (mfp J s k) (n + 1) 1 = qf (mfp I s k) n 1 := fun s k => by
    have em : mfp J s k (n + 1) = false := by
      rw [← Bool.not_eq_true]
      intro w
      have := (mfp_iff.mp w).2.1
      rw [m.2.1] at this
      omega
    rw [qf_succ, em, hadd.qfp1 (Nat.le_refl _)]
    split
    · next w => rw [w]; rfl
    · rfl
  have eck : ∀ s, ckc J (n + 1) s = ckc I n s := fun s => by
    unfold ckc
    exact qz_congr fun i _ => by rw [efp]
  have w7' : W7 J (n + 1) T := fun s a b x => by
    rw [off 54 (by omega) (by omega)] at x
    rw [eq s (by intro w; exact x (by rw [show s = t by omega]; exact h3))]
    exact w7 s a b x
  have w8' : W8 J (n + 1) := by
    intro _ l l1 l2
    by_cases el : l = n + 1
    · subst el
      rw [m.2.1]
      intro w
      omega
    · rw [off 54 (by omega) (by omega), off 55 (by omega) (by omega), hadd.1 45 (by omega) l el, hadd.1 46 (by omega) l el, hadd.1 48 (by omega) l el]
      intro x1 x2
      by_cases et : I 45 l = (t : Int)
      · rw [et, eqt] at x2; omega
      · rw [eq _ et] at x2
        exact w8 up l l1 (by omega) x1 x2 et
  have upJ : J 44 10 = 0 := by rw [o44 10 (by decide)]; exact up
  have epa : psum (pac J (n + 1)) T = psum (pac I n) T := psum_congr fun s a b => by
    unfold pac
    rw [off 54 (by omega) (by omega), eck]
  have hLJ : RL J (n + 1) T := ⟨⟨hadd.2.1, hadd.2.2.1, by omega⟩, fun l a b => by
    by_cases el : l = n + 1
    · subst el; exact hr
    · have := hL.2 l a (by omega)
      unfold rec_ at this ⊢
      rw [hadd.1 3 (by omega) l el, hadd.1 4 (by omega) l el, hadd.1 5 (by omega) l el, hadd.1 6 (by omega) l el, hadd.1 7 (by omega) l el, hadd.1 45 (by omega) l el, hadd.1 46 (by omega) l el, hadd.1 47 (by omega) l el, hadd.1 48 (by omega) l el, hadd.1 49 (by omega) l el]
      exact this⟩
  have hpu := pun_le upJ hLJ hT.1.2.2 w8'
  have h9 := w9_app w9 hadd (Or.inr (by omega))
  obtain ⟨r1, r2, r3, r4, r5, r6, r7⟩ := lr_app hlr (by omega) hadd hr hN' h9
  refine ⟨r1, r2, hT.fr (o44 12 (by decide)) (fun a ha => off a (by omega) (by omega)), r3, hH.fr (o44 16 (by decide)) (fun a ha => off a (by omega) (by omega)), ?_, r4, r5, w6.fr (off 54 (by omega) (by omega)) (off 55 (by omega) (by omega)), w7', w8', r6, fun _ => by omega⟩
  refine ⟨by rw [o44 10 (by decide), off 1 (by omega) (by omega), off 53 (by omega) (by omega)]; exact hX.1, ⟨by rw [off 1 (by omega) (by omega)]; exact hX.2.1.1, by rw [o44 11 (by decide)]; exact hX.2.1.2.1, r7, ?_⟩, by rw [off 43 (by omega) (by omega), off 57 (by omega) (by omega)]; exact hX.2.2⟩
  rw [hadd.1 49 (by omega) d (by omega)]
  exact hX.2.1.2.2.2
theorem LR.fr {I J : qI} {n T d : Nat} (h : LR I n T d) (h44 : J 44 0 = I 44 0) (off : ∀ a, (2 ≤ a ∧ a ≤ 8) ∨ (15 ≤ a ∧ a ≤ 40) ∨ (45 ≤ a ∧ a ≤ 53) → J a = I a) : LR J n T d := by
  obtain ⟨hL, hN, hC, w3, w4, w9, hd⟩ := h
  exact ⟨hL.fr (by rw [off 2 (by omega)]) h44 (fun a ha => off a (by omega)), hN.fr (fun a ha => off a (by omega)), hC.fr (fun a ha => off a (by omega)), w3.fr (fun a ha => off a (by omega)), w4.fr (fun a ha => off a (by omega)), w9.fr (fun a ha => off a (by omega)), hd⟩
theorem rt_ok {I : qI} {n T k d : Nat} {t : Int} (h : INV I n T k d) (hr : mrt I t = 0) : I 44 10 = 0 ∧ ∃ s : Nat, t = (s : Int) ∧ 1 ≤ s ∧ s ≤ T ∧ I 54 s ≠ 0 := by
  have hT := h.2.2.1
  unfold mrt at hr
  split at hr
  · omega
  · next hz =>
    split at hr
    · next hq =>
      unfold mac at hq
      have hq := of_decide_eq_true hq
      rw [hT.1.2.1] at hq
      obtain ⟨s, rfl⟩ : ∃ s : Nat, t = (s : Int) := ⟨t.toNat, by omega⟩
      have et : ((s : Int)).toNat = s := rfl
      rw [et] at hq
      exact ⟨Classical.not_not.mp hz, s, rfl, by omega, by omega, hq.2.2⟩
    · omega
/-- an active one's share of the room -/
theorem pac_fin {I J : qI} {n m T t : Nat} (h1 : 1 ≤ t) (h2 : t ≤ T) (h3 : I 54 t ≠ 0) (h54 : ∀ j, J 54 j = if j = t then 0 else I 54 j) (hck : ∀ s, s ≠ t → ckc J m s = ckc I n s) : psum (pac J m) T + ckc I n t + 1 = psum (pac I n) T := by
  have := psum_drop (f := pac I n) (g := pac J m) h1 h2 (fun j hj => by unfold pac; rw [h54, if_neg hj, hck j hj])
  have e1 : pac I n t = ckc I n t + 1 := by unfold pac; rw [if_pos h3]
  have e2 : pac J m t = 0 := by unfold pac; rw [h54, if_pos rfl]; rfl
  omega
theorem ok_commit {N : Nat} (I : qI) (hI : Inv I) (t : Int) : okk Inv N 2 2 M_Q_commit M_M_commit [.inl t] I := by
  obtain ⟨n, T, k, d, h⟩ := hI
  have ert := e_rt h t
  by_cases c : mrt I t = 0
  · obtain ⟨up, s, rfl, s1, s2, s3⟩ := rt_ok h c
    have hT := h.2.2.1
    have hT60 := hT.1.2.2
    have hw := h.2.2.2.2.2.2.2.2.2.2.2.2 up
    have hpf : ∀ J : qI, (∀ j, J 54 j = if j = s then 0 else I 54 j) → ckc J = ckc I → psum (pac J n) T + ckc I n s + 1 = psum (pac I n) T := fun J h54 hck => pac_fin s1 s2 s3 h54 (fun j _ => by rw [hck])
    have hp0 : ckc I n s + 1 ≤ psum (pac I n) T := by
      have := hpf (fun a j => if a = 54 ∧ j = s then 0 else I a j) (fun j => by by_cases e : j = s <;> simp [e]) (ckc_fr (by funext j; simp) (by funext j; simp) (by funext j; simp))
      omega
    have hA := ct_Q_commit (L := N) I h.cw (by rw [ert]; exact c) (show s ≤ 60 by omega) (by omega)
    have hlow : agr (lend (tfin I s) n s 1) I := fun q hq => by unfold lend; rw [q_up_off q (by omega), ladd_off (by omega), tfin_off (by omega) (by omega) (by omega)]
    refine okk_fin (A1 := lend (tfin I s) n s 1) (F := fun I => mad (mfin0 I s) n s 0 0 1 1) hA hlow (by unfold lend; rw [q_up_off 0 (by omega), ladd_off (by omega), tfin_off (by omega) (by omega) (by omega)]) (loc_mfin0.comp loc_mad) ?_ ⟨n + 1, T, k, d, ?_⟩
    · exact ct_M_commit (L := N) _ (inv_mw1 h hlow) (by rw [mrt_hi hlow]; exact c) (show s ≤ 60 by omega)
    · have off : ∀ a, a ≠ 9 → a ≠ 10 → a ≠ 11 → a ≠ 54 → a ≠ 55 → mrg (tfin I s) (mfin0 I s) a = I a := by
        intro a x1 x2 x3 x4 x5
        by_cases ha : a < 44
        · rw [mrg_lo ha, tfin_off x1 x2 x3]
        · rw [mrg_hi (by omega), mfin0_off x4 x5]
      have hf : FIN I (mrg (tfin I s) (mfin0 I s)) s := by
        obtain ⟨f1, f2, f3, f4⟩ := tfin_spec I s
        obtain ⟨f5, f6⟩ := mfin0_spec I s
        unfold FIN
        rw [mrg_lo (a := 9) (by decide), mrg_lo (a := 10) (by decide), mrg_lo (a := 11) (by decide), mrg_hi (a := 54) (by decide), mrg_hi (a := 55) (by decide)]
        exact ⟨f1, f2, f3, f4, f5, f6⟩
      have hlr := (inv_lr h).fr (J := mrg (tfin I s) (mfin0 I s)) (by rw [off 44 (by decide) (by decide) (by decide) (by decide) (by decide)]) (fun a ha => off a (by omega) (by omega) (by omega) (by omega) (by omega))
      obtain ⟨hL, hN, -, hC, hH, hX, w3, w4, w6, w7, w8, w9, w10⟩ := h
      have o44 : mrg (tfin I s) (mfin0 I s) 44 = I 44 := off 44 (by decide) (by decide) (by decide) (by decide) (by decide)
      have o45 : mrg (tfin I s) (mfin0 I s) 45 = I 45 := off 45 (by decide) (by decide) (by decide) (by decide) (by decide)
      have o46 : mrg (tfin I s) (mfin0 I s) 46 = I 46 := off 46 (by decide) (by decide) (by decide) (by decide) (by decide)
      have o48 : mrg (tfin I s) (mfin0 I s) 48 = I 48 := off 48 (by decide) (by decide) (by decide) (by decide) (by decide)
      obtain ⟨rt, w6'⟩ := fin_rt hT w6 s1 s2 s3 hf (by rw [o44])
      have em := mep_fr o45 o48
      have hpp := hpf _ hf.2.2.2.2.1 (ckc_fr o45 o46 o48)
      refine inv_end (Or.inr ⟨rfl, rfl⟩) hlr rt (hH.fr (by rw [o44]) (fun a ha => off a (by omega) (by omega) (by omega) (by omega) (by omega))) (hX.fr (by rw [o44]) (by rw [o44]) (fun a ha => off a (by omega) (by omega) (by omega) (by omega) (by omega))) w6' (fun q a b x => ?_) (fun z l l1 l2 => ?_) (by rw [o44]; exact up) s1 s2 (by rw [hf.2.2.2.2.1, if_pos rfl]) (by rw [em]; exact w7 s s1 s2 s3) (by omega)
      · rw [hf.2.2.2.2.1] at x
        rw [em]
        by_cases e : q = s
        · rw [if_pos e] at x; exact absurd rfl x
        · rw [if_neg e] at x; exact w7 q a b x
      · rw [em, o45, o46, o48, hf.2.2.2.2.1]
        intro x1 x2 x3
        have hrec := hL.2 l l1 l2
        have := w8 up l l1 l2 x1 x2
        have hk : (I 46 l).toNat < 32 := by
          obtain ⟨-, -, -, -, q | q⟩ := hrec
          · omega
          · omega
        have hb := hrec.2.1
        rw [if_neg (by omega), hf.2.2.2.2.2 _ hk, if_neg (by rw [this.2]; exact x3)]
        exact this
  · exact okk_eq ⟨n, T, k, d, h⟩ (ct_Q_commit0 t I h.cw (by rw [ert]; exact c)) (ct_M_commit0 t I h.mw c) ert
