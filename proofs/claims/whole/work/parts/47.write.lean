/-! A record is added on both sides; write and shift. -/
theorem qf_succ {p : Nat → Bool} {n : Nat} : qf p (n + 1) 1 = if qf p n 1 = 0 then (if p (n + 1) = true then n + 1 else 0) else qf p n 1 := by
  rcases qf_has (p := p) (f := n) (l := 1) with a | ⟨a1, a2, a3⟩
  · rw [if_pos a]
    by_cases e : p (n + 1) = true
    · rw [if_pos e]
      exact qf_eq e (by omega) (by omega) (fun i x y => qf_none (Nat.le_refl 1) a i x (by omega))
    · rw [if_neg e]
      refine qf_zero fun i x y => ?_
      by_cases hi : i = n + 1
      · subst hi; simpa using e
      · exact qf_none (Nat.le_refl 1) a i x (by omega)
  · rw [if_neg (by omega)]
    exact qf_eq a1 a2 (by omega) (fun i x y => qf_before (f := n) x y)
def ADD (I J : qI) (n : Nat) : Prop := (∀ a, (3 ≤ a ∧ a ≤ 7) ∨ (45 ≤ a ∧ a ≤ 49) → ∀ j, j ≠ n + 1 → J a j = I a j) ∧ J 2 6 = ((n + 1 : Nat) : Int) ∧ J 44 0 = ((n + 1 : Nat) : Int) ∧ (∀ a, (15 ≤ a ∧ a ≤ 40) ∨ (51 ≤ a ∧ a ≤ 53) → J a = I a) ∧ ∀ j, J 50 j = if j % 200 = n + 1 ∧ j / 200 < 12 then 0 else I 50 j
def LR (I : qI) (n T d : Nat) : Prop := RL I n T ∧ RN I n ∧ RC I n ∧ W3 I n ∧ W4 I d ∧ W9 I n ∧ d ≤ n
theorem ADD.ep1 {I J : qI} {n : Nat} (h : ADD I J n) {t : Int} {l : Nat} (hl : l ≤ n) : mep J t l = mep I t l := by unfold mep; rw [h.1 45 (by omega) l (by omega), h.1 48 (by omega) l (by omega)]
theorem ADD.fp1 {I J : qI} {n : Nat} (h : ADD I J n) {t k : Int} {l : Nat} (hl : l ≤ n) : mfp J t k l = mfp I t k l := by unfold mfp; rw [h.1 45 (by omega) l (by omega), h.1 46 (by omega) l (by omega), h.1 48 (by omega) l (by omega)]
theorem ADD.gr1 {I J : qI} {n : Nat} (h : ADD I J n) {l : Nat} (hl : l ≤ n) : mg J l = mg I l := by unfold mg; rw [h.1 45 (by omega) l (by omega), h.1 46 (by omega) l (by omega), h.1 48 (by omega) l (by omega)]
theorem ADD.qep1 {I J : qI} {n : Nat} (h : ADD I J n) {t : Int} {m : Nat} (hm : m ≤ n) : qf (mep J t) m 1 = qf (mep I t) m 1 := qf_congr fun i a b => h.ep1 (by omega)
theorem ADD.qfp1 {I J : qI} {n : Nat} (h : ADD I J n) {t k : Int} {m : Nat} (hm : m ≤ n) : qf (mfp J t k) m 1 = qf (mfp I t k) m 1 := qf_congr fun i a b => h.fp1 (by omega)
theorem ADD.ck1 {I J : qI} {n : Nat} (h : ADD I J n) {t m : Nat} (hm : m ≤ n) : ckc J m t = ckc I m t := by
  unfold ckc
  exact qz_congr fun k _ => by rw [h.qfp1 hm]
theorem ADD.pu1 {I J : qI} {n : Nat} (h : ADD I J n) {m : Nat} (hm : m ≤ n) : pun J m = pun I m := by
  funext t
  unfold pun
  rw [h.qep1 hm, h.ck1 hm]
theorem rn_chg {I J : qI} {n : Nat} (h : RN I n) (ha : ADD I J n) (h8 : J 8 = I 8) (hz : J 48 (n + 1) = 0) : RN J (n + 1) := by
  intro t a b
  have e : mep J (t : Int) (n + 1) = false := by
    rw [← Bool.not_eq_true]
    intro z
    have := (mep_iff.mp z).2
    omega
  rw [h8, qf_succ, e, ha.qep1 (Nat.le_refl _), h t a b]
  split
  · next z => rw [z]; rfl
  · rfl
theorem rn_end {I J : qI} {n t : Nat} (h : RN I n) (ha : ADD I J n) (h8 : ∀ s, J 8 s = if s = t then ((n + 1 : Nat) : Int) else I 8 s) (h45 : J 45 (n + 1) = (t : Int)) (hz : 0 < J 48 (n + 1)) (hq : qf (mep I t) n 1 = 0) : RN J (n + 1) := by
  intro s a b
  rw [h8, qf_succ, ha.qep1 (Nat.le_refl _)]
  by_cases e : s = t
  · subst e
    rw [if_pos rfl, if_pos hq, if_pos (mep_iff.mpr ⟨h45, hz⟩)]
  · have e2 : mep J (s : Int) (n + 1) = false := by
      rw [← Bool.not_eq_true]
      intro z
      have := (mep_iff.mp z).1
      omega
    rw [if_neg e, e2, h s a b]
    split
    · next z => rw [z]; rfl
    · rfl
theorem w9_app {I J : qI} {n : Nat} (h : W9 I n) (ha : ADD I J n) (he : J 49 (n + 1) = 0 ∨ n + 1 + psum (pun J (n + 1)) 60 ≤ 187) : W9 J (n + 1) := by
  intro m hm hz
  by_cases e : m = n + 1
  · subst e
    rcases he with z | z
    · rcases hz with y | y
      · omega
      · exact absurd z y
    · exact z
  · rw [ha.pu1 (by omega)]
    rw [ha.1 49 (by omega) m e] at hz
    exact h m (by omega) hz
theorem lr_app {I J : qI} {n T d : Nat} (hR : LR I n T d) (hn : n < 187) (ha : ADD I J n) (hr : rec_ J T (n + 1)) (hN : RN J (n + 1)) (h9 : W9 J (n + 1)) : LR J (n + 1) T d := by
  obtain ⟨hL, -, hC, w3, w4, -, hd⟩ := hR
  refine ⟨⟨⟨ha.2.1, ha.2.2.1, by omega⟩, fun l a b => ?_⟩, hN, fun x hx => ?_, ⟨fun x hx => ?_, fun x hx l h1 h2 h3 h4 => ?_⟩, ?_, h9, by omega⟩
  · by_cases e : l = n + 1
    · subst e; exact hr
    · have := hL.2 l a (by omega)
      unfold rec_ at this ⊢
      rw [ha.1 3 (by omega) l e, ha.1 4 (by omega) l e, ha.1 5 (by omega) l e, ha.1 6 (by omega) l e, ha.1 7 (by omega) l e, ha.1 45 (by omega) l e, ha.1 46 (by omega) l e, ha.1 47 (by omega) l e, ha.1 48 (by omega) l e, ha.1 49 (by omega) l e]
      exact this
  · have hb := cp_bd hx
    obtain ⟨t1, t2, t3, t4, t5, t6⟩ := hC x hx
    rw [ha.2.2.2.1 (cp x) (by omega), ha.2.2.2.1 (cp x + 1) (by omega), ha.2.2.2.1 51 (by omega), ha.2.2.2.1 52 (by omega), ha.2.2.2.1 53 (by omega)]
    refine ⟨t1, t2, t3, t4, fun l a b => ?_, fun l a b => t6 l (by omega) b⟩
    rw [ha.2.2.2.2]
    by_cases e : l = n + 1
    · subst e
      rw [if_pos (by omega), t6 _ (by omega) (by omega)]
      exact ⟨rfl, Or.inl rfl⟩
    · rw [if_neg (by omega)]
      exact t5 l a (by omega)
  · rw [ha.2.2.2.1 53 (by omega)]
    have := w3.1 x hx
    omega
  · rw [ha.2.2.2.1 53 (by omega)] at h3
    have := w3.1 x hx
    have e : l ≠ n + 1 := by omega
    rw [ha.gr1 (by omega)] at h4
    rw [ha.2.2.2.2, if_neg (by omega)]
    exact w3.2 x hx l h1 (by omega) h3 h4
  · refine w4.grow (fun l a b => ha.gr1 (by omega)) (fun x l hx a b => ?_)
    rw [ha.2.2.2.1 51 (by omega), ha.2.2.2.2, if_neg (by omega)]
    exact fun z1 z2 => ⟨z1, z2⟩
/-- what one added record leaves -/
theorem add_spec (A B : qI) (n : Nat) (kd t k v g t' k' v' e z : Int) : ADD (mrg A B) (mrg (ladd A n kd t k v g) (mad B n t' k' v' e z)) n ∧
    (∀ a, ¬ (2 ≤ a ∧ a ≤ 7) → ¬ (44 ≤ a ∧ a ≤ 50) → mrg (ladd A n kd t k v g) (mad B n t' k' v' e z) a = mrg A B a) ∧
    (∀ j, j ≠ 0 → mrg (ladd A n kd t k v g) (mad B n t' k' v' e z) 44 j = mrg A B 44 j) ∧
    (mrg (ladd A n kd t k v g) (mad B n t' k' v' e z) 3 (n + 1) = kd ∧ mrg (ladd A n kd t k v g) (mad B n t' k' v' e z) 4 (n + 1) = t ∧ mrg (ladd A n kd t k v g) (mad B n t' k' v' e z) 5 (n + 1) = k ∧ mrg (ladd A n kd t k v g) (mad B n t' k' v' e z) 6 (n + 1) = v ∧ mrg (ladd A n kd t k v g) (mad B n t' k' v' e z) 7 (n + 1) = g) ∧
    (mrg (ladd A n kd t k v g) (mad B n t' k' v' e z) 45 (n + 1) = t' ∧ mrg (ladd A n kd t k v g) (mad B n t' k' v' e z) 46 (n + 1) = k' ∧ mrg (ladd A n kd t k v g) (mad B n t' k' v' e z) 47 (n + 1) = v' ∧ mrg (ladd A n kd t k v g) (mad B n t' k' v' e z) 48 (n + 1) = e ∧ mrg (ladd A n kd t k v g) (mad B n t' k' v' e z) 49 (n + 1) = z) := by
  have lo : ∀ a, a < 44 → mrg (ladd A n kd t k v g) (mad B n t' k' v' e z) a = ladd A n kd t k v g a := fun a ha => mrg_lo ha
  have hi : ∀ a, 44 ≤ a → mrg (ladd A n kd t k v g) (mad B n t' k' v' e z) a = mad B n t' k' v' e z a := fun a ha => mrg_hi ha
  have lo2 : ∀ a, a < 44 → mrg A B a = A a := fun a ha => mrg_lo ha
  have hi2 : ∀ a, 44 ≤ a → mrg A B a = B a := fun a ha => mrg_hi ha
  refine ⟨⟨fun a ha j hj => ?_, ?_, ?_, fun a ha => ?_, fun j => ?_⟩, fun a h1 h2 => ?_, fun j hj => ?_, ⟨?_, ?_, ?_, ?_, ?_⟩, ?_, ?_, ?_, ?_, ?_⟩
  · by_cases hlt : a < 44
    · rw [lo a hlt, lo2 a hlt]
      unfold ladd q_up
      rw [if_neg (fun w => hj w.2), if_neg (fun w => hj w.2), if_neg (fun w => hj w.2), if_neg (fun w => hj w.2), if_neg (fun w => hj w.2), if_neg (by omega)]
    · rw [hi a (by omega), hi2 a (by omega)]
      unfold mad
      rw [mhz_off (by omega)]
      unfold mad0 q_up
      rw [if_neg (fun w => hj w.2), if_neg (fun w => hj w.2), if_neg (fun w => hj w.2), if_neg (fun w => hj w.2), if_neg (fun w => hj w.2), if_neg (by omega)]
  · rw [lo 2 (by decide)]; simp [ladd, q_up]
  · rw [hi 44 (by decide)]; unfold mad; rw [mhz_off (by decide)]; simp [mad0, q_up]
  · by_cases hlt : a < 44
    · rw [lo a hlt, lo2 a hlt]
      unfold ladd
      rw [q_up_off a (by omega), q_up_off a (by omega), q_up_off a (by omega), q_up_off a (by omega), q_up_off a (by omega), q_up_off a (by omega)]
    · rw [hi a (by omega), hi2 a (by omega)]
      unfold mad
      rw [mhz_off (by omega)]
      unfold mad0
      rw [q_up_off a (by omega), q_up_off a (by omega), q_up_off a (by omega), q_up_off a (by omega), q_up_off a (by omega), q_up_off a (by omega)]
  · rw [hi 50 (by decide), hi2 50 (by decide)]
    unfold mad mhz
    by_cases c : j % 200 = n + 1 ∧ j / 200 < 12
    · rw [if_pos c, if_pos ⟨rfl, c⟩]
    · rw [if_neg c, if_neg (fun w => c w.2)]
      unfold mad0
      rw [q_up_off 50 (by decide), q_up_off 50 (by decide), q_up_off 50 (by decide), q_up_off 50 (by decide), q_up_off 50 (by decide), q_up_off 50 (by decide)]
  · by_cases hlt : a < 44
    · rw [lo a hlt, lo2 a hlt]
      unfold ladd
      rw [q_up_off a (by omega), q_up_off a (by omega), q_up_off a (by omega), q_up_off a (by omega), q_up_off a (by omega), q_up_off a (by omega)]
    · rw [hi a (by omega), hi2 a (by omega)]
      unfold mad
      rw [mhz_off (by omega)]
      unfold mad0
      rw [q_up_off a (by omega), q_up_off a (by omega), q_up_off a (by omega), q_up_off a (by omega), q_up_off a (by omega), q_up_off a (by omega)]
  · rw [hi 44 (by decide), hi2 44 (by decide)]
    unfold mad
    rw [mhz_off (by decide)]
    simp [mad0, q_up, hj]
  · rw [lo 3 (by decide)]; simp [ladd, q_up]
  · rw [lo 4 (by decide)]; simp [ladd, q_up]
  · rw [lo 5 (by decide)]; simp [ladd, q_up]
  · rw [lo 6 (by decide)]; simp [ladd, q_up]
  · rw [lo 7 (by decide)]; simp [ladd, q_up]
  · rw [hi 45 (by decide)]; unfold mad; rw [mhz_off (by decide)]; simp [mad0, q_up]
  · rw [hi 46 (by decide)]; unfold mad; rw [mhz_off (by decide)]; simp [mad0, q_up]
  · rw [hi 47 (by decide)]; unfold mad; rw [mhz_off (by decide)]; simp [mad0, q_up]
  · rw [hi 48 (by decide)]; unfold mad; rw [mhz_off (by decide)]; simp [mad0, q_up]
  · rw [hi 49 (by decide)]; unfold mad; rw [mhz_off (by decide)]; simp [mad0, q_up]
theorem inv_lr {I : qI} {n T k d : Nat} (h : INV I n T k d) : LR I n T d := ⟨h.1, h.2.1, h.2.2.2.1, h.2.2.2.2.2.2.1, h.2.2.2.2.2.2.2.1, h.2.2.2.2.2.2.2.2.2.2.2.1, h.2.2.2.2.2.1.2.1.2.2.1⟩
theorem rec_chg {J : qI} {T l s a : Nat} {v : Int} (ha : a < 32) (h1 : 1 ≤ s) (h2 : s ≤ T) (hv : 0 ≤ v ∧ v ≤ 9999) (z : Int) (hz : z = 0 ∨ z = 1) (c : J 3 l = z ∧ J 4 l = (s : Int) ∧ J 5 l = (a : Int) ∧ J 6 l = v ∧ J 7 l = ((a / 4 % 2 : Nat) : Int)) (m : J 45 l = (s : Int) ∧ J 46 l = (a : Int) ∧ J 47 l = v ∧ J 48 l = 0 ∧ J 49 l = z) : rec_ J T l := by
  obtain ⟨c1, c2, c3, c4, c5⟩ := c
  obtain ⟨m1, m2, m3, m4, m5⟩ := m
  unfold rec_
  rw [c1, c2, c3, c4, c5, m1, m2, m3, m4, m5, td4, tm2]
  exact ⟨rfl, ⟨by omega, by omega⟩, rfl, hv, Or.inl ⟨rfl, rfl, ⟨by omega, by omega⟩, rfl, hz, rfl⟩⟩
/-- a change is added by an active transaction that holds the key -/
theorem inv_chgrec {A B : qI} {n T k d a s : Nat} {v z : Int} (h : INV (mrg A B) n T k d) (hn : n ≤ 150) (up : B 44 10 = 0) (ha : a < 32) (h1 : 1 ≤ s) (h2 : s ≤ T) (h3 : B 54 s ≠ 0) (h4 : B 55 a = (s : Int)) (hv : 0 ≤ v ∧ v ≤ 9999) (hz : z = 0 ∨ z = 1) : INV (mrg (ladd A n z s a v ((a / 4 % 2 : Nat) : Int)) (mad B n s a v 0 z)) (n + 1) T k d := by
  obtain ⟨hadd, off, o44, c, m⟩ := add_spec A B n z s a v ((a / 4 % 2 : Nat) : Int) s a v 0 z
  have up' : mrg A B 44 10 = 0 := by rw [mrg_hi (by decide)]; exact up
  have h3' : mrg A B 54 s ≠ 0 := by rw [mrg_hi (by decide)]; exact h3
  have h4' : mrg A B 55 a = (s : Int) := by rw [mrg_hi (by decide)]; exact h4
  generalize mrg (ladd A n z s a v ((a / 4 % 2 : Nat) : Int)) (mad B n s a v 0 z) = J at hadd off o44 c m
  generalize mrg A B = I at h hadd off o44 up' h3' h4'
  have hlr := inv_lr h
  obtain ⟨hL, hN, hT, hC, hH, hX, w3, w4, w6, w7, w8, w9, w10⟩ := h
  have hr := rec_chg (T := T) ha h1 h2 hv z hz c m
  have hN' := rn_chg hN hadd (off 8 (by omega) (by omega)) m.2.2.2.1
  have em : ∀ t : Int, mep J t (n + 1) = false := fun t => by
    rw [← Bool.not_eq_true]
    intro w
    have := (mep_iff.mp w).2
    rw [m.2.2.2.1] at this
    omega
  have eq : ∀ t : Int, qf (mep J t) (n + 1) 1 = qf (mep I t) n 1 := fun t => by
    rw [qf_succ, em, hadd.qep1 (Nat.le_refl _)]
    split
    · next w => rw [w]; rfl
    · rfl
  have w7' : W7 J (n + 1) T := fun t a b x => by
    rw [eq]
    rw [off 54 (by omega) (by omega)] at x
    exact w7 t a b x
  have w8' : W8 J (n + 1) := by
    intro _ l l1 l2
    rw [eq, off 54 (by omega) (by omega), off 55 (by omega) (by omega)]
    by_cases e : l = n + 1
    · subst e
      rw [m.1, m.2.1]
      exact fun _ _ => ⟨h3', h4'⟩
    · rw [hadd.1 45 (by omega) l e, hadd.1 46 (by omega) l e, hadd.1 48 (by omega) l e]
      exact w8 up' l l1 (by omega)
  have upJ : J 44 10 = 0 := by rw [o44 10 (by decide)]; exact up'
  have hq : qn (mct J) T ≤ 4 := by rw [mct_fr (off 54 (by omega) (by omega))]; exact hT.2.2.1.2
  have hp := pac_le upJ w7' w8' hq
  have hLJ : RL J (n + 1) T := ⟨⟨hadd.2.1, hadd.2.2.1, by omega⟩, fun l a b => by
    by_cases e : l = n + 1
    · subst e; exact hr
    · have := hL.2 l a (by omega)
      unfold rec_ at this ⊢
      rw [hadd.1 3 (by omega) l e, hadd.1 4 (by omega) l e, hadd.1 5 (by omega) l e, hadd.1 6 (by omega) l e, hadd.1 7 (by omega) l e, hadd.1 45 (by omega) l e, hadd.1 46 (by omega) l e, hadd.1 47 (by omega) l e, hadd.1 48 (by omega) l e, hadd.1 49 (by omega) l e]
      exact this⟩
  have hpu := pun_le upJ hLJ hT.1.2.2 w8'
  have h9 := w9_app w9 hadd (Or.inr (by omega))
  obtain ⟨r1, r2, r3, r4, r5, r6, r7⟩ := lr_app hlr (by omega) hadd hr hN' h9
  refine ⟨r1, r2, hT.fr (o44 12 (by decide)) (fun a ha => off a (by omega) (by omega)), r3, hH.fr (o44 16 (by decide)) (fun a ha => off a (by omega) (by omega)), ?_, r4, r5, w6.fr (off 54 (by omega) (by omega)) (off 55 (by omega) (by omega)), w7', w8', r6, fun _ => by omega⟩
  refine ⟨by rw [o44 10 (by decide), off 1 (by omega) (by omega), off 53 (by omega) (by omega)]; exact hX.1, ⟨by rw [off 1 (by omega) (by omega)]; exact hX.2.1.1, by rw [o44 11 (by decide)]; exact hX.2.1.2.1, r7, ?_⟩, by rw [off 43 (by omega) (by omega), off 57 (by omega) (by omega)]; exact hX.2.2⟩
  have := hX.2.1.2.2.1
  rw [hadd.1 49 (by omega) d (by omega)]
  exact hX.2.1.2.2.2
theorem loc_mad {n : Nat} {t k v e z : Int} : loc (fun I => mad I n t k v e z) := loc_of (fun A a ha => by
    show mad A n t k v e z a = A a
    unfold mad
    rw [mhz_off (by omega)]
    unfold mad0
    rw [q_up_off a (by omega), q_up_off a (by omega), q_up_off a (by omega), q_up_off a (by omega), q_up_off a (by omega), q_up_off a (by omega)]) (fun A B h => by
    show agr (mad A n t k v e z) (mad B n t k v e z)
    intro a ha
    have : agr (mad0 A n t k v e z) (mad0 B n t k v e z) := up_hi (up_hi (up_hi (up_hi (up_hi (up_hi h)))))
    funext j
    unfold mad mhz
    rw [this a ha])
theorem ladd_off {A : qI} {n a : Nat} {kd t k v g : Int} (h : ¬ (2 ≤ a ∧ a ≤ 7)) : ladd A n kd t k v g a = A a := by
  unfold ladd
  rw [q_up_off a (by omega), q_up_off a (by omega), q_up_off a (by omega), q_up_off a (by omega), q_up_off a (by omega), q_up_off a (by omega)]
theorem rc_rk {I : qI} {n T k d a b : Nat} {t : Int} (h : INV I n T k d) (hr : mrc I t a b = 0) : n < 150 ∧ mrk I t a b = 0 := by
  unfold mrc at hr
  split at hr
  · next hm =>
    split at hr
    · next hl => rw [h.1.1.2.1] at hl; exact ⟨by omega, hm⟩
    · omega
  · next hm => exact absurd hr hm
theorem ok_write {N : Nat} (I : qI) (hI : Inv I) (t key v : Int) : okk Inv N 5 4 M_Q_write M_M_write [.inl t, .inl key, .inl v] I := by
  obtain ⟨n, T, k, d, h⟩ := hI
  by_cases h0 : (0 ≤ key ∧ key < 32) ∧ 0 ≤ v ∧ v ≤ 9999
  · obtain ⟨a, rfl⟩ : ∃ a : Nat, key = (a : Int) := ⟨key.toNat, by omega⟩
    have ha : a < 32 := by omega
    have hA := ct_Q_write (L := N) t v I h.cw ha h0.2
    have hB := ct_M_write (L := N) t v I h.mw ha h0.2
    unfold aWrite at hA
    unfold bWrite at hB
    rw [e_rc h t ha ha] at hA
    by_cases c1 : mrc I t a a = 0
    · rw [if_pos c1] at hA
      obtain ⟨hn, c1'⟩ := rc_rk h c1
      obtain ⟨up, s, rfl, s1, s2, s3, s4, -⟩ := rk_ok h c1'
      obtain ⟨e1, k', hk'⟩ := tch (-1) h (show a / 4 ≤ 7 by omega)
      have hlow : agr (qtch I n k d (a / 4) (-1)).2 I := fun q hq => qtch_hi (by omega)
      by_cases c2 : (mtch I n k d (a / 4) (-1)).1 = 0
      · rw [if_pos (by rw [e1]; exact c2)] at hA
        have s3' : (mtch I n k d (a / 4) (-1)).2 54 s ≠ 0 := by rw [mtch_off (by decide) (by decide)]; exact s3
        have s4' : (mtch I n k d (a / 4) (-1)).2 55 a = 0 ∨ (mtch I n k d (a / 4) (-1)).2 55 a = (s : Int) := by rw [mtch_off (by decide) (by decide)]; exact s4
        have hJ := inv_hold hk' ha s1 s2 s3' s4'
        have up' : q_up (mtch I n k d (a / 4) (-1)).2 55 a s 44 10 = 0 := by
          have := hk'.2.2.2.2.2.1
          rw [q_up_off 44 (by decide)]
          have e := (mtch_hi (n := n) (k := k) (d := d) (p := a / 4) (o := -1) (show agr I I from fun _ _ => rfl)).2
          have hu := up_iff this
          have hu2 := up_iff h.2.2.2.2.2.1
          rw [mrg_lo (by decide), qtch_off (by decide) (by decide), mrg_hi (by decide)] at hu
          exact Classical.byContradiction fun z => (hu2.mp (hu.mpr z)) up
        have hK := inv_chgrec (v := v) (z := 1) hJ (by omega) up' ha s1 s2 (by rw [q_up_off 54 (by decide)]; exact s3') (by simp [q_up]) h0.2 (Or.inr rfl)
        have hlow2 : agr (ladd (q_up (qtch I n k d (a / 4) (-1)).2 11 a s) n 1 s a v ((a / 4 % 2 : Nat) : Int)) I := fun q hq => by rw [ladd_off (by omega), q_up_off q (by omega)]; exact hlow q hq
        refine okk_fin (A1 := ladd (q_up (qtch I n k d (a / 4) (-1)).2 11 a s) n 1 s a v ((a / 4 % 2 : Nat) : Int)) (F := fun I => mad (q_up (mtch I n k d (a / 4) (-1)).2 55 a s) n s a v 0 1) hA hlow2 (by rw [ladd_off (by omega), q_up_off 0 (by decide), qtch_off (by decide) (by decide)]) ((loc_mtch.comp (loc_set (by omega))).comp loc_mad) ?_ ⟨n + 1, T, k', d, hK⟩
        have hB := ct_M_write (L := N) (s : Int) v _ (inv_mw1 h hlow2) ha h0.2
        unfold bWrite at hB
        rw [mrc_hi hlow2, if_pos c1, (mtch_hi hlow2).1, if_pos c2] at hB
        exact hB
      · rw [if_neg (by rw [e1]; exact c2)] at hA
        refine okk_fin (v := (mtch I n k d (a / 4) (-1)).1) (A1 := (qtch I n k d (a / 4) (-1)).2) (F := fun I => (mtch I n k d (a / 4) (-1)).2) (by rw [← e1]; exact hA) hlow (qtch_off (by decide) (by decide)) loc_mtch ?_ ⟨n, T, k', d, hk'⟩
        have hB := ct_M_write (L := N) (s : Int) v (qtch I n k d (a / 4) (-1)).2 (inv_mw1 h hlow) ha h0.2
        unfold bWrite at hB
        rw [mrc_hi hlow, if_pos c1, (mtch_hi hlow).1, if_neg c2] at hB
        rw [← (mtch_hi (n := n) (k := k) (d := d) (p := a / 4) (o := -1) hlow).1]
        exact hB
    · rw [if_neg c1] at hA hB
      exact okk_same ⟨n, T, k, d, h⟩ hA hB
  · exact okk_same ⟨n, T, k, d, h⟩ (ct_Q_write0 t I h0) (ct_M_write0 t I h0)
