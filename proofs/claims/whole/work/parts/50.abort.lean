/-! A transaction is rolled back; abort. -/
theorem qf_ext {p p' : Nat → Bool} {n m : Nat} (h1 : ∀ l, 1 ≤ l → l ≤ n → p l = p' l) (h2 : ∀ l, n < l → l ≤ m → p l = false) (hm : n ≤ m) : qf p m 1 = qf p' n 1 := by
  rcases qf_has (p := p') (f := n) (l := 1) with a | ⟨a1, a2, a3⟩
  · rw [a]
    refine qf_zero fun i x y => ?_
    by_cases e : i ≤ n
    · rw [h1 i x e]; exact qf_none (Nat.le_refl 1) a i x (by omega)
    · exact h2 i (by omega) (by omega)
  · exact qf_eq (by rw [h1 _ a2 (by omega)]; exact a1) a2 (by omega) (fun i x y => by rw [h1 i x (by omega)]; exact qf_before (f := n) x y)
def kc (I : qI) (n t k : Nat) : Nat := qz (fun i => decide (qf (mfp I t i) n 1 ≠ 0)) k
theorem qz_step {p : Nat → Bool} : ∀ {m n : Nat}, m ≤ n → qz p m ≤ qz p n
  | m, 0, h => by rw [show m = 0 by omega]; exact Nat.le_refl _
  | m, n + 1, h => by
    by_cases e : m = n + 1
    · rw [e]; exact Nat.le_refl _
    · have := qz_step (p := p) (m := m) (n := n) (by omega)
      rw [qz]; omega
def ROL (I M : qI) (n T d t k : Nat) : Prop := LR M (n + kc I n t k) T d ∧ (∀ a, (3 ≤ a ∧ a ≤ 7) ∨ (45 ≤ a ∧ a ≤ 49) → ∀ j, j ≤ n → M a j = I a j) ∧ (∀ l, n < l → l ≤ n + kc I n t k → M 45 l = (t : Int) ∧ M 48 l = 0 ∧ M 49 l = 0 ∧ ∃ q : Nat, q < k ∧ M 46 l = (q : Int)) ∧ (∀ a, ¬ (2 ≤ a ∧ a ≤ 7) → ¬ (44 ≤ a ∧ a ≤ 50) → M a = I a) ∧ ∀ j, j ≠ 0 → M 44 j = I 44 j
theorem lfp_lo {A B : qI} (h : alo A B) : lfp A = lfp B := by funext t k l; unfold lfp; rw [h 4 (by omega), h 5 (by omega)]
theorem mfp_hi {A B : qI} (h : agr A B) : mfp A = mfp B := mfp_fr (h 45 (by omega)) (h 46 (by omega)) (h 48 (by omega))
theorem roll_step {I A B : qI} {n T d t k : Nat} (h1 : 1 ≤ t) (h2 : t ≤ T) (hc : n + ckc I n t ≤ 186) (hk : k < 32) (h : ROL I (mrg A B) n T d t k) : ROL I (mrg (lrb1 A t k) (mrb1 B n t k)) n T d t (k + 1) := by
  have h0 := h
  obtain ⟨hR, hp, hnew, hoff, h44⟩ := h
  have hL := hR.1
  have eA : nN A = n + kc I n t k := nN_of (by have := hL.1.1; rw [mrg_lo (by decide)] at this; exact this)
  have eB : mnN B = n + kc I n t k := mnN_of (by have := hL.1.2.1; rw [mrg_hi (by decide)] at this; exact this)
  have hmono : kc I n t (k + 1) ≤ ckc I n t := qz_step (p := fun i => decide (qf (mfp I t i) n 1 ≠ 0)) (show k + 1 ≤ 32 by omega)
  have q1 : qf (mfp B t k) (n + kc I n t k) 1 = qf (mfp I t k) n 1 := by
    rw [mfp_hi (mrg_agr (A := A))]
    refine qf_ext (fun l x y => ?_) (fun l x y => ?_) (by omega)
    · unfold mfp
      rw [hp 45 (by omega) l y, hp 46 (by omega) l y, hp 48 (by omega) l y]
    · rw [← Bool.not_eq_true]
      intro z
      obtain ⟨-, -, -, q, z1, z2⟩ := hnew l x y
      have := (mfp_iff.mp z).2.2
      omega
  have q2 : qf (lfp A t k) (n + kc I n t k) 1 = qf (mfp I t k) n 1 := by
    rw [lfp_lo (mrg_alo (B := B)), e_first hL (by omega), ← mfp_hi (mrg_agr (A := A)), q1]
  have hq := qf_has (p := mfp I t k) (f := n) (l := 1)
  unfold lrb1 mrb1
  rw [eA, eB, q1, q2]
  by_cases c : qf (mfp I t k) n 1 = 0
  · rw [if_pos c, if_pos (Or.inl c)]
    have e : kc I n t (k + 1) = kc I n t k := by
      unfold kc
      rw [qz, c]
      rfl
    refine ⟨by rw [e]; exact hR, hp, fun l x y => ?_, hoff, h44⟩
    obtain ⟨z1, z2, z3, q, z4, z5⟩ := hnew l x (by omega)
    exact ⟨z1, z2, z3, q, by omega, z5⟩
  · rw [if_neg c, if_neg (by omega)]
    have e : kc I n t (k + 1) = kc I n t k + 1 := by
      unfold kc
      rw [qz, decide_eq_true c]
      rfl
    generalize qf (mfp I t k) n 1 = q at c hq
    generalize hN : n + kc I n t k = nk at hR hL hnew
    have ev : lval A k (q - 1) = mval B k (q - 1) := by
      rw [lval_lo (mrg_alo (B := B)), mval_hi (mrg_agr (A := A))]
      exact e_val hL (by omega) (by omega)
    have vb : 0 ≤ mval B k (q - 1) ∧ mval B k (q - 1) ≤ 9999 := by
      rw [← ev]
      refine lval_bd fun l x y => ?_
      have := (hL.2 l x (by omega)).2.2
      rw [mrg_lo (a := 6) (by decide)] at this
      omega
    rw [ev]
    generalize mval B k (q - 1) = v at vb
    obtain ⟨hadd, off, o44, cc, mm⟩ := add_spec A B nk 0 t k v ((k / 4 % 2 : Nat) : Int) t k v 0 0
    generalize mrg (ladd A nk 0 t k v ((k / 4 % 2 : Nat) : Int)) (mad B nk t k v 0 0) = J at hadd off o44 cc mm
    generalize mrg A B = M at hR hL hp hnew hoff h44 hadd off o44
    have hr := rec_chg (T := T) hk h1 h2 vb 0 (Or.inl rfl) cc mm
    have hN' := rn_chg hR.2.1 hadd (off 8 (by omega) (by omega)) mm.2.2.2.1
    have h9 := w9_app hR.2.2.2.2.2.1 hadd (Or.inl mm.2.2.2.2)
    have hlr := lr_app hR (by omega) hadd hr hN' h9
    refine ⟨by rw [e, ← Nat.add_assoc, hN]; exact hlr, fun a ha j hj => by rw [hadd.1 a ha j (by omega)]; exact hp a ha j hj, fun l x y => ?_, fun a x y => by rw [off a x y]; exact hoff a x y, fun j hj => by rw [o44 j hj]; exact h44 j hj⟩
    by_cases el : l = nk + 1
    · subst el
      exact ⟨mm.1, mm.2.2.2.1, mm.2.2.2.2, k, by omega, mm.2.1⟩
    · rw [hadd.1 45 (by omega) l el, hadd.1 46 (by omega) l el, hadd.1 48 (by omega) l el, hadd.1 49 (by omega) l el]
      obtain ⟨z1, z2, z3, w, z4, z5⟩ := hnew l x (by omega)
      exact ⟨z1, z2, z3, w, by omega, z5⟩
theorem roll {I : qI} {n T d t : Nat} (h1 : 1 ≤ t) (h2 : t ≤ T) (hc : n + ckc I n t ≤ 186) : ∀ f k A B, k + f = 32 → ROL I (mrg A B) n T d t k → ROL I (mrg (lrb t f k A) (mrb n t f k B)) n T d t 32
  | 0, k, A, B, hk, h => by rw [show k = 32 by omega] at h; exact h
  | f + 1, k, A, B, hk, h => by
    rw [lrb, mrb]
    exact roll h1 h2 hc f (k + 1) _ _ (by omega) (roll_step h1 h2 hc (by omega) h)
theorem rol_0 {M : qI} {n T d t : Nat} (h : LR M n T d) : ROL M M n T d t 0 := ⟨h, fun _ _ _ _ => rfl, fun l a b => by have : kc M n t 0 = 0 := rfl; omega, fun _ _ _ => rfl, fun _ _ => rfl⟩
theorem ROL.qe1 {I M : qI} {n T d t : Nat} (h : ROL I M n T d t 32) (s : Int) : qf (mep M s) (n + ckc I n t) 1 = qf (mep I s) n 1 := by
  refine qf_ext (fun l x y => ?_) (fun l x y => ?_) (by omega)
  · unfold mep
    rw [h.2.1 45 (by omega) l y, h.2.1 48 (by omega) l y]
  · rw [← Bool.not_eq_true]
    intro z
    have := (h.2.2.1 l x y).2.1
    have := (mep_iff.mp z).2
    omega
theorem ROL.qf1 {I M : qI} {n T d t : Nat} (h : ROL I M n T d t 32) (s k : Int) (hs : s ≠ (t : Int)) : qf (mfp M s k) (n + ckc I n t) 1 = qf (mfp I s k) n 1 := by
  refine qf_ext (fun l x y => ?_) (fun l x y => ?_) (by omega)
  · unfold mfp
    rw [h.2.1 45 (by omega) l y, h.2.1 46 (by omega) l y, h.2.1 48 (by omega) l y]
  · rw [← Bool.not_eq_true]
    intro z
    have := (h.2.2.1 l x y).1
    have := (mfp_iff.mp z).1
    omega
theorem ROL.ck1 {I M : qI} {n T d t : Nat} (h : ROL I M n T d t 32) (s : Nat) (hs : s ≠ t) : ckc M (n + ckc I n t) s = ckc I n s := by
  have := h.qf1 (s : Int)
  show qz (fun i => decide (qf (mfp M s i) (n + ckc I n t) 1 ≠ 0)) 32 = qz (fun i => decide (qf (mfp I s i) n 1 ≠ 0)) 32
  exact qz_congr fun i _ => by rw [this i (by omega)]
theorem mrb1_hi {A B : qI} {b t k : Nat} (h : agr A B) : agr (mrb1 A b t k) (mrb1 B b t k) := by
  have e : mnN A = mnN B := by unfold mnN; rw [h 44 (by omega)]
  unfold mrb1
  rw [e, mfp_hi h, mval_hi h]
  split
  · exact h
  · exact loc_mad.hi h
theorem mrb_hi {b t : Nat} : ∀ f k (A B : qI), agr A B → agr (mrb b t f k A) (mrb b t f k B)
  | 0, _, _, _, h => h
  | f + 1, k, A, B, h => by
    rw [mrb, mrb]
    exact mrb_hi f (k + 1) _ _ (mrb1_hi h)
theorem mrb_lo {b t a : Nat} (ha : a < 44) : ∀ f k (A : qI), mrb b t f k A a = A a
  | 0, _, _ => rfl
  | f + 1, k, A => by
    rw [mrb, mrb_lo ha f (k + 1)]
    unfold mrb1
    split
    · rfl
    · exact mad_lo ha
theorem loc_mrb {b t f k : Nat} : loc (fun I => mrb b t f k I) := loc_of (fun A a ha => mrb_lo ha f k A) (fun A B h => mrb_hi f k A B h)
theorem lrb_off {t a : Nat} (h : ¬ (2 ≤ a ∧ a ≤ 7)) : ∀ f k (A : qI), lrb t f k A a = A a
  | 0, _, _ => rfl
  | f + 1, k, A => by
    rw [lrb, lrb_off h f (k + 1)]
    unfold lrb1
    split
    · rfl
    · exact ladd_off h
theorem mroll_at {I : qI} {n n1 t : Nat} (h : I 44 0 = (n : Int)) (h2 : mrb n t 32 0 I 44 0 = (n1 : Int)) : mroll I t = mad (mfin0 (mrb n t 32 0 I) t) n1 t 0 0 2 1 := by
  unfold mroll mfin
  rw [mnN_of h, mnN_of h2]
theorem ok_abort {N : Nat} (I : qI) (hI : Inv I) (t : Int) : okk Inv N 3 3 M_Q_abort M_M_abort [.inl t] I := by
  obtain ⟨n, T, k, d, h⟩ := hI
  have ert := e_rt h t
  by_cases c : mrt I t = 0
  · obtain ⟨up, s, rfl, s1, s2, s3⟩ := rt_ok h c
    have hT := h.2.2.1
    have hT60 := hT.1.2.2
    have hw := h.2.2.2.2.2.2.2.2.2.2.2.2 up
    have hp0 : ckc I n s + 1 ≤ psum (pac I n) T := by
      have e0 : ckc (fun a j => if a = 54 ∧ j = s then 0 else I a j) = ckc I := ckc_fr (by funext j; simp) (by funext j; simp) (by funext j; simp)
      have := pac_fin (I := I) (J := fun a j => if a = 54 ∧ j = s then 0 else I a j) (n := n) (m := n) s1 s2 s3 (fun j => by by_cases e : j = s <;> simp [e]) (fun j _ => by rw [e0])
      omega
    have o0 : ∀ a, a ≠ 9 → a ≠ 10 → a ≠ 11 → mrg (tfin I s) I a = I a := by
      intro a x1 x2 x3
      by_cases ha : a < 44
      · rw [mrg_lo ha, tfin_off x1 x2 x3]
      · rw [mrg_hi (by omega)]
    have eck : ckc (mrg (tfin I s) I) = ckc I := ckc_fr (o0 45 (by decide) (by decide) (by decide)) (o0 46 (by decide) (by decide) (by decide)) (o0 48 (by decide) (by decide) (by decide))
    have hlr0 := (inv_lr h).fr (J := mrg (tfin I s) I) (by rw [o0 44 (by decide) (by decide) (by decide)]) (fun a ha => o0 a (by omega) (by omega) (by omega))
    have hrol := roll (I := mrg (tfin I s) I) s1 s2 (by rw [eck]; omega) 32 0 (tfin I s) I rfl (rol_0 hlr0)
    have hqe := hrol.qe1
    have hck := hrol.ck1
    obtain ⟨hR, hp, hnew, hoff, h44⟩ := hrol
    have ekc : kc (mrg (tfin I s) I) n s 32 = ckc I n s := by rw [← eck]; rfl
    rw [ekc] at hR hnew
    rw [eck] at hqe hck
    have z26 : lrb s 32 0 (tfin I s) 2 6 = ((n + ckc I n s : Nat) : Int) := by have := hR.1.1.1; rw [mrg_lo (by decide)] at this; exact this
    have z44 : mrb n s 32 0 I 44 0 = ((n + ckc I n s : Nat) : Int) := by have := hR.1.1.2.1; rw [mrg_hi (by decide)] at this; exact this
    have hA := ct_Q_abort (L := N) I h.cw (by rw [ert]; exact c) (show s ≤ 60 by omega) (by rw [z26]; omega)
    unfold lroll at hA
    rw [nN_of z26] at hA
    generalize hn1 : n + ckc I n s = n1 at *
    have lo1 : ∀ a, ¬ (2 ≤ a ∧ a ≤ 8) → lend (lrb s 32 0 (tfin I s)) n1 s 0 a = tfin I s a := fun a ha => by unfold lend; rw [q_up_off a (by omega), ladd_off (by omega), lrb_off (by omega)]
    have hlow : agr (lend (lrb s 32 0 (tfin I s)) n1 s 0) I := fun q hq => by rw [lo1 q (by omega), tfin_off (by omega) (by omega) (by omega)]
    refine okk_fin (A1 := lend (lrb s 32 0 (tfin I s)) n1 s 0) (F := fun I => mad (mfin0 (mrb n s 32 0 I) s) n1 s 0 0 2 1) hA hlow (by rw [lo1 0 (by omega), tfin_off (by omega) (by omega) (by omega)]) ((loc_mrb.comp loc_mfin0).comp loc_mad) ?_ ⟨n1 + 1, T, k, d, ?_⟩
    · have z44' : mrb n s 32 0 (lend (lrb s 32 0 (tfin I s)) n1 s 0) 44 0 = ((n1 : Nat) : Int) := by rw [mrb_hi 32 0 _ _ hlow 44 (by omega)]; exact z44
      have hB := ct_M_abort (L := N) _ (inv_mw1 h hlow) (by rw [mrt_hi hlow]; exact c) (show s ≤ 60 by omega) (by rw [z44']; omega)
      rw [mnN_of z44', mroll_at (by rw [hlow 44 (by omega)]; exact h.1.1.2.1) z44'] at hB
      exact hB
    · have o1 : ∀ a, ¬ (2 ≤ a ∧ a ≤ 7) → ¬ (44 ≤ a ∧ a ≤ 50) → a ≠ 9 → a ≠ 10 → a ≠ 11 → a ≠ 54 → a ≠ 55 → mrg (lrb s 32 0 (tfin I s)) (mfin0 (mrb n s 32 0 I) s) a = I a := by
        intro a x1 x2 x3 x4 x5 x6 x7
        have := hoff a x1 x2
        by_cases ha : a < 44
        · rw [mrg_lo ha] at this ⊢
          rw [this, o0 a x3 x4 x5]
        · rw [mrg_hi (by omega)] at this ⊢
          rw [mfin0_off x6 x7, this, o0 a x3 x4 x5]
      have m12 : ∀ a, a ≠ 54 → a ≠ 55 → mrg (lrb s 32 0 (tfin I s)) (mfin0 (mrb n s 32 0 I) s) a = mrg (lrb s 32 0 (tfin I s)) (mrb n s 32 0 I) a := by
        intro a x6 x7
        by_cases ha : a < 44
        · rw [mrg_lo ha, mrg_lo ha]
        · rw [mrg_hi (by omega), mrg_hi (by omega), mfin0_off x6 x7]
      have b54 : mrb n s 32 0 I 54 = I 54 := by
        have := hoff 54 (by omega) (by omega)
        rw [mrg_hi (by decide), mrg_hi (by decide)] at this
        exact this
      have b55 : mrb n s 32 0 I 55 = I 55 := by
        have := hoff 55 (by omega) (by omega)
        rw [mrg_hi (by decide), mrg_hi (by decide)] at this
        exact this
      have hf : FIN I (mrg (lrb s 32 0 (tfin I s)) (mfin0 (mrb n s 32 0 I) s)) s := by
        obtain ⟨f1, f2, f3, f4⟩ := tfin_spec I s
        obtain ⟨f5, f6⟩ := mfin0_spec (mrb n s 32 0 I) s
        rw [b54] at f5
        rw [b55] at f6
        unfold FIN
        rw [mrg_lo (a := 9) (by decide), mrg_lo (a := 10) (by decide), mrg_lo (a := 11) (by decide), mrg_hi (a := 54) (by decide), mrg_hi (a := 55) (by decide), lrb_off (by omega), lrb_off (by omega), lrb_off (by omega)]
        exact ⟨f1, f2, f3, f4, f5, f6⟩
      have hR2 : LR (mrg (lrb s 32 0 (tfin I s)) (mfin0 (mrb n s 32 0 I) s)) n1 T d := hR.fr (by rw [m12 44 (by decide) (by decide)]) (fun a ha => m12 a (by omega) (by omega))
      have j44 : ∀ j, j ≠ 0 → mrg (lrb s 32 0 (tfin I s)) (mfin0 (mrb n s 32 0 I) s) 44 j = I 44 j := fun j hj => by rw [m12 44 (by decide) (by decide), h44 j hj, o0 44 (by decide) (by decide) (by decide)]
      have jp : ∀ a, 45 ≤ a ∧ a ≤ 49 → ∀ j, j ≤ n → mrg (lrb s 32 0 (tfin I s)) (mfin0 (mrb n s 32 0 I) s) a j = I a j := fun a ha j hj => by rw [m12 a (by omega) (by omega), hp a (by omega) j hj, o0 a (by omega) (by omega) (by omega)]
      have jq : ∀ q : Int, qf (mep (mrg (lrb s 32 0 (tfin I s)) (mfin0 (mrb n s 32 0 I) s)) q) n1 1 = qf (mep I q) n 1 := fun q => by
        rw [mep_fr (m12 45 (by decide) (by decide)) (m12 48 (by decide) (by decide)), hqe, mep_fr (o0 45 (by decide) (by decide) (by decide)) (o0 48 (by decide) (by decide) (by decide))]
      have jc : ∀ q, q ≠ s → ckc (mrg (lrb s 32 0 (tfin I s)) (mfin0 (mrb n s 32 0 I) s)) n1 q = ckc I n q := fun q hq => by
        rw [ckc_fr (m12 45 (by decide) (by decide)) (m12 46 (by decide) (by decide)) (m12 48 (by decide) (by decide)), hck q hq]
      have jnew : ∀ l, n < l → l ≤ n1 → mrg (lrb s 32 0 (tfin I s)) (mfin0 (mrb n s 32 0 I) s) 45 l = (s : Int) := fun l x y => by rw [m12 45 (by decide) (by decide)]; exact (hnew l x y).1
      have hpp := pac_fin s1 s2 s3 hf.2.2.2.2.1 jc
      clear hnew hqe hck hp hoff h44 m12
      generalize lrb s 32 0 (tfin I s) = A1 at *
      generalize mfin0 (mrb n s 32 0 I) s = B1 at *
      obtain ⟨hL, hN, -, hC, hH, hX, w3, w4, w6, w7, w8, w9, w10⟩ := h
      obtain ⟨rt, w6'⟩ := fin_rt hT w6 s1 s2 s3 hf (j44 12 (by decide))
      have hdn := hX.2.1.2.2.1
      refine inv_end (Or.inl ⟨rfl, rfl⟩) hR2 rt (hH.fr (j44 16 (by decide)) (fun a ha => o1 a (by omega) (by omega) (by omega) (by omega) (by omega) (by omega) (by omega))) ⟨by rw [j44 10 (by decide), o1 1 (by omega) (by omega) (by omega) (by omega) (by omega) (by omega) (by omega), o1 53 (by omega) (by omega) (by omega) (by omega) (by omega) (by omega) (by omega)]; exact hX.1, ⟨by rw [o1 1 (by omega) (by omega) (by omega) (by omega) (by omega) (by omega) (by omega)]; exact hX.2.1.1, by rw [j44 11 (by decide)]; exact hX.2.1.2.1, by omega, by rw [jp 49 (by omega) d hdn]; exact hX.2.1.2.2.2⟩, by rw [o1 43 (by omega) (by omega) (by omega) (by omega) (by omega) (by omega) (by omega), o1 57 (by omega) (by omega) (by omega) (by omega) (by omega) (by omega) (by omega)]; exact hX.2.2⟩ w6' (fun q a b x => ?_) (fun z l l1 l2 => ?_) (by rw [j44 10 (by decide)]; exact up) s1 s2 (by rw [hf.2.2.2.2.1, if_pos rfl]) (by rw [jq]; exact w7 s s1 s2 s3) (by omega)
      · rw [hf.2.2.2.2.1] at x
        rw [jq]
        by_cases e : q = s
        · rw [if_pos e] at x; exact absurd rfl x
        · rw [if_neg e] at x; exact w7 q a b x
      · by_cases el : l ≤ n
        · rw [jq, jp 45 (by omega) l el, jp 46 (by omega) l el, jp 48 (by omega) l el, hf.2.2.2.2.1]
          intro x1 x2 x3
          have hrec := hL.2 l l1 el
          have := w8 up l l1 el x1 x2
          have hk : (I 46 l).toNat < 32 := by
            obtain ⟨-, -, -, -, q | q⟩ := hrec
            · omega
            · omega
          have hb := hrec.2.1
          rw [if_neg (by omega), hf.2.2.2.2.2 _ hk, if_neg (by rw [this.2]; exact x3)]
          exact this
        · intro _ _ x3
          exact absurd (jnew l (by omega) l2) x3
  · exact okk_eq ⟨n, T, k, d, h⟩ (ct_Q_abort0 t I h.cw (by rw [ert]; exact c)) (ct_M_abort0 t I h.mw c) ert
