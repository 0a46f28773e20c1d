/-! The unended are rolled back. -/
theorem lch_lo {A B : qI} (h : alo A B) : lch A = lch B := by funext t l; unfold lch; rw [h 3 (by omega), h 4 (by omega)]
theorem e_lch {I : qI} {n T l : Nat} {t : Int} (h : RL I n T) (h1 : 1 ≤ l) (h2 : l ≤ n) : lch I t l = (decide (I 45 l = t) && decide (I 48 l = 0)) := by
  have o := (h.2 l h1 h2).1
  unfold lch
  rw [o]
  obtain ⟨-, -, -, -, c | c⟩ := h.2 l h1 h2
  · obtain ⟨c1, c2, c3, c4, c5, c6⟩ := c
    rw [decide_eq_true (p := ¬ (I 3 l = 2 ∨ I 3 l = 3)) (by omega), decide_eq_true (p := I 48 l = 0) c1]
  · obtain ⟨c1, c2, c3, c4, c5⟩ := c
    rw [decide_eq_false (p := ¬ (I 3 l = 2 ∨ I 3 l = 3)) (by omega), decide_eq_false (p := I 48 l = 0) (by omega)]
theorem qz_hit {p : Nat → Bool} {i : Nat} : ∀ {n : Nat}, i < n → p i = true → 0 < qz p n
  | 0, h, _ => by omega
  | n + 1, h, hp => by
    rw [qz]
    by_cases e : i = n
    · subst e; rw [if_pos hp]; omega
    · have := qz_hit (n := n) (by omega) hp; omega
theorem psum_ge {f : Nat → Nat} {t : Nat} : ∀ {T : Nat}, 1 ≤ t → t ≤ T → f t ≤ psum f T
  | 0, a, b => by omega
  | T + 1, a, b => by
    rw [psum]
    by_cases e : t = T + 1
    · rw [← e]; omega
    · have := psum_ge (f := f) (T := T) a (by omega); omega
theorem end_facts {I J : qI} {n t : Nat} (hadd : ADD I J n) (h45 : J 45 (n + 1) = (t : Int)) (h48 : 0 < J 48 (n + 1)) : (∀ s : Int, s ≠ (t : Int) → qf (mep J s) (n + 1) 1 = qf (mep I s) n 1) ∧ (∀ s, ckc J (n + 1) s = ckc I n s) ∧ qf (mep J t) (n + 1) 1 ≠ 0 := by
  refine ⟨fun s hs => ?_, fun s => ?_, ?_⟩
  · have em : mep J s (n + 1) = false := by
      rw [← Bool.not_eq_true]
      intro w
      have := (mep_iff.mp w).1
      rw [h45] at this
      exact hs this.symm
    rw [qf_succ, em, hadd.qep1 (Nat.le_refl _)]
    split
    · next w => rw [w]; rfl
    · rfl
  · show qz (fun i => decide (qf (mfp J s i) (n + 1) 1 ≠ 0)) 32 = qz (fun i => decide (qf (mfp I s i) n 1 ≠ 0)) 32
    refine qz_congr fun i _ => ?_
    have em : mfp J s i (n + 1) = false := by
      rw [← Bool.not_eq_true]
      intro w
      have := (mfp_iff.mp w).2.1
      omega
    rw [qf_succ, em, hadd.qfp1 (Nat.le_refl _)]
    split
    · next w => rw [w]; rfl
    · rfl
  · rw [qf_succ]
    split
    · rw [if_pos (mep_iff.mpr ⟨h45, h48⟩)]; omega
    · next w => exact w
theorem mfin0_id {B : qI} {t : Nat} (h1 : B 54 t = 0) (h2 : ∀ j, j < 32 → B 55 j ≠ (t : Int)) : mfin0 B t = B := by
  funext a j
  unfold mfin0 mfr
  by_cases c : a = 55 ∧ j < 32 ∧ q_up B 54 t 0 55 j = (t : Int)
  · rw [q_up_off 55 (by decide)] at c
    exact absurd c.2.2 (h2 j c.2.1)
  · rw [if_neg c]
    unfold q_up
    split
    · next e => obtain ⟨rfl, rfl⟩ := e; exact h1.symm
    · rfl
def UND (I M : qI) (m T d t nk : Nat) : Prop := LR M nk T d ∧ m ≤ nk ∧ (∀ a, (3 ≤ a ∧ a ≤ 7) ∨ (45 ≤ a ∧ a ≤ 49) → ∀ j, j ≤ m → M a j = I a j) ∧ (∀ l, m < l → l ≤ nk → M 45 l < (t : Int)) ∧ (∀ a, ¬ (2 ≤ a ∧ a ≤ 8) → ¬ (44 ≤ a ∧ a ≤ 50) → M a = I a) ∧ (∀ j, j ≠ 0 → M 44 j = I 44 j) ∧ nk + psum (pun M nk) 60 ≤ 187 ∧ ∀ l, 1 ≤ l → l ≤ nk → M 48 l = 0 → M 45 l < (t : Int) → qf (mep M (M 45 l)) nk 1 ≠ 0
theorem und_step {I A B : qI} {m T d t nk : Nat} (h1 : 1 ≤ t) (h2 : t ≤ T) (hT : T ≤ 60) (i54 : I 54 t = 0) (i55 : ∀ j, j < 32 → I 55 j ≠ (t : Int)) (h : UND I (mrg A B) m T d t nk) : ∃ nk', UND I (mrg (lru1 A t) (mru1 B m t)) m T d (t + 1) nk' := by
  have h0 := h
  obtain ⟨hR, hm, hp, how, hoff, h44, hpot, hen⟩ := h
  have hL := hR.1
  have z26 : A 2 6 = (nk : Int) := by have := hL.1.1; rw [mrg_lo (by decide)] at this; exact this
  have z44 : B 44 0 = (nk : Int) := by have := hL.1.2.1; rw [mrg_hi (by decide)] at this; exact this
  have z8 : A 8 t = ((qf (mep (mrg A B) t) nk 1 : Nat) : Int) := by have := hR.2.1 t h1 (by omega); rw [mrg_lo (by decide)] at this; exact this
  have eq1 : qf (mep B t) m 1 = qf (mep (mrg A B) t) nk 1 := by
    rw [mep_fr (mrg_agr (A := A) 45 (by omega)) (mrg_agr (A := A) 48 (by omega))]
    refine (qf_ext (fun l _ _ => rfl) (fun l x y => ?_) hm).symm
    rw [← Bool.not_eq_true]
    intro z
    have := (mep_iff.mp z).1
    have := how l x y
    omega
  have cA : (A 8 t = 0 ∧ qf (lch A t) (nN A) 1 ≠ 0) ↔ (qf (mep (mrg A B) t) nk 1 = 0 ∧ ∃ l, 1 ≤ l ∧ l ≤ nk ∧ mrg A B 45 l = (t : Int) ∧ mrg A B 48 l = 0) := by
    rw [z8, nN_of z26, lch_lo (mrg_alo (B := B))]
    have e0 : ((qf (mep (mrg A B) t) nk 1 : Nat) : Int) = 0 ↔ qf (mep (mrg A B) t) nk 1 = 0 := by omega
    rw [e0]
    refine and_congr_right fun _ => ⟨fun z => ?_, fun ⟨l, a, b, c, e⟩ z => ?_⟩
    · rcases qf_has (p := lch (mrg A B) t) (f := nk) (l := 1) with w | ⟨w1, w2, w3⟩
      · exact absurd w z
      · rw [e_lch hL w2 (by omega)] at w1
        simp only [Bool.and_eq_true, decide_eq_true_eq] at w1
        exact ⟨_, w2, by omega, w1.1, w1.2⟩
    · have := qf_none (Nat.le_refl 1) z l a (by omega)
      rw [e_lch hL a b, c, e] at this
      simp at this
  have cB : (qa (mnc B t) m = false ∧ qf (mep B t) m 1 = 0) ↔ (qf (mep (mrg A B) t) nk 1 = 0 ∧ ∃ l, 1 ≤ l ∧ l ≤ nk ∧ mrg A B 45 l = (t : Int) ∧ mrg A B 48 l = 0) := by
    rw [eq1, And.comm]
    refine and_congr_right fun _ => ⟨fun z => ?_, fun ⟨l, a, b, c, e⟩ => ?_⟩
    · refine Classical.byContradiction fun w => ?_
      have : qa (mnc B t) m = true := qa_iff.mpr fun l x y => by
        unfold mnc
        rw [Bool.not_eq_true', ← Bool.not_eq_true]
        intro v
        simp only [Bool.and_eq_true, decide_eq_true_eq] at v
        exact w ⟨l, x, by omega, by rw [mrg_hi (by decide)]; exact v.1, by rw [mrg_hi (by decide)]; exact v.2⟩
      rw [this] at z
      cases z
    · rw [← Bool.not_eq_true]
      intro z
      have hlm : l ≤ m := Classical.byContradiction fun w => by have := how l (by omega) b; omega
      have := qa_iff.mp z l a hlm
      rw [mrg_hi (by decide)] at c e
      unfold mnc at this
      rw [c, e] at this
      simp at this
  unfold lru1 mru1
  by_cases c : qf (mep (mrg A B) t) nk 1 = 0 ∧ ∃ l, 1 ≤ l ∧ l ≤ nk ∧ mrg A B 45 l = (t : Int) ∧ mrg A B 48 l = 0
  · rw [if_pos (cA.mpr c), if_pos (cB.mpr c)]
    obtain ⟨hq, l0, l1, l2, l3, l4⟩ := c
    have hck : ckc (mrg A B) nk t ≠ 0 := by
      obtain ⟨-, -, -, -, r | r⟩ := hL.2 l0 l1 l2
      · obtain ⟨q, hq2⟩ : ∃ q : Nat, mrg A B 46 l0 = (q : Int) := ⟨(mrg A B 46 l0).toNat, by omega⟩
        have : 0 < ckc (mrg A B) nk t := qz_hit (i := q) (by omega) (decide_eq_true fun z => by
          have := qf_none (Nat.le_refl 1) z l0 l1 (by omega)
          rw [← Bool.not_eq_true] at this
          exact this (mfp_iff.mpr ⟨l3, l4, hq2⟩))
        omega
      · omega
    have hpt : pun (mrg A B) nk t = ckc (mrg A B) nk t + 1 := by unfold pun; rw [if_pos ⟨hq, hck⟩]
    have hge := psum_ge (f := pun (mrg A B) nk) h1 (show t ≤ 60 by omega)
    have hrol := roll (I := mrg A B) h1 h2 (by omega) 32 0 A B rfl (rol_0 hR)
    have hqe := hrol.qe1
    have hc1 := hrol.ck1
    obtain ⟨gR, gp', gnew, goff, g44⟩ := hrol
    have ekc : kc (mrg A B) nk t 32 = ckc (mrg A B) nk t := rfl
    rw [ekc] at gR gnew
    generalize hn1 : nk + ckc (mrg A B) nk t = n1 at *
    have y26 : lrb t 32 0 A 2 6 = (n1 : Int) := by have := gR.1.1.1; rw [mrg_lo (by decide)] at this; exact this
    have y44 : mrb nk t 32 0 B 44 0 = (n1 : Int) := by have := gR.1.1.2.1; rw [mrg_hi (by decide)] at this; exact this
    have b54 : mrb nk t 32 0 B 54 = I 54 := by
      have := goff 54 (by omega) (by omega)
      rw [hoff 54 (by omega) (by omega), mrg_hi (by decide)] at this
      exact this
    have b55 : mrb nk t 32 0 B 55 = I 55 := by
      have := goff 55 (by omega) (by omega)
      rw [hoff 55 (by omega) (by omega), mrg_hi (by decide)] at this
      exact this
    unfold lroll
    rw [nN_of y26, mroll_at z44 y44, mfin0_id (by rw [b54]; exact i54) (by rw [b55]; exact i55)]
    obtain ⟨hadd, off, o44, o8, mm, hr⟩ := end_spec (lrb t 32 0 A) (mrb nk t 32 0 B) n1 t 0 2 (Or.inl ⟨rfl, rfl⟩)
    have hr := hr T h1 h2
    generalize mrg (lend (lrb t 32 0 A) n1 t 0) (mad (mrb nk t 32 0 B) n1 t 0 0 2 1) = J at hadd off o44 o8 mm hr
    generalize mrg (lrb t 32 0 A) (mrb nk t 32 0 B) = M1 at *
    generalize mrg A B = M at *
    obtain ⟨f1, f2, f3⟩ := end_facts hadd mm.1 (by rw [mm.2.1]; decide)
    have hq1 : qf (mep M1 t) n1 1 = 0 := by rw [hqe]; exact hq
    have hd := psum_drop (f := pun M nk) (g := pun J (n1 + 1)) h1 (show t ≤ 60 by omega) (fun s hs => by
      unfold pun
      rw [f1 (s : Int) (by omega), f2 s, hqe, hc1 s hs])
    have hz : pun J (n1 + 1) t = 0 := by unfold pun; rw [if_neg (fun w => f3 w.1)]
    have hpot' : n1 + 1 + psum (pun J (n1 + 1)) 60 ≤ 187 := by omega
    have hlr := lr_app gR (by omega) hadd hr (rn_end gR.2.1 hadd o8 mm.1 (by rw [mm.2.1]; decide) hq1) (w9_app gR.2.2.2.2.2.1 hadd (Or.inr hpot'))
    refine ⟨n1 + 1, hlr, by omega, fun a ha j hj => by rw [hadd.1 a ha j (by omega), gp' a ha j (by omega)]; exact hp a ha j hj, fun l x y => ?_, fun a x y => by rw [off a x y, goff a (by omega) y]; exact hoff a x y, fun j hj => by rw [o44 j hj, g44 j hj]; exact h44 j hj, hpot', fun l x y w1 w2 => ?_⟩
    · by_cases el : l = n1 + 1
      · subst el; rw [mm.1]; omega
      · rw [hadd.1 45 (by omega) l el]
        by_cases el2 : l ≤ nk
        · rw [gp' 45 (by omega) l el2]
          have := how l x el2
          omega
        · rw [(gnew l (by omega) (by omega)).1]; omega
    · by_cases el : l = n1 + 1
      · subst el; rw [mm.2.1] at w1; omega
      · by_cases et : J 45 l = (t : Int)
        · rw [et]; exact f3
        · rw [f1 _ et, hqe]
          rw [hadd.1 45 (by omega) l el] at w2 et ⊢
          rw [hadd.1 48 (by omega) l el] at w1
          by_cases el2 : l ≤ nk
          · rw [gp' 45 (by omega) l el2] at w2 et ⊢
            rw [gp' 48 (by omega) l el2] at w1
            exact hen l x el2 w1 (by omega)
          · exact absurd (gnew l (by omega) (by omega)).1 et
  · rw [if_neg (fun w => c (cA.mp w)), if_neg (fun w => c (cB.mp w))]
    refine ⟨nk, hR, hm, hp, fun l x y => by have := how l x y; omega, hoff, h44, hpot, fun l x y w1 w2 => ?_⟩
    by_cases et : mrg A B 45 l = (t : Int)
    · rw [et]
      exact fun z => c ⟨z, l, x, y, et, w1⟩
    · exact hen l x y w1 (by omega)
theorem und_all {I : qI} {m T d : Nat} (hT : T ≤ 60) (i54 : ∀ t, 1 ≤ t → t ≤ T → I 54 t = 0) (i55 : ∀ j, j < 32 → I 55 j = 0) : ∀ f t A B nk, t + f = T + 1 → 1 ≤ t → UND I (mrg A B) m T d t nk → ∃ nk', UND I (mrg (lru f t A) (mru m f t B)) m T d (T + 1) nk'
  | 0, t, A, B, nk, ht, h1, h => ⟨nk, by rw [show t = T + 1 by omega] at h; exact h⟩
  | f + 1, t, A, B, nk, ht, h1, h => by
    rw [lru, mru]
    obtain ⟨nk', h'⟩ := und_step h1 (by omega) hT (i54 t h1 (by omega)) (fun j hj => by rw [i55 j hj]; omega) h
    exact und_all hT i54 i55 f (t + 1) _ _ nk' (by omega) (by omega) h'
theorem mnN_hi {A B : qI} (h : agr A B) : mnN A = mnN B := by unfold mnN; rw [h 44 (by omega)]
theorem mroll_hi {A B : qI} {t : Nat} (h : agr A B) : agr (mroll A t) (mroll B t) := by
  have e : mnN A = mnN B := by unfold mnN; rw [h 44 (by omega)]
  have h1 := mrb_hi (b := mnN B) (t := t) 32 0 _ _ h
  have e2 : mnN (mrb (mnN B) t 32 0 A) = mnN (mrb (mnN B) t 32 0 B) := mnN_hi h1
  unfold mroll mfin
  rw [e, e2]
  exact loc_mad.hi (mfin0_hi h1)
theorem mroll_lo {A : qI} {t a : Nat} (ha : a < 44) : mroll A t a = A a := by
  unfold mroll mfin
  rw [mad_lo ha, mfin0_off (by omega) (by omega), mrb_lo ha]
theorem mru1_hi {A B : qI} {m t : Nat} (h : agr A B) : agr (mru1 A m t) (mru1 B m t) := by
  have e : mnc A = mnc B := by funext t l; unfold mnc; rw [h 45 (by omega), h 48 (by omega)]
  unfold mru1
  rw [e, mep_fr (h 45 (by omega)) (h 48 (by omega))]
  split
  · exact mroll_hi h
  · exact h
theorem mru_hi {m : Nat} : ∀ f t (A B : qI), agr A B → agr (mru m f t A) (mru m f t B)
  | 0, _, _, _, h => h
  | f + 1, t, A, B, h => by
    rw [mru, mru]
    exact mru_hi f (t + 1) _ _ (mru1_hi h)
theorem mru_lo {m a : Nat} (ha : a < 44) : ∀ f t (A : qI), mru m f t A a = A a
  | 0, _, _ => rfl
  | f + 1, t, A => by
    rw [mru, mru_lo ha f (t + 1)]
    unfold mru1
    split
    · exact mroll_lo ha
    · rfl
theorem lru_off {a : Nat} (h : ¬ (2 ≤ a ∧ a ≤ 8)) : ∀ f t (A : qI), lru f t A a = A a
  | 0, _, _ => rfl
  | f + 1, t, A => by
    rw [lru, lru_off h f (t + 1)]
    unfold lru1
    split
    · unfold lroll lend
      rw [q_up_off a (by omega), ladd_off (by omega), lrb_off (by omega)]
    · rfl
