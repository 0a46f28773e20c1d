/-! The cache. -/
theorem INV.cache {I J : qI} {n T k k' d : Nat} (h : INV I n T k d) (off : ∀ a, a ≠ 41 → a ≠ 42 → a ≠ 44 → a ≠ 56 → J a = I a) (h44 : ∀ j, j ≠ 16 → J 44 j = I 44 j) (hH : RH J k') : INV J n T k' d := by
  obtain ⟨hL, hN, hT, hC, -, hX, w3, w4, w6, w7, w8, w9, w10⟩ := h
  have o : ∀ a, (1 ≤ a ∧ a ≤ 40) ∨ a = 43 ∨ (45 ≤ a ∧ a ≤ 55) ∨ (57 ≤ a) → J a = I a := fun a ha => off a (by omega) (by omega) (by omega) (by omega)
  exact ⟨hL.fr (by rw [o 2 (by omega)]) (h44 0 (by decide)) (fun a ha => o a (by omega)), hN.fr (fun a ha => o a (by omega)), hT.fr (h44 12 (by decide)) (fun a ha => o a (by omega)), hC.fr (fun a ha => o a (by omega)), hH, hX.fr (h44 10 (by decide)) (h44 11 (by decide)) (fun a ha => o a (by omega)), w3.fr (fun a ha => o a (by omega)), w4.fr (fun a ha => o a (by omega)), w6.fr (o 54 (by omega)) (o 55 (by omega)), w7.fr (o 54 (by omega)) (o 45 (by omega)) (o 48 (by omega)), w8.fr (by rw [h44 10 (by decide)]; exact id) (fun a ha => o a (by omega)), w9.fr (fun a ha => o a (by omega)), w10.fr (by rw [h44 10 (by decide)]; exact id) (fun a ha => o a (by omega))⟩
theorem up_self {I : qI} {a j : Nat} : q_up I a j (I a j) = I := by
  funext b i
  unfold q_up
  split
  · next h => obtain ⟨rfl, rfl⟩ := h; rfl
  · rfl
theorem hrm_none {p : Int} : ∀ f i w I, (∀ j, i ≤ j → j < i + f → I 42 j ≠ p) → w ≤ i → (hrm p f i w I).2 = w + f ∧ ∀ j, (hrm p f i w I).1 42 j = if w ≤ j ∧ j < w + f then I 42 (j + (i - w)) else I 42 j
  | 0, i, w, I, _, _ => ⟨rfl, fun j => by rw [if_neg (by omega)]; rfl⟩
  | f + 1, i, w, I, h, hw => by
    rw [hrm, if_neg (h i (Nat.le_refl _) (by omega))]
    have g : ∀ j, w < j → q_up I 42 w (I 42 i) 42 j = I 42 j := fun j hj => by
      unfold q_up
      rw [if_neg (by omega)]
    obtain ⟨h1, h2⟩ := hrm_none f (i + 1) (w + 1) (q_up I 42 w (I 42 i)) (fun j a b => by rw [g j (by omega)]; exact h j (by omega) (by omega)) (by omega)
    refine ⟨by rw [h1]; omega, fun j => ?_⟩
    rw [h2 j]
    by_cases e : w + 1 ≤ j ∧ j < w + 1 + f
    · rw [if_pos e, if_pos (by omega), g _ (by omega)]
      congr 1
      omega
    · rw [if_neg e]
      by_cases e2 : j = w
      · subst e2
        rw [if_pos (by omega)]
        have : j + (i - j) = i := by omega
        rw [this]
        simp [q_up]
      · rw [if_neg (by omega)]
        unfold q_up
        rw [if_neg (fun z => e2 z.2)]
theorem hrm_one {p : Int} {s : Nat} : ∀ f i I, i ≤ s → s < i + f → I 42 s = p → (∀ j, i ≤ j → j < i + f → j ≠ s → I 42 j ≠ p) → (hrm p f i i I).2 = i + f - 1 ∧ ∀ j, (hrm p f i i I).1 42 j = if s ≤ j ∧ j < i + f - 1 then I 42 (j + 1) else I 42 j
  | 0, i, I, a, b, _, _ => by omega
  | f + 1, i, I, a, b, hs, h => by
    rw [hrm]
    by_cases e : i = s
    · subst e
      rw [if_pos hs]
      obtain ⟨h1, h2⟩ := hrm_none (p := p) f (i + 1) i I (fun j x y => h j (by omega) (by omega) (by omega)) (by omega)
      refine ⟨by rw [h1]; omega, fun j => ?_⟩
      rw [h2 j]
      by_cases e2 : i ≤ j ∧ j < i + f
      · rw [if_pos e2, if_pos (by omega)]
        congr 1
        omega
      · rw [if_neg e2, if_neg (by omega)]
    · rw [if_neg (h i (Nat.le_refl _) (by omega) e), up_self]
      obtain ⟨h1, h2⟩ := hrm_one f (i + 1) I (by omega) (by omega) hs (fun j x y => h j (by omega) (by omega))
      refine ⟨by rw [h1]; omega, fun j => ?_⟩
      rw [h2 j]
      by_cases e2 : s ≤ j ∧ j < i + 1 + f - 1
      · rw [if_pos e2, if_pos (by omega)]
      · rw [if_neg e2, if_neg (by omega)]
theorem mdr_at {q : Nat} : ∀ f j I, mdr f j I 56 q = if j ≤ q ∧ q < j + f then I 56 (q + 1) else I 56 q
  | 0, j, I => by rw [if_neg (by omega)]; rfl
  | f + 1, j, I => by
    rw [mdr, mdr_at f (j + 1)]
    have g : ∀ i, i ≠ j → q_up I 56 j (I 56 (j + 1)) 56 i = I 56 i := fun i hi => by
      unfold q_up
      rw [if_neg (fun z => hi z.2)]
    by_cases e : j + 1 ≤ q ∧ q < j + 1 + f
    · rw [if_pos e, if_pos (by omega), g _ (by omega)]
    · rw [if_neg e]
      by_cases e2 : q = j
      · subst e2
        rw [if_pos (by omega)]
        simp [q_up]
      · rw [if_neg (by omega), g q e2]
theorem mpl_at {I : qI} {p : Int} : ∀ f i, (mpl I p f i < 0 ∧ ∀ j, i ≤ j → j < i + f → I 56 j ≠ p) ∨ ∃ s : Nat, mpl I p f i = (s : Int) ∧ i ≤ s ∧ s < i + f ∧ I 56 s = p
  | 0, i => Or.inl ⟨by unfold mpl; omega, fun j a b => by omega⟩
  | f + 1, i => by
    rw [mpl]
    by_cases e : I 56 i = p
    · rw [if_pos e]
      exact Or.inr ⟨i, rfl, Nat.le_refl _, by omega, e⟩
    · rw [if_neg e]
      rcases mpl_at f (i + 1) with ⟨a, b⟩ | ⟨s, a, b, c, d⟩
      · refine Or.inl ⟨a, fun j x y => ?_⟩
        by_cases ej : j = i
        · subst ej; exact e
        · exact b j (by omega) (by omega)
      · exact Or.inr ⟨s, a, by omega, by omega, d⟩
theorem mlm_has {I : qI} {n p : Nat} : ∀ i, mlm I n p i = 0 ∨ ∃ j, j < i ∧ mck I ((4 * p + j : Nat) : Int) (mlm I n p i) = true
  | 0 => Or.inl rfl
  | i + 1 => by
    rw [mlm]
    split
    · rcases ql_has (mck I ((4 * p + i : Nat) : Int)) n with z | z
      · exact Or.inl z
      · exact Or.inr ⟨i, by omega, z⟩
    · rcases mlm_has i with z | ⟨j, a, b⟩
      · exact Or.inl z
      · exact Or.inr ⟨j, by omega, b⟩
theorem mlm_ge {I : qI} {n p j : Nat} : ∀ i, j < i → ql (mck I ((4 * p + j : Nat) : Int)) n ≤ mlm I n p i
  | 0, h => by omega
  | i + 1, h => by
    rw [mlm]
    by_cases e : j = i
    · subst e; split <;> omega
    · have := mlm_ge (I := I) (n := n) (p := p) (j := j) i (by omega)
      split <;> omega
theorem e_last {I : qI} {n T p : Nat} (hL : RL I n T) : ql (llt I (p : Int)) n = mlm I n p 4 := by
  have hle := mlm_le I n p 4
  refine ql_eq ?_ hle (fun l a b => ?_)
  · rcases mlm_has (I := I) (n := n) (p := p) 4 with z | ⟨j, z1, z2⟩
    · exact Or.inl z
    · by_cases e : mlm I n p 4 = 0
      · exact Or.inl e
      · right
        unfold mck at z2
        simp only [Bool.and_eq_true, decide_eq_true_eq] at z2
        obtain ⟨-, -, -, -, c | c⟩ := hL.2 _ (by omega) hle
        · obtain ⟨c1, c2, c3, c4, c5, c6⟩ := c
          unfold llt
          rw [Bool.and_eq_true, decide_eq_true_eq, decide_eq_true_eq]
          refine ⟨by omega, ?_⟩
          rw [c2, z2.2, td4]
          congr 1
          omega
        · omega
  · rw [← Bool.not_eq_true]
    intro z
    unfold llt at z
    rw [Bool.and_eq_true, decide_eq_true_eq, decide_eq_true_eq] at z
    obtain ⟨-, -, -, -, c | c⟩ := hL.2 l (by omega) b
    · obtain ⟨c1, c2, c3, c4, c5, c6⟩ := c
      obtain ⟨q, hq⟩ : ∃ q : Nat, I 46 l = (q : Int) := ⟨(I 46 l).toNat, by omega⟩
      have z2 := z.2
      rw [c2, hq, td4] at z2
      have hg := mlm_ge (I := I) (n := n) (p := p) (j := q % 4) 4 (by omega)
      have hm : mck I ((4 * p + q % 4 : Nat) : Int) l = true := by
        unfold mck
        rw [Bool.and_eq_true, decide_eq_true_eq, decide_eq_true_eq]
        exact ⟨c1, by omega⟩
      have := ql_ge _ hm b
      omega
    · omega
/-- a page goes and another comes -/
theorem rh_swap {I : qI} {k s p : Nat} (h : RH I k) (hs : s < k) (hp : p ≤ 7) (hne : ∀ i, i < k → i ≠ s → I 56 i ≠ (p : Int)) : RH (mrg (happ (hrem I k (I 56 s)) (hrm (I 56 s) k 0 0 I).2 p) (mapp (mdrp I k s) (k - 1) p)) k := by
  have hk := h.1.2.2
  obtain ⟨h1, h2⟩ := hrm_one (p := I 56 s) (s := s) k 0 I (by omega) (by omega) (h.2.1 s hs).1 (fun j a b c z => by
    rw [(h.2.1 j (by omega)).1] at z
    exact c (h.2.2 j s (by omega) hs z))
  have e1 : (hrm (I 56 s) k 0 0 I).2 = k - 1 := by rw [h1]; omega
  rw [e1]
  have a41 : mrg (happ (hrem I k (I 56 s)) (k - 1) p) (mapp (mdrp I k s) (k - 1) p) 41 1 = (k : Int) := by
    rw [mrg_lo (by decide)]
    unfold happ
    rw [if_pos (by omega)]
    simp [q_up]
    omega
  have a44 : mrg (happ (hrem I k (I 56 s)) (k - 1) p) (mapp (mdrp I k s) (k - 1) p) 44 16 = (k : Int) := by
    rw [mrg_hi (by decide)]
    unfold mapp
    simp [q_up]
    omega
  have a42 : ∀ i, i < k → mrg (happ (hrem I k (I 56 s)) (k - 1) p) (mapp (mdrp I k s) (k - 1) p) 42 i = if i = k - 1 then (p : Int) else if s ≤ i then I 42 (i + 1) else I 42 i := by
    intro i hi
    rw [mrg_lo (by decide)]
    unfold happ
    rw [if_pos (by omega), q_up_off 42 (by decide)]
    by_cases e : i = k - 1
    · subst e; simp [q_up]
    · rw [if_neg e]
      have : q_up (hrem I k (I 56 s)) 42 (k - 1) (p : Int) 42 i = hrem I k (I 56 s) 42 i := by
        unfold q_up
        rw [if_neg (fun z => e z.2)]
      rw [this]
      unfold hrem
      rw [q_up_off 42 (by decide), h2 i]
      by_cases e2 : s ≤ i
      · rw [if_pos (by omega), if_pos e2]
      · rw [if_neg (by omega), if_neg e2]
  have a56 : ∀ i, i < k → mrg (happ (hrem I k (I 56 s)) (k - 1) p) (mapp (mdrp I k s) (k - 1) p) 56 i = if i = k - 1 then (p : Int) else if s ≤ i then I 56 (i + 1) else I 56 i := by
    intro i hi
    rw [mrg_hi (by decide)]
    unfold mapp
    rw [q_up_off 56 (by decide)]
    by_cases e : i = k - 1
    · subst e; simp [q_up]
    · rw [if_neg e]
      have : q_up (mdrp I k s) 56 (k - 1) (p : Int) 56 i = mdrp I k s 56 i := by
        unfold q_up
        rw [if_neg (fun z => e z.2)]
      rw [this]
      unfold mdrp
      rw [mdr_at, q_up_off 56 (by decide)]
      by_cases e2 : s ≤ i
      · rw [if_pos (by omega), if_pos e2]
      · rw [if_neg (by omega), if_neg e2]
  refine ⟨⟨a41, a44, hk⟩, fun i hi => ?_, fun i j hi hj => ?_⟩
  · rw [a42 i hi, a56 i hi]
    by_cases e : i = k - 1
    · rw [if_pos e, if_pos e]; exact ⟨rfl, p, hp, rfl⟩
    · rw [if_neg e, if_neg e]
      by_cases e2 : s ≤ i
      · rw [if_pos e2, if_pos e2]; exact h.2.1 _ (by omega)
      · rw [if_neg e2, if_neg e2]; exact h.2.1 _ (by omega)
  · rw [a56 i hi, a56 j hj]
    have n1 : ∀ q, q < k → q ≠ k - 1 → (if s ≤ q then I 56 (q + 1) else I 56 q) ≠ (p : Int) := fun q q1 q2 => by
      split
      · exact hne _ (by omega) (by omega)
      · exact hne _ (by omega) (by omega)
    by_cases e : i = k - 1
    · by_cases e2 : j = k - 1
      · intro _; omega
      · rw [if_pos e, if_neg e2]; exact fun z => absurd z.symm (n1 j hj e2)
    · by_cases e2 : j = k - 1
      · rw [if_neg e, if_pos e2]; exact fun z => absurd z (n1 i hi e)
      · rw [if_neg e, if_neg e2]
        have u := h.2.2
        by_cases e3 : s ≤ i <;> by_cases e4 : s ≤ j
        · rw [if_pos e3, if_pos e4]; intro z; have := u (i + 1) (j + 1) (by omega) (by omega) z; omega
        · rw [if_pos e3, if_neg e4]; intro z; have := u (i + 1) j (by omega) (by omega) z; omega
        · rw [if_neg e3, if_pos e4]; intro z; have := u i (j + 1) (by omega) (by omega) z; omega
        · rw [if_neg e3, if_neg e4]; intro z; exact u i j (by omega) (by omega) z
theorem rh_app {I : qI} {k p : Nat} (h : RH I k) (hk : k < 4) (hp : p ≤ 7) (hne : ∀ i, i < k → I 56 i ≠ (p : Int)) : RH (mrg (happ I k p) (mapp I k p)) (k + 1) := by
  have a42 : ∀ i, mrg (happ I k p) (mapp I k p) 42 i = if i = k then (p : Int) else I 42 i := by
    intro i
    rw [mrg_lo (by decide)]
    unfold happ
    rw [if_pos hk, q_up_off 42 (by decide)]
    by_cases e : i = k <;> simp [q_up, e]
  have a56 : ∀ i, mrg (happ I k p) (mapp I k p) 56 i = if i = k then (p : Int) else I 56 i := by
    intro i
    rw [mrg_hi (by decide)]
    unfold mapp
    rw [q_up_off 56 (by decide)]
    by_cases e : i = k <;> simp [q_up, e]
  refine ⟨⟨?_, ?_, by omega⟩, fun i hi => ?_, fun i j hi hj => ?_⟩
  · rw [mrg_lo (by decide)]
    unfold happ
    rw [if_pos hk]
    simp [q_up]
  · rw [mrg_hi (by decide)]
    unfold mapp
    simp [q_up]
  · rw [a42, a56]
    by_cases e : i = k
    · rw [if_pos e, if_pos e]; exact ⟨rfl, p, hp, rfl⟩
    · rw [if_neg e, if_neg e]; exact h.2.1 i (by omega)
  · rw [a56, a56]
    by_cases e : i = k <;> by_cases e2 : j = k
    · intro _; omega
    · rw [if_pos e, if_neg e2]; exact fun z => absurd z.symm (hne j (by omega))
    · rw [if_neg e, if_pos e2]; exact fun z => absurd z (hne i (by omega))
    · rw [if_neg e, if_neg e2]; exact fun z => h.2.2 i j (by omega) (by omega) z
theorem e_goes {I : qI} {n T k d : Nat} {o : Int} (hL : RL I n T) (hH : RH I k) (hd : I 1 6 = (d : Int)) : ∀ f i, i + f = k → (pmg I n o f i = -1 ∧ mgo I n d o f i = -1) ∨ ∃ s : Nat, s < k ∧ mgo I n d o f i = (s : Int) ∧ pmg I n o f i = I 56 s
  | 0, i, _ => Or.inl ⟨rfl, rfl⟩
  | f + 1, i, hi => by
    obtain ⟨e, q, q1, q2⟩ := hH.2.1 i (by omega)
    have et : ((q : Int)).toNat = q := rfl
    rw [pmg, mgo, e, q2, et, e_last hL, hd]
    by_cases z : ¬ (q : Int) = o ∧ ¬ d < mlm I n q 4
    · rw [if_pos ⟨z.1, by omega⟩, if_pos z]
      exact Or.inr ⟨i, by omega, rfl, q2.symm⟩
    · rw [if_neg (fun w => z ⟨w.1, by omega⟩), if_neg z]
      exact e_goes hL hH hd f (i + 1) (by omega)
theorem tch {I : qI} {n T k d p : Nat} (o : Int) (h : INV I n T k d) (hp : p ≤ 7) : (qtch I n k d p o).1 = (mtch I n k d p o).1 ∧ ∃ k', INV (mrg (qtch I n k d p o).2 (mtch I n k d p o).2) n T k' d := by
  have hL := h.1
  have hC := h.2.2.2.1
  have hH := h.2.2.2.2.1
  have hX := h.2.2.2.2.2.1
  have same : INV (mrg I I) n T k d := by
    have : mrg I I = I := by funext a; unfold mrg; split <;> rfl
    rw [this]; exact h
  have hk := hH.1.2.2
  have close : ∀ {A B : qI} {k' : Nat}, (∀ a, a ≠ 41 → a ≠ 42 → A a = I a) → (∀ a, a ≠ 44 → a ≠ 56 → B a = I a) → (∀ j, j ≠ 16 → B 44 j = I 44 j) → RH (mrg A B) k' → INV (mrg A B) n T k' d := by
    intro A B k' hA hB h4 hR
    refine h.cache (fun a h1 h2 h3 h4 => ?_) (fun j hj => by rw [mrg_hi (by decide)]; exact h4 j hj) hR
    by_cases ha : a < 44
    · rw [mrg_lo ha]; exact hA a h1 h2
    · rw [mrg_hi (by omega)]; exact hB a h3 h4
  have oA : ∀ (q : Int) (m : Nat) a, a ≠ 41 → a ≠ 42 → happ (hrem I k q) m p a = I a := fun q m a h1 h2 => by rw [happ_off h2 h1, hrem_off h2 h1]
  have oB : ∀ (s m a : Nat), a ≠ 44 → a ≠ 56 → mapp (mdrp I k s) m p a = I a := fun s m a h1 h2 => by rw [mapp_off h2 h1]; unfold mdrp; rw [mdr_off h2, q_up_off a h1]
  have o4 : ∀ (s m j : Nat), j ≠ 16 → mapp (mdrp I k s) m p 44 j = I 44 j := fun s m j hj => by
    unfold mapp
    have : q_up (q_up (mdrp I k s) 56 m p) 44 16 ((m + 1 : Nat) : Int) 44 j = q_up (mdrp I k s) 56 m p 44 j := by unfold q_up; rw [if_neg (fun z => hj z.2)]
    rw [this, q_up_off 44 (by decide)]
    unfold mdrp
    rw [mdr_off (by decide)]
    unfold q_up
    rw [if_neg (fun z => hj z.2)]
  have er := e_rank hH (p : Int) k 0 (by omega)
  rcases mpl_at (I := I) (p := (p : Int)) k 0 with ⟨m1, m2⟩ | ⟨s, m1, -, m3, m4⟩
  · rw [if_pos m1] at er
    have eq1 : qtch I n k d p o = if d < mlm I n p 4 ∨ (k = 4 ∧ mgo I n d o k 0 = -1) then (-6, I) else if qe (msv I (p % 2) d) 6 = false then (-7, I) else if k = 4 then (0, happ (hrem I k (pmg I n o k 0)) (hrm (pmg I n o k 0) k 0 0 I).2 p) else (0, happ I k p) := by
      unfold qtch
      rw [if_neg (by omega), e_serves hL hC (by omega) hX.2.1.2.2.1, e_last hL]
      have : ((d : Int) < ((mlm I n p 4 : Nat) : Int) ∨ (k = 4 ∧ pmg I n o k 0 = -1)) ↔ (d < mlm I n p 4 ∨ (k = 4 ∧ mgo I n d o k 0 = -1)) := by
        rcases e_goes (o := o) hL hH hX.2.1.1 k 0 (by omega) with ⟨z1, z2⟩ | ⟨s, z1, z2, z3⟩
        · rw [z1, z2]; omega
        · obtain ⟨-, q, q1, q2⟩ := hH.2.1 s z1
          rw [z2, z3, q2]; omega
      by_cases c : d < mlm I n p 4 ∨ (k = 4 ∧ mgo I n d o k 0 = -1)
      · rw [if_pos (this.mpr c), if_pos c]
      · rw [if_neg (fun z => c (this.mp z)), if_neg c]
    rw [eq1]
    unfold mtch
    rw [if_neg (show ¬ 0 ≤ mpl I p k 0 by omega)]
    by_cases c1 : d < mlm I n p 4 ∨ (k = 4 ∧ mgo I n d o k 0 = -1)
    · rw [if_pos c1, if_pos c1]
      exact ⟨rfl, k, same⟩
    rw [if_neg c1, if_neg c1]
    by_cases c2 : qe (msv I (p % 2) d) 6 = false
    · rw [if_pos c2, if_pos c2]
      exact ⟨rfl, k, same⟩
    rw [if_neg c2, if_neg c2]
    by_cases c3 : k = 4
    · rw [if_pos c3, if_pos c3]
      refine ⟨rfl, k, ?_⟩
      rcases e_goes (o := o) hL hH hX.2.1.1 k 0 (by omega) with ⟨z1, z2⟩ | ⟨s, z1, z2, z3⟩
      · exact absurd (Or.inr ⟨c3, z2⟩) c1
      · rw [z2, z3]
        exact close (oA _ _) (oB _ _) (o4 _ _) (rh_swap hH z1 hp (fun i hi _ => m2 i (by omega) (by omega)))
    · rw [if_neg c3, if_neg c3]
      refine ⟨rfl, k + 1, ?_⟩
      refine close (fun a h1 h2 => happ_off h2 h1) (fun a h1 h2 => mapp_off h2 h1) (fun j hj => ?_) (rh_app hH (by omega) hp (fun i hi => m2 i (by omega) (by omega)))
      show mapp I k p 44 j = I 44 j
      unfold mapp
      have : q_up (q_up I 56 k p) 44 16 ((k + 1 : Nat) : Int) 44 j = q_up I 56 k p 44 j := by unfold q_up; rw [if_neg (fun z => hj z.2)]
      rw [this, q_up_off 44 (by decide)]
  · rw [m1, if_neg (by omega)] at er
    unfold qtch mtch
    rw [if_pos (by omega), if_pos (by omega), m1]
    refine ⟨rfl, k, ?_⟩
    show INV (mrg (happ (hrem I k p) (hrm p k 0 0 I).2 p) (mapp (mdrp I k s) (k - 1) p)) n T k d
    rw [← m4]
    have := rh_swap hH (show s < k by omega) hp (fun i hi hne z => hne (hH.2.2 i s hi (by omega) (by rw [z, m4])))
    rw [← m4] at this oA oB o4
    exact close (oA _ _) (oB _ _) (o4 _ _) this
