/-! fault and crash. -/
theorem W4.grow2 {I J : qI} {d : Nat} (h : W4 I d) (hm : ∀ l, 1 ≤ l → l ≤ d → mg J l = mg I l) (hl : ∀ x l, x < 12 → 1 ≤ l → l ≤ d → mg I l = ((x / 6 : Nat) : Int) → J 51 x ≠ 2 → J 50 (200 * x + l) = 0 → I 51 x ≠ 2 ∧ I 50 (200 * x + l) = 0) : W4 J d := by
  intro l g h1 h2 hg h3
  rw [hm l h1 h2] at h3
  refine Nat.le_trans (qz_mono fun c hc => ?_) (h l g h1 h2 hg h3)
  unfold lck
  intro z
  simp only [Bool.and_eq_true, decide_eq_true_eq] at z ⊢
  exact hl (6 * g + c) l (by omega) h1 h2 (by rw [h3]; congr 1; omega) z.1 z.2
theorem inv_chg {I : qI} {n T k d x : Nat} {t : Int} (h : INV I n T k d) (hx : x < 12) (hs : I 51 x ≠ 2) (ht : 0 ≤ t ∧ t ≤ 1) : INV (mrg (q_up I (cp x) 2 t) (q_up I 51 x t)) n T k d := by
  have hb := cp_bd hx
  have hC := h.2.2.2.1
  have hX := h.2.2.2.2.2.1
  have off : ∀ a, a ≠ cp x → a ≠ 51 → mrg (q_up I (cp x) 2 t) (q_up I 51 x t) a = I a := by
    intro a h1 h2
    by_cases ha : a < 44
    · rw [mrg_lo ha, q_up_off a h1]
    · rw [mrg_hi (by omega), q_up_off a h2]
  have o51 : mrg (q_up I (cp x) 2 t) (q_up I 51 x t) 51 = q_up I 51 x t 51 := mrg_hi (by decide)
  have em := mg_fr (off 45 (by omega) (by decide)) (off 46 (by omega) (by decide)) (off 48 (by omega) (by decide))
  refine h.copies (fun a _ h1 _ h2 => off a (by omega) (by omega)) (fun j hj => by rw [off 44 (by omega) (by decide)]) (by rw [off 1 (by omega) (by decide)]) (fun _ _ => Or.inr (Or.inl (by rw [off 53 (by omega) (by decide)]))) (rc2_rc ?_) (by rw [off 1 (by omega) (by decide)]; exact hX.2.1.1) (by rw [off 44 (by omega) (by decide)]; exact hX.2.1.2.1) (Nat.le_refl _) hX.2.1.2.2.1 hX.2.1.2.2.2
    (h.2.2.2.2.2.2.1.fr (fun a ha => off a (by omega) (by omega))) (h.2.2.2.2.2.2.2.1.grow (fun l _ _ => by rw [em]) (fun y m _ _ _ hy hz => ?_))
  · intro y hy
    have hcy := cp_bd hy
    obtain ⟨t1, t2, t3, t4, t5⟩ := hC y hy
    rw [q_up_off 50 (by decide), q_up_off 52 (by decide), q_up_off 53 (by decide), q_up_off (cp y + 1) (fun z => cp_ne z.symm)]
    have key : ∀ j, j ≠ 2 → q_up I (cp x) 2 t (cp y) j = I (cp y) j := fun j hj => by simp [q_up, hj]
    rw [key 0 (by decide), key 3 (by decide), key 4 (by decide)]
    refine ⟨t1, ?_, t3, t4, t5⟩
    by_cases hyx : y = x
    · subst hyx; simp [q_up]; omega
    · have hne : cp y ≠ cp x := fun z => hyx (cp_inj z)
      simpa [q_up, hne, hyx] using t2
  · rw [off 50 (by omega) (by decide)] at hz
    refine ⟨?_, hz⟩
    rw [o51] at hy
    by_cases hyx : y = x
    · subst hyx; exact hs
    · simpa [q_up, hyx] using hy
theorem qdrop_off {A : qI} {x m l a : Nat} (h : a ≠ cp x + 1) : qdrop A x m l a = A a := by
  funext j
  unfold qdrop
  rw [if_neg (fun w => h w.1)]
theorem qlose_hi {A : qI} {x a : Nat} (hx : x < 12) (ha : a < 15 ∨ 40 < a) : qlose A x a = A a := by
  have hb := cp_bd hx
  unfold qlose
  rw [q_up_off a (by omega), q_up_off a (by omega), qdrop_off (by omega), q_up_off a (by omega)]
theorem mlose_off {A : qI} {x n a : Nat} (ha : ¬ (50 ≤ a ∧ a ≤ 53)) : mlose A x n a = A a := by
  unfold mlose
  rw [q_up_off a (by omega), q_up_off a (by omega), q_up_off a (by omega), mlo_off (by omega)]
theorem loc_mlose {x n : Nat} : loc (fun I => mlose I x n) := loc_of (fun A a ha => mlose_off (by omega)) (fun A B h a ha => by
  show mlose A x n a = mlose B x n a
  funext j
  unfold mlose mlo q_up
  dsimp only
  rw [h a ha])
theorem inv_lose {I : qI} {n T k d x : Nat} (h : INV I n T k d) (hx : x < 12) : INV (mrg (qlose I x) (mlose I x n)) n T k d := by
  have hb := cp_bd hx
  have hC := h.2.2.2.1
  have hX := h.2.2.2.2.2.1
  have hn := h.1.1.2.2
  have off : ∀ a, ¬ (15 ≤ a ∧ a ≤ 40) → ¬ (50 ≤ a ∧ a ≤ 53) → mrg (qlose I x) (mlose I x n) a = I a := by
    intro a h1 h2
    by_cases ha : a < 44
    · rw [mrg_lo ha, qlose_hi hx (by omega)]
    · rw [mrg_hi (by omega), mlose_off h2]
  have e50 : ∀ y l, 1 ≤ l → l ≤ n → mlose I x n 50 (200 * y + l) = if y = x then 0 else I 50 (200 * y + l) := by
    intro y l h1 h2
    unfold mlose
    rw [q_up_off 50 (by decide), q_up_off 50 (by decide), q_up_off 50 (by decide)]
    unfold mlo
    by_cases e : y = x
    · rw [if_pos e, if_pos (by omega)]
    · rw [if_neg e, if_neg (by omega)]
  have e51 : ∀ y, mlose I x n 51 y = if y = x then 2 else I 51 y := by
    intro y
    unfold mlose
    by_cases e : y = x
    · subst e; simp [q_up]
    · rw [if_neg e]
      simp [q_up, mlo, e]
  have e52 : ∀ y, mlose I x n 52 y = if y = x then 0 else I 52 y := by
    intro y
    unfold mlose
    by_cases e : y = x
    · subst e; simp [q_up]
    · rw [if_neg e]
      simp [q_up, mlo, e]
  have e53 : ∀ y, mlose I x n 53 y = if y = x then 0 else I 53 y := by
    intro y
    unfold mlose
    by_cases e : y = x
    · subst e; simp [q_up]
    · rw [if_neg e]
      simp [q_up, mlo, e]
  have em := mg_fr (off 45 (by omega) (by omega)) (off 46 (by omega) (by omega)) (off 48 (by omega) (by omega))
  refine h.copies (fun a _ h1 _ h2 => off a (by omega) (by omega)) (fun j hj => by rw [off 44 (by omega) (by omega)]) (by rw [off 1 (by omega) (by omega)]) (fun y _ => by rw [mrg_hi (by decide), e53]; by_cases e : y = x <;> simp [e]) (rc2_rc ?_) (by rw [off 1 (by omega) (by omega)]; exact hX.2.1.1) (by rw [off 44 (by omega) (by omega)]; exact hX.2.1.2.1) (Nat.le_refl _) hX.2.1.2.2.1 hX.2.1.2.2.2
    ?_ (h.2.2.2.2.2.2.2.1.grow (fun l _ _ => by rw [em]) (fun y m hy12 m1 m2 hy hz => ?_))
  · intro y hy
    have hcy := cp_bd hy
    obtain ⟨t1, t2, t3, t4, t5, t6⟩ := hC y hy
    rw [e51, e52, e53]
    by_cases hyx : y = x
    · subst hyx
      rw [if_pos rfl, if_pos rfl, if_pos rfl]
      have q0 : qlose I y (cp y) 0 = I (cp y) 0 := by
        unfold qlose
        simp [q_up, qdrop]
      have q2 : qlose I y (cp y) 2 = 2 := by
        unfold qlose
        simp [q_up, qdrop]
      have q3 : qlose I y (cp y) 3 = 0 := by
        unfold qlose
        simp [q_up]
      have q4 : qlose I y (cp y) 4 = 0 := by
        unfold qlose
        simp [q_up]
      have q5 : ∀ l, 1 ≤ l → l ≤ 187 → qlose I y (cp y + 1) l = 0 := by
        intro l l1 l2
        unfold qlose
        rw [q_up_off _ (fun z => cp_ne z.symm), q_up_off _ (fun z => cp_ne z.symm)]
        unfold qdrop
        rw [if_pos ⟨rfl, by omega, by omega⟩]
      rw [q0, q2, q3, q4]
      refine ⟨t1, by omega, ⟨rfl, 0, by omega, rfl⟩, rfl, fun l l1 l2 => ?_, fun l l1 l2 => q5 l (by omega) l2⟩
      rw [q5 l l1 (by omega), e50 y l l1 l2, if_pos rfl]
      exact ⟨rfl, Or.inl rfl⟩
    · have hne : cp y ≠ cp x := fun z => hyx (cp_inj z)
      rw [if_neg hyx, if_neg hyx, if_neg hyx]
      have q1 : qlose I x (cp y) = I (cp y) := by
        unfold qlose
        rw [q_up_off _ hne, q_up_off _ hne, qdrop_off cp_ne, q_up_off _ hne]
      have q2 : qlose I x (cp y + 1) = I (cp y + 1) := by
        unfold qlose
        rw [q_up_off _ (fun z => cp_ne z.symm), q_up_off _ (fun z => cp_ne z.symm), qdrop_off (by omega), q_up_off _ (fun z => cp_ne z.symm)]
      rw [q1, q2]
      refine ⟨t1, t2, t3, t4, fun l l1 l2 => ?_, t6⟩
      rw [e50 y l l1 l2, if_neg hyx]
      exact t5 l l1 l2
  · refine ⟨fun y hy => ?_, ?_⟩
    · rw [mrg_hi (by decide), e53]
      split
      · omega
      · exact h.2.2.2.2.2.2.1.1 y hy
    intro y hy l h1 h2 h3 h4
    rw [em] at h4
    rw [mrg_hi (by decide), e53] at h3
    rw [mrg_hi (by decide), e50 y l h1 h2]
    by_cases hyx : y = x
    · rw [if_pos hyx] at h3; omega
    · rw [if_neg hyx] at h3 ⊢
      exact h.2.2.2.2.2.2.1.2 y hy l h1 h2 h3 h4
  · rw [mrg_hi (by decide), e51] at hy
    have := hX.2.1.2.2.1
    rw [mrg_hi (by decide), e50 y m m1 (by omega)] at hz
    by_cases hyx : y = x
    · rw [if_pos hyx] at hy; exact absurd rfl hy
    · rw [if_neg hyx] at hy hz
      exact ⟨hy, hz⟩
theorem grp_hi {g x a : Nat} (hx : x < 12) (ha : a < 15 ∨ 40 < a) : ∀ f c A, grp g x f c A a = A a
  | 0, _, _ => rfl
  | f + 1, c, A => by
    rw [grp, grp_hi hx ha f (c + 1)]
    split
    · exact qtake_hi hx ha
    · rfl
theorem mrp_off {g x n a : Nat} (h1 : a ≠ 50) (h2 : a ≠ 52) : ∀ f c B, mrp g x n f c B a = B a
  | 0, _, _ => rfl
  | f + 1, c, B => by
    rw [mrp, mrp_off h1 h2 f (c + 1)]
    split
    · exact mjoin_off h1 h2
    · rfl
theorem mrp_up {g x n j : Nat} : ∀ f c B, B 50 j ≠ 0 → mrp g x n f c B 50 j ≠ 0
  | 0, _, _, h => h
  | f + 1, c, B, h => by
    rw [mrp]
    refine mrp_up f (c + 1) _ ?_
    split
    · exact mjoin_up h
    · exact h
theorem mrp_gain {g x n l e : Nat} (h1 : 1 ≤ l) (h2 : l ≤ n) (hn : n ≤ 187) : ∀ f c B, c ≤ e → e < c + f → B 51 (6 * g + e) = 0 → B 50 (200 * (6 * g + e) + l) ≠ 0 → mrp g x n f c B 50 (200 * x + l) ≠ 0
  | 0, c, B, a, b, _, _ => by omega
  | f + 1, c, B, a, b, hs, hh => by
    rw [mrp]
    by_cases hc : c = e
    · subst hc
      rw [if_pos hs]
      refine mrp_up f (c + 1) _ ?_
      unfold mjoin
      rw [q_up_off 50 (by decide)]
      unfold mtk
      rw [show (200 * x + l) % 200 = l by omega, show (200 * x + l) / 200 = x by omega]
      by_cases z : B 50 (200 * x + l) = 0
      · rw [if_pos ⟨rfl, rfl, h1, by omega, hh, z⟩]; decide
      · rw [if_neg (fun w => z w.2.2.2.2.2)]; exact z
    · refine mrp_gain (e := e) h1 h2 hn f (c + 1) _ (by omega) (by omega) ?_ ?_
      · split
        · rw [mjoin_off (by decide) (by decide)]; exact hs
        · exact hs
      · split
        · exact mjoin_up hh
        · exact hh
theorem rc2_rep {g x n : Nat} (hg : g < 2) (hx : x < 12) (hn : n ≤ 187) : ∀ f c A B, c + f = 6 → RC2 A B n → RC2 (grp g x f c A) (mrp g x n f c B) n
  | 0, _, _, _, _, h => h
  | f + 1, c, A, B, hc, h => by
    rw [grp, mrp, (h (6 * g + c) (by omega)).2.1.1]
    refine rc2_rep hg hx hn f (c + 1) _ _ (by omega) ?_
    split
    · exact rc2_take h hx (by omega) hn
    · exact h
theorem loc_mrp {g x n : Nat} : ∀ f c, loc (fun I => mrp g x n f c I)
  | 0, _ => loc_id
  | f + 1, c => (loc_if (p := fun I => I 51 (6 * g + c) = 0) (F := fun I => mjoin I (6 * g + c) x n) (G := fun I => I) (fun A B h => by show A 51 _ = 0 ↔ B 51 _ = 0; rw [h 51 (by omega)]) loc_mjoin loc_id).comp (loc_mrp f (c + 1))
theorem inv_rep {I : qI} {n T k d g b : Nat} (h : INV I n T k d) (hg : g < 2) (hb : b < 6) (hs : I 51 (6 * g + b) = 2) (h3 : 3 ≤ mlv I g) : INV (mrg (q_up (grp g (6 * g + b) 6 0 I) (cp (6 * g + b)) 2 0) (q_up (mrp g (6 * g + b) n 6 0 I) 51 (6 * g + b) 0)) n T k d := by
  have hx : 6 * g + b < 12 := by omega
  have hcb := cp_bd hx
  have hC := h.2.2.2.1
  have hX := h.2.2.2.2.2.1
  have hn := h.1.1.2.2
  have off : ∀ a, ¬ (15 ≤ a ∧ a ≤ 40) → ¬ (50 ≤ a ∧ a ≤ 52) → mrg (q_up (grp g (6 * g + b) 6 0 I) (cp (6 * g + b)) 2 0) (q_up (mrp g (6 * g + b) n 6 0 I) 51 (6 * g + b) 0) a = I a := by
    intro a h1 h2
    by_cases ha : a < 44
    · rw [mrg_lo ha, q_up_off a (by omega), grp_hi hx (by omega)]
    · rw [mrg_hi (by omega), q_up_off a (by omega), mrp_off (by omega) (by omega)]
  have e50 : mrg (q_up (grp g (6 * g + b) 6 0 I) (cp (6 * g + b)) 2 0) (q_up (mrp g (6 * g + b) n 6 0 I) 51 (6 * g + b) 0) 50 = mrp g (6 * g + b) n 6 0 I 50 := by rw [mrg_hi (by decide), q_up_off 50 (by decide)]
  have e51 : mrg (q_up (grp g (6 * g + b) 6 0 I) (cp (6 * g + b)) 2 0) (q_up (mrp g (6 * g + b) n 6 0 I) 51 (6 * g + b) 0) 51 = q_up (mrp g (6 * g + b) n 6 0 I) 51 (6 * g + b) 0 51 := mrg_hi (by decide)
  have em := mg_fr (off 45 (by omega) (by omega)) (off 46 (by omega) (by omega)) (off 48 (by omega) (by omega))
  have hR := rc2_rep hg hx hn 6 0 I I rfl hC
  refine h.copies (fun a _ h1 _ h2 => off a (by omega) (by omega)) (fun j hj => by rw [off 44 (by omega) (by omega)]) (by rw [off 1 (by omega) (by omega)]) (fun _ _ => Or.inr (Or.inl (by rw [off 53 (by omega) (by omega)]))) (rc2_rc ?_) (by rw [off 1 (by omega) (by omega)]; exact hX.2.1.1) (by rw [off 44 (by omega) (by omega)]; exact hX.2.1.2.1) (Nat.le_refl _) hX.2.1.2.2.1 hX.2.1.2.2.2
    (h.2.2.2.2.2.2.1.grow (fun l _ _ => by rw [em]) (fun y _ => by rw [off 53 (by omega) (by omega)]; exact Int.le_refl _) (fun y m _ _ _ hw => by rw [e50]; exact mrp_up 6 0 I hw)) (h.2.2.2.2.2.2.2.1.grow2 (fun l _ _ => by rw [em]) (fun y m hy m1 m2 hgm hw hw2 => ?_))
  · intro y hy
    have hcy := cp_bd hy
    obtain ⟨t1, t2, t3, t4, t5⟩ := hR y hy
    rw [q_up_off 50 (by decide), q_up_off 52 (by decide), q_up_off 53 (by decide), q_up_off (cp y + 1) (fun z => cp_ne z.symm)]
    have key : ∀ j, j ≠ 2 → q_up (grp g (6 * g + b) 6 0 I) (cp (6 * g + b)) 2 0 (cp y) j = (grp g (6 * g + b) 6 0 I) (cp y) j := fun j hj => by simp [q_up, hj]
    rw [key 0 (by decide), key 3 (by decide), key 4 (by decide)]
    refine ⟨t1, ?_, t3, t4, t5⟩
    by_cases hyx : y = 6 * g + b
    · subst hyx; simp [q_up]
    · have hne : cp y ≠ cp (6 * g + b) := fun z => hyx (cp_inj z)
      simpa [q_up, hne, hyx] using t2
  · rw [e50] at hw2
    have hI0 : I 50 (200 * y + m) = 0 := Classical.byContradiction fun z => mrp_up 6 0 I z hw2
    refine ⟨?_, hI0⟩
    by_cases hyx : y = 6 * g + b
    · subst hyx
      exfalso
      have hdn := hX.2.1.2.2.1
      have w := h.2.2.2.2.2.2.2.1 m g m1 m2 hg (by rw [hgm]; congr 1; omega)
      have : mlv I g ≤ qz (lck I g m) 6 := qz_mono fun c hc z => by
        unfold mll at z
        have z := of_decide_eq_true z
        unfold lck
        rw [decide_eq_true (show I 51 (6 * g + c) ≠ 2 by omega), Bool.true_and, decide_eq_true_eq]
        exact Classical.byContradiction fun q => mrp_gain m1 (by omega) hn 6 0 I (Nat.zero_le c) (by omega) z q hw2
      omega
    · rw [e51] at hw
      have : q_up (mrp g (6 * g + b) n 6 0 I) 51 (6 * g + b) 0 51 y = mrp g (6 * g + b) n 6 0 I 51 y := by simp [q_up, hyx]
      rw [this, mrp_off (by decide) (by decide)] at hw
      exact hw
theorem ok_fault {N : Nat} (I : qI) (hI : Inv I) (g c w : Int) : okk Inv N 3 1 M_Q_fault M_M_fault [.inl g, .inl c, .inl w] I := by
  obtain ⟨n, T, k, d, h⟩ := hI
  by_cases h0 : isC g c ∧ 0 ≤ w ∧ w ≤ 3
  · obtain ⟨a, b, ha, hb, rfl, rfl⟩ := isC_nat h0.1
    have hx : 6 * a + b < 12 := by omega
    have hcb := cp_bd hx
    have hC := h.2.2.2.1
    have hn := h.1.1.2.2
    have es := (hC _ hx).2.1.1
    have chg : ∀ f t : Int, f ≠ 2 → 0 ≤ t ∧ t ≤ 1 → ∀ w : Int, qT M_Q_fault 3 [.inr (some 1), .inl ((a : Nat) : Int), .inl ((b : Nat) : Int), .inl w] N I (rP (aChange I (6 * a + b) f t) N) → (∀ J : qI, qT M_M_fault 1 [.inr (some 44), .inl ((a : Nat) : Int), .inl ((b : Nat) : Int), .inl w] N J (rP (bChange J (6 * a + b) f t) N)) → okk Inv N 3 1 M_Q_fault M_M_fault [.inl ((a : Nat) : Int), .inl ((b : Nat) : Int), .inl w] I := by
      intro f t hf ht w hA hB
      unfold aChange at hA
      rw [es] at hA
      by_cases hz : I 51 (6 * a + b) = f
      · rw [if_pos hz] at hA
        have hlow : agr (q_up I (cp (6 * a + b)) 2 t) I := fun q hq => q_up_off q (by omega)
        refine okk_fin (A1 := q_up I (cp (6 * a + b)) 2 t) (F := fun I => q_up I 51 (6 * a + b) t) hA hlow (q_up_off 0 (by omega)) (loc_up (v := fun _ => t) (by omega) (fun _ _ _ => rfl)) ?_ ⟨n, T, k, d, inv_chg h hx (by omega) ht⟩
        have hB := hB (q_up I (cp (6 * a + b)) 2 t)
        unfold bChange at hB
        rw [hlow 51 (by omega), if_pos hz] at hB
        exact hB
      · rw [if_neg hz] at hA
        have hB := hB I
        unfold bChange at hB
        rw [if_neg hz] at hB
        exact okk_same ⟨n, T, k, d, h⟩ hA hB
    have hw : w = 0 ∨ w = 1 ∨ w = 2 ∨ w = 3 := by omega
    rcases hw with rfl | rfl | rfl | rfl
    · exact chg 0 1 (by decide) (by decide) 0 (ct_Q_fault_0 I ha hb) (fun J => ct_M_fault_0 J ha hb)
    · exact chg 1 0 (by decide) (by decide) 1 (ct_Q_fault_1 I ha hb) (fun J => ct_M_fault_1 J ha hb)
    · have hA := ct_Q_fault_2 (L := N) I ha hb
      unfold aLose at hA
      rw [es] at hA
      by_cases hz : I 51 (6 * a + b) = 2
      · rw [if_pos hz] at hA
        have hB := ct_M_fault_2 (L := N) (n := n) I h.1.1.2.1 (by omega) ha hb
        unfold bLose at hB
        rw [if_pos hz] at hB
        exact okk_same ⟨n, T, k, d, h⟩ hA hB
      · rw [if_neg hz] at hA
        have hlow : agr (qlose I (6 * a + b)) I := fun q hq => qlose_hi hx (by omega)
        refine okk_fin (A1 := qlose I (6 * a + b)) (F := fun I => mlose I (6 * a + b) n) hA hlow (qlose_hi hx (by omega)) loc_mlose ?_ ⟨n, T, k, d, inv_lose h hx⟩
        have hB := ct_M_fault_2 (L := N) (n := n) (qlose I (6 * a + b)) (by rw [hlow 44 (by omega)]; exact h.1.1.2.1) (by omega) ha hb
        unfold bLose at hB
        rw [hlow 51 (by omega), if_neg hz] at hB
        exact hB
    · have hA := ct_Q_fault_3 (L := N) I ha hb
      unfold aRepair at hA
      have eg : gok I a (6 * a + b) = mok I a (6 * a + b) := by
        have := e_lv hC ha
        unfold glv at this
        unfold gok mok
        rw [es, this]
      rw [eg] at hA
      by_cases hz : mok I a (6 * a + b) = true
      · have hz' : I 51 (6 * a + b) = 2 ∧ 3 ≤ mlv I a := by unfold mok at hz; simpa using hz
        rw [if_pos hz] at hA
        have hlow : agr (q_up (grp a (6 * a + b) 6 0 I) (cp (6 * a + b)) 2 0) I := fun q hq => by rw [q_up_off q (by omega), grp_hi hx (by omega)]
        refine okk_fin (A1 := q_up (grp a (6 * a + b) 6 0 I) (cp (6 * a + b)) 2 0) (F := fun I => q_up (mrp a (6 * a + b) n 6 0 I) 51 (6 * a + b) 0) hA hlow (by rw [q_up_off 0 (by omega), grp_hi hx (by omega)]) ((loc_mrp 6 0).comp (loc_up (v := fun _ => 0) (by omega) (fun _ _ _ => rfl))) ?_ ⟨n, T, k, d, inv_rep h ha hb hz'.1 hz'.2⟩
        have hB := ct_M_fault_3 (L := N) (n := n) (q_up (grp a (6 * a + b) 6 0 I) (cp (6 * a + b)) 2 0) (by rw [hlow 44 (by omega)]; exact h.1.1.2.1) (by omega) ha hb
        unfold bRepair at hB
        have e2 : mok (q_up (grp a (6 * a + b) 6 0 I) (cp (6 * a + b)) 2 0) a (6 * a + b) = mok I a (6 * a + b) := by
          have : mll (q_up (grp a (6 * a + b) 6 0 I) (cp (6 * a + b)) 2 0) = mll I := by funext q; unfold mll; rw [hlow 51 (by omega)]
          unfold mok mlv
          rw [this, hlow 51 (by omega)]
        rw [e2, if_pos hz] at hB
        exact hB
      · rw [if_neg hz] at hA
        have hB := ct_M_fault_3 (L := N) (n := n) I h.1.1.2.1 (by omega) ha hb
        unfold bRepair at hB
        rw [if_neg hz] at hB
        exact okk_same ⟨n, T, k, d, h⟩ hA hB
  · exact okk_same ⟨n, T, k, d, h⟩ (ct_Q_fault0 I h0) (ct_M_fault0 I h0)
theorem gfg_cp {g y j : Nat} : ∀ f c I, gfg g f c I (cp y) j = if j = 4 ∧ 6 * g + c ≤ y ∧ y < 6 * g + c + f then 0 else I (cp y) j
  | 0, c, I => by rw [if_neg (by omega)]; rfl
  | f + 1, c, I => by
    rw [gfg, gfg_cp f (c + 1)]
    by_cases e : j = 4 ∧ 6 * g + (c + 1) ≤ y ∧ y < 6 * g + (c + 1) + f
    · rw [if_pos e, if_pos (by omega)]
    · rw [if_neg e]
      by_cases e2 : y = 6 * g + c ∧ j = 4
      · obtain ⟨rfl, rfl⟩ := e2
        rw [if_pos (by omega)]
        simp [q_up]
      · rw [if_neg (by omega)]
        have : ¬ (cp y = cp (6 * g + c) ∧ j = 4) := fun z => e2 ⟨cp_inj z.1, z.2⟩
        unfold q_up
        rw [if_neg this]
theorem gfg_hd {g y : Nat} : ∀ f c I, gfg g f c I (cp y + 1) = I (cp y + 1)
  | 0, _, _ => rfl
  | f + 1, c, I => by rw [gfg, gfg_hd f (c + 1), q_up_off _ (fun z => cp_ne z.symm)]
theorem mrz_off {I : qI} {c a : Nat} (h : a ≠ 53) : mrz I c a = I a := by funext j; unfold mrz; rw [if_neg (fun w => h w.1)]
theorem ok_crash {N : Nat} (I : qI) (hI : Inv I) : okk Inv N 1 0 M_Q_crash M_M_crash [] I := by
  obtain ⟨n, T, k, d, h⟩ := hI
  have hX := h.2.2.2.2.2.1
  have hu := up_iff hX
  have hA := ct_Q_crash (L := N) I
  unfold aCrash at hA
  by_cases hz : I 1 5 = 0
  · rw [if_pos hz] at hA
    have hB := ct_M_crash (L := N) I
    unfold bCrash at hB
    rw [if_pos (hu.mp hz)] at hB
    exact okk_same ⟨n, T, k, d, h⟩ hA hB
  · rw [if_neg hz] at hA
    have hlo : ∀ q, q ≠ 1 → q ≠ 41 → (q < 15 ∨ 40 < q) → gfg 1 6 0 (gfg 0 6 0 (q_up (q_up I 1 5 0) 41 1 0)) q = I q := fun q h1 h2 h3 => by rw [gfg_off h3 (by omega), gfg_off h3 (by omega), q_up_off q h2, q_up_off q h1]
    have e41 : gfg 1 6 0 (gfg 0 6 0 (q_up (q_up I 1 5 0) 41 1 0)) 41 1 = 0 := by rw [gfg_off (by omega) (by omega), gfg_off (by omega) (by omega)]; simp [q_up]
    have e1 : ∀ j, gfg 1 6 0 (gfg 0 6 0 (q_up (q_up I 1 5 0) 41 1 0)) 1 j = if j = 5 then 0 else I 1 j := fun j => by
      rw [gfg_off (by omega) (by omega), gfg_off (by omega) (by omega)]
      by_cases e : j = 5 <;> simp [q_up, e]
    have ec : ∀ y, y < 12 → ∀ j, gfg 1 6 0 (gfg 0 6 0 (q_up (q_up I 1 5 0) 41 1 0)) (cp y) j = if j = 4 then 0 else I (cp y) j := fun y hy j => by
      have hb := cp_bd hy
      rw [gfg_cp, gfg_cp, q_up_off (cp y) (by omega), q_up_off (cp y) (by omega)]
      by_cases e : j = 4
      · rw [if_pos e]
        by_cases e2 : y < 6
        · rw [if_neg (by omega), if_pos (by omega)]
        · rw [if_pos (by omega)]
      · rw [if_neg (fun w => e w.1), if_neg (fun w => e w.1), if_neg e]
    have eh : ∀ y, y < 12 → gfg 1 6 0 (gfg 0 6 0 (q_up (q_up I 1 5 0) 41 1 0)) (cp y + 1) = I (cp y + 1) := fun y hy => by
      have hb := cp_bd hy
      rw [gfg_hd, gfg_hd, q_up_off _ (by omega), q_up_off _ (by omega)]
    generalize gfg 1 6 0 (gfg 0 6 0 (q_up (q_up I 1 5 0) 41 1 0)) = A at hA hlo e41 e1 ec eh
    have hlow : agr A I := fun q hq => hlo q (by omega) (by omega) (by omega)
    have hloc : loc (fun I => mrz (q_up (q_up I 44 10 1) 44 16 0) 12) := ((loc_up (a := 44) (j := 10) (v := fun _ => 1) (by omega) (fun _ _ _ => rfl)).comp (loc_up (a := 44) (j := 16) (v := fun _ => 0) (by omega) (fun _ _ _ => rfl))).comp (G := fun I => mrz I 12) (loc_of (fun A a ha => mrz_off (by omega)) (fun A B h a ha => by show mrz A 12 a = mrz B 12 a; funext j; unfold mrz; rw [h a ha]))
    refine okk_fin (A1 := A) (F := fun I => mrz (q_up (q_up I 44 10 1) 44 16 0) 12) hA hlow (hlo 0 (by omega) (by omega) (by omega)) hloc ?_ ⟨n, T, 0, d, ?_⟩
    · have hB := ct_M_crash (L := N) A
      unfold bCrash at hB
      rw [hlow 44 (by omega), if_neg (fun z => hz (hu.mpr z))] at hB
      exact hB
    · have off : ∀ q, q ≠ 1 → q ≠ 41 → ¬ (15 ≤ q ∧ q ≤ 40) → q ≠ 44 → q ≠ 53 → mrg A (mrz (q_up (q_up I 44 10 1) 44 16 0) 12) q = I q := by
        intro q h1 h2 h3 h4 h5
        by_cases hq : q < 44
        · rw [mrg_lo hq, hlo q h1 h2 (by omega)]
        · rw [mrg_hi (by omega), mrz_off h5, q_up_off q h4, q_up_off q h4]
      have e44 : ∀ j, mrg A (mrz (q_up (q_up I 44 10 1) 44 16 0) 12) 44 j = if j = 10 then 1 else if j = 16 then 0 else I 44 j := by
        intro j
        rw [mrg_hi (by decide), mrz_off (by decide)]
        by_cases e : j = 10
        · subst e; simp [q_up]
        · by_cases e2 : j = 16 <;> simp [q_up, e, e2]
      have e53 : ∀ y, y < 12 → mrg A (mrz (q_up (q_up I 44 10 1) 44 16 0) 12) 53 y = 0 := by
        intro y hy
        rw [mrg_hi (by decide)]
        unfold mrz
        rw [if_pos ⟨rfl, hy⟩]
      have e1' : ∀ j, mrg A (mrz (q_up (q_up I 44 10 1) 44 16 0) 12) 1 j = if j = 5 then 0 else I 1 j := by intro j; rw [mrg_lo (by decide), e1]
      have e41' : mrg A (mrz (q_up (q_up I 44 10 1) 44 16 0) 12) 41 1 = 0 := by rw [mrg_lo (by decide), e41]
      have ec' : ∀ y, y < 12 → ∀ j, mrg A (mrz (q_up (q_up I 44 10 1) 44 16 0) 12) (cp y) j = if j = 4 then 0 else I (cp y) j := fun y hy j => by have := cp_bd hy; rw [mrg_lo (by omega), ec y hy]
      have eh' : ∀ y, y < 12 → mrg A (mrz (q_up (q_up I 44 10 1) 44 16 0) 12) (cp y + 1) = I (cp y + 1) := fun y hy => by have := cp_bd hy; rw [mrg_lo (by omega), eh y hy]
      generalize mrg A (mrz (q_up (q_up I 44 10 1) 44 16 0) 12) = J at off e44 e53 e1' e41' ec' eh'
      obtain ⟨hL, hN, hT, hC, hH, -, w3, w4, w6, w7, w8, w9, w10⟩ := h
      have o : ∀ a, (2 ≤ a ∧ a ≤ 11) ∨ (42 ≤ a ∧ a ≤ 43) ∨ (45 ≤ a ∧ a ≤ 52) ∨ (54 ≤ a) → J a = I a := fun a ha => off a (by omega) (by omega) (by omega) (by omega) (by omega)
      refine ⟨hL.fr (by rw [o 2 (by omega)]) (by rw [e44]; rfl) (fun a ha => o a (by omega)), hN.fr (fun a ha => o a (by omega)), hT.fr (by rw [e44]; rfl) (fun a ha => o a (by omega)), ?_, ⟨⟨e41', by rw [e44]; rfl, by omega⟩, fun i hi => by omega, fun i j hi => by omega⟩, ?_,
        ?_, w4.fr (fun a ha => o a (by omega)), w6.fr (o 54 (by omega)) (o 55 (by omega)), w7.fr (o 54 (by omega)) (o 45 (by omega)) (o 48 (by omega)), fun z => ?_, w9.fr (fun a ha => o a (by omega)), fun z => ?_⟩
      · intro y hy
        rw [ec' y hy, ec' y hy, ec' y hy, ec' y hy, eh' y hy, e53 y hy, o 50 (by omega), o 51 (by omega), o 52 (by omega)]
        obtain ⟨t1, t2, t3, t4, t5⟩ := hC y hy
        exact ⟨t1, t2, t3, rfl, t5⟩
      · refine ⟨Or.inr ⟨by rw [e44]; rfl, by rw [e1']; rfl, fun x hx => e53 x hx⟩, ⟨by rw [e1']; exact hX.2.1.1, by rw [e44]; exact hX.2.1.2.1, by rw [o 49 (by omega)]; exact hX.2.1.2.2⟩, ?_⟩
        rw [o 43 (by omega), o 57 (by omega)]
        exact hX.2.2
      · refine ⟨fun y hy => by rw [e53 y hy]; omega, ?_⟩
        intro y hy l l1 l2 l3
        rw [e53 y hy] at l3
        omega
      · rw [e44, if_pos rfl] at z
        exact absurd z (by decide)
      · rw [e44, if_pos rfl] at z
        exact absurd z (by decide)
