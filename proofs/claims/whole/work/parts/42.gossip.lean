/-! gossip, deliver, fault, crash. -/
theorem inv_put {I : qI} {n T k d x l : Nat} (h : INV I n T k d) (hx : x < 12) (h1 : 1 ≤ l) (hl : l ≤ n) : INV (mrg (q_up I (cp x + 1) l 1) (q_up I 50 (200 * x + l) 1)) n T k d := by
  have hb := cp_bd hx
  have hC := h.2.2.2.1
  have hX := h.2.2.2.2.2.1
  have hn := h.1.1.2.2
  have off : ∀ a, a ≠ cp x + 1 → a ≠ 50 → mrg (q_up I (cp x + 1) l 1) (q_up I 50 (200 * x + l) 1) a = I a := by
    intro a h1 h2
    by_cases ha : a < 44
    · rw [mrg_lo ha, q_up_off a h1]
    · rw [mrg_hi (by omega), q_up_off a h2]
  have o50 : mrg (q_up I (cp x + 1) l 1) (q_up I 50 (200 * x + l) 1) 50 = q_up I 50 (200 * x + l) 1 50 := mrg_hi (by decide)
  have em := mg_fr (off 45 (by omega) (by decide)) (off 46 (by omega) (by decide)) (off 48 (by omega) (by decide))
  refine h.copies (fun a _ h1 _ h2 => off a (by omega) (by omega)) (fun j hj => by rw [off 44 (by omega) (by decide)]) (by rw [off 1 (by omega) (by decide)]) (fun _ _ => Or.inr (Or.inl (by rw [off 53 (by omega) (by decide)]))) (rc2_rc ?_) (by rw [off 1 (by omega) (by decide)]; exact hX.2.1.1) (by rw [off 44 (by omega) (by decide)]; exact hX.2.1.2.1) (Nat.le_refl _) hX.2.1.2.2.1 hX.2.1.2.2.2
    (h.2.2.2.2.2.2.1.grow (fun l _ _ => by rw [em]) (fun y _ => by rw [off 53 (by omega) (by decide)]; exact Int.le_refl _) (fun y m _ _ _ hz => ?_)) (h.2.2.2.2.2.2.2.1.grow (fun l _ _ => by rw [em]) (fun y m _ _ _ hy hz => ?_))
  · intro y hy
    have hcy := cp_bd hy
    obtain ⟨t1, t2, t3, t4, t5, t6⟩ := hC y hy
    rw [q_up_off 51 (by decide), q_up_off 52 (by decide), q_up_off 53 (by decide), q_up_off (cp y) cp_ne]
    refine ⟨t1, t2, t3, t4, fun m m1 m2 => ?_, fun m m1 m2 => ?_⟩
    · by_cases hyx : y = x ∧ m = l
      · obtain ⟨rfl, rfl⟩ := hyx
        simp [q_up]
      · have e1 : q_up I (cp x + 1) l 1 (cp y + 1) m = I (cp y + 1) m := by
          have : ¬ (cp y + 1 = cp x + 1 ∧ m = l) := fun z => hyx ⟨cp_inj (by omega), z.2⟩
          unfold q_up
          rw [if_neg this]
        have e2 : q_up I 50 (200 * x + l) 1 50 (200 * y + m) = I 50 (200 * y + m) := by
          have : ¬ (50 = 50 ∧ 200 * y + m = 200 * x + l) := fun z => hyx (by omega)
          unfold q_up
          rw [if_neg this]
        rw [e1, e2]
        exact t5 m m1 m2
    · have e1 : q_up I (cp x + 1) l 1 (cp y + 1) m = I (cp y + 1) m := by
        have : ¬ (cp y + 1 = cp x + 1 ∧ m = l) := fun z => by omega
        unfold q_up
        rw [if_neg this]
      rw [e1]
      exact t6 m m1 m2
  · rw [o50]
    unfold q_up
    split
    · decide
    · exact hz
  · rw [o50] at hz
    rw [off 51 (by omega) (by decide)] at hy
    refine ⟨hy, ?_⟩
    unfold q_up at hz
    split at hz
    · exact absurd hz (by decide)
    · exact hz
theorem ok_deliver {N : Nat} (I : qI) (hI : Inv I) (l c : Int) : okk Inv N 4 4 M_Q_deliver M_M_deliver [.inl l, .inl c] I := by
  obtain ⟨n, T, k, d, h⟩ := hI
  by_cases h0 : (1 ≤ l ∧ l ≤ (n : Int)) ∧ 0 ≤ c ∧ c < 6
  · obtain ⟨m, rfl⟩ : ∃ m : Nat, l = (m : Int) := ⟨l.toNat, by omega⟩
    obtain ⟨b, rfl⟩ : ∃ b : Nat, c = (b : Int) := ⟨c.toNat, by omega⟩
    have hL := h.1
    have hX := h.2.2.2.2.2.1
    have hC := h.2.2.2.1
    obtain ⟨g, hg, eg⟩ := e_grp hL (show 1 ≤ m by omega) (show m ≤ n by omega)
    have hx : 6 * g + b < 12 := by omega
    have hcb := cp_bd hx
    have em := e_mg hL (show 1 ≤ m by omega) (show m ≤ n by omega)
    have hu := up_iff hX
    have hA := ct_Q_deliver (L := N) I h.cw (show 1 ≤ m by omega) (show m ≤ n by omega) hg (show b < 6 by omega) eg
    unfold aDeliver at hA
    by_cases hs : I (cp (6 * g + b)) 2 = 0
    · rw [if_pos hs, ((hC _ hx).2.2.2.2.1 m (by omega) (by omega)).1] at hA
      have hs' : I 51 (6 * g + b) = 0 := by rw [← (hC _ hx).2.1.1]; exact hs
      have hK := inv_put h hx (show 1 ≤ m by omega) (show m ≤ n by omega)
      have hP : agr (q_up I (cp (6 * g + b) + 1) m 1) I := fun q hq => q_up_off q (by omega)
      have hP0 : q_up I (cp (6 * g + b) + 1) m 1 0 = I 0 := q_up_off 0 (by omega)
      have locP : loc (fun I => q_up I 50 (200 * (6 * g + b) + m) 1) := loc_up (v := fun _ => 1) (by omega) (fun _ _ _ => rfl)
      by_cases hz : I 1 5 = 0
      · rw [if_pos hz] at hA
        refine okk_fin (A1 := q_up I (cp (6 * g + b) + 1) m 1) (F := fun I => q_up I 50 (200 * (6 * g + b) + m) 1) hA hP hP0 locP ?_ ⟨n, T, k, d, hK⟩
        have hB := ct_M_deliver (L := N) (q_up I (cp (6 * g + b) + 1) m 1) (inv_mw1 h hP) (show 1 ≤ m by omega) (show m ≤ n by omega) hg (show b < 6 by omega) (by rw [mg_hi hP, em]; exact eg)
        unfold bDeliver at hB
        rw [hP 51 (by omega), hP 50 (by omega), hP 44 (by omega), if_pos hs', if_pos (hu.mp hz)] at hB
        exact hB
      · rw [if_neg hz] at hA
        have hlow : agr (qtell (q_up I (cp (6 * g + b) + 1) m 1) (6 * g + b) n) I := fun q hq => by unfold qtell; rw [qrs_off (by omega), q_up_off q (by omega)]; exact hP q hq
        obtain ⟨d', hd⟩ := inv_tell (A := q_up I (cp (6 * g + b) + 1) m 1) (B := q_up I 50 (200 * (6 * g + b) + m) 1) hK (by rw [mrg_hi (by decide), q_up_off 44 (by decide)]; exact Classical.byContradiction fun z => hz (hu.mpr z)) hx mrg_alo mrg_agr
        refine okk_fin (A1 := qtell (q_up I (cp (6 * g + b) + 1) m 1) (6 * g + b) n) (F := fun I => mrep (q_up I 50 (200 * (6 * g + b) + m) 1) (6 * g + b) n) hA hlow (by unfold qtell; rw [qrs_off (by omega), q_up_off 0 (by omega)]; exact hP0) (locP.comp loc_mrep) ?_ ⟨n, T, k, d', hd⟩
        have hB := ct_M_deliver (L := N) (qtell (q_up I (cp (6 * g + b) + 1) m 1) (6 * g + b) n) (inv_mw1 h hlow) (show 1 ≤ m by omega) (show m ≤ n by omega) hg (show b < 6 by omega) (by rw [mg_hi hlow, em]; exact eg)
        unfold bDeliver at hB
        rw [hlow 51 (by omega), hlow 50 (by omega), hlow 44 (by omega), if_pos hs', if_neg (fun z => hz (hu.mpr z))] at hB
        exact hB
    · rw [if_neg hs] at hA
      have hB := ct_M_deliver (L := N) I h.mw (show 1 ≤ m by omega) (show m ≤ n by omega) hg (show b < 6 by omega) (by rw [em]; exact eg)
      unfold bDeliver at hB
      rw [if_neg (by rw [← (hC _ hx).2.1.1]; exact hs)] at hB
      exact okk_same ⟨n, T, k, d, h⟩ hA hB
  · exact okk_same ⟨n, T, k, d, h⟩ (ct_Q_deliver0 I h.cw h0) (ct_M_deliver0 I h.mw h0)
theorem qn_ext {p : Nat → Bool} {n : Nat} : ∀ {m : Nat}, n ≤ m → (∀ l, n < l → l ≤ m → p l = false) → qn p m = qn p n
  | 0, h, _ => by rw [show n = 0 by omega]
  | m + 1, h, hp => by
    by_cases e : n = m + 1
    · rw [e]
    · rw [qn, hp (m + 1) (by omega) (Nat.le_refl _), qn_ext (m := m) (by omega) (fun l a b => hp l a (by omega))]
      rfl
theorem qtake_hi {A : qI} {x y a : Nat} (hx : x < 12) (ha : a < 15 ∨ 40 < a) : qtake A x y a = A a := by
  have hb := cp_bd hx
  unfold qtake
  rw [q_up_off a (by omega)]
  funext j
  unfold qtk
  rw [if_neg (by omega)]
theorem rc2_take {A B : qI} {n x y : Nat} (h : RC2 A B n) (hx : x < 12) (hy : y < 12) (hn : n ≤ 187) : RC2 (qtake A x y) (mjoin B y x n) n := by
  intro z hz
  have b1 := cp_bd hx
  have b2 := cp_bd hy
  have b3 := cp_bd hz
  obtain ⟨t1, t2, t3, t4, t5, t6⟩ := h z hz
  have o : ∀ a, a ≠ 50 → a ≠ 52 → mjoin B y x n a = B a := fun a h1 h2 => by unfold mjoin; rw [q_up_off a h2, mtk_off h1]
  have c0 : ∀ j, j ≠ 3 → qtake A x y (cp z) j = A (cp z) j := by
    intro j hj
    unfold qtake
    have e : q_up (qtk A x y 188) (cp x) 3 (qmax (A (cp x) 3) (A (cp y) 3)) (cp z) j = qtk A x y 188 (cp z) j := by simp [q_up, hj]
    rw [e]
    unfold qtk
    rw [if_neg (fun w => cp_ne w.1)]
  have c1 : ∀ l, qtake A x y (cp z + 1) l = if z = x ∧ 1 ≤ l ∧ l < 188 ∧ A (cp y + 1) l ≠ 0 then 1 else A (cp z + 1) l := by
    intro l
    unfold qtake
    rw [q_up_off _ (fun w => cp_ne w.symm)]
    unfold qtk
    by_cases e : z = x
    · subst e; simp
    · rw [if_neg (fun w => e (cp_inj (by omega))), if_neg (fun w => e w.1)]
  rw [o 51 (by decide) (by decide), o 53 (by decide) (by decide), c0 0 (by decide), c0 2 (by decide), c0 4 (by decide)]
  refine ⟨t1, t2, ?_, t4, fun l l1 l2 => ?_, fun l l1 l2 => ?_⟩
  · have e52 : mjoin B y x n 52 z = if z = x then qmax (B 52 x) (B 52 y) else B 52 z := by
      unfold mjoin q_up
      by_cases e : z = x
      · rw [if_pos ⟨rfl, e⟩, if_pos e]
      · rw [if_neg (fun w => e w.2), if_neg e, mtk_off (by decide)]
    have e3 : qtake A x y (cp z) 3 = if z = x then qmax (A (cp x) 3) (A (cp y) 3) else A (cp z) 3 := by
      unfold qtake
      by_cases e : z = x
      · subst e; simp [q_up]
      · rw [if_neg e, q_up_off _ (fun w => e (cp_inj w))]
        unfold qtk
        rw [if_neg (fun w => cp_ne w.1)]
    rw [e52, e3]
    by_cases e : z = x
    · rw [if_pos e, if_pos e, (h x hx).2.2.1.1, (h y hy).2.2.1.1]
      refine ⟨rfl, ?_⟩
      unfold qmax
      split
      · exact (h y hy).2.2.1.2
      · exact (h x hx).2.2.1.2
    · rw [if_neg e, if_neg e]
      exact t3
  · have e50 : mjoin B y x n 50 (200 * z + l) = if z = x ∧ B 50 (200 * y + l) ≠ 0 ∧ B 50 (200 * z + l) = 0 then 1 else B 50 (200 * z + l) := by
      unfold mjoin
      rw [q_up_off 50 (by decide)]
      unfold mtk
      have q1 : (200 * z + l) / 200 = z := by omega
      have q2 : (200 * z + l) % 200 = l := by omega
      rw [q1, q2]
      by_cases e : z = x ∧ B 50 (200 * y + l) ≠ 0 ∧ B 50 (200 * z + l) = 0
      · rw [if_pos e, if_pos ⟨rfl, e.1, l1, by omega, e.2⟩]
      · rw [if_neg e, if_neg (fun w => e ⟨w.2.1, w.2.2.2.2⟩)]
    rw [e50, c1 l]
    obtain ⟨u1, u2⟩ := t5 l l1 l2
    obtain ⟨v1, v2⟩ := (h y hy).2.2.2.2.1 l l1 l2
    rw [u1, v1]
    by_cases e : z = x
    · by_cases e2 : B 50 (200 * y + l) = 0
      · rw [if_neg (fun w => w.2.2.2 e2), if_neg (fun w => w.2.1 e2)]
        exact ⟨rfl, u2⟩
      · rw [if_pos ⟨e, l1, by omega, e2⟩]
        by_cases e3 : B 50 (200 * z + l) = 0
        · rw [if_pos ⟨e, e2, e3⟩]
          exact ⟨rfl, Or.inr rfl⟩
        · rw [if_neg (fun w => e3 w.2.2)]
          omega
    · rw [if_neg (fun w => e w.1), if_neg (fun w => e w.1)]
      exact ⟨rfl, u2⟩
  · rw [c1 l, (h y hy).2.2.2.2.2 l l1 l2, if_neg (fun w => w.2.2.2 rfl)]
    exact t6 l l1 l2
theorem loc_mjoin {x y n : Nat} : loc (fun I => mjoin I x y n) := loc_of (fun A a ha => by show mjoin A x y n a = A a; unfold mjoin; rw [q_up_off a (by omega), mtk_off (by omega)]) (fun A B h a ha => by
  show mjoin A x y n a = mjoin B x y n a
  funext j
  unfold mjoin mtk q_up
  rw [h 50 (by decide), h 52 (by decide)]
  dsimp only
  rw [h a ha])
theorem mjoin_off {B : qI} {x y n a : Nat} (h1 : a ≠ 50) (h2 : a ≠ 52) : mjoin B x y n a = B a := by unfold mjoin; rw [q_up_off a h2, mtk_off h1]
theorem mjoin_up {B : qI} {x y n j : Nat} (h : B 50 j ≠ 0) : mjoin B x y n 50 j ≠ 0 := by
  unfold mjoin
  rw [q_up_off 50 (by decide)]
  unfold mtk
  split
  · decide
  · exact h
theorem ok_gossip {N : Nat} (I : qI) (hI : Inv I) (g f t : Int) : okk Inv N 2 2 M_Q_gossip M_M_gossip [.inl g, .inl f, .inl t] I := by
  obtain ⟨n, T, k, d, h⟩ := hI
  by_cases h0 : isC g f ∧ isC g t ∧ ¬ f = t
  · obtain ⟨a, b, ha, hb, rfl, rfl⟩ := isC_nat h0.1
    obtain ⟨c, hc, rfl⟩ : ∃ c : Nat, c < 6 ∧ t = (c : Int) := by
      have := h0.2.1
      unfold isC at this
      exact ⟨t.toNat, by omega, by omega⟩
    have hbc : b ≠ c := by have := h0.2.2; omega
    have hx : 6 * a + c < 12 := by omega
    have hy : 6 * a + b < 12 := by omega
    have hC := h.2.2.2.1
    have hX := h.2.2.2.2.2.1
    have hn := h.1.1.2.2
    have hA := ct_Q_gossip (L := N) I ha hb hc hbc
    by_cases hz : I (cp (6 * a + b)) 2 = 0 ∧ I (cp (6 * a + c)) 2 = 0
    · have hz' : I 51 (6 * a + b) = 0 ∧ I 51 (6 * a + c) = 0 := by rw [← (hC _ hx).2.1.1, ← (hC _ hy).2.1.1]; exact hz
      have en : qn (qtn I (6 * a + c) (6 * a + b)) 187 = qn (mtn I (6 * a + b) (6 * a + c)) n := by
        rw [qn_ext (n := n) hn (fun l l1 l2 => ?_)]
        · refine qn_congr fun l l1 l2 => ?_
          unfold qtn mtn
          rw [e_chd hC hx l1 l2, e_chd hC hy l1 l2]
        · unfold qtn
          have : chd I (6 * a + b) l = false := by unfold chd; rw [(hC _ hy).2.2.2.2.2 l l1 l2]; rfl
          rw [this]
          rfl
      rw [if_pos hz, en] at hA
      have hlow : agr (qtake I (6 * a + c) (6 * a + b)) I := fun q hq => qtake_hi hx (by omega)
      refine okk_fin (A1 := qtake I (6 * a + c) (6 * a + b)) (F := fun I => mjoin I (6 * a + b) (6 * a + c) n) hA hlow (qtake_hi hx (by omega)) loc_mjoin ?_ ⟨n, T, k, d, ?_⟩
      · have hB := ct_M_gossip (L := N) (n := n) (qtake I (6 * a + c) (6 * a + b)) (by rw [hlow 44 (by omega)]; exact h.1.1.2.1) (by omega) ha hb hc hbc
        have e2 : mtn (qtake I (6 * a + c) (6 * a + b)) = mtn I := by funext x y l; unfold mtn mhd; rw [hlow 50 (by omega)]
        rw [hlow 51 (by omega), if_pos hz', e2] at hB
        exact hB
      · have off : ∀ q, ¬ (15 ≤ q ∧ q ≤ 40) → q ≠ 50 → q ≠ 52 → mrg (qtake I (6 * a + c) (6 * a + b)) (mjoin I (6 * a + b) (6 * a + c) n) q = I q := by
          intro q h1 h2 h3
          by_cases hq : q < 44
          · rw [mrg_lo hq, qtake_hi hx (by omega)]
          · rw [mrg_hi (by omega), mjoin_off h2 h3]
        have o50 : mrg (qtake I (6 * a + c) (6 * a + b)) (mjoin I (6 * a + b) (6 * a + c) n) 50 = mjoin I (6 * a + b) (6 * a + c) n 50 := mrg_hi (by decide)
        have em := mg_fr (off 45 (by omega) (by decide) (by decide)) (off 46 (by omega) (by decide) (by decide)) (off 48 (by omega) (by decide) (by decide))
        refine h.copies (fun q _ h1 _ h2 => off q h1 (by omega) (by omega)) (fun j _ => by rw [off 44 (by omega) (by decide) (by decide)]) (by rw [off 1 (by omega) (by decide) (by decide)]) (fun _ _ => Or.inr (Or.inl (by rw [off 53 (by omega) (by decide) (by decide)]))) (rc2_rc (rc2_take hC hx hy hn)) (by rw [off 1 (by omega) (by decide) (by decide)]; exact hX.2.1.1) (by rw [off 44 (by omega) (by decide) (by decide)]; exact hX.2.1.2.1) (Nat.le_refl _) hX.2.1.2.2.1 hX.2.1.2.2.2
          (h.2.2.2.2.2.2.1.grow (fun l _ _ => by rw [em]) (fun y _ => by rw [off 53 (by omega) (by decide) (by decide)]; exact Int.le_refl _) (fun y m _ _ _ hw => by rw [o50]; exact mjoin_up hw)) (h.2.2.2.2.2.2.2.1.grow (fun l _ _ => by rw [em]) (fun y m _ _ _ hw hw2 => ?_))
        rw [off 51 (by omega) (by decide) (by decide)] at hw
        refine ⟨hw, Classical.byContradiction fun hne => ?_⟩
        rw [o50] at hw2
        exact mjoin_up hne hw2
    · rw [if_neg hz] at hA
      have hB := ct_M_gossip (L := N) (n := n) I h.1.1.2.1 (by omega) ha hb hc hbc
      rw [if_neg (by rw [← (hC _ hx).2.1.1, ← (hC _ hy).2.1.1]; exact hz)] at hB
      exact okk_same ⟨n, T, k, d, h⟩ hA hB
  · exact okk_same ⟨n, T, k, d, h⟩ (ct_Q_gossip0 I h0) (ct_M_gossip0 I h0)
