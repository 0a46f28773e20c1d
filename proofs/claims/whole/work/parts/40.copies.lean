/-! The calls that change copies: collect, gossip, report, deliver, fault. -/
/-- the reference's rows alone -/
def rm (I : qI) : qI := fun a => if a < 44 then fun _ => 0 else I a
theorem rm_eq {I1 I : qI} (h : ∀ a, 44 ≤ a → I1 a = I a) : rm I1 = rm I := by
  funext a
  unfold rm
  split
  · rfl
  · exact h a (by omega)
theorem INV.copies {I J : qI} {n T k d d' : Nat} (h : INV I n T k d) (off : ∀ a, a ≠ 1 → ¬ (15 ≤ a ∧ a ≤ 40) → a ≠ 44 → ¬ (50 ≤ a ∧ a ≤ 53) → J a = I a) (h44 : ∀ j, j ≠ 11 → J 44 j = I 44 j) (h15 : J 1 5 = I 1 5) (h53 : ∀ x, x < 12 → I 44 10 = 0 ∨ J 53 x = I 53 x ∨ J 53 x = 0) (hC : RC J n) (hd1 : J 1 6 = (d' : Int)) (hd2 : J 44 11 = (d' : Int)) (dd : d ≤ d') (dn : d' ≤ n) (dc : d' = 0 ∨ I 49 d' ≠ 0) (w3 : W3 J n) (w4 : W4 J d') : INV J n T k d' := by
  obtain ⟨hL, hN, hT, -, hH, hX, -, -, w6, w7, w8, w9, w10⟩ := h
  have o : ∀ a, (2 ≤ a ∧ a ≤ 11) ∨ (41 ≤ a ∧ a ≤ 43) ∨ (45 ≤ a ∧ a ≤ 49) ∨ (54 ≤ a) → J a = I a := fun a ha => off a (by omega) (by omega) (by omega) (by omega)
  refine ⟨hL.fr (by rw [o 2 (by omega)]) (h44 0 (by decide)) (fun a ha => o a (by omega)), hN.fr (fun a ha => o a (by omega)), hT.fr (h44 12 (by decide)) (fun a ha => o a (by omega)), hC, hH.fr (h44 16 (by decide)) (fun a ha => o a (by omega)), ?_,
    w3, w4, w6.fr (o 54 (by omega)) (o 55 (by omega)), w7.fr (o 54 (by omega)) (o 45 (by omega)) (o 48 (by omega)), w8.fr (by rw [h44 10 (by decide)]; exact id) (fun a ha => o a (by omega)), w9.fr (fun a ha => o a (by omega)), w10.fr (by rw [h44 10 (by decide)]; exact id) (fun a ha => o a (by omega))⟩
  have hx1 : (J 44 10 = 0 ∧ J 1 5 = 1) ∨ (J 44 10 = 1 ∧ J 1 5 = 0 ∧ ∀ x, x < 12 → J 53 x = 0) := by
    rw [h44 10 (by decide), h15]
    rcases hX.1 with z | ⟨z1, z2, z3⟩
    · exact Or.inl z
    · refine Or.inr ⟨z1, z2, fun x hx => ?_⟩
      have := z3 x hx
      rcases h53 x hx with w | w | w
      · omega
      · rw [w]; exact this
      · exact w
  refine ⟨hx1, ⟨hd1, hd2, dn, by rw [o 49 (by omega)]; exact dc⟩, fun r hr => ?_⟩
  rw [o 43 (by omega), o 57 (by omega)]
  obtain ⟨e, v, h1, h2⟩ := hX.2.2 r hr
  exact ⟨e, v, by omega, h2⟩
theorem inv_mw1 {I I1 : qI} {n T k d : Nat} (h : INV I n T k d) (h1 : ∀ a, 44 ≤ a → I1 a = I a) : mw I1 n T k d := by
  have := h.mw
  have e : mg I1 = mg I := mg_fr (h1 45 (by omega)) (h1 46 (by omega)) (h1 48 (by omega))
  unfold mw at *
  rw [e, h1 44 (by omega), h1 56 (by omega), h1 52 (by omega), h1 57 (by omega), h1 47 (by omega)]
  exact this
theorem mlw_fr {I I' : qI} {v : Nat} (h5 : I' 45 = I 45) (h8 : I' 48 = I 48) : ∀ l, mlw I' v l = mlw I v l
  | 0 => rfl
  | l + 1 => by rw [mlw, mlw, mlw_fr h5 h8 l, mep_fr h5 h8, h5]
theorem lim_eq {I : qI} {n T x d v0 v1 : Nat} (hL : RL I n T) (hN : RN I n) (hT : T ≤ 60) (hC : RC I n) (hx : x < 12) (hd : d ≤ n) (h0 : v0 ≤ n) (h1 : v1 ≤ n) : aLim I x n d v0 v1 = bLim I x n d v0 v1 := by
  unfold aLim bLim
  rw [e_pt hL hC hx, e_low hL hN hT hd, e_low hL hN hT h0, e_low hL hN hT h1]
  unfold nmin
  generalize mpt I x n = q1
  generalize mlw I d d = q2
  generalize mlw I v0 v0 = q3
  generalize mlw I v1 v1 = q4
  repeat' split
  all_goals omega
theorem ok_collect {N : Nat} (I : qI) (hI : Inv I) (g c : Int) : okk Inv N 2 2 M_Q_collect M_M_collect [.inl g, .inl c] I := by
  obtain ⟨n, T, k, d, h⟩ := hI
  by_cases h0 : isC g c
  · obtain ⟨a, b, ha, hb, rfl, rfl⟩ := isC_nat h0
    have hx : 6 * a + b < 12 := by omega
    have hcb := cp_bd hx
    have hX := h.2.2.2.2.2.1
    have hC := h.2.2.2.1
    have hdn := hX.2.1.2.2.1
    obtain ⟨f0, v0, g0, e0⟩ := hX.2.2 0 (by omega)
    obtain ⟨f1, v1, g1, e1⟩ := hX.2.2 1 (by omega)
    have hA := ct_Q_collect (L := N) I h.cw ha hb (v0 := v0) (v1 := v1) (by rw [f0]; exact e0) (by rw [f1]; exact e1) ⟨by omega, by omega⟩
    have hu := up_iff hX
    have hcr : qcr I (6 * a + b) = mcr I (6 * a + b) := by
      unfold qcr mcr
      rw [(hC _ hx).2.1.1]
      by_cases hz : I 1 5 = 0
      · rw [if_pos hz, if_pos (hu.mp hz)]
      · rw [if_neg hz, if_neg (fun z => hz (hu.mpr z))]
    by_cases hz : qcr I (6 * a + b) = 0
    · rw [if_pos hz] at hA
      have el : aLim I (6 * a + b) n d v0 v1 = bLim I (6 * a + b) n d v0 v1 := lim_eq h.1 h.2.1 h.2.2.1.1.2.2 hC hx hdn (by omega) (by omega)
      have b3 := nmin_le (nmin (nmin (mpt I (6 * a + b) n) (mlw I v0 v0)) (mlw I v1 v1)) (mlw I d d)
      have b2 := nmin_le (nmin (mpt I (6 * a + b) n) (mlw I v0 v0)) (mlw I v1 v1)
      have b1 := nmin_le (mpt I (6 * a + b) n) (mlw I v0 v0)
      have b4 := mpt_le (I := I) (x := 6 * a + b) (n := n)
      have hlim : bLim I (6 * a + b) n d v0 v1 ≤ n := by unfold bLim; omega
      have en : qn (ckp I (6 * a + b)) (bLim I (6 * a + b) n d v0 v1) = qn (mkp I (6 * a + b)) (bLim I (6 * a + b) n d v0 v1) := qn_congr fun l p q => e_kp hC hx p (by omega)
      rw [el, en, (hC _ hx).2.2.1.1] at hA
      have h1 : ∀ q, 44 ≤ q → q_up I (cp (6 * a + b)) 3 (qmax (I 52 (6 * a + b)) (bLim I (6 * a + b) n d v0 v1)) q = I q := fun q hq => q_up_off q (by omega)
      generalize hI1 : q_up I (cp (6 * a + b)) 3 (qmax (I 52 (6 * a + b)) (bLim I (6 * a + b) n d v0 v1)) = I1 at h1 hA
      have hB := ct_M_collect (L := N) I1 (inv_mw1 h h1) ha hb (v0 := v0) (v1 := v1) (by rw [h1 57 (by omega)]; exact e0) (by rw [h1 57 (by omega)]; exact e1) ⟨by omega, by omega⟩
      have er := rm_eq h1
      have q1 : mcr I1 (6 * a + b) = mcr I (6 * a + b) := by show mcr (rm I1) (6 * a + b) = mcr (rm I) (6 * a + b); rw [er]
      have q4 : mpt I1 (6 * a + b) n = mpt I (6 * a + b) n := by show mpt (rm I1) (6 * a + b) n = mpt (rm I) (6 * a + b) n; rw [er]
      have q5 : ∀ v l, mlw I1 v l = mlw I v l := fun v l => mlw_fr (h1 45 (by omega)) (h1 48 (by omega)) l
      have q2 : bLim I1 (6 * a + b) n d v0 v1 = bLim I (6 * a + b) n d v0 v1 := by unfold bLim; rw [q4, q5, q5, q5]
      have q3 : mkp I1 = mkp I := by show mkp (rm I1) = mkp (rm I); rw [er]
      rw [q1, ← hcr, if_pos hz, q2, q3, h1 52 (by omega)] at hB
      obtain ⟨fo, hfo1, hfo2⟩ := (hC _ hx).2.2.1.2
      have hv : ∃ v : Nat, v ≤ 187 ∧ qmax (I 52 (6 * a + b)) (bLim I (6 * a + b) n d v0 v1) = (v : Int) := by
        have := h.1.1.2.2
        unfold qmax
        split
        · exact ⟨_, by omega, rfl⟩
        · exact ⟨fo, hfo1, hfo2⟩
      obtain ⟨v, hv1, hv2⟩ := hv
      rw [hv2] at hI1 hB
      refine ⟨_, I1, q_up I1 52 (6 * a + b) v, hA, hB, ⟨n, T, k, d, ?_⟩, by rw [← hI1]; exact q_up_off 0 (by omega), by rw [q_up_off 0 (by decide), ← hI1]; exact q_up_off 0 (by omega)⟩
      have off : ∀ q, q ≠ cp (6 * a + b) → q ≠ 52 → q_up I1 52 (6 * a + b) (v : Int) q = I q := fun q z1 z2 => by rw [q_up_off q z2, ← hI1, q_up_off q z1]
      refine h.copies (d' := d) (fun q _ z _ z2 => off q (by omega) (by omega)) (fun j _ => by rw [off 44 (by omega) (by decide)]) (by rw [off 1 (by omega) (by decide)]) (fun _ _ => Or.inr (Or.inl (by rw [off 53 (by omega) (by decide)]))) ?_ (by rw [off 1 (by omega) (by decide)]; exact hX.2.1.1) (by rw [off 44 (by omega) (by decide)]; exact hX.2.1.2.1) (Nat.le_refl _) hdn hX.2.1.2.2.2 (h.2.2.2.2.2.2.1.fr (fun q hq => off q (by omega) (by omega))) (h.2.2.2.2.2.2.2.1.fr (fun q hq => off q (by omega) (by omega)))
      intro y hy
      have hcy := cp_bd hy
      have c1 : q_up I1 52 (6 * a + b) (v : Int) (cp y + 1) = I (cp y + 1) := off _ (fun z => cp_ne z.symm) (by omega)
      rw [c1, off 50 (by omega) (by decide), off 51 (by omega) (by decide), off 53 (by omega) (by decide)]
      have key : ∀ j, j ≠ 3 → q_up I1 52 (6 * a + b) (v : Int) (cp y) j = I (cp y) j := fun j hj => by
        rw [q_up_off _ (show cp y ≠ 52 by omega), ← hI1]
        simp [q_up, hj]
      rw [key 0 (by decide), key 2 (by decide), key 4 (by decide)]
      obtain ⟨t1, t2, t3, t4⟩ := hC y hy
      refine ⟨t1, t2, ?_, t4⟩
      by_cases hyx : y = 6 * a + b
      · subst hyx
        refine ⟨?_, v, hv1, by simp [q_up]⟩
        rw [q_up_off _ (show cp (6 * a + b) ≠ 52 by omega), ← hI1]
        simp [q_up]
      · have hne : cp y ≠ cp (6 * a + b) := fun z => hyx (cp_inj z)
        have e52 : q_up I1 52 (6 * a + b) (v : Int) 52 y = I 52 y := by
          have : q_up I1 52 (6 * a + b) (v : Int) 52 y = I1 52 y := by simp [q_up, hyx]
          rw [this, h1 52 (by omega)]
        have ecp : q_up I1 52 (6 * a + b) (v : Int) (cp y) 3 = I (cp y) 3 := by rw [q_up_off _ (show cp y ≠ 52 by omega), ← hI1, q_up_off _ hne]
        rw [ecp, e52]
        exact t3
    · rw [if_neg hz] at hA
      have hB := ct_M_collect (L := N) I h.mw ha hb (v0 := v0) (v1 := v1) e0 e1 ⟨by omega, by omega⟩
      rw [← hcr, if_neg hz] at hB
      exact okk_same ⟨n, T, k, d, h⟩ hA hB
  · exact okk_same ⟨n, T, k, d, h⟩ (ct_Q_collect0 I h0) (ct_M_collect0 I h0)
