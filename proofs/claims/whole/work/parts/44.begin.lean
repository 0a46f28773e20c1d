/-! How far the log can grow; begin. -/
theorem psum_le {f g : Nat → Nat} : ∀ {T : Nat}, (∀ t, 1 ≤ t → t ≤ T → f t ≤ g t) → psum f T ≤ psum g T
  | 0, _ => Nat.le_refl _
  | T + 1, h => Nat.add_le_add (psum_le (T := T) (fun t a b => h t a (by omega))) (h (T + 1) (by omega) (Nat.le_refl _))
theorem psum_congr {f g : Nat → Nat} : ∀ {T : Nat}, (∀ t, 1 ≤ t → t ≤ T → f t = g t) → psum f T = psum g T
  | 0, _ => rfl
  | T + 1, h => by rw [psum, psum, psum_congr (T := T) (fun t a b => h t a (by omega)), h (T + 1) (by omega) (Nat.le_refl _)]
theorem psum_add (f g : Nat → Nat) : ∀ T, psum (fun t => f t + g t) T = psum f T + psum g T
  | 0 => rfl
  | T + 1 => by rw [psum, psum, psum, psum_add f g T]; omega
theorem psum_zero {f : Nat → Nat} : ∀ {T : Nat}, (∀ t, 1 ≤ t → t ≤ T → f t = 0) → psum f T = 0
  | 0, _ => rfl
  | T + 1, h => by rw [psum, psum_zero (T := T) (fun t a b => h t a (by omega)), h (T + 1) (by omega) (Nat.le_refl _)]
theorem psum_ext {f : Nat → Nat} {T : Nat} : ∀ {S : Nat}, T ≤ S → (∀ t, T < t → t ≤ S → f t = 0) → psum f S = psum f T
  | 0, h, _ => by rw [show T = 0 by omega]
  | S + 1, h, hf => by
    by_cases e : T = S + 1
    · rw [e]
    · rw [psum, psum_ext (S := S) (by omega) (fun t a b => hf t a (by omega)), hf (S + 1) (by omega) (Nat.le_refl _)]; rfl
theorem psum_one (x : Int) : ∀ T : Nat, psum (fun t => if decide (x = (t : Int)) = true then 1 else 0) T ≤ 1
  | 0 => Nat.zero_le _
  | T + 1 => by
    have h := psum_one x T
    rw [psum]
    by_cases e : x = ((T + 1 : Nat) : Int)
    · have z : psum (fun t => if decide (x = (t : Int)) = true then 1 else 0) T = 0 := psum_zero fun t a b => by
        rw [decide_eq_false (by omega)]; rfl
      rw [z, decide_eq_true e]
      exact Nat.le_refl _
    · rw [decide_eq_false e]
      exact h
theorem psum_keys (F : Nat → Int) (T : Nat) : ∀ m, psum (fun t => qz (fun k => decide (F k = (t : Int))) m) T ≤ m
  | 0 => by
    have z : psum (fun t => qz (fun k => decide (F k = (t : Int))) 0) T = 0 := psum_zero fun _ _ _ => rfl
    omega
  | m + 1 => by
    have h1 := psum_keys F T m
    have h2 := psum_one (F m) T
    have h3 := psum_add (fun t => qz (fun k => decide (F k = (t : Int))) m) (fun t => if decide (F m = (t : Int)) = true then 1 else 0) T
    have h4 : psum (fun t => qz (fun k => decide (F k = (t : Int))) (m + 1)) T = psum (fun t => qz (fun k => decide (F k = (t : Int))) m + (if decide (F m = (t : Int)) = true then 1 else 0)) T := rfl
    rw [h4, h3]
    omega
theorem psum_qn (p : Nat → Bool) : ∀ T, psum (fun t => if p t = true then 1 else 0) T = qn p T
  | 0 => rfl
  | T + 1 => by rw [psum, qn, psum_qn p T]
/-- while the system is up the active ones have changed 32 keys at most -/
theorem pac_le {I : qI} {n T : Nat} (up : I 44 10 = 0) (w7 : W7 I n T) (w8 : W8 I n) (h4 : qn (mct I) T ≤ 4) : psum (pac I n) T ≤ 36 := by
  have h1 := psum_keys (I 55) T 32
  have h2 := psum_qn (mct I) T
  have h3 := psum_add (fun t => qz (fun k => decide (I 55 k = (t : Int))) 32) (fun t => if mct I t = true then 1 else 0) T
  have h5 : psum (pac I n) T ≤ psum (fun t => qz (fun k => decide (I 55 k = (t : Int))) 32 + (if mct I t = true then 1 else 0)) T := by
    refine psum_le fun t a b => ?_
    unfold pac
    by_cases ht : I 54 t ≠ 0
    · have e : mct I t = true := by unfold mct; exact decide_eq_true ht
      rw [if_pos ht, if_pos e]
      refine Nat.add_le_add_right (qz_mono fun k hk z => ?_) 1
      have z := of_decide_eq_true z
      rcases qf_has (p := mfp I t k) (f := n) (l := 1) with q | ⟨q1, q2, q3⟩
      · exact absurd q z
      · obtain ⟨r1, r2, r3⟩ := mfp_iff.mp q1
        have := (w8 up _ q2 (by omega) r2 (by rw [r1]; exact w7 t a b ht)).2
        rw [r1, r3] at this
        exact decide_eq_true this
    · rw [if_neg ht]
      exact Nat.zero_le _
  omega
theorem no_rec {I : qI} {n T : Nat} {t : Int} (hL : RL I n T) (ht : (T : Int) < t ∨ t < 1) : ∀ m, m ≤ n → (∀ k, qf (mfp I t k) m 1 = 0) ∧ qf (mep I t) m 1 = 0 := by
  intro m hm
  refine ⟨fun k => qf_zero fun i a b => ?_, qf_zero fun i a b => ?_⟩
  · have := (hL.2 i a (by omega)).2.1
    rw [← Bool.not_eq_true]
    intro z
    have := (mfp_iff.mp z).1
    omega
  · have := (hL.2 i a (by omega)).2.1
    rw [← Bool.not_eq_true]
    intro z
    have := (mep_iff.mp z).1
    omega
theorem ckc_zero {I : qI} {m t : Nat} (h : ∀ k : Nat, k < 32 → qf (mfp I t k) m 1 = 0) : ckc I m t = 0 := by
  unfold ckc
  have : ∀ n, n ≤ 32 → qz (fun k => decide (qf (mfp I t k) m 1 ≠ 0)) n = 0 := by
    intro n
    induction n with
    | zero => exact fun _ => rfl
    | succ n ih =>
      intro hn
      rw [qz, ih (by omega), h n (by omega)]
      rfl
  exact this 32 (Nat.le_refl _)
/-- at the log's end what is unended is active -/
theorem pun_le {I : qI} {n T : Nat} (up : I 44 10 = 0) (hL : RL I n T) (hT : T ≤ 60) (w8 : W8 I n) : psum (pun I n) 60 ≤ psum (pac I n) T := by
  have e : psum (pun I n) 60 = psum (pun I n) T := psum_ext hT fun t a b => by
    unfold pun
    rw [if_neg]
    rintro ⟨-, z⟩
    exact z (ckc_zero fun k _ => (no_rec hL (by omega) n (Nat.le_refl _)).1 k)
  rw [e]
  refine psum_le fun t a b => ?_
  unfold pun pac
  by_cases h : qf (mep I t) n 1 = 0 ∧ ckc I n t ≠ 0
  · rw [if_pos h, if_pos]
    · exact Nat.le_refl _
    · have hp : 0 < ckc I n t := by have := h.2; omega
      unfold ckc at hp
      obtain ⟨k, hk, z⟩ := qz_pos hp
      have z := of_decide_eq_true z
      rcases qf_has (p := mfp I t k) (f := n) (l := 1) with q | ⟨q1, q2, q3⟩
      · exact absurd q z
      · obtain ⟨r1, r2, r3⟩ := mfp_iff.mp q1
        have := (w8 up _ q2 (by omega) r2 (by rw [r1]; exact h.1)).1
        rw [r1] at this
        exact this
  · rw [if_neg h]
    exact Nat.zero_le _
theorem ok_begin {N : Nat} (I : qI) (hI : Inv I) : okk Inv N 1 0 M_Q_begin M_M_begin [] I := by
  obtain ⟨n, T, k, d, h⟩ := hI
  have hX := h.2.2.2.2.2.1
  have hT := h.2.2.1
  have hu := up_iff hX
  have hA := ct_Q_begin (L := N) I h.cw
  have hB := ct_M_begin (L := N) (n := n) (T := T) I h.1.1.2.1 hT.1.2.1 hT.1.2.2
  unfold aBegin at hA
  unfold bBegin at hB
  by_cases hz : I 1 5 = 0
  · rw [if_pos hz] at hA
    rw [if_pos (hu.mp hz)] at hB
    exact okk_same ⟨n, T, k, d, h⟩ hA hB
  · rw [if_neg hz] at hA
    have hz' : ¬ ¬ I 44 10 = 0 := fun z => hz (hu.mpr z)
    rw [if_neg hz'] at hB
    have q4 := hT.2.2.1.2
    have q3 := hT.2.2.1.1
    have q6 := hT.1.2.2
    by_cases hf : qn (mct I) T = 4 ∨ T = 60 ∨ 150 ≤ n
    · rw [if_pos (by omega)] at hA
      rw [if_pos hf] at hB
      exact okk_same ⟨n, T, k, d, h⟩ hA hB
    · rw [if_neg (by omega)] at hA
      have hlow : agr (tst I T) I := fun q hq => by unfold tst; rw [q_up_off q (by omega), q_up_off q (by omega), q_up_off q (by omega)]
      have hloc : loc (fun I => mst I T) := (loc_up (a := 44) (j := 12) (v := fun _ => ((T + 1 : Nat) : Int)) (by omega) (fun _ _ _ => rfl)).comp (loc_up (a := 54) (j := T + 1) (v := fun _ => 1) (by omega) (fun _ _ _ => rfl))
      refine okk_fin (A1 := tst I T) (F := fun I => mst I T) hA hlow (by unfold tst; rw [q_up_off 0 (by omega), q_up_off 0 (by omega), q_up_off 0 (by omega)]) hloc ?_ ⟨n, T + 1, k, d, ?_⟩
      · have hB := ct_M_begin (L := N) (n := n) (T := T) (tst I T) (by rw [hlow 44 (by omega)]; exact h.1.1.2.1) (by rw [hlow 44 (by omega)]; exact hT.1.2.1) hT.1.2.2
        unfold bBegin at hB
        rw [hlow 44 (by omega), if_neg hz', mct_fr (hlow 54 (by omega)), if_neg hf] at hB
        exact hB
      · have off : ∀ q, q ≠ 9 → q ≠ 10 → q ≠ 44 → q ≠ 54 → mrg (tst I T) (mst I T) q = I q := by
          intro q h1 h2 h3 h4
          by_cases hq : q < 44
          · rw [mrg_lo hq]; unfold tst; rw [q_up_off q h1, q_up_off q h2, q_up_off q h1]
          · rw [mrg_hi (by omega)]; unfold mst; rw [q_up_off q h4, q_up_off q h3]
        have e44 : ∀ j, mrg (tst I T) (mst I T) 44 j = if j = 12 then ((T + 1 : Nat) : Int) else I 44 j := by
          intro j
          rw [mrg_hi (by decide)]
          unfold mst
          rw [q_up_off 44 (by decide)]
          by_cases e : j = 12 <;> simp [q_up, e]
        have e54 : ∀ j, mrg (tst I T) (mst I T) 54 j = if j = T + 1 then 1 else I 54 j := by
          intro j
          rw [mrg_hi (by decide)]
          unfold mst
          by_cases e : j = T + 1 <;> simp [q_up, e]
        have e10 : ∀ j, mrg (tst I T) (mst I T) 10 j = if j = T + 1 then 1 else I 10 j := by
          intro j
          rw [mrg_lo (by decide)]
          unfold tst
          rw [q_up_off 10 (by decide)]
          by_cases e : j = T + 1 <;> simp [q_up, e]
        have e92 : mrg (tst I T) (mst I T) 9 2 = ((T + 1 : Nat) : Int) := by
          rw [mrg_lo (by decide)]
          simp [tst, q_up]
        have e93 : mrg (tst I T) (mst I T) 9 3 = I 9 3 + 1 := by
          rw [mrg_lo (by decide)]
          simp [tst, q_up]
        generalize mrg (tst I T) (mst I T) = J at off e44 e54 e10 e92 e93
        have o : ∀ a, (1 ≤ a ∧ a ≤ 8) ∨ (11 ≤ a ∧ a ≤ 43) ∨ (45 ≤ a ∧ a ≤ 53) ∨ (55 ≤ a) → J a = I a := fun a ha => off a (by omega) (by omega) (by omega) (by omega)
        obtain ⟨hL, hN, -, hC, hH, -, w3, w4, w6, w7, w8, w9, w10⟩ := h
        have hL' : RL J n T := hL.fr (by rw [o 2 (by omega)]) (by rw [e44]; rfl) (fun a ha => o a (by omega))
        have em : mep J = mep I := mep_fr (o 45 (by omega)) (o 48 (by omega))
        have w7' : W7 J n (T + 1) := by
          intro t a b c
          by_cases e : t = T + 1
          · subst e
            exact (no_rec hL' (by omega) n (Nat.le_refl _)).2
          · rw [em]
            rw [e54, if_neg e] at c
            exact w7 t a (by omega) c
        have w8' : W8 J n := by
          intro z l l1 l2
          rw [e44] at z
          rw [em, o 45 (by omega), o 46 (by omega), o 48 (by omega), o 55 (by omega), e54]
          intro z1 z2
          have := w8 z l l1 l2 z1 z2
          have hb := (hL.2 l l1 l2).2.1
          rw [if_neg (by omega)]
          exact this
        have hq : qn (mct J) (T + 1) = qn (mct I) T + 1 := by
          rw [qn, qn_congr (p := mct J) (q := mct I) (fun t a b => by unfold mct; rw [e54, if_neg (by omega)])]
          have : mct J (T + 1) = true := by unfold mct; rw [e54, if_pos rfl]; rfl
          rw [this]
          rfl
        refine ⟨⟨hL'.1, fun l a b => ?_⟩, hN.fr (fun a ha => o a (by omega)), ⟨⟨e92, by rw [e44]; rfl, by omega⟩, fun t a b => ?_, ⟨by rw [e93, hq, q3]; rfl, by omega⟩, fun i hi => by rw [o 11 (by omega), o 55 (by omega)]; exact hT.2.2.2 i hi⟩, hC.fr (fun a ha => o a (by omega)), hH.fr (by rw [e44]; rfl) (fun a ha => o a (by omega)), hX.fr (by rw [e44]; rfl) (by rw [e44]; rfl) (fun a ha => o a (by omega)), w3.fr (fun a ha => o a (by omega)), w4.fr (fun a ha => o a (by omega)), ?_, w7', w8', w9.fr (fun a ha => o a (by omega)), fun z => ?_⟩
        · obtain ⟨r1, r2, r3⟩ := hL'.2 l a b
          exact ⟨r1, ⟨r2.1, by omega⟩, r3⟩
        · rw [e10, e54]
          by_cases e : t = T + 1
          · rw [if_pos e, if_pos e]; exact ⟨rfl, Or.inr rfl⟩
          · rw [if_neg e, if_neg e]; exact hT.2.1 t a (by omega)
        · intro i hi hne
          rw [o 55 (by omega)] at hne ⊢
          obtain ⟨t, t1, t2, t3, t4⟩ := w6 i hi hne
          exact ⟨t, t1, by omega, t3, by rw [e54, if_neg (by omega)]; exact t4⟩
        · have := pac_le z w7' w8' (by omega)
          omega
