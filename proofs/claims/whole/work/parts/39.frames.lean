/-! What stays when other cells change; the calls that touch neither log nor copies. -/
theorem mg_fr {I I' : qI} (h5 : I' 45 = I 45) (h6 : I' 46 = I 46) (h8 : I' 48 = I 48) : mg I' = mg I := by funext l; unfold mg; rw [h5, h6, h8]
theorem mep_fr {I I' : qI} (h5 : I' 45 = I 45) (h8 : I' 48 = I 48) : mep I' = mep I := by funext t l; unfold mep; rw [h5, h8]
theorem mfp_fr {I I' : qI} (h5 : I' 45 = I 45) (h6 : I' 46 = I 46) (h8 : I' 48 = I 48) : mfp I' = mfp I := by funext t k l; unfold mfp; rw [h5, h6, h8]
theorem ckc_fr {I I' : qI} (h5 : I' 45 = I 45) (h6 : I' 46 = I 46) (h8 : I' 48 = I 48) : ckc I' = ckc I := by funext m t; unfold ckc; rw [mfp_fr h5 h6 h8]
theorem mct_fr {I I' : qI} (h : I' 54 = I 54) : mct I' = mct I := by funext t; unfold mct; rw [h]
theorem RL.fr {I I' : qI} {n T : Nat} (h : RL I n T) (h2 : I' 2 6 = I 2 6) (h44 : I' 44 0 = I 44 0) (hr : ∀ a, (3 ≤ a ∧ a ≤ 8) ∨ (45 ≤ a ∧ a ≤ 49) → I' a = I a) : RL I' n T := by
  unfold RL rec_ at *
  rw [h2, h44, hr 3 (by omega), hr 4 (by omega), hr 5 (by omega), hr 6 (by omega), hr 7 (by omega), hr 45 (by omega), hr 46 (by omega), hr 47 (by omega), hr 48 (by omega), hr 49 (by omega)]
  exact h
theorem RN.fr {I I' : qI} {n : Nat} (h : RN I n) (hr : ∀ a, (3 ≤ a ∧ a ≤ 8) ∨ (45 ≤ a ∧ a ≤ 49) → I' a = I a) : RN I' n := by
  unfold RN at *
  rw [mep_fr (hr 45 (by omega)) (hr 48 (by omega)), hr 8 (by omega)]
  exact h
theorem W9.fr {I I' : qI} {n : Nat} (h : W9 I n) (hr : ∀ a, (3 ≤ a ∧ a ≤ 8) ∨ (45 ≤ a ∧ a ≤ 49) → I' a = I a) : W9 I' n := by
  have e : pun I' = pun I := by funext m t; unfold pun; rw [mep_fr (hr 45 (by omega)) (hr 48 (by omega)), ckc_fr (hr 45 (by omega)) (hr 46 (by omega)) (hr 48 (by omega))]
  unfold W9 at *
  rw [e, hr 49 (by omega)]
  exact h
theorem RT.fr {I I' : qI} {T : Nat} (h : RT I T) (h44 : I' 44 12 = I 44 12) (hr : ∀ a, (9 ≤ a ∧ a ≤ 11) ∨ a = 54 ∨ a = 55 → I' a = I a) : RT I' T := by
  unfold RT at *
  rw [mct_fr (hr 54 (by omega)), h44, hr 9 (by omega), hr 10 (by omega), hr 11 (by omega), hr 54 (by omega), hr 55 (by omega)]
  exact h
theorem RC.fr {I I' : qI} {n : Nat} (h : RC I n) (hr : ∀ a, (15 ≤ a ∧ a ≤ 40) ∨ (50 ≤ a ∧ a ≤ 53) → I' a = I a) : RC I' n := by
  intro x hx
  have hb := cp_bd hx
  rw [hr (cp x) (by omega), hr (cp x + 1) (by omega), hr 50 (by omega), hr 51 (by omega), hr 52 (by omega), hr 53 (by omega)]
  exact h x hx
theorem RH.fr {I I' : qI} {k : Nat} (h : RH I k) (h44 : I' 44 16 = I 44 16) (hr : ∀ a, a = 41 ∨ a = 42 ∨ a = 56 → I' a = I a) : RH I' k := by
  unfold RH at *
  rw [h44, hr 41 (by omega), hr 42 (by omega), hr 56 (by omega)]
  exact h
theorem RX.fr {I I' : qI} {n d : Nat} (h : RX I n d) (h1 : I' 44 10 = I 44 10) (h2 : I' 44 11 = I 44 11) (hr : ∀ a, a = 1 ∨ a = 43 ∨ a = 49 ∨ a = 53 ∨ a = 57 → I' a = I a) : RX I' n d := by
  unfold RX at *
  rw [h1, h2, hr 1 (by omega), hr 43 (by omega), hr 49 (by omega), hr 53 (by omega), hr 57 (by omega)]
  exact h
theorem W3.fr {I I' : qI} {n : Nat} (h : W3 I n) (hr : ∀ a, (45 ≤ a ∧ a ≤ 50) ∨ a = 53 → I' a = I a) : W3 I' n := by
  unfold W3 at *
  rw [mg_fr (hr 45 (by omega)) (hr 46 (by omega)) (hr 48 (by omega)), hr 50 (by omega), hr 53 (by omega)]
  exact h
theorem W4.fr {I I' : qI} {d : Nat} (h : W4 I d) (hr : ∀ a, (45 ≤ a ∧ a ≤ 51) → I' a = I a) : W4 I' d := by
  have e : lck I' = lck I := by funext g l c; unfold lck; rw [hr 50 (by omega), hr 51 (by omega)]
  unfold W4 at *
  rw [mg_fr (hr 45 (by omega)) (hr 46 (by omega)) (hr 48 (by omega)), e]
  exact h
theorem W6.fr {I I' : qI} {T : Nat} (h : W6 I T) (h4 : I' 54 = I 54) (h5 : I' 55 = I 55) : W6 I' T := by unfold W6 at *; rw [h4, h5]; exact h
theorem W7.fr {I I' : qI} {n T : Nat} (h : W7 I n T) (h4 : I' 54 = I 54) (h5 : I' 45 = I 45) (h8 : I' 48 = I 48) : W7 I' n T := by unfold W7 at *; rw [h4, mep_fr h5 h8]; exact h
theorem W8.fr {I I' : qI} {n : Nat} (h : W8 I n) (h1 : I' 44 10 = 0 → I 44 10 = 0) (hr : ∀ a, (45 ≤ a ∧ a ≤ 48) ∨ a = 54 ∨ a = 55 → I' a = I a) : W8 I' n := by
  intro hz
  have := h (h1 hz)
  rw [mep_fr (hr 45 (by omega)) (hr 48 (by omega)), hr 45 (by omega), hr 46 (by omega), hr 48 (by omega), hr 54 (by omega), hr 55 (by omega)]
  exact this
theorem W10.fr {I I' : qI} {n T : Nat} (h : W10 I n T) (h1 : I' 44 10 = 0 → I 44 10 = 0) (hr : ∀ a, (45 ≤ a ∧ a ≤ 48) ∨ a = 54 → I' a = I a) : W10 I' n T := by
  intro hz
  have e : pac I' = pac I := by funext m t; unfold pac; rw [ckc_fr (hr 45 (by omega)) (hr 46 (by omega)) (hr 48 (by omega)), hr 54 (by omega)]
  rw [e]
  exact h (h1 hz)
theorem ok_follow {N : Nat} (I : qI) (hI : Inv I) (r : Int) : okk Inv N 1 0 M_Q_follow M_M_follow [.inl r] I := by
  obtain ⟨n, T, k, d, h⟩ := hI
  by_cases h0 : 0 ≤ r ∧ r < 2
  · obtain ⟨q, rfl⟩ : ∃ q : Nat, r = (q : Int) := ⟨r.toNat, by omega⟩
    have hq : q < 2 := by omega
    have hX := h.2.2.2.2.2.1
    have hu := up_iff hX
    have hA := ct_Q_follow (L := N) I hq
    by_cases hz : I 1 5 = 0
    · rw [if_pos hz] at hA
      have hB := ct_M_follow (L := N) I hq
      rw [if_pos (hu.mp hz)] at hB
      exact okk_same ⟨n, T, k, d, h⟩ hA hB
    · rw [if_neg hz, hX.2.1.1] at hA
      have hB := ct_M_follow (L := N) (q_up I 43 q d) hq
      have e44 : q_up I 43 q (d : Int) 44 = I 44 := q_up_off 44 (by decide)
      rw [e44, if_neg (fun z => hz (hu.mpr z)), hX.2.1.2.1] at hB
      refine ⟨(d : Int), q_up I 43 q d, q_up (q_up I 43 q d) 57 q d, hA, hB, ⟨n, T, k, d, ?_⟩, q_up_off 0 (by decide), by rw [q_up_off 0 (by decide), q_up_off 0 (by decide)]⟩
      have off : ∀ a, a ≠ 43 → a ≠ 57 → q_up (q_up I 43 q d) 57 q d a = I a := fun a h1 h2 => by rw [q_up_off a h2, q_up_off a h1]
      generalize hJ : q_up (q_up I 43 q d) 57 q d = J at off ⊢
      obtain ⟨hL, hN, hT, hC, hH, -, w3, w4, w6, w7, w8, w9, w10⟩ := h
      refine ⟨hL.fr (by rw [off 2 (by decide) (by decide)]) (by rw [off 44 (by decide) (by decide)]) (fun a ha => off a (by omega) (by omega)), hN.fr (fun a ha => off a (by omega) (by omega)), hT.fr (by rw [off 44 (by decide) (by decide)]) (fun a ha => off a (by omega) (by omega)), hC.fr (fun a ha => off a (by omega) (by omega)), hH.fr (by rw [off 44 (by decide) (by decide)]) (fun a ha => off a (by omega) (by omega)), ?_,
        w3.fr (fun a ha => off a (by omega) (by omega)), w4.fr (fun a ha => off a (by omega) (by omega)), w6.fr (off 54 (by decide) (by decide)) (off 55 (by decide) (by decide)), w7.fr (off 54 (by decide) (by decide)) (off 45 (by decide) (by decide)) (off 48 (by decide) (by decide)), w8.fr (by rw [off 44 (by decide) (by decide)]; exact id) (fun a ha => off a (by omega) (by omega)), w9.fr (fun a ha => off a (by omega) (by omega)), w10.fr (by rw [off 44 (by decide) (by decide)]; exact id) (fun a ha => off a (by omega) (by omega))⟩
      refine ⟨by rw [off 44 (by decide) (by decide), off 1 (by decide) (by decide), off 53 (by decide) (by decide)]; exact hX.1, by rw [off 44 (by decide) (by decide), off 1 (by decide) (by decide), off 49 (by decide) (by decide)]; exact hX.2.1, fun r hr => ?_⟩
      rw [← hJ]
      by_cases hrq : r = q
      · subst hrq
        exact ⟨by simp [q_up], d, Nat.le_refl _, by simp [q_up]⟩
      · have := hX.2.2 r hr
        simpa [q_up, hrq] using this
  · exact okk_same ⟨n, T, k, d, h⟩ (ct_Q_follow0 I h0) (ct_M_follow0 I h0)
