/-! recover. -/
theorem crc_gtl {g n y N : Nat} (hg : g < 2) (hy : y < 12) : ∀ f c I, c + f ≤ 6 → crc (gtl g n f c I) y N = crc I y N
  | 0, _, _, _ => rfl
  | f + 1, c, I, hc => by
    rw [gtl, crc_gtl hg hy f (c + 1) _ (by omega)]
    split
    · exact crc_up4 (by omega) hy
    · rfl
def mfa : Nat → Nat → qI → qI
  | 0, _, B => B
  | f + 1, t, B => mfa f (t + 1) (if B 54 t = 0 then B else mfin0 B t)
theorem fin_all {T : Nat} : ∀ f t A B, t + f = T + 1 → 1 ≤ t → RT (mrg A B) T → W6 (mrg A B) T → (∀ s, 1 ≤ s → s < t → B 54 s = 0) → RT (mrg (tfa f t A) (mfa f t B)) T ∧ W6 (mrg (tfa f t A) (mfa f t B)) T ∧ ∀ s, 1 ≤ s → s ≤ T → mfa f t B 54 s = 0
  | 0, t, A, B, ht, h1, hT, h6, hz => ⟨hT, h6, fun s a b => hz s a (by omega)⟩
  | f + 1, t, A, B, ht, h1, hT, h6, hz => by
    rw [tfa, mfa]
    have e : A 10 t = B 54 t := by
      have := (hT.2.1 t h1 (by omega)).1
      rw [mrg_lo (by decide), mrg_hi (by decide)] at this
      exact this
    rw [e]
    by_cases c : B 54 t = 0
    · rw [if_pos c, if_pos c]
      exact fin_all f (t + 1) A B (by omega) (by omega) hT h6 (fun s a b => by
        by_cases es : s = t
        · rw [es]; exact c
        · exact hz s a (by omega))
    · rw [if_neg c, if_neg c]
      have hf : FIN (mrg A B) (mrg (tfin A t) (mfin0 B t)) t := by
        obtain ⟨f1, f2, f3, f4⟩ := tfin_spec A t
        obtain ⟨f5, f6⟩ := mfin0_spec B t
        unfold FIN
        rw [mrg_lo (a := 9) (by decide), mrg_lo (a := 10) (by decide), mrg_lo (a := 11) (by decide), mrg_hi (a := 54) (by decide), mrg_hi (a := 55) (by decide), mrg_lo (a := 9) (by decide), mrg_lo (a := 10) (by decide), mrg_lo (a := 11) (by decide), mrg_hi (a := 54) (by decide), mrg_hi (a := 55) (by decide)]
        exact ⟨f1, f2, f3, f4, f5, f6⟩
      obtain ⟨r1, r2⟩ := fin_rt hT h6 h1 (by omega) (by rw [mrg_hi (by decide)]; exact c) hf (by rw [mrg_hi (by decide), mrg_hi (by decide), mfin0_off (by decide) (by decide)])
      refine fin_all f (t + 1) _ _ (by omega) (by omega) r1 r2 (fun s a b => ?_)
      rw [(mfin0_spec B t).1]
      by_cases es : s = t
      · rw [if_pos es]
      · rw [if_neg es]; exact hz s a (by omega)
theorem mtl_hi {m : Nat} : ∀ f c (A B : qI), agr A B → agr (mtl m f c A) (mtl m f c B)
  | 0, _, _, _, h => h
  | f + 1, c, A, B, h => by
    rw [mtl, mtl, h 51 (by omega), h 53 (by omega), mpt_hi h]
    exact mtl_hi f (c + 1) _ _ (up_hi h)
theorem ms6_hi {A B : qI} {m T : Nat} (h : agr A B) : agr (ms6 A m T) (ms6 B m T) := by
  have h1 : agr (ms1 A m) (ms1 B m) := up_hi (up_hi h)
  have h3 : agr (ms3 A m) (ms3 B m) := loc_adv.hi (mtl_hi 12 0 _ _ h1)
  have h5 : agr (ms5 A m T) (ms5 B m T) := fun a ha => by
    funext j
    unfold ms5 ma0 mh0
    rw [h3 a ha]
  exact mru_hi T 1 _ _ h5
theorem ms6_lo {A : qI} {m T a : Nat} (ha : a < 44) : ms6 A m T a = A a := by
  unfold ms6
  rw [mru_lo ha]
  unfold ms5
  rw [ma0_off (by omega), mh0_off (by omega)]
  unfold ms3
  rw [madv_off (by omega), mtl_off (by omega)]
  unfold ms1
  rw [q_up_off a (by omega), q_up_off a (by omega)]
theorem rc3_off {I : qI} {m a : Nat} (h1 : a ≠ 1) (h2 : a ≠ 2) (h8 : a ≠ 8) (ha : a < 15 ∨ 40 < a) : rc3 I m a = I a := by
  unfold rc3
  rw [q_up_off a h1, lcut_off h2 h8, gdr_off ha (by omega), gdr_off ha (by omega)]
theorem rc_1 {I : qI} {n T k d m : Nat} (h : INV I n T k d) (hm : m ≤ n) : RL (mrg (rc3 I m) (ms1 I m)) m T ∧ RN (mrg (rc3 I m) (ms1 I m)) m ∧ RC (mrg (rc3 I m) (ms1 I m)) m := by
  obtain ⟨hL, hN, hT, hC, -⟩ := h
  have hn := hL.1.2.2
  have hi : ∀ a, 45 ≤ a → mrg (rc3 I m) (ms1 I m) a = I a := fun a ha => by
    rw [mrg_hi (by omega)]; unfold ms1; rw [q_up_off a (by omega), q_up_off a (by omega)]
  have lo : ∀ a, 3 ≤ a ∧ a ≤ 7 → mrg (rc3 I m) (ms1 I m) a = I a := fun a ha => by rw [mrg_lo (by omega), rc3_off (by omega) (by omega) (by omega) (by omega)]
  refine ⟨⟨⟨by rw [mrg_lo (by decide)]; exact rc3_n, by rw [mrg_hi (by decide)]; simp [ms1, q_up], by omega⟩, fun l a b => ?_⟩, fun t a b => ?_, rc2_rc fun x hx => ?_⟩
  · have := hL.2 l a (by omega)
    unfold rec_ at this ⊢
    rw [lo 3 (by omega), lo 4 (by omega), lo 5 (by omega), lo 6 (by omega), lo 7 (by omega), hi 45 (by omega), hi 46 (by omega), hi 47 (by omega), hi 48 (by omega), hi 49 (by omega)]
    exact this
  · rw [mep_fr (hi 45 (by omega)) (hi 48 (by omega)), mrg_lo (by decide)]
    have e8 : rc3 I m 8 t = if (m : Int) < I 8 t then 0 else I 8 t := by
      unfold rc3
      rw [q_up_off 8 (by decide)]
      unfold lcut lct
      rw [q_up_off 8 (by decide), gdr_off (Or.inl (by decide)) (by omega), gdr_off (Or.inl (by decide)) (by omega)]
      by_cases c : (m : Int) < I 8 t
      · rw [if_pos c, if_pos ⟨rfl, a, by omega, c⟩]
      · rw [if_neg c, if_neg (fun w => c w.2.2.2)]
    rw [e8, hN t a b]
    have := qf_le (p := mep I t) hm
    have hh := qf_has (p := mep I t) (f := m) (l := 1)
    by_cases c : qf (mep I t) m 1 = 0
    · rw [c]
      split
      · rfl
      · next w =>
        have : ¬ (qf (mep I t) n 1 ≠ 0 ∧ qf (mep I t) n 1 ≤ m) := fun z => this.mpr z c
        have : qf (mep I t) n 1 = 0 := by omega
        rw [this]
    · have h2 := this.mp c
      rw [if_neg (by omega)]
      have : qf (mep I t) n 1 = qf (mep I t) m 1 := by
        rcases hh with z | ⟨z1, z2, z3⟩
        · exact absurd z c
        · exact qf_eq z1 z2 (by omega) (fun i x y => qf_before (f := m) x y)
      rw [this]
  · have hb := cp_bd hx
    obtain ⟨t1, t2, t3, t4, t5, t6⟩ := hC x hx
    have o : ∀ a, 45 ≤ a → ms1 I m a = I a := fun a ha => by unfold ms1; rw [q_up_off a (by omega), q_up_off a (by omega)]
    have ec : rc3 I m (cp x) = I (cp x) := by
      unfold rc3
      rw [q_up_off _ (by omega), lcut_off (by omega) (by omega), gdr_cp, gdr_cp]
    have eh : ∀ l, rc3 I m (cp x + 1) l = if m < l ∧ l < 188 then 0 else I (cp x + 1) l := fun l => by
      unfold rc3
      rw [q_up_off _ (by omega), lcut_off (by omega) (by omega), gdr_hd, gdr_hd]
      by_cases c : m < l ∧ l < 188
      · rw [if_pos c]
        by_cases c6 : x < 6
        · rw [if_neg (by omega), if_pos (by omega)]
        · rw [if_pos (by omega)]
      · rw [if_neg c, if_neg (fun w => c w.2.2), if_neg (fun w => c w.2.2)]
    rw [ec, o 50 (by omega), o 51 (by omega), o 52 (by omega), o 53 (by omega)]
    refine ⟨t1, t2, t3, t4, fun l a b => ?_, fun l a b => ?_⟩
    · rw [eh, if_neg (by omega)]; exact t5 l a (by omega)
    · rw [eh, if_pos (by omega)]
theorem recover_inv {I : qI} {n T k d m : Nat} (h : INV I n T k d) (down : I 1 5 = 0) (hd : d ≤ m) (hm : m ≤ n) (hc : m = 0 ∨ I 49 m ≠ 0) : ∃ nk d', INV (mrg (rc7 I m T) (ms6 I m T)) nk T k d' := by
  obtain ⟨L1, N1, C1⟩ := rc_1 h hm
  obtain ⟨hL, hN, hT, hC, hH, hX, w3, w4, w6, w7, w8, w9, w10⟩ := h
  have hn := hL.1.2.2
  have h53 : ∀ x, x < 12 → I 53 x = 0 := by
    rcases hX.1 with ⟨-, z⟩ | ⟨-, -, z⟩
    · omega
    · exact z
  have aoff : ∀ a, a ≠ 1 → a ≠ 2 → a ≠ 8 → (a < 15 ∨ 40 < a) → gtl 1 m 6 0 (gtl 0 m 6 0 (rc3 I m)) a = I a := fun a x1 x2 x3 x4 => by rw [gtl_off x4 (by omega), gtl_off x4 (by omega), rc3_off x1 x2 x3 x4]
  have aoff3 : ∀ a, (a < 15 ∨ 40 < a) → gtl 1 m 6 0 (gtl 0 m 6 0 (rc3 I m)) a = rc3 I m a := fun a x4 => by rw [gtl_off x4 (by omega), gtl_off x4 (by omega)]
  have a1 : ∀ j, gtl 1 m 6 0 (gtl 0 m 6 0 (rc3 I m)) 1 j = if j = 5 then 1 else I 1 j := fun j => by
    rw [aoff3 1 (by omega)]
    unfold rc3
    by_cases e : j = 5
    · subst e; simp [q_up]
    · have : q_up (lcut (gdr 1 m 6 0 (gdr 0 m 6 0 I)) m) 1 5 1 1 j = lcut (gdr 1 m 6 0 (gdr 0 m 6 0 I)) m 1 j := by simp [q_up, e]
      rw [this, lcut_off (by decide) (by decide), gdr_off (by omega) (by omega), gdr_off (by omega) (by omega), if_neg e]
  have acp : ∀ y, y < 12 → ∀ j, gtl 1 m 6 0 (gtl 0 m 6 0 (rc3 I m)) (cp y) j = if j = 4 ∧ I (cp y) 2 = 0 then ((crc (rc3 I m) y m : Nat) : Int) else I (cp y) j := fun y hy j => by
    have hb := cp_bd hy
    have ec : rc3 I m (cp y) = I (cp y) := by
      unfold rc3
      rw [q_up_off _ (by omega), lcut_off (by omega) (by omega), gdr_cp, gdr_cp]
    rw [gtl_cp (by omega) hy 6 0 _ (by omega), crc_gtl (by omega) hy 6 0 _ (by omega), gtl_cp (by omega) hy 6 0 _ (by omega), gtl_cp (by omega) hy 6 0 _ (by omega), ec]
    rw [if_neg (show ¬ ((2 : Nat) = 4 ∧ 6 * 0 + 0 ≤ y ∧ y < 6 * 0 + 0 + 6 ∧ I (cp y) 2 = 0) from fun w => absurd w.1 (by decide))]
    by_cases c : j = 4 ∧ I (cp y) 2 = 0
    · rw [if_pos c]
      by_cases c6 : y < 6
      · rw [if_neg (by omega), if_pos ⟨c.1, by omega, by omega, c.2⟩]
      · rw [if_pos ⟨c.1, by omega, by omega, c.2⟩]
    · rw [if_neg c, if_neg (fun w => c ⟨w.1, w.2.2.2⟩), if_neg (fun w => c ⟨w.1, w.2.2.2⟩)]
  have ahd : ∀ y, gtl 1 m 6 0 (gtl 0 m 6 0 (rc3 I m)) (cp y + 1) = rc3 I m (cp y + 1) := fun y => by rw [gtl_hd, gtl_hd]
  have boff : ∀ a, 45 ≤ a → a ≠ 53 → mtl m 12 0 (ms1 I m) a = I a := fun a x1 x2 => by
    rw [mtl_off x2]; unfold ms1; rw [q_up_off a (by omega), q_up_off a (by omega)]
  have b44 : ∀ j, mtl m 12 0 (ms1 I m) 44 j = if j = 0 then (m : Int) else if j = 10 then 0 else I 44 j := fun j => by
    rw [mtl_off (by decide)]
    unfold ms1
    by_cases e : j = 0
    · subst e; simp [q_up]
    · by_cases e2 : j = 10 <;> simp [q_up, e, e2]
  have b53 : ∀ y, y < 12 → mtl m 12 0 (ms1 I m) 53 y = if I 51 y = 0 then ((mpt (ms1 I m) y m : Nat) : Int) else 0 := fun y hy => by
    rw [mtl_at]
    have e1 : ms1 I m 51 = I 51 := by unfold ms1; rw [q_up_off 51 (by omega), q_up_off 51 (by omega)]
    have e2 : ms1 I m 53 = I 53 := by unfold ms1; rw [q_up_off 53 (by omega), q_up_off 53 (by omega)]
    rw [e1, e2, h53 y hy]
    by_cases c : I 51 y = 0
    · rw [if_pos c, if_pos ⟨by omega, by omega, c⟩]
    · rw [if_neg c, if_neg (fun w => c w.2.2)]
  have ept : ∀ y, y < 12 → crc (rc3 I m) y m = mpt (ms1 I m) y m := fun y hy => by
    rw [crc_lo (mrg_alo (B := ms1 I m)) hy, mpt_hi (mrg_agr (A := rc3 I m))]
    exact e_pt L1 C1 hy
  have m1 : ∀ a, 45 ≤ a → ms1 I m a = I a := fun a ha => by unfold ms1; rw [q_up_off a (by omega), q_up_off a (by omega)]
  -- the state before the durable point rises
  have lo2 : ∀ a, a < 44 → mrg (gtl 1 m 6 0 (gtl 0 m 6 0 (rc3 I m))) (mtl m 12 0 (ms1 I m)) a = gtl 1 m 6 0 (gtl 0 m 6 0 (rc3 I m)) a := fun a ha => mrg_lo ha
  have hi2 : ∀ a, 44 ≤ a → mrg (gtl 1 m 6 0 (gtl 0 m 6 0 (rc3 I m))) (mtl m 12 0 (ms1 I m)) a = mtl m 12 0 (ms1 I m) a := fun a ha => mrg_hi ha
  have L2 : RL (mrg (gtl 1 m 6 0 (gtl 0 m 6 0 (rc3 I m))) (mtl m 12 0 (ms1 I m))) m T := L1.fr (by rw [lo2 2 (by decide), aoff3 2 (by omega), mrg_lo (by decide)]) (by rw [hi2 44 (by decide), b44, if_pos rfl, mrg_hi (by decide)]; simp [ms1, q_up]) (fun a ha => by
    by_cases x : a < 44
    · rw [lo2 a x, aoff3 a (by omega), mrg_lo x]
    · rw [hi2 a (by omega), boff a (by omega) (by omega), mrg_hi (by omega), m1 a (by omega)])
  have N2 : RN (mrg (gtl 1 m 6 0 (gtl 0 m 6 0 (rc3 I m))) (mtl m 12 0 (ms1 I m))) m := N1.fr (fun a ha => by
    by_cases x : a < 44
    · rw [lo2 a x, aoff3 a (by omega), mrg_lo x]
    · rw [hi2 a (by omega), boff a (by omega) (by omega), mrg_hi (by omega), m1 a (by omega)])
  have C2 : RC (mrg (gtl 1 m 6 0 (gtl 0 m 6 0 (rc3 I m))) (mtl m 12 0 (ms1 I m))) m := rc2_rc fun x hx => by
    have hb := cp_bd hx
    obtain ⟨t1, t2, t3, t4, t5, t6⟩ := C1 x hx
    rw [mrg_lo (a := cp x + 1) (by omega), mrg_hi (a := 50) (by decide), m1 50 (by omega)] at t5
    rw [mrg_lo (a := cp x + 1) (by omega)] at t6
    obtain ⟨s1, s2, s3, s4, -⟩ := hC x hx
    rw [acp x hx, acp x hx, acp x hx, acp x hx, ahd, boff 50 (by omega) (by omega), boff 51 (by omega) (by omega), boff 52 (by omega) (by omega), b53 x hx]
    refine ⟨s1, s2, s3, ?_, t5, t6⟩
    rw [s2.1]
    by_cases c : I 51 x = 0
    · rw [if_pos ⟨rfl, c⟩, if_pos c, ept x hx]
    · rw [if_neg (fun w => c w.2), if_neg c, s4, h53 x hx]
  have g2 : mg (mrg (gtl 1 m 6 0 (gtl 0 m 6 0 (rc3 I m))) (mtl m 12 0 (ms1 I m))) = mg I := mg_fr (by rw [hi2 45 (by decide), boff 45 (by omega) (by omega)]) (by rw [hi2 46 (by decide), boff 46 (by omega) (by omega)]) (by rw [hi2 48 (by decide), boff 48 (by omega) (by omega)])
  have g1 : mg (ms1 I m) = mg I := mg_fr (m1 45 (by omega)) (m1 46 (by omega)) (m1 48 (by omega))
  have W32 : W3 (mrg (gtl 1 m 6 0 (gtl 0 m 6 0 (rc3 I m))) (mtl m 12 0 (ms1 I m))) m := by
    refine ⟨fun x hx => ?_, fun x hx l l1 l2 l3 l4 => ?_⟩
    · rw [hi2 53 (by decide), b53 x hx]
      have := mpt_le (I := ms1 I m) (x := x) (n := m)
      split <;> omega
    · rw [hi2 53 (by decide), b53 x hx] at l3
      rw [hi2 50 (by decide), boff 50 (by omega) (by omega)]
      rw [g2] at l4
      by_cases c : I 51 x = 0
      · rw [if_pos c] at l3
        have := qr_all (g := mcg (ms1 I m) x) (h := mhd (ms1 I m) x) (f := m) (l := 1) (r := 0) (by omega) (fun i a b => by omega) (fun i a b => by omega) l l1 (by unfold mpt at l3; omega) (by unfold mcg; rw [g1]; exact decide_eq_true l4)
        unfold mhd at this
        rw [m1 50 (by omega)] at this
        exact of_decide_eq_true this
      · rw [if_neg c] at l3; omega
  have W42 : W4 (mrg (gtl 1 m 6 0 (gtl 0 m 6 0 (rc3 I m))) (mtl m 12 0 (ms1 I m))) d := w4.fr (fun a ha => by rw [hi2 a (by omega), boff a (by omega) (by omega)])
  have X2 : RX (mrg (gtl 1 m 6 0 (gtl 0 m 6 0 (rc3 I m))) (mtl m 12 0 (ms1 I m))) m d := by
    refine ⟨Or.inl ⟨by rw [hi2 44 (by decide), b44]; rfl, by rw [lo2 1 (by decide), a1]; rfl⟩, ⟨by rw [lo2 1 (by decide), a1]; exact hX.2.1.1, by rw [hi2 44 (by decide), b44]; exact hX.2.1.2.1, hd, by rw [hi2 49 (by decide), boff 49 (by omega) (by omega)]; exact hX.2.1.2.2.2⟩, fun r hr => ?_⟩
    rw [lo2 43 (by decide), aoff 43 (by omega) (by omega) (by omega) (by omega), hi2 57 (by decide), boff 57 (by omega) (by omega)]
    exact hX.2.2 r hr
  obtain ⟨d', eA, eB, d1, d2, d3, d4⟩ := adv_core L2 C2 X2 W32 W42
  have lA : alo (rc5 I m) (q_up (mrg (gtl 1 m 6 0 (gtl 0 m 6 0 (rc3 I m))) (mtl m 12 0 (ms1 I m))) 1 6 (d' : Int)) := by
    rw [← eA]; exact qrs_lo mrg_alo
  have lB : agr (ms3 I m) (q_up (mrg (gtl 1 m 6 0 (gtl 0 m 6 0 (rc3 I m))) (mtl m 12 0 (ms1 I m))) 44 11 (d' : Int)) := by
    rw [← eB]; exact loc_adv.hi mrg_agr
  generalize hM : mrg (gtl 1 m 6 0 (gtl 0 m 6 0 (rc3 I m))) (mtl m 12 0 (ms1 I m)) = M at *
  have mlo : ∀ a, 9 ≤ a ∧ a ≤ 11 ∨ 41 ≤ a ∧ a ≤ 43 → M a = I a := fun a ha => by rw [lo2 a (by omega), aoff a (by omega) (by omega) (by omega) (by omega)]
  have mhi : ∀ a, 45 ≤ a → a ≠ 53 → M a = I a := fun a x y => by rw [hi2 a (by omega), boff a x y]
  have m44 : ∀ j, M 44 j = if j = 0 then (m : Int) else if j = 10 then 0 else I 44 j := fun j => by rw [hi2 44 (by decide), b44]
  have m15 : M 1 5 = 1 := by rw [lo2 1 (by decide), a1]; rfl
  have rA : ∀ a, a < 44 → a ≠ 1 → rc5 I m a = M a := fun a x y => by rw [lA a x, q_up_off a y]
  have rA1 : ∀ j, rc5 I m 1 j = if j = 6 then (d' : Int) else M 1 j := fun j => by rw [lA 1 (by decide)]; by_cases e : j = 6 <;> simp [q_up, e]
  have rB : ∀ a, 45 ≤ a → ms3 I m a = M a := fun a x => by rw [lB a (by omega), q_up_off a (by omega)]
  have rB44 : ∀ j, ms3 I m 44 j = if j = 11 then (d' : Int) else M 44 j := fun j => by rw [lB 44 (by decide)]; by_cases e : j = 11 <;> simp [q_up, e]
  have hRT : RT (mrg (rc5 I m) (ms3 I m)) T := hT.fr (by rw [mrg_hi (by decide), rB44, m44]; rfl) (fun a ha => by
    by_cases x : a < 44
    · rw [mrg_lo x, rA a x (by omega), mlo a (by omega)]
    · rw [mrg_hi (by omega), rB a (by omega), mhi a (by omega) (by omega)])
  have hW6 : W6 (mrg (rc5 I m) (ms3 I m)) T := w6.fr (by rw [mrg_hi (by decide), rB 54 (by omega), mhi 54 (by omega) (by omega)]) (by rw [mrg_hi (by decide), rB 55 (by omega), mhi 55 (by omega) (by omega)])
  obtain ⟨F1, F2, F3⟩ := fin_all T 1 (rc5 I m) (ms3 I m) (by omega) (by omega) hRT hW6 (fun s a b => by omega)
  have f55 : ∀ j, j < 32 → mfa T 1 (ms3 I m) 55 j = 0 := fun j hj => Classical.byContradiction fun z => by
    obtain ⟨t, t1, t2, t3, t4⟩ := F2 j hj (by rw [mrg_hi (by decide)]; exact z)
    rw [mrg_hi (by decide)] at t4
    exact t4 (F3 t t1 t2)
  -- the state from which the unended are rolled back
  have kA : ∀ a, a < 44 → a ≠ 1 → ¬ (9 ≤ a ∧ a ≤ 11) → tfa T 1 (rc5 I m) a = M a := fun a x y z => by rw [tfa_off (by omega) (by omega) (by omega), rA a x y]
  have kA1 : ∀ j, tfa T 1 (rc5 I m) 1 j = if j = 6 then (d' : Int) else M 1 j := fun j => by rw [tfa_off (by omega) (by omega) (by omega), rA1]
  have kB : ∀ a, 45 ≤ a → a ≠ 54 → a ≠ 55 → ms5 I m T a = M a := fun a x y z => by unfold ms5; rw [ma0_off y, mh0_off z, rB a x]
  have kB44 : ∀ j, ms5 I m T 44 j = if j = 11 then (d' : Int) else M 44 j := fun j => by unfold ms5; rw [ma0_off (by decide), mh0_off (by decide), rB44]
  have kB54 : ∀ t, 1 ≤ t → t ≤ T → ms5 I m T 54 t = 0 := fun t a b => by unfold ms5 ma0; rw [if_pos ⟨rfl, a, by omega⟩]
  have kB55 : ∀ j, j < 32 → ms5 I m T 55 j = 0 := fun j hj => by unfold ms5; rw [ma0_off (by decide)]; unfold mh0; rw [if_pos ⟨rfl, hj⟩]
  have kRT : RT (mrg (tfa T 1 (rc5 I m)) (ms5 I m T)) T := by
    have q0 : qn (mct (mrg (tfa T 1 (rc5 I m)) (ms5 I m T))) T = 0 := qn_zero fun t a b => by unfold mct; rw [mrg_hi (by decide), kB54 t a b]; rfl
    have q1 : qn (mct (mrg (tfa T 1 (rc5 I m)) (mfa T 1 (ms3 I m)))) T = 0 := qn_zero fun t a b => by unfold mct; rw [mrg_hi (by decide), F3 t a b]; rfl
    obtain ⟨⟨u1, u2, u3⟩, u4, ⟨u5, u6⟩, u7⟩ := F1
    rw [mrg_lo (by decide)] at u1
    rw [mrg_lo (by decide), q1] at u5
    refine ⟨⟨by rw [mrg_lo (by decide)]; exact u1, by rw [mrg_hi (by decide), kB44, m44]; exact hT.1.2.1, u3⟩, fun t a b => ?_, ⟨by rw [mrg_lo (by decide), q0]; exact u5, by omega⟩, fun j hj => ?_⟩
    · have := u4 t a b
      rw [mrg_lo (by decide), mrg_hi (by decide), F3 t a b] at this
      rw [mrg_lo (by decide), mrg_hi (by decide), kB54 t a b]
      exact this
    · have := u7 j hj
      rw [mrg_lo (by decide), mrg_hi (by decide), f55 j hj] at this
      rw [mrg_lo (by decide), mrg_hi (by decide), kB55 j hj]
      exact this
  have kl : ∀ a, a < 44 → mrg (tfa T 1 (rc5 I m)) (ms5 I m T) a = tfa T 1 (rc5 I m) a := fun a ha => mrg_lo ha
  have kh : ∀ a, 44 ≤ a → mrg (tfa T 1 (rc5 I m)) (ms5 I m T) a = ms5 I m T a := fun a ha => mrg_hi ha
  have epu : pun M = pun I := by
    funext q t
    unfold pun
    rw [mep_fr (mhi 45 (by omega) (by omega)) (mhi 48 (by omega) (by omega)), ckc_fr (mhi 45 (by omega) (by omega)) (mhi 46 (by omega) (by omega)) (mhi 48 (by omega) (by omega))]
  have W92 : W9 M m := fun q hq hz => by
    rw [epu]
    rw [mhi 49 (by omega) (by omega)] at hz
    exact w9 q (by omega) hz
  have LRM : LR M m T d' := ⟨L2, N2, C2, W32, d4, W92, d2⟩
  have LRK : LR (mrg (tfa T 1 (rc5 I m)) (ms5 I m T)) m T d' := LRM.fr (by rw [kh 44 (by decide), kB44]; rfl) (fun a ha => by
    by_cases x : a < 44
    · rw [kl a x, kA a x (by omega) (by omega)]
    · rw [kh a (by omega), kB a (by omega) (by omega) (by omega)])
  have epk : pun (mrg (tfa T 1 (rc5 I m)) (ms5 I m T)) = pun I := by
    rw [← epu]
    have x5 : mrg (tfa T 1 (rc5 I m)) (ms5 I m T) 45 = M 45 := by rw [kh 45 (by decide), kB 45 (by omega) (by omega) (by omega)]
    have x6 : mrg (tfa T 1 (rc5 I m)) (ms5 I m T) 46 = M 46 := by rw [kh 46 (by decide), kB 46 (by omega) (by omega) (by omega)]
    have x8 : mrg (tfa T 1 (rc5 I m)) (ms5 I m T) 48 = M 48 := by rw [kh 48 (by decide), kB 48 (by omega) (by omega) (by omega)]
    funext q t
    unfold pun
    rw [mep_fr x5 x8, ckc_fr x5 x6 x8]
  have und0 : UND (mrg (tfa T 1 (rc5 I m)) (ms5 I m T)) (mrg (tfa T 1 (rc5 I m)) (ms5 I m T)) m T d' 1 m := by
    refine ⟨LRK, Nat.le_refl _, fun _ _ _ _ => rfl, fun l a b => by omega, fun _ _ _ => rfl, fun _ _ => rfl, by rw [epk]; exact w9 m hm hc, fun l a b _ w => ?_⟩
    have := (LRK.1.2 l a b).2.1
    omega
  obtain ⟨nk, hU⟩ := und_all hT.1.2.2 (fun t a b => by rw [kh 54 (by decide)]; exact kB54 t a b) (fun j hj => by rw [kh 55 (by decide)]; exact kB55 j hj) T 1 _ _ m (by omega) (by omega) und0
  have hU : UND (mrg (tfa T 1 (rc5 I m)) (ms5 I m T)) (mrg (rc7 I m T) (ms6 I m T)) m T d' (T + 1) nk := hU
  refine ⟨nk, d', ?_⟩
  generalize mrg (rc7 I m T) (ms6 I m T) = J at hU
  generalize mrg (tfa T 1 (rc5 I m)) (ms5 I m T) = K at hU kRT kl kh
  obtain ⟨⟨r1, r2, r3, r4, r5, r6, r7⟩, u2, u3, u4, u5, u6, u7, u8⟩ := hU
  have j54 : ∀ t, 1 ≤ t → t ≤ T → J 54 t = 0 := fun t a b => by rw [u5 54 (by omega) (by omega), kh 54 (by decide), kB54 t a b]
  have j55 : ∀ j, j < 32 → J 55 j = 0 := fun j hj => by rw [u5 55 (by omega) (by omega), kh 55 (by decide), kB55 j hj]
  refine ⟨r1, r2, kRT.fr (u6 12 (by decide)) (fun a ha => u5 a (by omega) (by omega)), r3, hH.fr (by rw [u6 16 (by decide), kh 44 (by decide), kB44, m44]; rfl) (fun a ha => by
      rw [u5 a (by omega) (by omega)]
      by_cases x : a < 44
      · rw [kl a x, kA a x (by omega) (by omega), mlo a (by omega)]
      · rw [kh a (by omega), kB a (by omega) (by omega) (by omega), mhi a (by omega) (by omega)]), ?_, r4, r5, fun j hj z => absurd (j55 j hj) z, fun t a b z => absurd (j54 t a b) z, fun _ l a b x y => ?_, r6, fun _ => ?_⟩
  · refine ⟨Or.inl ⟨by rw [u6 10 (by decide), kh 44 (by decide), kB44, m44]; rfl, by rw [u5 1 (by omega) (by omega), kl 1 (by decide), kA1]; exact m15⟩, ⟨by rw [u5 1 (by omega) (by omega), kl 1 (by decide), kA1]; rfl, by rw [u6 11 (by decide), kh 44 (by decide), kB44]; rfl, r7, by rw [u3 49 (by omega) d' d2, kh 49 (by decide), kB 49 (by omega) (by omega) (by omega)]; exact d3⟩, fun r hr => ?_⟩
    rw [u5 43 (by omega) (by omega), u5 57 (by omega) (by omega), kl 43 (by decide), kh 57 (by decide), kA 43 (by omega) (by omega) (by omega), kB 57 (by omega) (by omega) (by omega), mlo 43 (by omega), mhi 57 (by omega) (by omega)]
    obtain ⟨e, v, v1, v2⟩ := hX.2.2 r hr
    exact ⟨e, v, by omega, v2⟩
  · have := (r1.2 l a b).2.1
    exact absurd y (u8 l a b x (by omega))
  · have : psum (pac J nk) T = 0 := psum_zero fun t a b => by unfold pac; rw [if_neg (not_not_intro (j54 t a b))]
    have := r1.1.2.2
    omega
theorem ok_recover {N : Nat} (I : qI) (hI : Inv I) : okk Inv N 4 3 M_Q_recover M_M_recover [] I := by
  obtain ⟨n, T, k, d, h⟩ := hI
  have hX := h.2.2.2.2.2.1
  have hC := h.2.2.2.1
  have hu := up_iff hX
  by_cases hz : I 1 5 = 0
  · have l0 := e_lv hC (show 0 < 2 by omega)
    have l1 := e_lv hC (show 1 < 2 by omega)
    by_cases c : 3 ≤ mlv I 0 ∧ 3 ≤ mlv I 1
    · obtain ⟨m1, m2, m3⟩ := rm_ge h c
      have em : rcm I n = mrm I n := e_rm h.1 hC
      obtain ⟨nk, d', hJ⟩ := recover_inv h hz m1 m2 m3
      have hn := hJ.1.1
      have hA := ct_Q_recover (L := N) I h.cw hz (by rw [l0, l1]; exact c) (by
        rw [em]
        have := hn.1
        rw [mrg_lo (by decide)] at this
        rw [this]; omega)
      rw [em] at hA
      have hlow0 : ∀ a, a < 15 ∧ a = 0 ∨ 43 < a → rc7 I (mrm I n) T a = I a := fun a ha => by
        unfold rc7
        rw [lru_off (by omega), tfa_off (by omega) (by omega) (by omega)]
        unfold rc5
        rw [qrs_off (by omega), gtl_off (by omega) (by omega), gtl_off (by omega) (by omega), rc3_off (by omega) (by omega) (by omega) (by omega)]
      have hlow : agr (rc7 I (mrm I n) T) I := fun a ha => hlow0 a (by omega)
      refine okk_fin (A1 := rc7 I (mrm I n) T) (F := fun J => ms6 J (mrm I n) T) hA hlow (hlow0 0 (by omega)) (loc_of (fun A a ha => ms6_lo ha) (fun A B h => ms6_hi h)) ?_ ⟨nk, T, k, d', hJ⟩
      have e0 : mll (rc7 I (mrm I n) T) = mll I := by funext x; unfold mll; rw [hlow 51 (by omega)]
      have e1 : mlv (rc7 I (mrm I n) T) = mlv I := by funext g; unfold mlv; rw [e0]
      have e2 : mrm (rc7 I (mrm I n) T) n = mrm I n := by
        have q1 : mcl (rc7 I (mrm I n) T) = mcl I := by funext l; unfold mcl; rw [hlow 49 (by omega)]
        have q2 : msu (rc7 I (mrm I n) T) = msu I := by funext l; unfold msu mlh mhd; rw [e0, mg_hi hlow, hlow 50 (by omega)]
        show ql (mcl (rc7 I (mrm I n) T)) (qp (msu (rc7 I (mrm I n) T)) n 0) = mrm I n
        rw [q1, q2]
        rfl
      have hB := ct_M_recover (L := N) _ (inv_mw1 h hlow) (by rw [hlow 44 (by omega)]; exact hu.mp hz) (by rw [e1]; exact c) (by
        rw [e2, ms6_hi hlow 44 (by omega)]
        have := hn.2.1
        rw [mrg_hi (by decide)] at this
        rw [this]; omega)
      rw [e2] at hB
      exact hB
    · exact okk_same ⟨n, T, k, d, h⟩ (ct_Q_recover1 I hz (by rw [l0, l1]; omega)) (ct_M_recover1 I (hu.mp hz) (by omega))
  · exact okk_same ⟨n, T, k, d, h⟩ (ct_Q_recover0 I hz) (ct_M_recover0 I (Classical.byContradiction fun z => hz (hu.mpr z)))
