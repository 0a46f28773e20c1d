/-! The invariant, and the calls that change nothing. -/
def W3 (I : qI) (n : Nat) : Prop := (∀ x, x < 12 → I 53 x ≤ (n : Int)) ∧ ∀ x, x < 12 → ∀ l, 1 ≤ l → l ≤ n → (l : Int) ≤ I 53 x → mg I l = ((x / 6 : Nat) : Int) → I 50 (200 * x + l) ≠ 0
/-- a copy that isn't lost and lacks the record -/
def lck (I : qI) (g l : Nat) (c : Nat) : Bool := decide (I 51 (6 * g + c) ≠ 2) && decide (I 50 (200 * (6 * g + c) + l) = 0)
def W4 (I : qI) (d : Nat) : Prop := ∀ l g : Nat, 1 ≤ l → l ≤ d → g < 2 → mg I l = (g : Int) → qz (lck I g l) 6 ≤ 2
def W6 (I : qI) (T : Nat) : Prop := ∀ k, k < 32 → I 55 k ≠ 0 → ∃ t : Nat, 1 ≤ t ∧ t ≤ T ∧ I 55 k = (t : Int) ∧ I 54 t ≠ 0
def W7 (I : qI) (n T : Nat) : Prop := ∀ t, 1 ≤ t → t ≤ T → I 54 t ≠ 0 → qf (mep I t) n 1 = 0
def W8 (I : qI) (n : Nat) : Prop := I 44 10 = 0 → ∀ l, 1 ≤ l → l ≤ n → I 48 l = 0 → qf (mep I (I 45 l)) n 1 = 0 → I 54 (I 45 l).toNat ≠ 0 ∧ I 55 (I 46 l).toNat = I 45 l
/-- how many keys t has changed up to m -/
def ckc (I : qI) (m t : Nat) : Nat := qz (fun k => decide (qf (mfp I t k) m 1 ≠ 0)) 32
def psum (f : Nat → Nat) : Nat → Nat
  | 0 => 0
  | t + 1 => psum f t + f (t + 1)
def pun (I : qI) (m t : Nat) : Nat := if qf (mep I t) m 1 = 0 ∧ ckc I m t ≠ 0 then ckc I m t + 1 else 0
def W9 (I : qI) (n : Nat) : Prop := ∀ m, m ≤ n → (m = 0 ∨ I 49 m ≠ 0) → m + psum (pun I m) 60 ≤ 187
def pac (I : qI) (n t : Nat) : Nat := if I 54 t ≠ 0 then ckc I n t + 1 else 0
def W10 (I : qI) (n T : Nat) : Prop := I 44 10 = 0 → n + psum (pac I n) T ≤ 187
def INV (I : qI) (n T k d : Nat) : Prop := RL I n T ∧ RN I n ∧ RT I T ∧ RC I n ∧ RH I k ∧ RX I n d ∧ W3 I n ∧ W4 I d ∧ W6 I T ∧ W7 I n T ∧ W8 I n ∧ W9 I n ∧ W10 I n T
def Inv (I : qI) : Prop := ∃ n T k d : Nat, INV I n T k d
theorem INV.cw {I : qI} {n T k d : Nat} (h : INV I n T k d) : cw I n T k d := by
  obtain ⟨hL, hN, hT, hC, hH, hX, -⟩ := h
  refine ⟨⟨hL.1.1, hL.1.2.2⟩, ⟨hT.1.1, hT.1.2.2⟩, ⟨hH.1.1, hH.1.2.2⟩, ⟨hX.2.1.1, hX.2.1.2.2.1⟩, fun l a b => e_grp hL a b, fun l a b => ?_, ?_, fun t a b => ?_, fun x hx => ?_, fun r hr => ?_, fun l a b => ?_⟩
  · obtain ⟨t, t1, t2, t3, t4⟩ := Rec.own hL a b
    have := hT.1.2.2
    omega
  · have := hT.2.2.1.1
    have := hT.2.2.1.2
    omega
  · have := qf_has (p := mep I t) (f := n) (l := 1)
    exact ⟨qf (mep I t) n 1, by omega, hN t a b⟩
  · obtain ⟨-, -, ⟨e, f, h1, h2⟩, -⟩ := hC x hx
    exact ⟨f, h1, by rw [e]; exact h2⟩
  · obtain ⟨e, v, h1, h2⟩ := hX.2.2 r hr
    exact ⟨v, h1, by rw [e]; exact h2⟩
  · obtain ⟨-, -, e, e2, -⟩ := hL.2 l a b
    omega
theorem INV.mw {I : qI} {n T k d : Nat} (h : INV I n T k d) : mw I n T k d := by
  obtain ⟨hL, hN, hT, hC, hH, hX, -⟩ := h
  refine ⟨⟨hL.1.2.1, hL.1.2.2⟩, ⟨hT.1.2.1, hT.1.2.2⟩, ⟨hH.1.2.1, hH.1.2.2⟩, ⟨hX.2.1.2.1, hX.2.1.2.2.1⟩, fun i hi => (hH.2.1 i hi).2, fun l a b => ?_, fun x hx => ?_, fun r hr => (hX.2.2 r hr).2, fun l a b => ?_⟩
  · obtain ⟨g, hg, e⟩ := e_grp hL a b
    exact ⟨g, hg, by rw [e_mg hL a b]; exact e⟩
  · exact (hC x hx).2.2.1.2
  · exact (hL.2 l a b).2.2.2.1
/-- both answer and nothing changes -/
theorem okk_same {N d d' : Nat} {A B : qM} {as : List qV} {I : qI} {v : Int} (hI : Inv I) (hA : qT A d (.inr (some 1) :: as) N I (rI v N I)) (hB : qT B d' (.inr (some 44) :: as) N I (rI v N I)) : okk Inv N d d' A B as I := ⟨v, I, I, hA, hB, hI, rfl, rfl⟩
theorem okk_eq {N d d' : Nat} {A B : qM} {as : List qV} {I : qI} {v w : Int} (hI : Inv I) (hA : qT A d (.inr (some 1) :: as) N I (rI v N I)) (hB : qT B d' (.inr (some 44) :: as) N I (rI w N I)) (e : v = w) : okk Inv N d d' A B as I := by
  subst e
  exact okk_same hI hA hB
theorem up_iff {I : qI} {n d : Nat} (h : RX I n d) : I 1 5 = 0 ↔ ¬ I 44 10 = 0 := by
  rcases h.1 with ⟨a, b⟩ | ⟨a, b, -⟩ <;> omega
theorem e_act {I : qI} {T : Nat} (h : RT I T) (t : Int) : tac I t = mac I t := by
  unfold tac mac
  rw [h.1.1, h.1.2.1]
  by_cases hz : 1 ≤ t ∧ t ≤ (T : Int)
  · rw [(h.2.1 t.toNat (by omega) (by omega)).1]
  · rw [decide_eq_false (fun z => hz ⟨z.1, z.2.1⟩), decide_eq_false (fun z => hz ⟨z.1, z.2.1⟩)]
theorem mep_iff {I : qI} {t : Int} {l : Nat} : mep I t l = true ↔ I 45 l = t ∧ 0 < I 48 l := by simp [mep]
theorem mfp_iff {I : qI} {t k : Int} {l : Nat} : mfp I t k l = true ↔ I 45 l = t ∧ I 48 l = 0 ∧ I 46 l = k := by simp [mfp]
theorem ok_status {N : Nat} (I : qI) (hI : Inv I) (t : Int) : okk Inv N 1 1 M_Q_status M_M_status [.inl t] I := by
  obtain ⟨n, T, k, d, h⟩ := hI
  refine okk_eq ⟨n, T, k, d, h⟩ (ct_Q_status t I h.cw) (ct_M_status t I h.mw) ?_
  obtain ⟨hL, hN, hT, hC, hH, hX, -⟩ := h
  by_cases h1 : t < 1 ∨ (T : Int) < t
  · rw [if_pos h1, if_pos h1]
  · rw [if_neg h1, if_neg h1]
    obtain ⟨s, rfl⟩ : ∃ s : Nat, t = (s : Int) := ⟨t.toNat, by omega⟩
    have es : ((s : Int)).toNat = s := rfl
    have hs := hT.2.1 s (by omega) (by omega)
    rw [e_act hT, es]
    by_cases h2 : I 54 s = 0
    · rw [if_neg (by unfold mac; rw [es]; simp [h2]), if_neg (not_not_intro h2)]
      have eN := hN s (by omega) (by have := hT.1.2.2; omega)
      rw [eN, hX.2.1.1, hX.2.1.2.1]
      rcases qf_has (p := mep I s) (f := n) (l := 1) with a | ⟨a1, a2, a3⟩
      · rw [if_pos (by omega), if_pos a]
      · rw [if_neg (show ¬ ((qf (mep I s) n 1 : Nat) : Int) = 0 by omega), if_neg (show ¬ qf (mep I s) n 1 = 0 by omega)]
        have et : (((qf (mep I s) n 1 : Nat) : Int)).toNat = qf (mep I s) n 1 := rfl
        rw [et]
        have hr := hL.2 _ a2 (by omega)
        have a1 := mep_iff.mp a1
        obtain ⟨-, -, -, -, c | c⟩ := hr
        · omega
        · obtain ⟨c1, c2, c3, c4, c5⟩ := c
          by_cases h3 : I 48 (qf (mep I s) n 1) = 2
          · rw [if_pos (by omega), if_pos h3]
          · rw [if_neg (by omega), if_neg h3]
    · rw [if_pos (by unfold mac; rw [es, hT.1.2.1, decide_eq_true]; exact ⟨by omega, by omega, h2⟩), if_pos h2]
theorem ok_point {N : Nat} (I : qI) (hI : Inv I) (w : Int) : okk Inv N 3 2 M_Q_point M_M_point [.inl w] I := by
  obtain ⟨n, T, k, d, h⟩ := hI
  refine okk_eq ⟨n, T, k, d, h⟩ (ct_Q_point w I h.cw) (ct_M_point w I h.mw) ?_
  obtain ⟨hL, hN, hT, hC, hH, hX, -⟩ := h
  rw [e_cm hL hC]
  have hu := up_iff hX
  by_cases hz : I 1 5 = 0
  · rw [if_pos hz, if_pos (hu.mp hz)]
  · rw [if_neg hz, if_neg (fun z => hz (hu.mpr z))]
theorem ok_copy {N : Nat} (I : qI) (hI : Inv I) (g c w : Int) : okk Inv N 1 2 M_Q_copy M_M_copy [.inl g, .inl c, .inl w] I := by
  obtain ⟨n, T, k, d, h⟩ := hI
  by_cases h0 : isC g c
  · obtain ⟨a, b, ha, hb, rfl, rfl⟩ := isC_nat h0
    have hx : 6 * a + b < 12 := by omega
    by_cases hw : 0 ≤ w ∧ w ≤ 2
    · refine okk_eq ⟨n, T, k, d, h⟩ (ct_Q_copy w I h.cw ha hb) (ct_M_copy w I h.mw ha hb hw) ?_
      obtain ⟨hL, hN, hT, hC, hH, hX, -⟩ := h
      have e : qn (ckp I (6 * a + b)) n = qn (mkp I (6 * a + b)) n := qn_congr fun l p q => e_kp hC hx p q
      rw [(hC _ hx).2.1.1, e_pt hL hC hx, e]
      by_cases h1 : w = 0
      · rw [if_pos h1, if_pos h1]
      rw [if_neg h1, if_neg h1]
      by_cases h2 : I 51 (6 * a + b) = 0
      · rw [if_neg (not_not_intro h2), if_neg (not_not_intro h2)]
        by_cases h3 : w = 1
        · rw [if_pos h3, if_pos h3]
        rw [if_neg h3, if_neg h3, if_pos (by omega)]
      · rw [if_pos h2, if_pos h2]
    · refine okk_eq ⟨n, T, k, d, h⟩ (ct_Q_copy w I h.cw ha hb) (ct_M_copy0 I (fun z => hw z.2)) ?_
      rw [if_neg (by omega), if_neg (show ¬ w = 1 by omega), if_neg (show ¬ w = 2 by omega)]
      split <;> rfl
  · exact okk_same ⟨n, T, k, d, h⟩ (ct_Q_copy0 w I h0) (ct_M_copy0 I (fun z => h0 z.1))
theorem ok_view {N : Nat} (I : qI) (hI : Inv I) (r key : Int) : okk Inv N 2 2 M_Q_view M_M_view [.inl r, .inl key] I := by
  obtain ⟨n, T, k, d, h⟩ := hI
  by_cases h0 : (0 ≤ r ∧ r < 2) ∧ 0 ≤ key ∧ key < 32
  · obtain ⟨q, rfl⟩ : ∃ q : Nat, r = (q : Int) := ⟨r.toNat, by omega⟩
    obtain ⟨a, rfl⟩ : ∃ a : Nat, key = (a : Int) := ⟨key.toNat, by omega⟩
    have hX := h.2.2.2.2.2.1
    obtain ⟨e, v, hv1, hv2⟩ := hX.2.2 q (by omega)
    have hvn : v ≤ n := by have := hX.2.1.2.2.1; omega
    refine okk_eq ⟨n, T, k, d, h⟩ (ct_Q_view I h.cw (by omega) (by omega) (by rw [e]; exact hv2) hvn) (ct_M_view I h.mw (by omega) (by omega) hv2 hvn) ?_
    obtain ⟨hL, hN, hT, hC, hH, -⟩ := h
    rw [e_serves hL hC (by omega) hvn]
    have e2 : leval I a v v = mev I a v v := by
      have e3 : ql (lev I a v) v = ql (mvp I a v) v := ql_congr fun l p q => by
        unfold lev mvp
        rw [e_led hL hN hT.1.2.2 hvn p (by omega)]
        have := e_ky (k := (a : Int)) hL (by omega) p (show l ≤ n by omega)
        unfold lky mck at this
        rw [this]
      unfold leval mev
      rw [e3]
      split
      · rfl
      · next h0 => exact (hL.2 _ (by omega) (Nat.le_trans (ql_le _ _) hvn)).2.2.1
    rw [e2]
  · exact okk_same ⟨n, T, k, d, h⟩ (ct_Q_view0 I h0) (ct_M_view0 I h0)
theorem e_rank {I : qI} {k : Nat} (h : RH I k) (p : Int) : ∀ f i, i + f = k → ((hrk I p f i : Nat) : Int) = if mpl I p f i < 0 then 0 else (k : Int) - mpl I p f i
  | 0, i, hi => rfl
  | f + 1, i, hi => by
    rw [hrk, mpl, (h.2.1 i (by omega)).1]
    by_cases hz : I 56 i = p
    · rw [if_pos hz, if_pos hz, if_neg (by omega)]
      omega
    · rw [if_neg hz, if_neg hz]
      exact e_rank h p f (i + 1) (by omega)
theorem ok_cached {N : Nat} (I : qI) (hI : Inv I) (p : Int) : okk Inv N 1 1 M_Q_cached M_M_cached [.inl p] I := by
  obtain ⟨n, T, k, d, h⟩ := hI
  have hH := h.2.2.2.2.1
  exact okk_eq ⟨n, T, k, d, h⟩ (ct_Q_cached p I h.cw) (ct_M_cached p I hH.1.2.1 hH.1.2.2) (e_rank hH p k 0 (by omega))
