/-! recover: the log is cut, the live copies tell, all transactions are struck off. -/
theorem gdr_hd {g m y l : Nat} : ∀ f c I, gdr g m f c I (cp y + 1) l = if 6 * g + c ≤ y ∧ y < 6 * g + c + f ∧ m < l ∧ l < 188 then 0 else I (cp y + 1) l
  | 0, c, I => by rw [if_neg (by omega)]; rfl
  | f + 1, c, I => by
    rw [gdr, gdr_hd f (c + 1)]
    by_cases e : 6 * g + (c + 1) ≤ y ∧ y < 6 * g + (c + 1) + f ∧ m < l ∧ l < 188
    · rw [if_pos e, if_pos (by omega)]
    · rw [if_neg e]
      unfold qdrop
      by_cases e2 : y = 6 * g + c ∧ m < l ∧ l < 188
      · rw [if_pos ⟨by rw [e2.1], e2.2⟩, if_pos (by omega)]
      · rw [if_neg (fun w => e2 ⟨cp_inj (by omega), w.2⟩), if_neg (by omega)]
theorem gdr_cp {g m y : Nat} : ∀ f c I, gdr g m f c I (cp y) = I (cp y)
  | 0, _, _ => rfl
  | f + 1, c, I => by rw [gdr, gdr_cp f (c + 1), qdrop_off cp_ne]
theorem crc_up4 {A : qI} {x y n : Nat} {v : Int} (hx : x < 12) (hy : y < 12) : crc (q_up A (cp x) 4 v) y n = crc A y n := by
  have b1 := cp_bd hx
  unfold crc
  have e1 : cgr (q_up A (cp x) 4 v) y = cgr A y := by
    funext l
    unfold cgr
    have : q_up A (cp x) 4 v (cp y) 0 = A (cp y) 0 := by simp [q_up]
    rw [this, q_up_off 7 (by omega)]
  have e2 : chd (q_up A (cp x) 4 v) y = chd A y := by
    funext l
    unfold chd
    rw [q_up_off _ (fun z => cp_ne z.symm)]
  rw [e1, e2]
theorem gtl_cp {g n y j : Nat} (hg : g < 2) (hy : y < 12) : ∀ f c I, c + f ≤ 6 → gtl g n f c I (cp y) j = if j = 4 ∧ 6 * g + c ≤ y ∧ y < 6 * g + c + f ∧ I (cp y) 2 = 0 then ((crc I y n : Nat) : Int) else I (cp y) j
  | 0, c, I, _ => by rw [if_neg (by omega)]; rfl
  | f + 1, c, I, hc => by
    rw [gtl, gtl_cp hg hy f (c + 1) _ (by omega)]
    have hx : 6 * g + c < 12 := by omega
    by_cases e0 : I (cp (6 * g + c)) 2 = 0
    · rw [if_pos e0, crc_up4 hx hy]
      have e2 : q_up I (cp (6 * g + c)) 4 (crc I (6 * g + c) n : Nat) (cp y) 2 = I (cp y) 2 := by simp [q_up]
      rw [e2]
      by_cases e : y = 6 * g + c
      · subst e
        rw [if_neg (by omega)]
        by_cases e4 : j = 4
        · subst e4
          rw [if_pos ⟨rfl, by omega, by omega, e0⟩]
          simp [q_up]
        · rw [if_neg (fun w => e4 w.1)]
          simp [q_up, e4]
      · have hne : cp y ≠ cp (6 * g + c) := fun w => e (cp_inj w)
        rw [q_up_off _ hne]
        by_cases e5 : j = 4 ∧ 6 * g + (c + 1) ≤ y ∧ y < 6 * g + (c + 1) + f ∧ I (cp y) 2 = 0
        · rw [if_pos e5, if_pos ⟨e5.1, by omega, by omega, e5.2.2.2⟩]
        · rw [if_neg e5, if_neg (fun w => e5 ⟨w.1, by omega, by omega, w.2.2.2⟩)]
    · rw [if_neg e0]
      by_cases e5 : j = 4 ∧ 6 * g + (c + 1) ≤ y ∧ y < 6 * g + (c + 1) + f ∧ I (cp y) 2 = 0
      · rw [if_pos e5, if_pos ⟨e5.1, by omega, by omega, e5.2.2.2⟩]
      · rw [if_neg e5, if_neg (fun w => e5 ⟨w.1, by
          have : y ≠ 6 * g + c := fun z => e0 (by rw [← z]; exact w.2.2.2)
          omega, by omega, w.2.2.2⟩)]
theorem gtl_hd {g n y : Nat} : ∀ f c I, gtl g n f c I (cp y + 1) = I (cp y + 1)
  | 0, _, _ => rfl
  | f + 1, c, I => by
    rw [gtl, gtl_hd f (c + 1)]
    split
    · rw [q_up_off _ (fun z => cp_ne z.symm)]
    · rfl
theorem mpt_up53 {B : qI} {x y n : Nat} {v : Int} : mpt (q_up B 53 x v) y n = mpt B y n := by
  unfold mpt
  have e1 : mcg (q_up B 53 x v) y = mcg B y := by
    funext l
    unfold mcg
    rw [mg_fr (q_up_off 45 (by decide)) (q_up_off 46 (by decide)) (q_up_off 48 (by decide))]
  have e2 : mhd (q_up B 53 x v) y = mhd B y := by
    funext l
    unfold mhd
    rw [q_up_off 50 (by decide)]
  rw [e1, e2]
theorem mtl_at {m y : Nat} : ∀ f c B, mtl m f c B 53 y = if c ≤ y ∧ y < c + f ∧ B 51 y = 0 then ((mpt B y m : Nat) : Int) else B 53 y
  | 0, c, B => by rw [if_neg (by omega)]; rfl
  | f + 1, c, B => by
    rw [mtl, mtl_at f (c + 1), mpt_up53, q_up_off 51 (by decide)]
    by_cases e : y = c
    · subst e
      rw [if_neg (by omega)]
      by_cases e0 : B 51 y = 0
      · rw [if_pos e0, if_pos ⟨by omega, by omega, e0⟩]; simp [q_up]
      · rw [if_neg e0, if_neg (fun w => e0 w.2.2)]; simp [q_up]
    · have e3 : ∀ v : Int, q_up B 53 c v 53 y = B 53 y := fun v => by simp [q_up, e]
      rw [e3]
      by_cases e5 : c + 1 ≤ y ∧ y < c + 1 + f ∧ B 51 y = 0
      · rw [if_pos e5, if_pos ⟨by omega, by omega, e5.2.2⟩]
      · rw [if_neg e5, if_neg (fun w => e5 ⟨by omega, by omega, w.2.2⟩)]
/-- the durable point rises on both sides alike, of a log alone -/
theorem adv_core {M : qI} {n T d : Nat} (hL : RL M n T) (hC : RC M n) (hX : RX M n d) (w3 : W3 M n) (w4 : W4 M d) : ∃ d' : Nat, qrs M n = q_up M 1 6 (d' : Int) ∧ madv M n = q_up M 44 11 (d' : Int) ∧ d ≤ d' ∧ d' ≤ n ∧ (d' = 0 ∨ M 49 d' ≠ 0) ∧ W4 M d' := by
  have hp := qp_le (mcm M) n 0
  have hq := ql_le (mcl M) (qp (mcm M) n 0)
  have hh := ql_has (mcl M) (qp (mcm M) n 0)
  have e : ql (lcl M) (qp (qcm M) n 0) = ql (mcl M) (qp (mcm M) n 0) := by rw [e_cm hL hC, e_close hL (by omega)]
  have a := adv_w4 w3 hq
  have ex : ∃ d' : Nat, qmax (d : Int) (ql (mcl M) (qp (mcm M) n 0) : Nat) = (d' : Int) ∧ d ≤ d' ∧ d' ≤ n ∧ (d' = 0 ∨ M 49 d' ≠ 0) ∧ W4 M d' := by
    unfold qmax
    split
    · refine ⟨_, rfl, by omega, by omega, ?_, a⟩
      rcases hh with z | z
      · exact Or.inl z
      · unfold mcl at z; exact Or.inr (of_decide_eq_true z)
    · exact ⟨d, rfl, Nat.le_refl _, hX.2.1.2.2.1, hX.2.1.2.2.2, w4⟩
  obtain ⟨d', e1, e2⟩ := ex
  exact ⟨d', by unfold qrs; rw [e, hX.2.1.1, e1], by unfold madv; rw [hX.2.1.2.1, e1], e2⟩
/-- with three live copies of each group the log stands at least up to the durable point -/
theorem rm_ge {I : qI} {n T k d : Nat} (h : INV I n T k d) (hl : 3 ≤ mlv I 0 ∧ 3 ≤ mlv I 1) : d ≤ mrm I n ∧ mrm I n ≤ n ∧ (mrm I n = 0 ∨ I 49 (mrm I n) ≠ 0) := by
  have hX := h.2.2.2.2.2.1
  have hdn := hX.2.1.2.2.1
  have hq : d ≤ qp (msu I) n 0 := qp_reach (by omega) fun l a b => by
    obtain ⟨g, hg, eg⟩ := e_grp h.1 (show 1 ≤ l by omega) (show l ≤ n by omega)
    rw [← e_mg h.1 (by omega) (by omega)] at eg
    have w := h.2.2.2.2.2.2.2.1 l g (by omega) b hg eg
    have hg3 : 3 ≤ mlv I g := by
      by_cases g0 : g = 0
      · rw [g0]; exact hl.1
      · rw [show g = 1 by omega]; exact hl.2
    unfold msu
    have et : (mg I l).toNat = g := by rw [eg]; rfl
    rw [et, qe_iff]
    refine Classical.byContradiction fun z => ?_
    have : mlv I g ≤ qz (lck I g l) 6 := qz_mono fun c hc y => by
      have y0 := y
      unfold mll at y
      have y := of_decide_eq_true y
      unfold lck
      rw [decide_eq_true (show I 51 (6 * g + c) ≠ 2 by omega), Bool.true_and, decide_eq_true_eq]
      refine Classical.byContradiction fun q => z ⟨c, hc, ?_⟩
      unfold mlh mhd
      rw [y0, Bool.true_and]
      exact decide_eq_true q
    omega
  have hp := qp_le (msu I) n 0
  have hle := ql_le (mcl I) (qp (msu I) n 0)
  have hh := ql_has (mcl I) (qp (msu I) n 0)
  unfold mrm
  refine ⟨?_, by omega, ?_⟩
  · rcases hX.2.1.2.2.2 with z | z
    · omega
    · exact ql_ge _ (by unfold mcl; exact decide_eq_true z) hq
  · rcases hh with z | z
    · exact Or.inl z
    · unfold mcl at z; exact Or.inr (of_decide_eq_true z)
