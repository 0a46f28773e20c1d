/-! What the system's numbers and the reference's are to each other. -/
/-- a record on both sides -/
def rec_ (I : qI) (T l : Nat) : Prop :=
  I 4 l = I 45 l ∧ (1 ≤ I 45 l ∧ I 45 l ≤ (T : Int)) ∧ I 6 l = I 47 l ∧ (0 ≤ I 47 l ∧ I 47 l ≤ 9999) ∧
  ((I 48 l = 0 ∧ I 5 l = I 46 l ∧ (0 ≤ I 46 l ∧ I 46 l < 32) ∧ I 3 l = I 49 l ∧ (I 49 l = 0 ∨ I 49 l = 1) ∧ I 7 l = ((I 46 l).tdiv 4).tmod 2) ∨
   ((I 48 l = 1 ∨ I 48 l = 2) ∧ I 5 l = -1 ∧ I 3 l = I 48 l + 1 ∧ I 49 l = 1 ∧ I 7 l = (I 45 l).tmod 2))
def RL (I : qI) (n T : Nat) : Prop := (I 2 6 = (n : Int) ∧ I 44 0 = (n : Int) ∧ n ≤ 187) ∧ ∀ l, 1 ≤ l → l ≤ n → rec_ I T l
def RN (I : qI) (n : Nat) : Prop := ∀ t : Nat, 1 ≤ t → t ≤ 60 → I 8 t = ((qf (mep I t) n 1 : Nat) : Int)
def RT (I : qI) (T : Nat) : Prop := (I 9 2 = (T : Int) ∧ I 44 12 = (T : Int) ∧ T ≤ 60) ∧ (∀ t, 1 ≤ t → t ≤ T → I 10 t = I 54 t ∧ (I 54 t = 0 ∨ I 54 t = 1)) ∧ (I 9 3 = ((qn (mct I) T : Nat) : Int) ∧ qn (mct I) T ≤ 4) ∧ ∀ k, k < 32 → I 11 k = I 55 k
def RC (I : qI) (n : Nat) : Prop := ∀ x, x < 12 → I (cp x) 0 = ((x / 6 : Nat) : Int) ∧ (I (cp x) 2 = I 51 x ∧ 0 ≤ I 51 x ∧ I 51 x ≤ 2) ∧ (I (cp x) 3 = I 52 x ∧ ∃ f : Nat, f ≤ 187 ∧ I 52 x = (f : Int)) ∧ I (cp x) 4 = I 53 x ∧
  (∀ l, 1 ≤ l → l ≤ n → I (cp x + 1) l = I 50 (200 * x + l) ∧ (I 50 (200 * x + l) = 0 ∨ I 50 (200 * x + l) = 1)) ∧ ∀ l, n < l → l ≤ 187 → I (cp x + 1) l = 0
def RH (I : qI) (k : Nat) : Prop := (I 41 1 = (k : Int) ∧ I 44 16 = (k : Int) ∧ k ≤ 4) ∧ (∀ i, i < k → I 42 i = I 56 i ∧ ∃ p : Nat, p ≤ 7 ∧ I 56 i = (p : Int)) ∧ ∀ i j, i < k → j < k → I 56 i = I 56 j → i = j
def RX (I : qI) (n d : Nat) : Prop := ((I 44 10 = 0 ∧ I 1 5 = 1) ∨ (I 44 10 = 1 ∧ I 1 5 = 0 ∧ ∀ x, x < 12 → I 53 x = 0)) ∧ (I 1 6 = (d : Int) ∧ I 44 11 = (d : Int) ∧ d ≤ n ∧ (d = 0 ∨ I 49 d ≠ 0)) ∧ ∀ r, r < 2 → I 43 r = I 57 r ∧ ∃ v : Nat, v ≤ d ∧ I 57 r = (v : Int)
theorem Rec.own {I : qI} {n T l : Nat} (h : RL I n T) (h1 : 1 ≤ l) (h2 : l ≤ n) : ∃ t : Nat, 1 ≤ t ∧ t ≤ T ∧ I 45 l = (t : Int) ∧ I 4 l = (t : Int) := by
  obtain ⟨a, b, -⟩ := h.2 l h1 h2
  exact ⟨(I 45 l).toNat, by omega, by omega, by omega, by omega⟩
theorem e_mg {I : qI} {n T l : Nat} (h : RL I n T) (h1 : 1 ≤ l) (h2 : l ≤ n) : mg I l = I 7 l := by
  obtain ⟨-, -, -, -, c | c⟩ := h.2 l h1 h2
  · obtain ⟨c1, c2, c3, c4, c5, c6⟩ := c
    unfold mg
    rw [if_neg (by omega), c6]
  · obtain ⟨c1, c2, c3, c4, c5⟩ := c
    unfold mg
    rw [if_pos (by omega), c5]
theorem e_grp {I : qI} {n T l : Nat} (h : RL I n T) (h1 : 1 ≤ l) (h2 : l ≤ n) : ∃ g : Nat, g < 2 ∧ I 7 l = (g : Int) := by
  obtain ⟨-, b, -, -, c | c⟩ := h.2 l h1 h2
  · obtain ⟨c1, c2, c3, c4, c5, c6⟩ := c
    obtain ⟨a, ha⟩ : ∃ a : Nat, I 46 l = (a : Int) := ⟨(I 46 l).toNat, by omega⟩
    exact ⟨a / 4 % 2, by omega, by rw [c6, ha, td4, tm2]⟩
  · obtain ⟨c1, c2, c3, c4, c5⟩ := c
    obtain ⟨a, ha⟩ : ∃ a : Nat, I 45 l = (a : Int) := ⟨(I 45 l).toNat, by omega⟩
    exact ⟨a % 2, by omega, by rw [c5, ha, tm2]⟩
theorem e_ky {I : qI} {n T l : Nat} {k : Int} (h : RL I n T) (hk : 0 ≤ k) (h1 : 1 ≤ l) (h2 : l ≤ n) : lky I k l = mck I k l := by
  obtain ⟨-, -, -, -, c | c⟩ := h.2 l h1 h2
  · obtain ⟨c1, c2, -⟩ := c
    simp [lky, mck, c1, c2]
  · obtain ⟨c1, c2, -⟩ := c
    unfold lky mck
    rw [decide_eq_false (by omega), decide_eq_false (p := I 48 l = 0) (by omega)]
    rfl
theorem e_val {I : qI} {n T m : Nat} {k : Int} (h : RL I n T) (hk : 0 ≤ k) (hm : m ≤ n) : lval I k m = mval I k m := by
  have e : ql (lky I k) m = ql (mck I k) m := ql_congr fun l a b => e_ky h hk a (by omega)
  unfold lval mval
  rw [e]
  split
  · rfl
  · next h0 => exact (h.2 _ (by omega) (Nat.le_trans (ql_le _ _) hm)).2.2.1
theorem e_cl {I : qI} {n T l : Nat} (h : RL I n T) (h1 : 1 ≤ l) (h2 : l ≤ n) : lcl I l = mcl I l := by
  obtain ⟨-, -, -, -, c | c⟩ := h.2 l h1 h2
  · obtain ⟨c1, c2, c3, c4, c5, c6⟩ := c
    simp [lcl, mcl, c4]
  · obtain ⟨c1, c2, c3, c4, c5⟩ := c
    unfold lcl mcl
    rw [decide_eq_true (by omega), decide_eq_true (by omega)]
theorem e_close {I : qI} {n T m : Nat} (h : RL I n T) (hm : m ≤ n) : ql (lcl I) m = ql (mcl I) m := ql_congr fun l a b => e_cl h a (by omega)
theorem e_fp {I : qI} {n T l : Nat} {t k : Int} (h : RL I n T) (hk : 0 ≤ k) (h1 : 1 ≤ l) (h2 : l ≤ n) : lfp I t k l = mfp I t k l := by
  have := e_ky h hk h1 h2
  have o := (h.2 l h1 h2).1
  unfold lfp mfp
  unfold lky mck at this
  rw [o, this]
theorem e_first {I : qI} {n T : Nat} {t k : Int} (h : RL I n T) (hk : 0 ≤ k) : qf (lfp I t k) n 1 = qf (mfp I t k) n 1 := qf_congr fun l a b => e_fp h hk a (by omega)
theorem qf_le {p : Nat → Bool} {n m : Nat} (hm : m ≤ n) : qf p m 1 ≠ 0 ↔ qf p n 1 ≠ 0 ∧ qf p n 1 ≤ m := by
  rcases qf_has (p := p) (f := m) (l := 1) with h | ⟨h1, h2, h3⟩
  · constructor
    · exact fun z => absurd h z
    · rintro ⟨a, b⟩
      rcases qf_has (p := p) (f := n) (l := 1) with c | ⟨c1, c2, c3⟩
      · exact absurd c a
      · have := qf_none (Nat.le_refl 1) h (qf p n 1) c2 (by omega)
        rw [this] at c1
        cases c1
  · have e : qf p n 1 = qf p m 1 := qf_eq h1 h2 (by omega) (fun i a b => qf_before (f := m) a b)
    rw [e]
    constructor
    · exact fun z => ⟨z, by omega⟩
    · exact fun z => z.1
theorem e_led {I : qI} {n T m l : Nat} (h : RL I n T) (hN : RN I n) (hT : T ≤ 60) (hm : m ≤ n) (h1 : 1 ≤ l) (h2 : l ≤ n) : led I m (I 4 l) = decide (qf (mep I (I 45 l)) m 1 ≠ 0) := by
  obtain ⟨t, a, b, c1, c2⟩ := Rec.own h h1 h2
  have e := hN t a (by omega)
  have et : ((t : Int)).toNat = t := rfl
  unfold led
  rw [c1, c2, et, e]
  have := qf_le (p := mep I t) hm
  by_cases hh : qf (mep I t) m 1 ≠ 0
  · rw [decide_eq_true hh, decide_eq_true]
    have := this.mp hh
    omega
  · rw [decide_eq_false hh, decide_eq_false]
    intro z
    exact hh (this.mpr ⟨by omega, by omega⟩)
theorem e_cgr {I : qI} {n T x l : Nat} (h : RL I n T) (hC : RC I n) (hx : x < 12) (h1 : 1 ≤ l) (h2 : l ≤ n) : cgr I x l = mcg I x l := by
  unfold cgr mcg
  rw [e_mg h h1 h2, (hC x hx).1]
theorem e_chd {I : qI} {n x l : Nat} (hC : RC I n) (hx : x < 12) (h1 : 1 ≤ l) (h2 : l ≤ n) : chd I x l = mhd I x l := by
  unfold chd mhd
  rw [((hC x hx).2.2.2.2.1 l h1 h2).1]
theorem e_pt {I : qI} {n T x : Nat} (h : RL I n T) (hC : RC I n) (hx : x < 12) : crc I x n = mpt I x n :=
  qr_congr (fun i a b => e_cgr h hC hx a (by omega)) (fun i a b => e_chd hC hx a (by omega))
theorem e_sv {I : qI} {n T g m c : Nat} (h : RL I n T) (hC : RC I n) (hg : g < 2) (hc : c < 6) (hm : m ≤ n) : gsv I g m c = msv I g m c := by
  have hx : 6 * g + c < 12 := by omega
  have e1 : clv I (6 * g + c) = mll I (6 * g + c) := by unfold clv mll; rw [(hC _ hx).2.1.1]
  have e2 : qa (call_ I (6 * g + c)) m = qa (mal I g (6 * g + c)) m := qa_congr fun l a b => by
    unfold call_ mal
    rw [e_chd hC hx a (by omega)]
    unfold cgr
    rw [e_mg h a (by omega), (hC _ hx).1, show (6 * g + c) / 6 = g by omega]
  unfold gsv msv
  rw [e1, e2]
theorem e_serves {I : qI} {n T g m : Nat} (h : RL I n T) (hC : RC I n) (hg : g < 2) (hm : m ≤ n) : qe (gsv I g m) 6 = qe (msv I g m) 6 := qe_congr fun c hc => e_sv h hC hg hc hm
theorem e_kp {I : qI} {n x l : Nat} (hC : RC I n) (hx : x < 12) (h1 : 1 ≤ l) (h2 : l ≤ n) : ckp I x l = mkp I x l := by
  unfold ckp mkp
  rw [e_chd hC hx h1 h2, (hC x hx).2.2.1.1]
theorem e_rq {I : qI} {n g c : Nat} {v : Int} (hC : RC I n) (hg : g < 2) (hc : c < 6) : grq I g v c = mrq I g v c := by
  unfold grq mrq
  rw [(hC _ (show 6 * g + c < 12 by omega)).2.2.2.1]
theorem e_qp {I : qI} {n g : Nat} (hC : RC I n) (hg : g < 2) : ∀ c, c ≤ 6 → gqp I g c = mgp I g c
  | 0, _ => rfl
  | c + 1, h => by
    have e1 := e_qp hC hg c (by omega)
    have e2 := (hC _ (show 6 * g + c < 12 by omega)).2.2.2.1
    rw [gqp, mgp, e1, e2, qz_congr (p := grq I g (I 53 (6 * g + c))) (q := mrq I g (I 53 (6 * g + c))) (fun i hi => e_rq hC hg hi)]
theorem e_cm {I : qI} {n T : Nat} (h : RL I n T) (hC : RC I n) : qp (qcm I) n 0 = qp (mcm I) n 0 := qp_congr fun l a b => by
  unfold qcm mcm
  rw [e_mg h (by omega) (by omega), e_qp hC (by omega) 6 (by omega), e_qp hC (by omega) 6 (by omega)]
theorem e_lv {I : qI} {n g : Nat} (hC : RC I n) (hg : g < 2) : glv I g = mlv I g := qz_congr fun c hc => by
  unfold clv mll
  rw [(hC _ (show 6 * g + c < 12 by omega)).2.1.1]
theorem e_lr {I : qI} {n T l : Nat} (h : RL I n T) (hC : RC I n) (h1 : 1 ≤ l) (h2 : l ≤ n) : qlr I l = msu I l := by
  obtain ⟨g, hg, eg⟩ := e_grp h h1 h2
  have et : (I 7 l).toNat = g := by rw [eg]; rfl
  unfold qlr msu
  rw [e_mg h h1 h2, et]
  refine qe_congr fun c hc => ?_
  have hx : 6 * g + c < 12 := by omega
  unfold glh mlh
  rw [e_chd hC hx h1 h2]
  unfold clv mll
  rw [(hC _ hx).2.1.1]
theorem e_rm {I : qI} {n T : Nat} (h : RL I n T) (hC : RC I n) : rcm I n = mrm I n := by
  unfold rcm mrm
  rw [qp_congr (p := qlr I) (q := msu I) (fun l a b => e_lr h hC (by omega) (by omega))]
  have := qp_le (msu I) n 0
  exact e_close h (by omega)
theorem e_low {I : qI} {n T m : Nat} (h : RL I n T) (hN : RN I n) (hT : T ≤ 60) (hm : m ≤ n) : llow I m = mlw I m m := by
  have e : qf (lune I m) m 1 = qf (fun l => decide (qf (mep I (I 45 l)) m 1 = 0)) m 1 := qf_congr fun l a b => by
    unfold lune
    rw [e_led h hN hT hm a (by omega)]
    by_cases z : qf (mep I (I 45 l)) m 1 = 0 <;> simp [z]
  have k : ∀ j, j ≤ m → mlw I m j = if qf (fun l => decide (qf (mep I (I 45 l)) m 1 = 0)) j 1 = 0 then m else qf (fun l => decide (qf (mep I (I 45 l)) m 1 = 0)) j 1 - 1 := by
    intro j
    generalize hp : (fun l => decide (qf (mep I (I 45 l)) m 1 = 0)) = p
    induction j with
    | zero => intro _; rfl
    | succ j ih =>
      intro hj
      have ih := ih (by omega)
      have hpj : p (j + 1) = decide (qf (mep I (I 45 (j + 1))) m 1 = 0) := by rw [← hp]
      rw [mlw, ih]
      rcases qf_has (p := p) (f := j) (l := 1) with a | ⟨a1, a2, a3⟩
      · rw [if_pos a]
        by_cases z : qf (mep I (I 45 (j + 1))) m 1 = 0
        · have e2 : qf p (j + 1) 1 = j + 1 := qf_eq (by rw [hpj, decide_eq_true z]) (by omega) (by omega) (fun i x y => qf_none (Nat.le_refl 1) a i x (by omega))
          rw [if_pos ⟨z, by omega⟩, e2, if_neg (by omega)]
          omega
        · have e2 : qf p (j + 1) 1 = 0 := qf_zero fun i x y => by
            by_cases hi : i = j + 1
            · subst hi; rw [hpj, decide_eq_false z]
            · exact qf_none (Nat.le_refl 1) a i x (by omega)
          rw [if_neg (fun w => z w.1), e2, if_pos rfl]
      · have e2 : qf p (j + 1) 1 = qf p j 1 := qf_eq a1 a2 (by omega) (fun i x y => qf_before (f := j) x y)
        have hq : ¬ qf p j 1 = 0 := by omega
        rw [e2, if_neg hq, if_neg (by omega)]
  unfold llow
  rw [e, k m (Nat.le_refl _)]
