/-! Two sides: the low rows of one state, the high rows of another. -/
def mrg (A B : qI) : qI := fun a => if a < 44 then A a else B a
def agr (A B : qI) : Prop := ∀ a, 44 ≤ a → A a = B a
def alo (A B : qI) : Prop := ∀ a, a < 44 → A a = B a
def loc (F : qI → qI) : Prop := ∀ A B, agr A B → F A = mrg A (F B)
theorem mrg_lo {A B : qI} {a : Nat} (h : a < 44) : mrg A B a = A a := by unfold mrg; rw [if_pos h]
theorem mrg_hi {A B : qI} {a : Nat} (h : 44 ≤ a) : mrg A B a = B a := by unfold mrg; rw [if_neg (by omega)]
theorem mrg_alo {A B : qI} : alo A (mrg A B) := fun _ h => (mrg_lo h).symm
theorem mrg_agr {A B : qI} : agr B (mrg A B) := fun _ h => (mrg_hi h).symm
theorem mrg_congr {A B A' B' : qI} (h1 : alo A A') (h2 : agr B B') : mrg A B = mrg A' B' := by
  funext a
  by_cases ha : a < 44
  · rw [mrg_lo ha, mrg_lo ha, h1 a ha]
  · rw [mrg_hi (by omega), mrg_hi (by omega), h2 a (by omega)]
theorem loc_of {F : qI → qI} (h1 : ∀ A a, a < 44 → F A a = A a) (h2 : ∀ A B, agr A B → agr (F A) (F B)) : loc F := by
  intro A B h
  funext a
  by_cases ha : a < 44
  · rw [mrg_lo ha, h1 A a ha]
  · rw [mrg_hi (by omega), h2 A B h a (by omega)]
theorem loc.lo {F : qI → qI} (h : loc F) (A : qI) {a : Nat} (ha : a < 44) : F A a = A a := by rw [h A A (fun _ _ => rfl), mrg_lo ha]
theorem loc.hi {F : qI → qI} (h : loc F) {A B : qI} (hab : agr A B) : agr (F A) (F B) := by intro a ha; rw [h A B hab, mrg_hi ha]
theorem loc.comp {F G : qI → qI} (hF : loc F) (hG : loc G) : loc (fun I => G (F I)) := loc_of (fun A a ha => by show G (F A) a = A a; rw [hG.lo _ ha, hF.lo _ ha]) (fun A B h => hG.hi (hF.hi h))
theorem loc_id : loc (fun I => I) := loc_of (fun _ _ _ => rfl) (fun _ _ h => h)
theorem loc_up {a j : Nat} {v : qI → Int} (ha : 44 ≤ a) (hv : ∀ A B, agr A B → v A = v B) : loc (fun I => q_up I a j (v I)) := loc_of (fun A b hb => q_up_off b (by omega)) (fun A B h b hb => by
  show q_up A a j (v A) b = q_up B a j (v B) b
  by_cases hba : b = a
  · subst hba; rw [hv A B h]; funext i; unfold q_up; rw [h b hb]
  · rw [q_up_off b hba, q_up_off b hba, h b hb])
theorem loc_if {p : qI → Prop} [∀ I, Decidable (p I)] {F G : qI → qI} (hp : ∀ A B, agr A B → (p A ↔ p B)) (hF : loc F) (hG : loc G) : loc (fun I => if p I then F I else G I) := by
  intro A B h
  show (if p A then F A else G A) = mrg A (if p B then F B else G B)
  by_cases hh : p B
  · rw [if_pos hh, if_pos ((hp A B h).mpr hh)]; exact hF A B h
  · rw [if_neg hh, if_neg (fun z => hh ((hp A B h).mp z))]; exact hG A B h
/-- both sides end, and what they leave is joined -/
theorem okk_fin {N d d' : Nat} {A B : qM} {as : List qV} {I A1 : qI} {v : Int} {F : qI → qI} (hA : qT A d (.inr (some 1) :: as) N I (rI v N A1)) (hlow : agr A1 I) (h0 : A1 0 = I 0) (hF : loc F) (hB : qT B d' (.inr (some 44) :: as) N A1 (rI v N (F A1))) (hI : Inv (mrg A1 (F I))) : okk Inv N d d' A B as I :=
  ⟨v, A1, F A1, hA, hB, by rw [hF A1 I hlow]; exact hI, h0, by rw [hF.lo A1 (by decide)]; exact h0⟩
def RC2 (A B : qI) (n : Nat) : Prop := ∀ x, x < 12 → A (cp x) 0 = ((x / 6 : Nat) : Int) ∧ (A (cp x) 2 = B 51 x ∧ 0 ≤ B 51 x ∧ B 51 x ≤ 2) ∧ (A (cp x) 3 = B 52 x ∧ ∃ f : Nat, f ≤ 187 ∧ B 52 x = (f : Int)) ∧ A (cp x) 4 = B 53 x ∧
  (∀ l, 1 ≤ l → l ≤ n → A (cp x + 1) l = B 50 (200 * x + l) ∧ (B 50 (200 * x + l) = 0 ∨ B 50 (200 * x + l) = 1)) ∧ ∀ l, n < l → l ≤ 187 → A (cp x + 1) l = 0
theorem rc2_rc {A B : qI} {n : Nat} (h : RC2 A B n) : RC (mrg A B) n := by
  intro x hx
  have hb := cp_bd hx
  rw [mrg_lo (a := cp x) (by omega), mrg_lo (a := cp x + 1) (by omega), mrg_hi (a := 50) (by omega), mrg_hi (a := 51) (by omega), mrg_hi (a := 52) (by omega), mrg_hi (a := 53) (by omega)]
  exact h x hx
theorem rc_rc2 {I : qI} {n : Nat} (h : RC I n) : RC2 I I n := h
theorem W3.grow {I J : qI} {n : Nat} (h : W3 I n) (hm : ∀ l, 1 ≤ l → l ≤ n → mg J l = mg I l) (h53 : ∀ x, x < 12 → J 53 x ≤ I 53 x) (h50 : ∀ x l, x < 12 → 1 ≤ l → l ≤ n → I 50 (200 * x + l) ≠ 0 → J 50 (200 * x + l) ≠ 0) : W3 J n := by
  refine ⟨fun x hx => Int.le_trans (h53 x hx) (h.1 x hx), ?_⟩
  intro x hx l h1 h2 h3 h4
  rw [hm l h1 h2] at h4
  have := h53 x hx
  exact h50 x l hx h1 h2 (h.2 x hx l h1 h2 (by omega) h4)
theorem W4.grow {I J : qI} {d : Nat} (h : W4 I d) (hm : ∀ l, 1 ≤ l → l ≤ d → mg J l = mg I l) (hl : ∀ x l, x < 12 → 1 ≤ l → l ≤ d → J 51 x ≠ 2 → J 50 (200 * x + l) = 0 → I 51 x ≠ 2 ∧ I 50 (200 * x + l) = 0) : W4 J d := by
  intro l g h1 h2 hg h3
  rw [hm l h1 h2] at h3
  refine Nat.le_trans (qz_mono fun c hc => ?_) (h l g h1 h2 hg h3)
  unfold lck
  intro z
  simp only [Bool.and_eq_true, decide_eq_true_eq] at z ⊢
  exact hl (6 * g + c) l (by omega) h1 h2 z.1 z.2
theorem mgp_q {I : qI} {g : Nat} : ∀ c, mgp I g c = 0 ∨ 4 ≤ qz (mrq I g (mgp I g c)) 6
  | 0 => Or.inl rfl
  | c + 1 => by
    rw [mgp]
    split
    · next h => exact Or.inr h.2
    · exact mgp_q c
/-- what four copies have told, at most two that aren't lost lack -/
theorem adv_w4 {I : qI} {n m : Nat} (w3 : W3 I n) (hm : m ≤ qp (mcm I) n 0) : W4 I m := by
  intro l g h1 h2 hg h3
  have hp := qp_le (mcm I) n 0
  have hc := qp_all (mcm I) n 0 l (by omega) (by omega)
  have hl : (l : Int) ≤ mgp I g 6 := by
    unfold mcm at hc
    have := of_decide_eq_true hc
    rw [h3] at this
    by_cases g0 : g = 0
    · subst g0; simpa using this
    · obtain rfl : g = 1 := by omega
      simpa using this
  rcases mgp_q (I := I) (g := g) 6 with e | e
  · omega
  · have hn := qz_not (mrq I g (mgp I g 6)) 6
    refine Nat.le_trans (qz_mono (q := fun i => !mrq I g (mgp I g 6) i) fun c hc' => ?_) (by omega : qz (fun i => !mrq I g (mgp I g 6) i) 6 ≤ 2)
    unfold lck mrq
    intro z
    simp only [Bool.and_eq_true, decide_eq_true_eq] at z
    rw [decide_eq_false, Bool.not_false]
    intro z2
    exact w3.2 (6 * g + c) (by omega) l h1 (by omega) (by omega) (by rw [h3]; congr 1; omega) z.2
theorem crc_lo {A B : qI} {x n : Nat} (h : alo A B) (hx : x < 12) : crc A x n = crc B x n := by
  have hb := cp_bd hx
  unfold crc
  have e1 : cgr A x = cgr B x := by funext l; unfold cgr; rw [h 7 (by omega), h (cp x) (by omega)]
  have e2 : chd A x = chd B x := by funext l; unfold chd; rw [h (cp x + 1) (by omega)]
  rw [e1, e2]
theorem gqp_lo {A B : qI} {g : Nat} (h : alo A B) (hg : g < 2) : ∀ c, c ≤ 6 → gqp A g c = gqp B g c
  | 0, _ => rfl
  | c + 1, hc => by
    have hb := cp_bd (show 6 * g + c < 12 by omega)
    rw [gqp, gqp, gqp_lo h hg c (by omega), h (cp (6 * g + c)) (by omega)]
    have e : qz (grq A g (B (cp (6 * g + c)) 4)) 6 = qz (grq B g (B (cp (6 * g + c)) 4)) 6 := qz_congr fun i hi => by
      have hb := cp_bd (show 6 * g + i < 12 by omega)
      unfold grq
      rw [h (cp (6 * g + i)) (by omega)]
    rw [e]
theorem qrs_lo {A B : qI} {n : Nat} (h : alo A B) : alo (qrs A n) (qrs B n) := by
  have e1 : qcm A = qcm B := by funext l; unfold qcm; rw [h 7 (by omega), gqp_lo h (by omega) 6 (by omega), gqp_lo h (by omega) 6 (by omega)]
  have e2 : lcl A = lcl B := by funext l; unfold lcl; rw [h 3 (by omega)]
  intro a ha
  unfold qrs
  rw [e1, e2, h 1 (by omega)]
  funext j
  unfold q_up
  rw [h a ha]
theorem mgp_hi {A B : qI} {g : Nat} (h : agr A B) : ∀ c, mgp A g c = mgp B g c
  | 0 => rfl
  | c + 1 => by
    have e : mrq A g = mrq B g := by funext v c; unfold mrq; rw [h 53 (by omega)]
    rw [mgp, mgp, mgp_hi h c, h 53 (by omega), e]
theorem mg_hi {A B : qI} (h : agr A B) : mg A = mg B := mg_fr (h 45 (by omega)) (h 46 (by omega)) (h 48 (by omega))
theorem loc_adv {n : Nat} : loc (fun I => madv I n) := loc_up (v := fun I => qmax (I 44 11) (ql (mcl I) (qp (mcm I) n 0) : Nat)) (by omega) (fun A B h => by
  have e1 : mcm A = mcm B := by funext l; unfold mcm; rw [mg_hi h, mgp_hi h, mgp_hi h]
  have e2 : mcl A = mcl B := by funext l; unfold mcl; rw [h 49 (by omega)]
  show qmax (A 44 11) _ = qmax (B 44 11) _
  rw [e1, e2, h 44 (by omega)])
theorem mpt_hi {A B : qI} {x n : Nat} (h : agr A B) : mpt A x n = mpt B x n := by
  unfold mpt
  have e1 : mcg A x = mcg B x := by funext l; unfold mcg; rw [mg_hi h]
  have e2 : mhd A x = mhd B x := by funext l; unfold mhd; rw [h 50 (by omega)]
  rw [e1, e2]
theorem loc_mrep {x n : Nat} : loc (fun I => mrep I x n) := (loc_up (a := 53) (j := x) (v := fun I => ((mpt I x n : Nat) : Int)) (by omega) (fun A B h => by show ((mpt A x n : Nat) : Int) = _; rw [mpt_hi h])).comp loc_adv
/-- the durable point rises on both sides alike -/
theorem inv_adv {M : qI} {n T k d : Nat} (h : INV M n T k d) : ∃ d', INV (mrg (qrs M n) (madv M n)) n T k d' := by
  have hL := h.1
  have hC := h.2.2.2.1
  have hX := h.2.2.2.2.2.1
  have w3 := h.2.2.2.2.2.2.1
  have w4 := h.2.2.2.2.2.2.2.1
  have hp := qp_le (mcm M) n 0
  have hq := ql_le (mcl M) (qp (mcm M) n 0)
  have hh := ql_has (mcl M) (qp (mcm M) n 0)
  have e : ql (lcl M) (qp (qcm M) n 0) = ql (mcl M) (qp (mcm M) n 0) := by rw [e_cm hL hC, e_close hL (by omega)]
  have a := adv_w4 w3 hq
  have ex : ∃ d' : Nat, qmax (d : Int) (ql (mcl M) (qp (mcm M) n 0) : Nat) = (d' : Int) ∧ d ≤ d' ∧ d' ≤ n ∧ (d' = 0 ∨ M 49 d' ≠ 0) ∧ W4 M d' := by
    unfold qmax
    split
    · refine ⟨_, rfl, by omega, by omega, ?_, a⟩
      rcases hh with z | z
      · exact Or.inl z
      · unfold mcl at z; exact Or.inr (of_decide_eq_true z)
    · exact ⟨d, rfl, Nat.le_refl _, hX.2.1.2.2.1, hX.2.1.2.2.2, w4⟩
  obtain ⟨d', e1, e2, e3, e4, e5⟩ := ex
  refine ⟨d', ?_⟩
  have hA : qrs M n = q_up M 1 6 (d' : Int) := by unfold qrs; rw [e, hX.2.1.1, e1]
  have hB : madv M n = q_up M 44 11 (d' : Int) := by unfold madv; rw [hX.2.1.2.1, e1]
  rw [hA, hB]
  have off : ∀ a, a ≠ 1 → a ≠ 44 → mrg (q_up M 1 6 (d' : Int)) (q_up M 44 11 (d' : Int)) a = M a := by
    intro a h1 h2
    by_cases ha : a < 44
    · rw [mrg_lo ha, q_up_off a h1]
    · rw [mrg_hi (by omega), q_up_off a h2]
  have o44 : mrg (q_up M 1 6 (d' : Int)) (q_up M 44 11 (d' : Int)) 44 = q_up M 44 11 (d' : Int) 44 := mrg_hi (by decide)
  have o1 : mrg (q_up M 1 6 (d' : Int)) (q_up M 44 11 (d' : Int)) 1 = q_up M 1 6 (d' : Int) 1 := mrg_lo (by decide)
  refine h.copies (fun a h1 _ h2 _ => off a h1 h2) (fun j hj => by rw [o44]; simp [q_up, hj]) (by rw [o1]; simp [q_up]) (fun _ _ => Or.inr (Or.inl (by rw [off 53 (by decide) (by decide)]))) (hC.fr (fun a ha => off a (by omega) (by omega))) (by rw [o1]; simp [q_up]) (by rw [o44]; simp [q_up]) e2 e3 e4 (w3.fr (fun a ha => off a (by omega) (by omega))) (e5.fr (fun a ha => off a (by omega) (by omega)))
theorem inv_tell0 {I : qI} {n T k d x : Nat} (h : INV I n T k d) (up : I 44 10 = 0) (hx : x < 12) : INV (mrg (q_up I (cp x) 4 (crc I x n : Nat)) (q_up I 53 x (mpt I x n : Nat))) n T k d := by
  have hb := cp_bd hx
  have hC := h.2.2.2.1
  have hX := h.2.2.2.2.2.1
  rw [e_pt h.1 hC hx]
  have hmp := fun (l : Nat) => qr_all (g := mcg I x) (h := mhd I x) (f := n) (l := 1) (r := 0) (by omega) (fun i a b => by omega) (fun i a b => by omega) l
  have hml := mpt_le (I := I) (x := x) (n := n)
  unfold mpt at hml ⊢
  generalize qr (mcg I x) (mhd I x) n 1 0 = v at hmp hml ⊢
  have off : ∀ a, a ≠ cp x → a ≠ 53 → mrg (q_up I (cp x) 4 (v : Int)) (q_up I 53 x (v : Int)) a = I a := by
    intro a h1 h2
    by_cases ha : a < 44
    · rw [mrg_lo ha, q_up_off a h1]
    · rw [mrg_hi (by omega), q_up_off a h2]
  have o53 : mrg (q_up I (cp x) 4 (v : Int)) (q_up I 53 x (v : Int)) 53 = q_up I 53 x (v : Int) 53 := mrg_hi (by decide)
  refine h.copies (fun a _ h1 _ h2 => off a (by omega) (by omega)) (fun j hj => by rw [off 44 (by omega) (by decide)]) (by rw [off 1 (by omega) (by decide)]) (fun _ _ => Or.inl up) (rc2_rc ?_) (by rw [off 1 (by omega) (by decide)]; exact hX.2.1.1) (by rw [off 44 (by omega) (by decide)]; exact hX.2.1.2.1) (Nat.le_refl _) hX.2.1.2.2.1 hX.2.1.2.2.2 ?_ (h.2.2.2.2.2.2.2.1.fr (fun a ha => off a (by omega) (by omega)))
  · intro y hy
    have hcy := cp_bd hy
    obtain ⟨t1, t2, t3, t4, t5, t6⟩ := hC y hy
    rw [q_up_off 50 (by decide), q_up_off 51 (by decide), q_up_off 52 (by decide), q_up_off (cp y + 1) (fun z => cp_ne z.symm)]
    have key : ∀ j, j ≠ 4 → q_up I (cp x) 4 (v : Int) (cp y) j = I (cp y) j := fun j hj => by simp [q_up, hj]
    rw [key 0 (by decide), key 2 (by decide), key 3 (by decide)]
    refine ⟨t1, t2, t3, ?_, t5, t6⟩
    by_cases hyx : y = x
    · subst hyx; simp [q_up]
    · have hne : cp y ≠ cp x := fun z => hyx (cp_inj z)
      simpa [q_up, hne, hyx] using t4
  · refine ⟨fun y hy => ?_, ?_⟩
    · rw [o53]
      by_cases hyx : y = x
      · subst hyx; simp [q_up]; omega
      · simpa [q_up, hyx] using h.2.2.2.2.2.2.1.1 y hy
    intro y hy l h1 h2 h3 h4
    rw [mg_fr (off 45 (by omega) (by decide)) (off 46 (by omega) (by decide)) (off 48 (by omega) (by decide))] at h4
    rw [off 50 (by omega) (by decide)]
    rw [o53] at h3
    by_cases hyx : y = x
    · subst hyx
      have h3' : (l : Int) ≤ (v : Int) := by simpa [q_up] using h3
      have := hmp l h1 (by omega) (by unfold mcg; exact decide_eq_true h4)
      unfold mhd at this
      exact of_decide_eq_true this
    · exact h.2.2.2.2.2.2.1.2 y hy l h1 h2 (by simpa [q_up, hyx] using h3) h4
theorem inv_tell {I A B : qI} {n T k d x : Nat} (h : INV I n T k d) (up : I 44 10 = 0) (hx : x < 12) (hA : alo A I) (hB : agr B I) : ∃ d', INV (mrg (qtell A x n) (mrep B x n)) n T k d' := by
  obtain ⟨d', hd⟩ := inv_adv (inv_tell0 h up hx)
  refine ⟨d', ?_⟩
  have hb := cp_bd hx
  have e1 : alo (qtell A x n) (qrs (mrg (q_up I (cp x) 4 (crc I x n : Nat)) (q_up I 53 x (mpt I x n : Nat))) n) := by
    unfold qtell
    refine qrs_lo fun a ha => ?_
    rw [mrg_lo ha, crc_lo hA hx]
    funext j
    unfold q_up
    rw [hA a ha]
  have e2 : agr (mrep B x n) (madv (mrg (q_up I (cp x) 4 (crc I x n : Nat)) (q_up I 53 x (mpt I x n : Nat))) n) := by
    refine loc_adv.hi fun a ha => ?_
    rw [mrg_hi ha, mpt_hi hB]
    funext j
    unfold q_up
    rw [hB a ha]
  rw [mrg_congr e1 e2]
  exact hd
theorem ok_report {N : Nat} (I : qI) (hI : Inv I) (g c : Int) : okk Inv N 4 4 M_Q_report M_M_report [.inl g, .inl c] I := by
  obtain ⟨n, T, k, d, h⟩ := hI
  by_cases h0 : isC g c
  · obtain ⟨a, b, ha, hb, rfl, rfl⟩ := isC_nat h0
    have hx : 6 * a + b < 12 := by omega
    have hcb := cp_bd hx
    have hX := h.2.2.2.2.2.1
    have hC := h.2.2.2.1
    have hA := ct_Q_report (L := N) I h.cw ha hb
    have hu := up_iff hX
    have hcr : qcr I (6 * a + b) = mcr I (6 * a + b) := by
      unfold qcr mcr
      rw [(hC _ hx).2.1.1]
      by_cases hz : I 1 5 = 0
      · rw [if_pos hz, if_pos (hu.mp hz)]
      · rw [if_neg hz, if_neg (fun z => hz (hu.mpr z))]
    by_cases hz : qcr I (6 * a + b) = 0
    · rw [if_pos hz, e_pt h.1 hC hx] at hA
      have hlow : agr (qtell I (6 * a + b) n) I := fun q hq => by unfold qtell; rw [qrs_off (by omega), q_up_off q (by omega)]
      have up : I 44 10 = 0 := by rw [hcr] at hz; unfold mcr at hz; exact Classical.byContradiction fun w => by rw [if_pos w] at hz; omega
      obtain ⟨d', hd⟩ := inv_tell h up hx (fun _ _ => rfl) (fun _ _ => rfl)
      refine okk_fin (A1 := qtell I (6 * a + b) n) (F := fun I => mrep I (6 * a + b) n) hA hlow (by unfold qtell; rw [qrs_off (by omega), q_up_off 0 (by omega)]) loc_mrep ?_ ⟨n, T, k, d', hd⟩
      have hB := ct_M_report (L := N) (qtell I (6 * a + b) n) (inv_mw1 h hlow) ha hb
      have q1 : mcr (qtell I (6 * a + b) n) (6 * a + b) = mcr I (6 * a + b) := by unfold mcr; rw [hlow 44 (by omega), hlow 51 (by omega)]
      rw [q1, ← hcr, if_pos hz, mpt_hi hlow] at hB
      exact hB
    · rw [if_neg hz] at hA
      have hB := ct_M_report (L := N) I h.mw ha hb
      rw [← hcr, if_neg hz] at hB
      exact okk_same ⟨n, T, k, d, h⟩ hA hB
  · exact okk_same ⟨n, T, k, d, h⟩ (ct_Q_report0 I h0) (ct_M_report0 I h0)
