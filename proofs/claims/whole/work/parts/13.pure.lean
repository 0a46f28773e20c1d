/-! Searches and counts over the numbers, in the words of the loops. -/
/-- the last of 1 .. n that has p, else 0 -/
def ql (p : Nat → Bool) : Nat → Nat
  | 0 => 0
  | l + 1 => if p (l + 1) = true then l + 1 else ql p l
/-- the first of l .. l + f - 1 that has p, else 0 -/
def qf (p : Nat → Bool) : Nat → Nat → Nat
  | 0, _ => 0
  | f + 1, l => if p l = true then l else qf p f (l + 1)
/-- how many of 1 .. n have p -/
def qn (p : Nat → Bool) : Nat → Nat
  | 0 => 0
  | l + 1 => qn p l + (if p (l + 1) = true then 1 else 0)
/-- how many of 0 .. n - 1 have p -/
def qz (p : Nat → Bool) : Nat → Nat
  | 0 => 0
  | i + 1 => qz p i + (if p i = true then 1 else 0)
/-- all of 1 .. n have p -/
def qa (p : Nat → Bool) : Nat → Bool
  | 0 => true
  | l + 1 => qa p l && p (l + 1)
/-- one of 0 .. n - 1 has p -/
def qe (p : Nat → Bool) : Nat → Bool
  | 0 => false
  | i + 1 => qe p i || p i
/-- from l on, as long as the next has p, f steps at most -/
def qp (p : Nat → Bool) : Nat → Nat → Nat
  | 0, l => l
  | f + 1, l => if p (l + 1) = true then qp p f (l + 1) else l
/-- the last record of a group that a copy has reached -/
def qr (g h : Nat → Bool) : Nat → Nat → Nat → Nat
  | 0, _, r => r
  | f + 1, l, r => if g l = true then (if h l = true then qr g h f (l + 1) l else r) else qr g h f (l + 1) r
theorem ql_le (p : Nat → Bool) : ∀ n, ql p n ≤ n
  | 0 => Nat.le_refl _
  | n + 1 => by
    have := ql_le p n
    unfold ql
    split <;> omega
theorem ql_has (p : Nat → Bool) : ∀ n, ql p n = 0 ∨ p (ql p n) = true
  | 0 => Or.inl rfl
  | n + 1 => by
    have := ql_has p n
    unfold ql
    split
    · right; assumption
    · exact this
theorem ql_none (p : Nat → Bool) : ∀ n l, ql p n < l → l ≤ n → p l = false
  | 0, l, h1, h2 => by omega
  | n + 1, l, h1, h2 => by
    unfold ql at h1
    split at h1
    · omega
    · next h =>
      by_cases hl : l = n + 1
      · subst hl; simpa using h
      · exact ql_none p n l h1 (by omega)
theorem ql_ge (p : Nat → Bool) {n l : Nat} (h : p l = true) (hl : l ≤ n) : l ≤ ql p n := by
  apply Classical.byContradiction
  intro h1
  have := ql_none p n l (by omega) hl
  rw [this] at h
  cases h
theorem ql_congr {p q : Nat → Bool} : ∀ {n : Nat}, (∀ l, 1 ≤ l → l ≤ n → p l = q l) → ql p n = ql q n
  | 0, _ => rfl
  | n + 1, h => by
    unfold ql
    rw [h (n + 1) (by omega) (Nat.le_refl _), ql_congr (n := n) (fun l h1 h2 => h l h1 (by omega))]
theorem ql_eq {p : Nat → Bool} {n m : Nat} (h1 : m = 0 ∨ p m = true) (h2 : m ≤ n) (h3 : ∀ l, m < l → l ≤ n → p l = false) : ql p n = m := by
  have a := ql_has p n
  have b := ql_le p n
  have c := ql_none p n
  apply Classical.byContradiction
  intro hne
  by_cases hlt : ql p n < m
  · rcases h1 with h1 | h1
    · omega
    · rw [c m hlt h2] at h1; cases h1
  · rcases a with a | a
    · omega
    · rw [h3 (ql p n) (by omega) b] at a; cases a
theorem ql_mono {p : Nat → Bool} {m n : Nat} (h : m ≤ n) : ql p m ≤ ql p n := by
  rcases ql_has p m with h1 | h1
  · omega
  · exact ql_ge p h1 (Nat.le_trans (ql_le p m) h)
theorem qf_congr {p q : Nat → Bool} : ∀ {f l : Nat}, (∀ i, l ≤ i → i < l + f → p i = q i) → qf p f l = qf q f l
  | 0, _, _ => rfl
  | f + 1, l, h => by
    unfold qf
    rw [h l (Nat.le_refl _) (by omega), qf_congr (f := f) (l := l + 1) (fun i h1 h2 => h i (by omega) (by omega))]
theorem qf_has {p : Nat → Bool} : ∀ {f l : Nat}, qf p f l = 0 ∨ (p (qf p f l) = true ∧ l ≤ qf p f l ∧ qf p f l < l + f)
  | 0, _ => Or.inl rfl
  | f + 1, l => by
    unfold qf
    split
    · next h => exact Or.inr ⟨h, Nat.le_refl _, by omega⟩
    · rcases qf_has (p := p) (f := f) (l := l + 1) with h | ⟨h1, h2, h3⟩
      · exact Or.inl h
      · exact Or.inr ⟨h1, by omega, by omega⟩
theorem qf_none {p : Nat → Bool} : ∀ {f l : Nat}, 1 ≤ l → qf p f l = 0 → ∀ i, l ≤ i → i < l + f → p i = false
  | 0, l, _, _, i, h1, h2 => by omega
  | f + 1, l, hl, h, i, h1, h2 => by
    unfold qf at h
    split at h
    · omega
    · next hp =>
      by_cases hi : i = l
      · subst hi; simpa using hp
      · exact qf_none (f := f) (l := l + 1) (by omega) h i (by omega) (by omega)
theorem qf_before {p : Nat → Bool} : ∀ {f l i : Nat}, l ≤ i → i < qf p f l → p i = false
  | 0, l, i, _, h2 => by unfold qf at h2; omega
  | f + 1, l, i, h1, h2 => by
    unfold qf at h2
    split at h2
    · omega
    · next hp =>
      by_cases hi : i = l
      · subst hi; simpa using hp
      · exact qf_before (f := f) (l := l + 1) (by omega) h2
theorem qf_eq {p : Nat → Bool} : ∀ {f l m : Nat}, p m = true → l ≤ m → m < l + f → (∀ i, l ≤ i → i < m → p i = false) → qf p f l = m
  | 0, l, m, _, h1, h2, _ => by omega
  | f + 1, l, m, hp, h1, h2, h3 => by
    unfold qf
    by_cases hl : l = m
    · subst hl; rw [if_pos hp]
    · rw [if_neg (by rw [h3 l (Nat.le_refl _) (by omega)]; decide)]
      exact qf_eq hp (by omega) (by omega) (fun i a b => h3 i (by omega) b)
theorem qf_zero {p : Nat → Bool} : ∀ {f l : Nat}, (∀ i, l ≤ i → i < l + f → p i = false) → qf p f l = 0
  | 0, _, _ => rfl
  | f + 1, l, h => by
    unfold qf
    rw [if_neg (by rw [h l (Nat.le_refl _) (by omega)]; decide)]
    exact qf_zero fun i a b => h i (by omega) (by omega)
theorem qn_congr {p q : Nat → Bool} : ∀ {n : Nat}, (∀ l, 1 ≤ l → l ≤ n → p l = q l) → qn p n = qn q n
  | 0, _ => rfl
  | n + 1, h => by
    unfold qn
    rw [h (n + 1) (by omega) (Nat.le_refl _), qn_congr (n := n) (fun l h1 h2 => h l h1 (by omega))]
theorem qn_le (p : Nat → Bool) : ∀ n, qn p n ≤ n
  | 0 => Nat.le_refl _
  | n + 1 => by
    have := qn_le p n
    unfold qn
    split <;> omega
theorem qn_zero {p : Nat → Bool} : ∀ {n : Nat}, (∀ l, 1 ≤ l → l ≤ n → p l = false) → qn p n = 0
  | 0, _ => rfl
  | n + 1, h => by
    unfold qn
    rw [h (n + 1) (by omega) (Nat.le_refl _), qn_zero (n := n) (fun l h1 h2 => h l h1 (by omega))]
    rfl
theorem qz_congr {p q : Nat → Bool} : ∀ {n : Nat}, (∀ i, i < n → p i = q i) → qz p n = qz q n
  | 0, _ => rfl
  | n + 1, h => by
    unfold qz
    rw [h n (by omega), qz_congr (n := n) (fun l h1 => h l (by omega))]
theorem qz_le (p : Nat → Bool) : ∀ n, qz p n ≤ n
  | 0 => Nat.le_refl _
  | n + 1 => by
    have := qz_le p n
    unfold qz
    split <;> omega
theorem qz_mono {p q : Nat → Bool} : ∀ {n : Nat}, (∀ i, i < n → p i = true → q i = true) → qz p n ≤ qz q n
  | 0, _ => Nat.le_refl _
  | n + 1, h => by
    have h1 := qz_mono (n := n) (fun i hi => h i (by omega))
    have h2 := h n (by omega)
    unfold qz
    by_cases hp : p n = true
    · rw [if_pos hp, if_pos (h2 hp)]; omega
    · rw [if_neg hp]; omega
theorem qz_or (p q : Nat → Bool) : ∀ n : Nat, qz (fun i => p i || q i) n ≤ qz p n + qz q n
  | 0 => Nat.le_refl _
  | n + 1 => by
    have h1 := qz_or p q n
    unfold qz
    cases p n <;> cases q n <;> simp <;> omega
theorem qz_not (p : Nat → Bool) : ∀ n : Nat, qz (fun i => !p i) n + qz p n = n
  | 0 => rfl
  | n + 1 => by
    have h1 := qz_not p n
    unfold qz
    cases p n <;> simp <;> omega
theorem qz_pos {p : Nat → Bool} : ∀ {n : Nat}, 0 < qz p n → ∃ i, i < n ∧ p i = true
  | 0, h => by unfold qz at h; omega
  | n + 1, h => by
    unfold qz at h
    by_cases hp : p n = true
    · exact ⟨n, by omega, hp⟩
    · rw [if_neg hp] at h
      obtain ⟨i, h1, h2⟩ := qz_pos (n := n) (by omega)
      exact ⟨i, by omega, h2⟩
theorem qa_iff {p : Nat → Bool} : ∀ {n : Nat}, qa p n = true ↔ ∀ l, 1 ≤ l → l ≤ n → p l = true
  | 0 => ⟨fun _ l h1 h2 => by omega, fun _ => rfl⟩
  | n + 1 => by
    unfold qa
    rw [Bool.and_eq_true, qa_iff (n := n)]
    constructor
    · rintro ⟨h1, h2⟩ l a b
      by_cases hl : l = n + 1
      · subst hl; exact h2
      · exact h1 l a (by omega)
    · exact fun h => ⟨fun l a b => h l a (by omega), h (n + 1) (by omega) (Nat.le_refl _)⟩
theorem qa_congr {p q : Nat → Bool} : ∀ {n : Nat}, (∀ l, 1 ≤ l → l ≤ n → p l = q l) → qa p n = qa q n
  | 0, _ => rfl
  | n + 1, h => by
    unfold qa
    rw [h (n + 1) (by omega) (Nat.le_refl _), qa_congr (n := n) (fun l h1 h2 => h l h1 (by omega))]
theorem qe_iff {p : Nat → Bool} : ∀ {n : Nat}, qe p n = true ↔ ∃ i, i < n ∧ p i = true
  | 0 => ⟨fun h => (by cases h), fun ⟨i, h, _⟩ => (by omega)⟩
  | n + 1 => by
    unfold qe
    rw [Bool.or_eq_true, qe_iff (n := n)]
    constructor
    · rintro (⟨i, h1, h2⟩ | h)
      · exact ⟨i, by omega, h2⟩
      · exact ⟨n, by omega, h⟩
    · rintro ⟨i, h1, h2⟩
      by_cases hi : i = n
      · subst hi; exact Or.inr h2
      · exact Or.inl ⟨i, by omega, h2⟩
theorem qe_congr {p q : Nat → Bool} : ∀ {n : Nat}, (∀ i, i < n → p i = q i) → qe p n = qe q n
  | 0, _ => rfl
  | n + 1, h => by
    unfold qe
    rw [h n (by omega), qe_congr (n := n) (fun l h1 => h l (by omega))]
theorem qp_congr {p q : Nat → Bool} : ∀ {f l : Nat}, (∀ i, l < i → i ≤ l + f → p i = q i) → qp p f l = qp q f l
  | 0, _, _ => rfl
  | f + 1, l, h => by
    unfold qp
    rw [h (l + 1) (by omega) (by omega), qp_congr (f := f) (l := l + 1) (fun i h1 h2 => h i (by omega) (by omega))]
theorem qp_ge (p : Nat → Bool) : ∀ f l : Nat, l ≤ qp p f l
  | 0, _ => Nat.le_refl _
  | f + 1, l => by
    unfold qp
    split
    · have := qp_ge p f (l + 1); omega
    · exact Nat.le_refl _
theorem qp_le (p : Nat → Bool) : ∀ f l : Nat, qp p f l ≤ l + f
  | 0, _ => Nat.le_refl _
  | f + 1, l => by
    unfold qp
    split
    · have := qp_le p f (l + 1); omega
    · omega
theorem qp_all (p : Nat → Bool) : ∀ f l i : Nat, l < i → i ≤ qp p f l → p i = true
  | 0, l, i, h1, h2 => by unfold qp at h2; omega
  | f + 1, l, i, h1, h2 => by
    unfold qp at h2
    split at h2
    · next h =>
      by_cases hi : i = l + 1
      · subst hi; exact h
      · exact qp_all p f (l + 1) i (by omega) h2
    · omega
theorem qp_reach {p : Nat → Bool} : ∀ {f l m : Nat}, m ≤ l + f → (∀ i, l < i → i ≤ m → p i = true) → m ≤ qp p f l
  | 0, l, m, h1, _ => by unfold qp; omega
  | f + 1, l, m, h1, h2 => by
    unfold qp
    by_cases hm : m ≤ l
    · have := qp_ge p f (l + 1)
      split <;> omega
    · rw [if_pos (h2 (l + 1) (by omega) (by omega))]
      exact qp_reach (by omega) (fun i a b => h2 i (by omega) b)
theorem qr_congr {g h g' h' : Nat → Bool} : ∀ {f l r : Nat}, (∀ i, l ≤ i → i < l + f → g i = g' i) → (∀ i, l ≤ i → i < l + f → h i = h' i) → qr g h f l r = qr g' h' f l r
  | 0, _, _, _, _ => rfl
  | f + 1, l, r, h1, h2 => by
    unfold qr
    rw [h1 l (Nat.le_refl _) (by omega), h2 l (Nat.le_refl _) (by omega), qr_congr (f := f) (l := l + 1) (r := l) (fun i a b => h1 i (by omega) (by omega)) (fun i a b => h2 i (by omega) (by omega)), qr_congr (f := f) (l := l + 1) (r := r) (fun i a b => h1 i (by omega) (by omega)) (fun i a b => h2 i (by omega) (by omega))]
theorem qr_le {g h : Nat → Bool} : ∀ {f l r : Nat}, r < l → qr g h f l r < l + f
  | 0, l, r, hr => by unfold qr; omega
  | f + 1, l, r, hr => by
    unfold qr
    split
    · split
      · have := qr_le (g := g) (h := h) (f := f) (l := l + 1) (r := l) (by omega); omega
      · omega
    · have := qr_le (g := g) (h := h) (f := f) (l := l + 1) (r := r) (by omega); omega
/-- up to what it has reached a copy holds all of its group -/
theorem qr_all {g h : Nat → Bool} : ∀ {f l r : Nat}, r < l → (∀ i, 1 ≤ i → i < l → g i = true → i ≤ r → h i = true) → (∀ i, r < i → i < l → g i = false) → ∀ i, 1 ≤ i → i ≤ qr g h f l r → g i = true → h i = true
  | 0, l, r, hr, h1, h2, i, a, b, c => by
    unfold qr at b
    exact h1 i a (by omega) c b
  | f + 1, l, r, hr, h1, h2, i, a, b, c => by
    unfold qr at b
    split at b
    · next hg =>
      split at b
      · next hh =>
        refine qr_all (f := f) (l := l + 1) (r := l) (by omega) (fun j j1 j2 j3 j4 => ?_) (fun j j1 j2 => by omega) i a b c
        by_cases hj : j = l
        · subst hj; exact hh
        · by_cases hjr : j ≤ r
          · exact h1 j j1 (by omega) j3 hjr
          · rw [h2 j (by omega) (by omega)] at j3; cases j3
      · exact h1 i a (by omega) c b
    · next hg =>
      refine qr_all (f := f) (l := l + 1) (r := r) (by omega) (fun j j1 j2 j3 j4 => ?_) (fun j j1 j2 => ?_) i a b c
      · exact h1 j j1 (by omega) j3 j4
      · by_cases hj : j = l
        · subst hj; simpa using hg
        · exact h2 j j1 (by omega)
