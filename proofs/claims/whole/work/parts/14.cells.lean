/-! The cells after the constructors: 0 the script, 1 .. 43 the system's, 44 .. 57 the reference's. -/
def S0 (L : Nat) : qS := [(200, L, []),
  (0, 7, [.inr (some 2), .inr (some 9), .inr (some 12), .inr (some 41), .inr (some 43), .inl 0, .inl 0]),
  (1, 7, [.inr (some 3), .inr (some 4), .inr (some 5), .inr (some 6), .inr (some 7), .inr (some 8), .inl 0]),
  (100, 188, []), (100, 188, []), (100, 188, []), (100, 188, []), (100, 188, []), (100, 61, []),
  (2, 4, [.inr (some 10), .inr (some 11), .inl 0, .inl 0]), (101, 61, []), (100, 32, []),
  (102, 2, [.inr (some 13), .inr (some 27)]),
  (3, 1, [.inr (some 14)]), (103, 6, [.inr (some 15), .inr (some 17), .inr (some 19), .inr (some 21), .inr (some 23), .inr (some 25)]),
  (4, 5, [.inl 0, .inr (some 16), .inl 0, .inl 0, .inl 0]), (101, 188, []),
  (4, 5, [.inl 0, .inr (some 18), .inl 0, .inl 0, .inl 0]), (101, 188, []),
  (4, 5, [.inl 0, .inr (some 20), .inl 0, .inl 0, .inl 0]), (101, 188, []),
  (4, 5, [.inl 0, .inr (some 22), .inl 0, .inl 0, .inl 0]), (101, 188, []),
  (4, 5, [.inl 0, .inr (some 24), .inl 0, .inl 0, .inl 0]), (101, 188, []),
  (4, 5, [.inl 0, .inr (some 26), .inl 0, .inl 0, .inl 0]), (101, 188, []),
  (3, 1, [.inr (some 28)]), (103, 6, [.inr (some 29), .inr (some 31), .inr (some 33), .inr (some 35), .inr (some 37), .inr (some 39)]),
  (4, 5, [.inl 0, .inr (some 30), .inl 0, .inl 0, .inl 0]), (101, 188, []),
  (4, 5, [.inl 0, .inr (some 32), .inl 0, .inl 0, .inl 0]), (101, 188, []),
  (4, 5, [.inl 0, .inr (some 34), .inl 0, .inl 0, .inl 0]), (101, 188, []),
  (4, 5, [.inl 0, .inr (some 36), .inl 0, .inl 0, .inl 0]), (101, 188, []),
  (4, 5, [.inl 0, .inr (some 38), .inl 0, .inl 0, .inl 0]), (101, 188, []),
  (4, 5, [.inl 0, .inr (some 40), .inl 0, .inl 0, .inl 0]), (101, 188, []),
  (5, 2, [.inr (some 42), .inl 0]), (100, 4, []), (100, 2, []),
  (6, 18, [.inl 0, .inr (some 45), .inr (some 46), .inr (some 47), .inr (some 48), .inr (some 49), .inr (some 50), .inr (some 51), .inr (some 52), .inr (some 53), .inl 0, .inl 0, .inl 0, .inr (some 54), .inr (some 55), .inr (some 56), .inl 0, .inr (some 57)]),
  (100, 200, []), (100, 200, []), (100, 200, []), (100, 200, []), (101, 200, []), (101, 2400, []), (100, 12, []), (100, 12, []), (100, 12, []), (101, 61, []), (100, 32, []), (100, 4, []), (100, 2, [])]
/-- a storage copy's cell, c in 0 .. 11: six of a group -/
def cp (c : Nat) : Nat := if c < 6 then 15 + 2 * c else 17 + 2 * c
def gp (g : Nat) : Nat := 13 + 14 * g
theorem lt12 {p : Nat → Prop} (h0 : p 0) (h1 : p 1) (h2 : p 2) (h3 : p 3) (h4 : p 4) (h5 : p 5) (h6 : p 6) (h7 : p 7) (h8 : p 8) (h9 : p 9) (h10 : p 10) (h11 : p 11) : ∀ c, c < 12 → p c := by
  intro c hc
  match c, hc with
  | 0, _ => exact h0
  | 1, _ => exact h1
  | 2, _ => exact h2
  | 3, _ => exact h3
  | 4, _ => exact h4
  | 5, _ => exact h5
  | 6, _ => exact h6
  | 7, _ => exact h7
  | 8, _ => exact h8
  | 9, _ => exact h9
  | 10, _ => exact h10
  | 11, _ => exact h11
theorem lt6 {p : Nat → Prop} (h0 : p 0) (h1 : p 1) (h2 : p 2) (h3 : p 3) (h4 : p 4) (h5 : p 5) : ∀ c, c < 6 → p c := by
  intro c hc
  match c, hc with
  | 0, _ => exact h0
  | 1, _ => exact h1
  | 2, _ => exact h2
  | 3, _ => exact h3
  | 4, _ => exact h4
  | 5, _ => exact h5
theorem lt2 {p : Nat → Prop} (h0 : p 0) (h1 : p 1) : ∀ g, g < 2 → p g := by
  intro c hc
  match c, hc with
  | 0, _ => exact h0
  | 1, _ => exact h1
theorem s_cp (L : Nat) : ∀ c, c < 12 → (S0 L)[cp c]? = some (4, 5, [.inl 0, .inr (some (cp c + 1)), .inl 0, .inl 0, .inl 0]) := lt12 rfl rfl rfl rfl rfl rfl rfl rfl rfl rfl rfl rfl
theorem s_hd (L : Nat) : ∀ c, c < 12 → (S0 L)[cp c + 1]? = some (101, 188, []) := lt12 rfl rfl rfl rfl rfl rfl rfl rfl rfl rfl rfl rfl
theorem s_gp (L : Nat) : ∀ g, g < 2 → (S0 L)[gp g]? = some (3, 1, [.inr (some (gp g + 1))]) := lt2 rfl rfl
def cps (g : Nat) : List qV := (List.range 6).map fun c => .inr (some (cp (6 * g + c)))
theorem s_cps (L : Nat) : ∀ g, g < 2 → (S0 L)[gp g + 1]? = some (103, 6, cps g) := lt2 rfl rfl
theorem v_cps {g c : Nat} (hc : c < 6) : (cps g)[c]? = some (.inr (some (cp (6 * g + c)))) := by
  unfold cps
  rw [List.getElem?_map, List.getElem?_range hc]
  rfl
theorem s_gs (L : Nat) : (S0 L)[12]? = some (102, 2, [.inr (some (gp 0)), .inr (some (gp 1))]) := rfl
theorem v_gs : ∀ g, g < 2 → ([.inr (some (gp 0)), .inr (some (gp 1))] : List qV)[g]? = some (.inr (some (gp g))) := lt2 rfl rfl
theorem cp_inj {a b : Nat} (h : cp a = cp b) : a = b := by unfold cp at h; split at h <;> split at h <;> omega
theorem cp_ne {a b : Nat} : cp a ≠ cp b + 1 := by unfold cp; split <;> split <;> omega
theorem cp_bd {c : Nat} (h : c < 12) : 15 ≤ cp c ∧ cp c ≤ 39 ∧ cp c ≠ 27 ∧ cp c ≠ 28 ∧ cp c ≠ 26 := by unfold cp; split <;> omega
def bi (b : Bool) : Int := if b = true then 1 else 0
theorem bi01 (b : Bool) : bi b = 0 ∨ bi b = 1 := by cases b <;> simp [bi]
theorem nv_0 : ∀ (B : Nat × Nat) (j : Nat), j < 7 → defaultValue (q_y0 j) = q_v B (q_sl [.inr none, .inr none, .inr none, .inr none, .inr none, .inl 0, .inl 0] (fun _ => 0) j) := by
  intro B j hj
  match j, hj with
  | 0, _ => rfl
  | 1, _ => rfl
  | 2, _ => rfl
  | 3, _ => rfl
  | 4, _ => rfl
  | 5, _ => rfl
  | 6, _ => rfl
theorem nv_1 : ∀ (B : Nat × Nat) (j : Nat), j < 7 → defaultValue (q_y1 j) = q_v B (q_sl [.inr none, .inr none, .inr none, .inr none, .inr none, .inr none, .inl 0] (fun _ => 0) j) := by
  intro B j hj
  match j, hj with
  | 0, _ => rfl
  | 1, _ => rfl
  | 2, _ => rfl
  | 3, _ => rfl
  | 4, _ => rfl
  | 5, _ => rfl
  | 6, _ => rfl
theorem nv_2 : ∀ (B : Nat × Nat) (j : Nat), j < 4 → defaultValue (q_y2 j) = q_v B (q_sl [.inr none, .inr none, .inl 0, .inl 0] (fun _ => 0) j) := by
  intro B j hj
  match j, hj with
  | 0, _ => rfl
  | 1, _ => rfl
  | 2, _ => rfl
  | 3, _ => rfl
theorem nv_3 : ∀ (B : Nat × Nat) (j : Nat), j < 1 → defaultValue (q_y3 j) = q_v B (q_sl [.inr none] (fun _ => 0) j) := by
  intro B j hj
  match j, hj with
  | 0, _ => rfl
theorem nv_4 : ∀ (B : Nat × Nat) (j : Nat), j < 5 → defaultValue (q_y4 j) = q_v B (q_sl [.inl 0, .inr none, .inl 0, .inl 0, .inl 0] (fun _ => 0) j) := by
  intro B j hj
  match j, hj with
  | 0, _ => rfl
  | 1, _ => rfl
  | 2, _ => rfl
  | 3, _ => rfl
  | 4, _ => rfl
theorem nv_5 : ∀ (B : Nat × Nat) (j : Nat), j < 2 → defaultValue (q_y5 j) = q_v B (q_sl [.inr none, .inl 0] (fun _ => 0) j) := by
  intro B j hj
  match j, hj with
  | 0, _ => rfl
  | 1, _ => rfl
theorem nv_6 : ∀ (B : Nat × Nat) (j : Nat), j < 18 → defaultValue (q_y6 j) = q_v B (q_sl [.inl 0, .inr none, .inr none, .inr none, .inr none, .inr none, .inr none, .inr none, .inr none, .inr none, .inl 0, .inl 0, .inl 0, .inr none, .inr none, .inr none, .inl 0, .inr none] (fun _ => 0) j) := by
  intro B j hj
  match j, hj with
  | 0, _ => rfl
  | 1, _ => rfl
  | 2, _ => rfl
  | 3, _ => rfl
  | 4, _ => rfl
  | 5, _ => rfl
  | 6, _ => rfl
  | 7, _ => rfl
  | 8, _ => rfl
  | 9, _ => rfl
  | 10, _ => rfl
  | 11, _ => rfl
  | 12, _ => rfl
  | 13, _ => rfl
  | 14, _ => rfl
  | 15, _ => rfl
  | 16, _ => rfl
  | 17, _ => rfl
  | n + 18, h => omega
