/-! The start, and all calls together. -/
theorem jc_cp {J : qI} (hJ : ∀ a j, a ≠ 0 → J a j = 0) : ∀ x, x < 12 → ∀ j, jc J (cp x) j = if j = 0 then ((x / 6 : Nat) : Int) else 0 := by
  have z : ∀ a j, a ≠ 0 → a ≠ 1 → a ≠ 29 → a ≠ 31 → a ≠ 33 → a ≠ 35 → a ≠ 37 → a ≠ 39 → jc J a j = 0 := fun a j h0 h1 h2 h3 h4 h5 h6 h7 => by
    unfold jc
    rw [q_up_off a h1, q_up_off a h7, q_up_off a h6, q_up_off a h5, q_up_off a h4, q_up_off a h3, q_up_off a h2]
    exact hJ a j h0
  have o : ∀ a j, a = 29 ∨ a = 31 ∨ a = 33 ∨ a = 35 ∨ a = 37 ∨ a = 39 → jc J a j = if j = 0 then 1 else 0 := fun a j ha => by
    have := hJ a j (by omega)
    unfold jc
    by_cases e : j = 0
    · subst e
      rcases ha with rfl | rfl | rfl | rfl | rfl | rfl <;> simp [q_up]
    · rcases ha with rfl | rfl | rfl | rfl | rfl | rfl <;> simp [q_up, e, this]
  intro x hx j
  by_cases h6 : x < 6
  · have ec : cp x = 15 + 2 * x := by unfold cp; rw [if_pos h6]
    rw [z (cp x) j (by omega) (by omega) (by omega) (by omega) (by omega) (by omega) (by omega) (by omega), show x / 6 = 0 by omega]
    split <;> rfl
  · have ec : cp x = 17 + 2 * x := by unfold cp; rw [if_neg h6]
    rw [o (cp x) j (by omega), show x / 6 = 1 by omega]
    rfl
theorem jc_0 {J : qI} (hJ : ∀ a j, a ≠ 0 → J a j = 0) (a j : Nat) (h0 : a ≠ 0) (h1 : ¬ (a = 1 ∧ j = 5)) (h2 : a < 15 ∨ a % 2 = 0 ∨ 40 < a) : jc J a j = 0 := by
  unfold jc
  have e : q_up (q_up (q_up (q_up (q_up (q_up (q_up J 29 0 1) 31 0 1) 33 0 1) 35 0 1) 37 0 1) 39 0 1) 1 5 1 a j = q_up (q_up (q_up (q_up (q_up (q_up J 29 0 1) 31 0 1) 33 0 1) 35 0 1) 37 0 1) 39 0 1 a j := by
    unfold q_up
    rw [if_neg h1]
  rw [e, q_up_off a (by omega), q_up_off a (by omega), q_up_off a (by omega), q_up_off a (by omega), q_up_off a (by omega), q_up_off a (by omega)]
  exact hJ a j h0
theorem inv_0 (J : qI) (hJ : ∀ a j, a ≠ 0 → J a j = 0) : Inv (jc J) := by
  have z := jc_0 hJ
  have hc := jc_cp hJ
  have j15 : jc J 1 5 = 1 := by simp [jc, q_up]
  generalize jc J = K at z hc j15
  refine ⟨0, 0, 0, 0, ⟨⟨z 2 6 (by omega) (by omega) (by omega), z 44 0 (by omega) (by omega) (by omega), by omega⟩, fun l a b => by omega⟩, fun t _ _ => z 8 t (by omega) (by omega) (by omega), ⟨⟨z 9 2 (by omega) (by omega) (by omega), z 44 12 (by omega) (by omega) (by omega), by omega⟩, fun t a b => by omega, ⟨z 9 3 (by omega) (by omega) (by omega), Nat.zero_le _⟩, fun i _ => by rw [z 11 i (by omega) (by omega) (by omega), z 55 i (by omega) (by omega) (by omega)]⟩, fun x hx => ?_, ⟨⟨z 41 1 (by omega) (by omega) (by omega), z 44 16 (by omega) (by omega) (by omega), by omega⟩, fun i hi => by omega, fun i j hi => by omega⟩, ⟨Or.inl ⟨z 44 10 (by omega) (by omega) (by omega), j15⟩, ⟨z 1 6 (by omega) (by omega) (by omega), z 44 11 (by omega) (by omega) (by omega), by omega, Or.inl rfl⟩, fun r _ => ⟨by rw [z 43 r (by omega) (by omega) (by omega), z 57 r (by omega) (by omega) (by omega)], 0, by omega, z 57 r (by omega) (by omega) (by omega)⟩⟩,
    ⟨fun x _ => by rw [z 53 x (by omega) (by omega) (by omega)]; exact Int.le_refl _, fun x _ l a b => by omega⟩, fun l g a b => by omega, fun i hi w => absurd (z 55 i (by omega) (by omega) (by omega)) w, fun t a b => by omega, fun _ l a b => by omega, fun m hm _ => ?_, fun _ => ?_⟩
  · have hb := cp_bd hx
    have hb2 : cp x % 2 = 1 := by unfold cp; split <;> omega
    rw [hc x hx, hc x hx, hc x hx, hc x hx, z 51 x (by omega) (by omega) (by omega), z 52 x (by omega) (by omega) (by omega), z 53 x (by omega) (by omega) (by omega)]
    exact ⟨rfl, ⟨rfl, by omega, by omega⟩, ⟨rfl, 0, by omega, rfl⟩, rfl, fun l a b => by omega, fun l _ _ => z (cp x + 1) l (by omega) (by omega) (by omega)⟩
  · obtain rfl : m = 0 := by omega
    have : psum (pun K 0) 60 = 0 := psum_zero fun t _ _ => by
      unfold pun
      rw [if_neg]
      rintro ⟨-, w⟩
      exact w (ckc_zero fun k _ => rfl)
    omega
  · show 0 + 0 ≤ 187
    omega
theorem all_ok (N : Nat) : oks Inv N := ⟨ok_begin, ok_read, ok_write, ok_shift, ok_commit, ok_abort, ok_status, ok_deliver, ok_gossip, ok_report, ok_fault, ok_crash, ok_recover, ok_point, ok_copy, ok_follow, ok_view, ok_collect, ok_cached⟩
theorem whole_start {p : Program} {e : Env} {s : State} {m : MethodId} {below : List Frame} {meth : Method} {c : Code} (l : Launch) {b L : Nat} {xs : Nat → Int32} (hL : L ≤ 2560) (C0 : lw_At p s m meth c b L xs) : W p l e room_1 s m #[Value.ref b] below meth c s.heap [] 0 0 (lw_Z below #[Value.ref b] s) (entryFrame m ([Value.ref b] : List Value).toArray 4) :=
  start_of (Inv := Inv) (fun N _ => all_ok N) inv_0 l hL C0
-- ===== YOUR PART ENDS =====
set_option maxHeartbeats 4000000 in
theorem lw_walk (l : Launch) (b : Addr) (xs : List Int32) : MetFree l x (headSpec (Jvm.Cond.code x code maxLocals ret :: tables_1) room_1) (lw_P b xs) (fun _ _ _ _ _ => True) lw_Q := by
  refine MetFree.of_bodyS (code := code) (maxLocals := maxLocals) (ret := ret) (by decide) ?_ ?_
  · intro args s m h hn
    obtain ⟨meth, c, h1, h2, h3, h4, h5, h6, -, -⟩ := Cond.code_spec hn (atoms_spec (ws := Jvm.Cond.code x code maxLocals ret :: tables_1) h _ List.mem_cons_self)
    exact ⟨meth, c, h1, h2, h3, h4, h5, h6⟩
  · intro p e s m args below meth c s₁ B hml0 hP _
    obtain ⟨rfl, hx, hbd, hgv⟩ := hP
    obtain ⟨scr, harrAt, hlist, hof, hsmall⟩ := hx
    obtain ⟨hcb, hkn, -, -⟩ := State.arrayAt?_spec harrAt
    have hown : s.vm.findClass R_law = some m.cls := findClass_of_methodNamed B.named
    have hts0 : ∀ c ∈ (Jvm.Cond.code x code maxLocals ret :: tables_1), c.before #[Value.ref b] s = true := atoms_spec (ws := Jvm.Cond.code x code maxLocals ret :: tables_1) B.pre
    have hts : ∀ w ∈ lw_tbl, w.before #[Value.ref b] s = true := k2_hts_sels lw_privs (fun w hw => hts0 w (List.mem_cons_of_mem _ hw)) lw_privs_ok
    have hml : c.maxLocals = 4 := B.maxLocals_eq (hts0 _ List.mem_cons_self)
    have X₀ : Stand p l e room_1 s m #[Value.ref b] below meth c s₁ [] 0 0 := Stand.of_body B
    have hh0 : s₁.heap = s.heap := by rw [B.state]; rfl
    have hsz : scr.slots.size = xs.length := by rw [← Array.length_toList, hlist, List.length_map]
    have hval : ∀ j : Nat, j < xs.length → scr.slots[j]? = some (.int (xs.getD j 0)) := fun j hj => by
      rw [← Array.getElem?_toList, hlist]
      simp [hj]
    have hbl : b < s.heap.size := (Array.getElem?_eq_some_iff.mp hcb).1
    have hX : va_X b xs.length (fun j => xs.getD j 0) s s.heap := ⟨scr, hcb, hof, hkn, hsz, hval⟩
    have K : W p l e room_1 s m #[Value.ref b] below meth c s₁.heap [] 0 0 (lw_Z below #[Value.ref b] s) (entryFrame m ([Value.ref b] : List Value).toArray 4) := by
      rw [hh0]
      exact whole_start l hbd ⟨B.exec, B.bytes, B.returns, hml, hown, hts, hX, hbl, B.notSynchronized, hgv⟩
    obtain ⟨t, a1, o, b1, b2, b3⟩ := K s₁ rfl X₀
    exact ⟨t, o, a1, b1, b2, b3⟩
theorem lw_pre_spec {args : Array Value} {s : State} (h : (Jvm.Cond.and given_1 narrow_1).before args s = true) (hr : rest_1_c.before args s = true) : ∃ (b : Addr) (xs : List Int32), lw_P b xs args s := by
  have hs := flat_of_before _ h
  have hq := flat_of_before _ hr
  have hc : (Cond.count 1).before args s = true := hs _ (by decide +kernel)
  have harr : (Cond.arrayOf (.arg 0) .int).before args s = true := hs _ (by decide +kernel)
  have hle : (Cond.le (.length (.arg 0)) (.int 2560)).before args s = true := hs _ (by decide +kernel)
  have hlen : (Cond.isInt (.length (.arg 0))).before args s = true := hq _ (by decide +kernel)
  have hall : (Cond.all (.arg 0) (.isInt (.elem (.arg 0) (.index 0)))).before args s = true := hq _ (by decide +kernel)
  obtain ⟨b, xs, hb, hx⟩ := State.ints_of_pre rfl harr hlen hall
  have hsm : xs.length < 2 ^ 31 := hx.choose_spec.2.2.2
  have hev : (Term.length (.arg 0)).eval args s none [] s = some (.int xs.length.toInt32) := hx.length_eval hb
  have hv := Cond.le_ints hev (show (Term.int 2560).eval args s none [] s = some (.int 2560) from rfl)
  have hd : xs.length.toInt32 ≤ 2560 := by
    simpa [Cond.before, Cond.holds, hv] using hle
  have hN : xs.length ≤ 2560 := (Int32.ofNat_le_ofNat hsm (by decide)).mp (show Int32.ofNat xs.length ≤ Int32.ofNat 2560 from hd)
  exact ⟨b, xs, Cond.one_arg hc (show args[0]? = some (.ref b) from hb), hx, hN, h⟩
theorem lw_comes (l : Launch) : Comes l x (Jvm.Cond.code x code maxLocals ret :: tables_1) room_1 (fun tb e args s => Calls_1 tb e args s ∧ rest_1 tb e args s ∧ Pre_1 tb e args s)
    (fun _ _ args s o t => lw_Q args s o t) := by
  intro p e ha hc hk s m args below hf hfit hheap happ hpre
  obtain ⟨b, xs, hP⟩ := lw_pre_spec hpre.2.2 hpre.2.1
  obtain ⟨k, o, h1, h2, h3, hQ⟩ := lw_walk l b xs p e ha hc hk s m args below hf ((Spec.applies_iff_loose hf).mp happ).1 hP trivial
  exact ⟨k, o, h1, h2, h3, hQ⟩
theorem lw_frame {s t : State} {o : Outcome} {args : Array Value} (h : Framed s o t [] 600000 7302250) :
    Framed s o t (fieldLocs frame_1_writes args s ++ arrayLocs frame_1_arrays args s ++ staticLocs frame_1_statics s) 600000 7302250 := h
theorem lw_limb (L : Cond) (hL : ∀ (args : Array Value) (s t : State), L.after args s (.returned (some (.int 1))) t = true) :
    ArmFor flags0 classFile x code maxLocals ret World_1 tables_1 room_1 Calls_1 rest_1 Pre_1
      (fun tb e a s o t => postC L tb e a s o t ∧ Framed s o t (fieldLocs frame_1_writes a s ++ arrayLocs frame_1_arrays a s ++ staticLocs frame_1_statics s) 600000 7302250) := by
  intro l _ _ _ p e ha hc hk s m args below hf hfit hheap happ hpre
  obtain ⟨k, o, h1, h2, h3, rfl, hF⟩ := lw_comes l p e ha hc hk s m args below hf hfit hheap happ hpre
  exact ⟨k, _, h1, h2, h3, hL args s _, lw_frame hF⟩
theorem i_vc : Claimed_1_1 ∧ Claimed_1_2 := ⟨lw_limb limb_1_1 (fun args s t => by simp [limb_1_1, Cond.after, Cond.holds, Cond.value]), lw_limb limb_1_2 (fun args s t => Cond.after_iff.mpr (by
  first | (rw [show limb_1_2 = Cond.eq .result (.int 1) from rfl, Cond.eq_ints (x := 1) (y := 1) rfl rfl]; simp; done) | (simp [limb_1_2, Cond.value, Term.eval]; done)))⟩
