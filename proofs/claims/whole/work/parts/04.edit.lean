/-- one program, one record of what was kept; what X has stored is what the reference's runs give -/
def i_Rel (_ : Nat) (u : SX) (v : SY) : Prop :=
  ∃ (l s : Nat) (kp ps dn en vi : Int32) (o a b w eF eS eP eE eV kF kV rg : Nat → Int32), u = (nI l, nI s, kp, o, a, b, w, eF, eS, eP, eE, eV, kF, kV) ∧ v = (nI l, nI s, kp, ps, dn, en, vi, o, a, b, kF, kV, rg) ∧
    l ≤ 40 ∧ s ≤ 12 ∧ (∀ p, p < s → lj_I (o p) (a p) (b p)) ∧ lj_z w ∧ lj_z rg ∧ (∀ k, k < 64 → lj_R (nI l) (nI s) o a b eF eS eP eE eV k)
theorem lj_mk (n l s : Nat) {kp ps dn en vi : Int32} {o a b w eF eS eP eE eV kF kV rg : Nat → Int32} (hl : l ≤ 40) (hs : s ≤ 12) (hI : ∀ p, p < s → lj_I (o p) (a p) (b p)) (hw : lj_z w) (hr : lj_z rg) (hR : ∀ k, k < 64 → lj_R (nI l) (nI s) o a b eF eS eP eE eV k) :
    i_Rel n (nI l, nI s, kp, o, a, b, w, eF, eS, eP, eE, eV, kF, kV) (nI l, nI s, kp, ps, dn, en, vi, o, a, b, kF, kV, rg) :=
  ⟨l, s, kp, ps, dn, en, vi, o, a, b, w, eF, eS, eP, eE, eV, kF, kV, rg, rfl, rfl, hl, hs, hI, hw, hr, hR⟩
theorem i_up {k : Nat} {u : SX} {v : SY} (h : i_Rel k u v) : i_Rel (k + 5) u v := h
theorem i_vc0 (k0 : Int32) : wpX_init (fun u => wpY_init (fun v => i_Rel 1 u v) k0) k0 := by
  by_cases h1 : 1 ≤ k0
  · by_cases h40 : k0 ≤ 40
    · obtain ⟨l, hl, rfl⟩ := nI_of2 (x := k0) (M := 40) (n := 40) (by decide) (fun h => absurd (Int32.lt_of_lt_of_le h (by decide : (0 : Int32) ≤ 1)) (Int32.not_lt.mpr h1)) h40
      refine br_t h1 (br_t h40 ?_)
      refine lj_runAll (s := 0) hl (by omega) (fun p hp => absurd hp (by omega)) lj_z0 (fun w eF eS eP eE eV hw hR => br_t h1 (br_t h40 (lj_mk 1 l 0 hl (by omega) (fun p hp => absurd hp (by omega)) hw lj_z0 hR)))
    · refine br_t h1 (br_f h40 ?_)
      refine lj_runAll (l := 40) (s := 0) (by omega) (by omega) (fun p hp => absurd hp (by omega)) lj_z0 (fun w eF eS eP eE eV hw hR => br_t h1 (br_f h40 (lj_mk 1 40 0 (by omega) (by omega) (fun p hp => absurd hp (by omega)) hw lj_z0 hR)))
  · refine br_f h1 ?_
    refine lj_runAll (l := 1) (s := 0) (by omega) (by omega) (fun p hp => absurd hp (by omega)) lj_z0 (fun w eF eS eP eE eV hw hR => br_f h1 (lj_mk 1 1 0 (by omega) (by omega) (fun p hp => absurd hp (by omega)) hw lj_z0 hR))
/-- a number, as both sides ask for its range -/
theorem lj_cs (x : Int32) (n : Nat) (hn : n < 2 ^ 30) : x < 0 ∨ (¬ x < 0 ∧ nI (n + 1) ≤ x ∧ ¬ x < nI (n + 1) ∧ nI n < x ∧ ¬ x ≤ nI n) ∨ (¬ x < 0 ∧ ¬ nI (n + 1) ≤ x ∧ x < nI (n + 1) ∧ ¬ nI n < x ∧ x ≤ nI n ∧ ∃ j : Nat, j ≤ n ∧ x = nI j) := by
  by_cases h : x < 0
  · exact Or.inl h
  · obtain ⟨j, hj, rfl⟩ := nI_of h
    by_cases h2 : j ≤ n
    · exact Or.inr (Or.inr ⟨h, nI_ge (by omega) (by omega), nI_lt (by omega) (by omega), nI_nlt h2 (by omega), nI_le h2 (by omega), j, h2, rfl⟩)
    · exact Or.inr (Or.inl ⟨h, nI_le (by omega) (by omega), nI_nlt (by omega) (by omega), nI_lt (by omega) (by omega), nI_ge (by omega) (by omega)⟩)
/-- fitsB against complaint's end, with the greatest b -/
theorem lj_b (b : Int32) (n : Nat) (hn : n < 2 ^ 30) : ∃ c : Int32, (c = 0 ∨ c = 1) ∧
    (∀ post : Int32 → Prop, post c → (b < 0 → post 0) ∧ (¬ b < 0 → ((nI n < b → post 0) ∧ (¬ nI n < b → post 1)))) ∧
    (∀ post : Int32 → Prop, post c → (b < 0 → post 0) ∧ (¬ b < 0 → ((nI (n + 1) ≤ b → post 0) ∧ (¬ nI (n + 1) ≤ b → post 1)))) ∧
    (∀ post : Int32 → Prop, post (if c = 0 then -4 else 0) → (b < 0 → post (-4)) ∧ (¬ b < 0 → ((b ≤ nI n → post 0) ∧ (¬ b ≤ nI n → post (-4))))) ∧
    (¬ c = 0 → ∃ j : Nat, j ≤ n ∧ b = nI j) := by
  rcases lj_cs b n hn with h | ⟨h, h1, h2, h3, h4⟩ | ⟨h, h1, h2, h3, h4, h5⟩
  · exact ⟨0, Or.inl rfl, fun _ H => br_t h H, fun _ H => br_t h H, fun _ H => br_t h H, fun z => absurd rfl z⟩
  · exact ⟨0, Or.inl rfl, fun _ H => br_f h (br_t h3 H), fun _ H => br_f h (br_t h1 H), fun _ H => br_f h (br_f h4 H), fun z => absurd rfl z⟩
  · exact ⟨1, Or.inr rfl, fun _ H => br_f h (br_f h3 H), fun _ H => br_f h (br_f h1 H), fun _ H => br_f h (br_t h4 H), fun _ => h5⟩
/-- X's refusal and the reference's complaint are one number; 0 only for an instruction -/
def lj_Q (op a b c : Int32) : Prop := (∀ post : Int32 → Prop, post c → wpX_refusalOf post op a b) ∧ (∀ (v : SY) (post : Int32 → Prop), post c → wpY_complaint post v op a b) ∧ (c = 0 → lj_I op a b)
theorem lj_if {c : Int32} {post : Int32 → Prop} (hc : c = 0 ∨ c = 1) (H : post (if c = 0 then -4 else 0)) : (c = 0 → post (-4)) ∧ (¬ c = 0 → post 0) := by
  rcases hc with rfl | rfl
  · exact br_t rfl H
  · exact br_f (by decide) H
theorem lj_if0 {c : Int32} (hc : c = 0 ∨ c = 1) (h : (if c = 0 then (-4 : Int32) else 0) = 0) : ¬ c = 0 := by
  rcases hc with rfl | rfl
  · exact absurd h (by decide)
  · decide
theorem lj_01 {c : Int32} {post : Int32 → Prop} (hc : c = 0 ∨ c = 1) (H : post c) : (c = 0 → post 0) ∧ (¬ c = 0 → post 1) := by
  rcases hc with rfl | rfl
  · exact br_t rfl H
  · exact br_f (by decide) H
theorem lj_ref (op a b : Int32) : ∃ c : Int32, lj_Q op a b c := by
  rcases lj_cs op 11 (by omega) with h | ⟨h, h1, h2, h3, h4⟩ | ⟨h, h1, h2, h3, h4, i, hi, ei⟩
  · exact ⟨-2, fun _ H => br_t h H, fun ⟨_, _, _, _, _, _, _, _, _, _, _, _, _⟩ _ H => br_t h H, fun z => absurd z (by decide)⟩
  · exact ⟨-2, fun _ H => br_f h (br_f h4 H), fun ⟨_, _, _, _, _, _, _, _, _, _, _, _, _⟩ _ H => br_f h (br_f h4 H), fun z => absurd z (by decide)⟩
  rcases lj_cs a 3 (by omega) with g | ⟨g, g1, g2, g3, g4⟩ | ⟨g, g1, g2, g3, g4, q, hq, eq⟩
  · exact ⟨-3, fun _ H => br_f h (br_t h4 (br_t g (br_t rfl H))), fun ⟨_, _, _, _, _, _, _, _, _, _, _, _, _⟩ _ H => br_f h (br_t h4 (br_t g H)), fun z => absurd z (by decide)⟩
  · exact ⟨-3, fun _ H => br_f h (br_t h4 (br_f g (br_t g1 (br_t rfl H)))), fun ⟨_, _, _, _, _, _, _, _, _, _, _, _, _⟩ _ H => br_f h (br_t h4 (br_f g (br_f g4 H))), fun z => absurd z (by decide)⟩
  subst ei
  have hcs : i = 0 ∨ i = 1 ∨ i = 2 ∨ i = 3 ∨ i = 4 ∨ i = 5 ∨ i = 6 ∨ i = 7 ∨ i = 8 ∨ i = 9 ∨ i = 10 ∨ i = 11 := by omega
  rcases hcs with rfl | rfl | rfl | rfl | rfl | rfl | rfl | rfl | rfl | rfl | rfl | rfl
  · obtain ⟨c, hc, f1, f2, f3, f4⟩ := lj_b b 15 (by omega)
    exact ⟨if c = 0 then -4 else 0, fun post H => br_f h (br_t h4 (br_f g (br_f g1 (br_f (by decide) (br_t rfl (f1 (fun r => (r = 0 → post (-4)) ∧ (¬ r = 0 → post 0)) (lj_if hc H))))))), fun ⟨_, _, _, _, _, _, _, _, _, _, _, _, _⟩ post H => br_f h (br_t h4 (br_f g (br_t g4 (br_t (by decide) (br_t rfl (f3 _ H)))))), fun z => ⟨0, q, hi, rfl, by omega, eq, fun z1 z8 => absurd (And.intro z1 z8) (by decide), fun z9 => absurd z9 (by decide)⟩⟩
  · obtain ⟨c, hc, f1, f2, f3, f4⟩ := lj_b b 3 (by omega)
    exact ⟨if c = 0 then -4 else 0, fun post H => br_f h (br_t h4 (br_f g (br_f g1 (br_f (by decide) (br_f (by decide) (br_f (by decide) (br_f (by decide) (br_f (by decide) (br_f (by decide) (f2 (fun r => (r = 0 → ((fun r => (r = 0 → post (-4)) ∧ (¬ r = 0 → post 0))) 0) ∧ (¬ r = 0 → ((fun r => (r = 0 → post (-4)) ∧ (¬ r = 0 → post 0))) 1)) (lj_01 (post := (fun r => (r = 0 → post (-4)) ∧ (¬ r = 0 → post 0))) hc (lj_if hc H)))))))))))), fun ⟨_, _, _, _, _, _, _, _, _, _, _, _, _⟩ post H => br_f h (br_t h4 (br_f g (br_t g4 (br_t (by decide) (br_f (by decide) (br_f (by decide) (f3 _ H))))))), fun z => ⟨1, q, hi, rfl, by omega, eq, fun _ _ => (f4 (lj_if0 hc z)).elim (fun j hj => ⟨j, by omega, hj.2⟩), fun z9 => absurd z9 (by decide)⟩⟩
  · obtain ⟨c, hc, f1, f2, f3, f4⟩ := lj_b b 3 (by omega)
    exact ⟨if c = 0 then -4 else 0, fun post H => br_f h (br_t h4 (br_f g (br_f g1 (br_f (by decide) (br_f (by decide) (br_f (by decide) (br_f (by decide) (br_f (by decide) (br_f (by decide) (f2 (fun r => (r = 0 → ((fun r => (r = 0 → post (-4)) ∧ (¬ r = 0 → post 0))) 0) ∧ (¬ r = 0 → ((fun r => (r = 0 → post (-4)) ∧ (¬ r = 0 → post 0))) 1)) (lj_01 (post := (fun r => (r = 0 → post (-4)) ∧ (¬ r = 0 → post 0))) hc (lj_if hc H)))))))))))), fun ⟨_, _, _, _, _, _, _, _, _, _, _, _, _⟩ post H => br_f h (br_t h4 (br_f g (br_t g4 (br_t (by decide) (br_f (by decide) (br_f (by decide) (f3 _ H))))))), fun z => ⟨2, q, hi, rfl, by omega, eq, fun _ _ => (f4 (lj_if0 hc z)).elim (fun j hj => ⟨j, by omega, hj.2⟩), fun z9 => absurd z9 (by decide)⟩⟩
  · obtain ⟨c, hc, f1, f2, f3, f4⟩ := lj_b b 3 (by omega)
    exact ⟨if c = 0 then -4 else 0, fun post H => br_f h (br_t h4 (br_f g (br_f g1 (br_f (by decide) (br_f (by decide) (br_f (by decide) (br_f (by decide) (br_f (by decide) (br_f (by decide) (f2 (fun r => (r = 0 → ((fun r => (r = 0 → post (-4)) ∧ (¬ r = 0 → post 0))) 0) ∧ (¬ r = 0 → ((fun r => (r = 0 → post (-4)) ∧ (¬ r = 0 → post 0))) 1)) (lj_01 (post := (fun r => (r = 0 → post (-4)) ∧ (¬ r = 0 → post 0))) hc (lj_if hc H)))))))))))), fun ⟨_, _, _, _, _, _, _, _, _, _, _, _, _⟩ post H => br_f h (br_t h4 (br_f g (br_t g4 (br_t (by decide) (br_f (by decide) (br_f (by decide) (f3 _ H))))))), fun z => ⟨3, q, hi, rfl, by omega, eq, fun _ _ => (f4 (lj_if0 hc z)).elim (fun j hj => ⟨j, by omega, hj.2⟩), fun z9 => absurd z9 (by decide)⟩⟩
  · obtain ⟨c, hc, f1, f2, f3, f4⟩ := lj_b b 3 (by omega)
    exact ⟨if c = 0 then -4 else 0, fun post H => br_f h (br_t h4 (br_f g (br_f g1 (br_f (by decide) (br_f (by decide) (br_f (by decide) (br_f (by decide) (br_f (by decide) (br_f (by decide) (f2 (fun r => (r = 0 → ((fun r => (r = 0 → post (-4)) ∧ (¬ r = 0 → post 0))) 0) ∧ (¬ r = 0 → ((fun r => (r = 0 → post (-4)) ∧ (¬ r = 0 → post 0))) 1)) (lj_01 (post := (fun r => (r = 0 → post (-4)) ∧ (¬ r = 0 → post 0))) hc (lj_if hc H)))))))))))), fun ⟨_, _, _, _, _, _, _, _, _, _, _, _, _⟩ post H => br_f h (br_t h4 (br_f g (br_t g4 (br_t (by decide) (br_f (by decide) (br_f (by decide) (f3 _ H))))))), fun z => ⟨4, q, hi, rfl, by omega, eq, fun _ _ => (f4 (lj_if0 hc z)).elim (fun j hj => ⟨j, by omega, hj.2⟩), fun z9 => absurd z9 (by decide)⟩⟩
  · obtain ⟨c, hc, f1, f2, f3, f4⟩ := lj_b b 3 (by omega)
    exact ⟨if c = 0 then -4 else 0, fun post H => br_f h (br_t h4 (br_f g (br_f g1 (br_f (by decide) (br_f (by decide) (br_f (by decide) (br_f (by decide) (br_f (by decide) (br_f (by decide) (f2 (fun r => (r = 0 → ((fun r => (r = 0 → post (-4)) ∧ (¬ r = 0 → post 0))) 0) ∧ (¬ r = 0 → ((fun r => (r = 0 → post (-4)) ∧ (¬ r = 0 → post 0))) 1)) (lj_01 (post := (fun r => (r = 0 → post (-4)) ∧ (¬ r = 0 → post 0))) hc (lj_if hc H)))))))))))), fun ⟨_, _, _, _, _, _, _, _, _, _, _, _, _⟩ post H => br_f h (br_t h4 (br_f g (br_t g4 (br_t (by decide) (br_f (by decide) (br_f (by decide) (f3 _ H))))))), fun z => ⟨5, q, hi, rfl, by omega, eq, fun _ _ => (f4 (lj_if0 hc z)).elim (fun j hj => ⟨j, by omega, hj.2⟩), fun z9 => absurd z9 (by decide)⟩⟩
  · obtain ⟨c, hc, f1, f2, f3, f4⟩ := lj_b b 3 (by omega)
    exact ⟨if c = 0 then -4 else 0, fun post H => br_f h (br_t h4 (br_f g (br_f g1 (br_f (by decide) (br_f (by decide) (br_f (by decide) (br_f (by decide) (br_f (by decide) (br_f (by decide) (f2 (fun r => (r = 0 → ((fun r => (r = 0 → post (-4)) ∧ (¬ r = 0 → post 0))) 0) ∧ (¬ r = 0 → ((fun r => (r = 0 → post (-4)) ∧ (¬ r = 0 → post 0))) 1)) (lj_01 (post := (fun r => (r = 0 → post (-4)) ∧ (¬ r = 0 → post 0))) hc (lj_if hc H)))))))))))), fun ⟨_, _, _, _, _, _, _, _, _, _, _, _, _⟩ post H => br_f h (br_t h4 (br_f g (br_t g4 (br_t (by decide) (br_f (by decide) (br_f (by decide) (f3 _ H))))))), fun z => ⟨6, q, hi, rfl, by omega, eq, fun _ _ => (f4 (lj_if0 hc z)).elim (fun j hj => ⟨j, by omega, hj.2⟩), fun z9 => absurd z9 (by decide)⟩⟩
  · obtain ⟨c, hc, f1, f2, f3, f4⟩ := lj_b b 3 (by omega)
    exact ⟨if c = 0 then -4 else 0, fun post H => br_f h (br_t h4 (br_f g (br_f g1 (br_f (by decide) (br_f (by decide) (br_f (by decide) (br_f (by decide) (br_f (by decide) (br_f (by decide) (f2 (fun r => (r = 0 → ((fun r => (r = 0 → post (-4)) ∧ (¬ r = 0 → post 0))) 0) ∧ (¬ r = 0 → ((fun r => (r = 0 → post (-4)) ∧ (¬ r = 0 → post 0))) 1)) (lj_01 (post := (fun r => (r = 0 → post (-4)) ∧ (¬ r = 0 → post 0))) hc (lj_if hc H)))))))))))), fun ⟨_, _, _, _, _, _, _, _, _, _, _, _, _⟩ post H => br_f h (br_t h4 (br_f g (br_t g4 (br_t (by decide) (br_f (by decide) (br_f (by decide) (f3 _ H))))))), fun z => ⟨7, q, hi, rfl, by omega, eq, fun _ _ => (f4 (lj_if0 hc z)).elim (fun j hj => ⟨j, by omega, hj.2⟩), fun z9 => absurd z9 (by decide)⟩⟩
  · obtain ⟨c, hc, f1, f2, f3, f4⟩ := lj_b b 3 (by omega)
    exact ⟨if c = 0 then -4 else 0, fun post H => br_f h (br_t h4 (br_f g (br_f g1 (br_f (by decide) (br_f (by decide) (br_f (by decide) (br_f (by decide) (br_f (by decide) (br_f (by decide) (f2 (fun r => (r = 0 → ((fun r => (r = 0 → post (-4)) ∧ (¬ r = 0 → post 0))) 0) ∧ (¬ r = 0 → ((fun r => (r = 0 → post (-4)) ∧ (¬ r = 0 → post 0))) 1)) (lj_01 (post := (fun r => (r = 0 → post (-4)) ∧ (¬ r = 0 → post 0))) hc (lj_if hc H)))))))))))), fun ⟨_, _, _, _, _, _, _, _, _, _, _, _, _⟩ post H => br_f h (br_t h4 (br_f g (br_t g4 (br_t (by decide) (br_f (by decide) (br_f (by decide) (f3 _ H))))))), fun z => ⟨8, q, hi, rfl, by omega, eq, fun _ _ => (f4 (lj_if0 hc z)).elim (fun j hj => ⟨j, by omega, hj.2⟩), fun z9 => absurd z9 (by decide)⟩⟩
  · obtain ⟨c, hc, f1, f2, f3, f4⟩ := lj_b b 12 (by omega)
    exact ⟨if c = 0 then -4 else 0, fun post H => br_f h (br_t h4 (br_f g (br_f g1 (br_f (by decide) (br_f (by decide) (br_t rfl (f1 (fun r => (r = 0 → post (-4)) ∧ (¬ r = 0 → post 0)) (lj_if hc H)))))))), fun ⟨_, _, _, _, _, _, _, _, _, _, _, _, _⟩ post H => br_f h (br_t h4 (br_f g (br_t g4 (br_t (by decide) (br_f (by decide) (br_t rfl (f3 _ H))))))), fun z => ⟨9, q, hi, rfl, by omega, eq, fun z1 z8 => absurd (And.intro z1 z8) (by decide), fun _ => f4 (lj_if0 hc z)⟩⟩
  · exact ⟨0, fun post H => br_f h (br_t h4 (br_f g (br_f g1 (br_f (by decide) (br_f (by decide) (br_f (by decide) (br_f (by decide) (br_t (by decide) (br_t rfl (br_f (by decide) H)))))))))), fun ⟨_, _, _, _, _, _, _, _, _, _, _, _, _⟩ post H => br_f h (br_t h4 (br_f g (br_t g4 (br_f (by decide) H)))), fun z => ⟨10, q, hi, rfl, by omega, eq, fun z1 z8 => absurd (And.intro z1 z8) (by decide), fun z9 => absurd z9 (by decide)⟩⟩
  · exact ⟨0, fun post H => br_f h (br_t h4 (br_f g (br_f g1 (br_f (by decide) (br_f (by decide) (br_f (by decide) (br_f (by decide) (br_t (by decide) (br_t rfl (br_f (by decide) H)))))))))), fun ⟨_, _, _, _, _, _, _, _, _, _, _, _, _⟩ post H => br_f h (br_t h4 (br_f g (br_t g4 (br_f (by decide) H)))), fun z => ⟨11, q, hi, rfl, by omega, eq, fun z1 z8 => absurd (And.intro z1 z8) (by decide), fun z9 => absurd z9 (by decide)⟩⟩
/-- both sides lay one instruction at p; X runs all inputs anew -/
theorem lj_put {l s p : Nat} {o a b : Nat → Int32} {op x y : Int32} (hI : ∀ p, p < s → lj_I (o p) (a p) (b p)) (h : lj_I op x y) {s2 : Nat} (hp : ∀ j, j < s2 → j = p ∨ j < s) : ∀ j, j < s2 → lj_I (upd o p op j) (upd a p x j) (upd b p y j) := by
  intro j hj
  by_cases e : j = p
  · rw [e, pk_us, pk_us, pk_us]; exact h
  · rw [pk_un e, pk_un e, pk_un e]; exact hI j ((hp j hj).resolve_left e)
theorem lx_place {l s p : Nat} (hp : p < 12) {kp : Int32} {o a b w eF eS eP eE eV kF kV : Nat → Int32} {op x y : Int32} {post : SX → Prop} (hl : l ≤ 40) (hs : s ≤ 12) (hI : ∀ j, j < s → lj_I (upd o p op j) (upd a p x j) (upd b p y j)) (hw : lj_z w)
    (H : ∀ w eF eS eP eE eV : Nat → Int32, lj_z w → (∀ k, k < 64 → lj_R (nI l) (nI s) (upd o p op) (upd a p x) (upd b p y) eF eS eP eE eV k) → post (nI l, nI s, kp, upd o p op, upd a p x, upd b p y, w, eF, eS, eP, eE, eV, kF, kV)) : wpX_place post (nI l, nI s, kp, o, a, b, w, eF, eS, eP, eE, eV, kF, kV) (nI p) op x y := by
  have hi : vp_in (nI p) 12 := vp_in_nI hp (by decide)
  have hc : (nI p).toNatClampNeg = p := nI_clamp (by omega)
  exact ⟨hi, nm_r (by rw [hc]) ⟨hi, nm_r (by rw [hc]) ⟨hi, nm_r (by rw [hc]) (lj_runAll hl hs hI hw H)⟩⟩⟩
theorem ly_put {p : Nat} (hp : p < 12) {L z kp ps dn en vi : Int32} {o a b kF kV rg : Nat → Int32} {op x y : Int32} {post : SY → Prop} (H : post (L, z, kp, ps, dn, en, vi, upd o p op, upd a p x, upd b p y, kF, kV, rg)) : wpY_put post (L, z, kp, ps, dn, en, vi, o, a, b, kF, kV, rg) (nI p) op x y := by
  have hi : vp_in (nI p) 12 := vp_in_nI hp (by decide)
  have hc : (nI p).toNatClampNeg = p := nI_clamp (by omega)
  exact ⟨hi, nm_r (by rw [hc]) ⟨hi, nm_r (by rw [hc]) ⟨hi, nm_r (by rw [hc]) H⟩⟩⟩
theorem i_vc_emit {k : Nat} {u : SX} {v : SY} (I : i_Rel k u v) (hk : k + 5 ≤ 2561) (v1 : Int32) (v2 : Int32) (v3 : Int32) : wpX_emit (fun r u' => wpY_emit (fun r' v' => r' = r ∧ i_Rel (k + 5) u' v') v v1 v2 v3) u v1 v2 v3 := by
  have I0 := I
  obtain ⟨l, s, kp, ps, dn, en, vi, o, a, b, w, eF, eS, eP, eE, eV, kF, kV, rg, rfl, rfl, hl, hs, hI, hw, hr, hR⟩ := I
  by_cases h12 : s < 12
  · have hc : nI s < 12 := nI_lt (b := 12) h12 (by omega)
    obtain ⟨c, hX, hY, hQ⟩ := lj_ref v1 v2 v3
    by_cases z : c = 0
    · have hI2 := lj_put (l := l) (p := s) (s2 := s + 1) hI (hQ z) (fun j hj => by omega)
      refine br_t hc (hX _ (br_t z (nm_r (nI_1 s) (lx_place h12 hl (by omega) hI2 hw (fun w eF eS eP eE eV hw hR => ?_)))))
      exact br_t hc (hY _ _ (br_t z (ly_put h12 (nm_r (nI_1 s) ⟨nI_pred s, lj_mk (k + 5) l (s + 1) hl (by omega) hI2 hw hr hR⟩))))
    · exact br_t hc (hX _ (br_f z (br_t hc (hY _ _ (br_f z ⟨rfl, I0⟩)))))
  · have hc : ¬ nI s < 12 := nI_nlt (b := 12) (by omega) (by omega)
    exact br_f hc (br_f hc ⟨rfl, I0⟩)
theorem i_vc_patch {k : Nat} {u : SX} {v : SY} (I : i_Rel k u v) (hk : k + 5 ≤ 2561) (v1 : Int32) (v2 : Int32) (v3 : Int32) (v4 : Int32) : wpX_patch (fun r u' => wpY_patch (fun r' v' => r' = r ∧ i_Rel (k + 5) u' v') v v1 v2 v3 v4) u v1 v2 v3 v4 := by
  have I0 := I
  obtain ⟨l, s, kp, ps, dn, en, vi, o, a, b, w, eF, eS, eP, eE, eV, kF, kV, rg, rfl, rfl, hl, hs, hI, hw, hr, hR⟩ := I
  rcases pk_ix v1 (n := s) (by omega) with h | h | ⟨p, hp, rfl⟩
  · exact br_t h (br_t rfl (br_t h ⟨rfl, I0⟩))
  · have h0 : ¬ v1 < 0 := Int32.not_lt.mpr (Int32.le_trans (nI_pos' (by omega)) h)
    exact br_f h0 (br_t h (br_t rfl (br_f h0 (br_f (Int32.not_lt.mpr h) ⟨rfl, I0⟩))))
  · have h0 : ¬ nI p < 0 := nI_pos (by omega)
    have h1 : ¬ nI s ≤ nI p := nI_ge hp (by omega)
    have h2 : nI p < nI s := nI_lt hp (by omega)
    have hp12 : p < 12 := by omega
    obtain ⟨c, hX, hY, hQ⟩ := lj_ref v2 v3 v4
    by_cases z : c = 0
    · have hI2 := lj_put (l := l) (p := p) (s2 := s) hI (hQ z) (fun j hj => Or.inr hj)
      refine br_f h0 (br_f h1 (br_f (by decide) (hX _ (br_t z (lx_place hp12 hl (by omega) hI2 hw (fun w eF eS eP eE eV hw hR => ?_))))))
      exact br_f h0 (br_t h2 (hY _ _ (br_t z (ly_put hp12 ⟨rfl, lj_mk (k + 5) l s hl hs hI2 hw hr hR⟩))))
    · exact br_f h0 (br_f h1 (br_f (by decide) (hX _ (br_f z (br_f h0 (br_t h2 (hY _ _ (br_f z ⟨rfl, I0⟩))))))))
theorem i_vc_clear {k : Nat} {u : SX} {v : SY} (I : i_Rel k u v) (hk : k + 5 ≤ 2561) : wpX_clear (fun u' => wpY_clear (fun v' => i_Rel (k + 5) u' v') v) u := by
  obtain ⟨l, s, kp, ps, dn, en, vi, o, a, b, w, eF, eS, eP, eE, eV, kF, kV, rg, rfl, rfl, hl, hs, hI, hw, hr, hR⟩ := I
  have hI2 : ∀ p, p < 0 → lj_I (o p) (a p) (b p) := fun p hp => absurd hp (by omega)
  exact lj_runAll (s := 0) hl (by omega) hI2 hw (fun w eF eS eP eE eV hw hR => lj_mk (k + 5) l 0 hl (by omega) hI2 hw hr hR)
theorem i_vc_length {k : Nat} {u : SX} {v : SY} (I : i_Rel k u v) (hk : k + 5 ≤ 2561) : wpX_length (fun r => wpY_length (fun r' => r' = r ∧ i_Rel (k + 5) u v) v) u := by
  have I0 := I
  obtain ⟨l, s, kp, ps, dn, en, vi, o, a, b, w, eF, eS, eP, eE, eV, kF, kV, rg, rfl, rfl, hl, hs, hI, hw, hr, hR⟩ := I
  exact ⟨rfl, I0⟩
