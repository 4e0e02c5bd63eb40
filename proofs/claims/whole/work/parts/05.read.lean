theorem ly_run {L z : Int32} {o a b eF eS eP eE eV : Nat → Int32} {k : Nat} (h : lj_R L z o a b eF eS eP eE eV k) {kp ps dn en vi : Int32} {kF kV rg : Nat → Int32} (hr : lj_z rg) {post : SY → Prop}
    (H : ∀ r : Nat → Int32, lj_z r → (∀ i, i < 4 → eE (k * 4 + i) = r i) → post (L, z, kp, eP k, eS k, eF k, eV k, o, a, b, kF, kV, r)) : wpY_run post (L, z, kp, ps, dn, en, vi, o, a, b, kF, kV, rg) (nI k) := by
  obtain ⟨r, hz, hE, hY⟩ := h
  exact hY kp ps dn en vi kF kV rg post hr (H r hz hE)
theorem lx_val {k i : Nat} (hk : k < 64) (hi : i < 4) {L z kp : Int32} {o a b w eF eS eP eE eV kF kV : Nat → Int32} {post : Int32 → Prop} (H : post (eE (k * 4 + i))) : wpX_endValue post (L, z, kp, o, a, b, w, eF, eS, eP, eE, eV, kF, kV) (nI k) (nI i) := by
  refine ⟨?_, ?_⟩
  · rw [lj_ix]; exact vp_in_nI (by omega) (by decide)
  · rw [lj_ix, nI_clamp (by omega)]; exact H
theorem ly_reg {L z : Int32} {o a b eF eS eP eE eV : Nat → Int32} {k i : Nat} (h : lj_R L z o a b eF eS eP eE eV k) (hk : k < 64) (hi : i < 4) {kp ps dn en vi : Int32} {kF kV rg : Nat → Int32} (hr : lj_z rg) {post : Int32 → SY → Prop}
    (H : ∀ (ps dn en vi : Int32) (rg : Nat → Int32), lj_z rg → post (eE (k * 4 + i)) (L, z, kp, ps, dn, en, vi, o, a, b, kF, kV, rg)) : wpY_register post (L, z, kp, ps, dn, en, vi, o, a, b, kF, kV, rg) (nI k) (nI i) := by
  refine br_f (nI_pos (by omega)) (br_f (nI_nlt (a := 63) (by omega) (by omega)) (br_f (by decide) (br_f (nI_pos (by omega)) (br_t (nI_le (b := 3) (by omega) (by omega)) (ly_run h hr (fun r hz hE => ⟨vp_in_nI hi (by decide), ?_⟩))))))
  rw [nI_clamp (by omega), ← hE i hi]
  exact H _ _ _ _ r hz
theorem i_vc_fate {k : Nat} {u : SX} {v : SY} (I : i_Rel k u v) (hk : k + 5 ≤ 2561) (v1 : Int32) : wpX_fate (fun r => wpY_fate (fun r' v' => r' = r ∧ i_Rel (k + 5) u v') v v1) u v1 := by
  have I0 := I
  obtain ⟨l, s, kp, ps, dn, en, vi, o, a, b, w, eF, eS, eP, eE, eV, kF, kV, rg, rfl, rfl, hl, hs, hI, hw, hr, hR⟩ := I
  rcases lj_cs v1 63 (by omega) with h | ⟨h, h1, h2, h3, h4⟩ | ⟨h, h1, h2, h3, h4, j, hj, rfl⟩
  · exact br_t h (br_t rfl (br_t h (br_t rfl ⟨rfl, I0⟩)))
  · exact br_f h (br_t h1 (br_t rfl (br_f h (br_t h3 (br_t rfl ⟨rfl, I0⟩)))))
  · exact br_f h (br_f h1 (br_f (by decide) ⟨vp_in_nI (by omega) (by decide), br_f h (br_f h3 (br_f (by decide) (ly_run (hR j (by omega)) hr (fun r hz hE => ⟨by rw [nI_clamp (by omega)], lj_mk (k + 5) l s hl hs hI hw hz hR⟩))))⟩))
theorem i_vc_steps {k : Nat} {u : SX} {v : SY} (I : i_Rel k u v) (hk : k + 5 ≤ 2561) (v1 : Int32) : wpX_steps (fun r => wpY_steps (fun r' v' => r' = r ∧ i_Rel (k + 5) u v') v v1) u v1 := by
  have I0 := I
  obtain ⟨l, s, kp, ps, dn, en, vi, o, a, b, w, eF, eS, eP, eE, eV, kF, kV, rg, rfl, rfl, hl, hs, hI, hw, hr, hR⟩ := I
  rcases lj_cs v1 63 (by omega) with h | ⟨h, h1, h2, h3, h4⟩ | ⟨h, h1, h2, h3, h4, j, hj, rfl⟩
  · exact br_t h (br_t rfl (br_t h (br_t rfl ⟨rfl, I0⟩)))
  · exact br_f h (br_t h1 (br_t rfl (br_f h (br_t h3 (br_t rfl ⟨rfl, I0⟩)))))
  · exact br_f h (br_f h1 (br_f (by decide) ⟨vp_in_nI (by omega) (by decide), br_f h (br_f h3 (br_f (by decide) (ly_run (hR j (by omega)) hr (fun r hz hE => ⟨by rw [nI_clamp (by omega)], lj_mk (k + 5) l s hl hs hI hw hz hR⟩))))⟩))
theorem i_vc_endAt {k : Nat} {u : SX} {v : SY} (I : i_Rel k u v) (hk : k + 5 ≤ 2561) (v1 : Int32) : wpX_endAt (fun r => wpY_endAt (fun r' v' => r' = r ∧ i_Rel (k + 5) u v') v v1) u v1 := by
  have I0 := I
  obtain ⟨l, s, kp, ps, dn, en, vi, o, a, b, w, eF, eS, eP, eE, eV, kF, kV, rg, rfl, rfl, hl, hs, hI, hw, hr, hR⟩ := I
  rcases lj_cs v1 63 (by omega) with h | ⟨h, h1, h2, h3, h4⟩ | ⟨h, h1, h2, h3, h4, j, hj, rfl⟩
  · exact br_t h (br_t rfl (br_t h (br_t rfl ⟨rfl, I0⟩)))
  · exact br_f h (br_t h1 (br_t rfl (br_f h (br_t h3 (br_t rfl ⟨rfl, I0⟩)))))
  · exact br_f h (br_f h1 (br_f (by decide) ⟨vp_in_nI (by omega) (by decide), br_f h (br_f h3 (br_f (by decide) (ly_run (hR j (by omega)) hr (fun r hz hE => ⟨by rw [nI_clamp (by omega)], lj_mk (k + 5) l s hl hs hI hw hz hR⟩))))⟩))
theorem i_vc_register {k : Nat} {u : SX} {v : SY} (I : i_Rel k u v) (hk : k + 5 ≤ 2561) (v1 : Int32) (v2 : Int32) : wpX_register (fun r => wpY_register (fun r' v' => r' = r ∧ i_Rel (k + 5) u v') v v1 v2) u v1 v2 := by
  have I0 := I
  obtain ⟨l, s, kp, ps, dn, en, vi, o, a, b, w, eF, eS, eP, eE, eV, kF, kV, rg, rfl, rfl, hl, hs, hI, hw, hr, hR⟩ := I
  rcases lj_cs v1 63 (by omega) with h | ⟨h, h1, h2, h3, h4⟩ | ⟨h, h1, h2, h3, h4, j, hj, rfl⟩
  · exact br_t h (br_t rfl (br_t h (br_t rfl ⟨rfl, I0⟩)))
  · exact br_f h (br_t h1 (br_t rfl (br_f h (br_t h3 (br_t rfl ⟨rfl, I0⟩)))))
  · rcases lj_cs v2 3 (by omega) with g | ⟨g, g1, g2, g3, g4⟩ | ⟨g, g1, g2, g3, g4, i, hi, rfl⟩
    · exact br_f h (br_f h1 (br_f (by decide) (br_t g (br_t rfl (br_f h (br_f h3 (br_f (by decide) (br_t g ⟨rfl, I0⟩))))))))
    · exact br_f h (br_f h1 (br_f (by decide) (br_f g (br_t g1 (br_t rfl (br_f h (br_f h3 (br_f (by decide) (br_f g (br_f g4 ⟨rfl, I0⟩))))))))))
    · exact br_f h (br_f h1 (br_f (by decide) (br_f g (br_f g1 (br_f (by decide) (lx_val (by omega) (by omega) (ly_reg (hR j (by omega)) (by omega) (by omega) hr (fun _ _ _ _ r hz => ⟨rfl, lj_mk (k + 5) l s hl hs hI hw hz hR⟩))))))))
theorem lj_count (x1 : Int32) {L z kp : Int32} {o a b w eF eS eP eE eV kF kV : Nat → Int32} (hR : ∀ k, k < 64 → lj_R L z o a b eF eS eP eE eV k) : ∀ (d j : Nat) (c : Int32), j + d = 64 → ∃ r : Int32,
    (∀ post : Int32 → Prop, post r → wX_count_4 post x1 L z kp o a b w eF eS eP eE eV kF kV (d + 1) c (nI j)) ∧
    (∀ (post : Int32 → SY → Prop), (∀ (ps dn en vi : Int32) (rg : Nat → Int32), lj_z rg → post r (L, z, kp, ps, dn, en, vi, o, a, b, kF, kV, rg)) → ∀ (ps dn en vi : Int32) (rg : Nat → Int32), lj_z rg → wY_count_4 post x1 (d + 1) c (nI j) L z kp ps dn en vi o a b kF kV rg) := by
  intro d
  induction d with
  | zero =>
    intro j c hj
    have h : (64 : Int32) ≤ nI j := nI_le (a := 64) (by omega) (by omega)
    exact ⟨c, fun _ H => br_t h H, fun _ H ps dn en vi rg hr => br_t h (H ps dn en vi rg hr)⟩
  | succ d ih =>
    intro j c hj
    have h : ¬ (64 : Int32) ≤ nI j := nI_ge (b := 64) (by omega) (by omega)
    have hi : vp_in (nI j) 64 := vp_in_nI (by omega) (by decide)
    have hc : (nI j).toNatClampNeg = j := nI_clamp (by omega)
    by_cases e : eF j = x1
    · obtain ⟨r, hX, hY⟩ := ih (j + 1) (c + 1) (by omega)
      exact ⟨r, fun post H => br_f h ⟨hi, br_t (by rw [hc]; exact e) (nm_e (nm_r (nI_1 j) (hX post H)))⟩, fun post H ps dn en vi rg hr => br_f h (ly_run (hR j (by omega)) hr (fun r hz hE => br_t e (nm_e (nm_r (nI_1 j) (hY post H _ _ _ _ r hz)))))⟩
    · obtain ⟨r, hX, hY⟩ := ih (j + 1) c (by omega)
      exact ⟨r, fun post H => br_f h ⟨hi, br_f (by rw [hc]; exact e) (nm_r (nI_1 j) (hX post H))⟩, fun post H ps dn en vi rg hr => br_f h (ly_run (hR j (by omega)) hr (fun r hz hE => br_f e (nm_r (nI_1 j) (hY post H _ _ _ _ r hz))))⟩
theorem i_vc_count {k : Nat} {u : SX} {v : SY} (I : i_Rel k u v) (hk : k + 5 ≤ 2561) (v1 : Int32) : wpX_count (fun r => wpY_count (fun r' v' => r' = r ∧ i_Rel (k + 5) u v') v v1) u v1 := by
  obtain ⟨l, s, kp, ps, dn, en, vi, o, a, b, w, eF, eS, eP, eE, eV, kF, kV, rg, rfl, rfl, hl, hs, hI, hw, hr, hR⟩ := I
  obtain ⟨r, hX, hY⟩ := lj_count v1 (kp := kp) (w := w) (kF := kF) (kV := kV) hR 64 0 0 rfl
  exact ⟨65, hX _ ⟨65, hY _ (fun _ _ _ _ _ hz => ⟨rfl, lj_mk (k + 5) l s hl hs hI hw hz hR⟩) ps dn en vi rg hr⟩⟩
theorem lj_first (x1 : Int32) {L z kp : Int32} {o a b w eF eS eP eE eV kF kV : Nat → Int32} (hR : ∀ k, k < 64 → lj_R L z o a b eF eS eP eE eV k) : ∀ (d j : Nat), j + d = 64 → ∃ r : Int32,
    (∀ post : Int32 → Prop, post r → wX_first_2 post x1 L z kp o a b w eF eS eP eE eV kF kV (d + 1) (nI j)) ∧
    (∀ (post : Int32 → SY → Prop), (∀ (ps dn en vi : Int32) (rg : Nat → Int32), lj_z rg → post r (L, z, kp, ps, dn, en, vi, o, a, b, kF, kV, rg)) → ∀ (ps dn en vi : Int32) (rg : Nat → Int32), lj_z rg → wY_first_2 post x1 (d + 1) (nI j) L z kp ps dn en vi o a b kF kV rg) := by
  intro d
  induction d with
  | zero =>
    intro j hj
    have h : (64 : Int32) ≤ nI j := nI_le (a := 64) (by omega) (by omega)
    exact ⟨-1, fun _ H => br_t h H, fun _ H ps dn en vi rg hr => br_t h (H ps dn en vi rg hr)⟩
  | succ d ih =>
    intro j hj
    have h : ¬ (64 : Int32) ≤ nI j := nI_ge (b := 64) (by omega) (by omega)
    have hi : vp_in (nI j) 64 := vp_in_nI (by omega) (by decide)
    have hc : (nI j).toNatClampNeg = j := nI_clamp (by omega)
    by_cases e : eF j = x1
    · exact ⟨nI j, fun post H => br_f h ⟨hi, br_t (by rw [hc]; exact e) H⟩, fun post H ps dn en vi rg hr => br_f h (ly_run (hR j (by omega)) hr (fun r hz hE => br_t e (H _ _ _ _ r hz)))⟩
    · obtain ⟨r, hX, hY⟩ := ih (j + 1) (by omega)
      exact ⟨r, fun post H => br_f h ⟨hi, br_f (by rw [hc]; exact e) (nm_r (nI_1 j) (hX post H))⟩, fun post H ps dn en vi rg hr => br_f h (ly_run (hR j (by omega)) hr (fun r hz hE => br_f e (nm_r (nI_1 j) (hY post H _ _ _ _ r hz))))⟩
theorem i_vc_first {k : Nat} {u : SX} {v : SY} (I : i_Rel k u v) (hk : k + 5 ≤ 2561) (v1 : Int32) : wpX_first (fun r => wpY_first (fun r' v' => r' = r ∧ i_Rel (k + 5) u v') v v1) u v1 := by
  obtain ⟨l, s, kp, ps, dn, en, vi, o, a, b, w, eF, eS, eP, eE, eV, kF, kV, rg, rfl, rfl, hl, hs, hI, hw, hr, hR⟩ := I
  obtain ⟨r, hX, hY⟩ := lj_first v1 (kp := kp) (w := w) (kF := kF) (kV := kV) hR 64 0 rfl
  exact ⟨65, hX _ ⟨65, hY _ (fun _ _ _ _ _ hz => ⟨rfl, lj_mk (k + 5) l s hl hs hI hw hz hR⟩) ps dn en vi rg hr⟩⟩
theorem lj_visits (x1 : Int32) {L z kp : Int32} {o a b w eF eS eP eE eV kF kV : Nat → Int32} (hR : ∀ k, k < 64 → lj_R L z o a b eF eS eP eE eV k) : ∀ (d j : Nat) (c : Int32), j + d = 64 → ∃ r : Int32,
    (∀ post : Int32 → Prop, post r → wX_visits_14 post x1 L z kp o a b w eF eS eP eE eV kF kV (d + 1) c (nI j)) ∧
    (∀ (post : Int32 → SY → Prop), (∀ (ps dn en vi : Int32) (rg : Nat → Int32), lj_z rg → post r (L, z, kp, ps, dn, en, vi, o, a, b, kF, kV, rg)) → ∀ (ps dn en vi : Int32) (rg : Nat → Int32), lj_z rg → wY_visits_16 post x1 (d + 1) c (nI j) L z kp ps dn en vi o a b kF kV rg) := by
  intro d
  induction d with
  | zero =>
    intro j c hj
    have h : (64 : Int32) ≤ nI j := nI_le (a := 64) (by omega) (by omega)
    exact ⟨c, fun _ H => br_t h H, fun _ H ps dn en vi rg hr => br_t h (H ps dn en vi rg hr)⟩
  | succ d ih =>
    intro j c hj
    have h : ¬ (64 : Int32) ≤ nI j := nI_ge (b := 64) (by omega) (by omega)
    have hi : vp_in (nI j) 64 := vp_in_nI (by omega) (by decide)
    have hc : (nI j).toNatClampNeg = j := nI_clamp (by omega)
    obtain ⟨r, hX, hY⟩ := ih (j + 1) (c + ((eV j >>> (x1 &&& 31)) &&& 1)) (by omega)
    exact ⟨r, fun post H => br_f h ⟨hi, nm_r (by rw [hc]) (nm_r (nI_1 j) (hX post H))⟩, fun post H ps dn en vi rg hr => br_f h (ly_run (hR j (by omega)) hr (fun r hz hE => nm_e (nm_r (nI_1 j) (hY post H _ _ _ _ r hz))))⟩
theorem i_vc_visits {k : Nat} {u : SX} {v : SY} (I : i_Rel k u v) (hk : k + 5 ≤ 2561) (v1 : Int32) : wpX_visits (fun r => wpY_visits (fun r' v' => r' = r ∧ i_Rel (k + 5) u v') v v1) u v1 := by
  have I0 := I
  obtain ⟨l, s, kp, ps, dn, en, vi, o, a, b, w, eF, eS, eP, eE, eV, kF, kV, rg, rfl, rfl, hl, hs, hI, hw, hr, hR⟩ := I
  by_cases h : v1 < 0
  · exact br_t h (br_t rfl (br_t h ⟨rfl, I0⟩))
  · by_cases g : nI s ≤ v1
    · exact br_f h (br_t g (br_t rfl (br_f h (br_t g ⟨rfl, I0⟩))))
    · obtain ⟨r, hX, hY⟩ := lj_visits v1 (kp := kp) (w := w) (kF := kF) (kV := kV) hR 64 0 0 rfl
      exact br_f h (br_f g (br_f (by decide) ⟨65, hX _ (br_f h (br_f g ⟨65, hY _ (fun _ _ _ _ _ hz => ⟨rfl, lj_mk (k + 5) l s hl hs hI hw hz hR⟩) ps dn en vi rg hr⟩))⟩))
theorem lj_always {i : Nat} (hi : i < 4) (x2 : Int32) {L z kp : Int32} {o a b w eF eS eP eE eV kF kV : Nat → Int32} (hR : ∀ k, k < 64 → lj_R L z o a b eF eS eP eE eV k) : ∀ (d j : Nat), j + d = 64 → ∃ r : Int32,
    (∀ post : Int32 → Prop, post r → wX_always_18 post (nI i) x2 L z kp o a b w eF eS eP eE eV kF kV (d + 1) (nI j)) ∧
    (∀ (post : Int32 → SY → Prop), (∀ (ps dn en vi : Int32) (rg : Nat → Int32), lj_z rg → post r (L, z, kp, ps, dn, en, vi, o, a, b, kF, kV, rg)) → ∀ (ps dn en vi : Int32) (rg : Nat → Int32), lj_z rg → wY_always_9 post (nI i) x2 (d + 1) (nI j) L z kp ps dn en vi o a b kF kV rg) := by
  intro d
  induction d with
  | zero =>
    intro j hj
    have h : (64 : Int32) ≤ nI j := nI_le (a := 64) (by omega) (by omega)
    exact ⟨x2, fun _ H => br_t h H, fun _ H ps dn en vi rg hr => br_t h (H ps dn en vi rg hr)⟩
  | succ d ih =>
    intro j hj
    have h : ¬ (64 : Int32) ≤ nI j := nI_ge (b := 64) (by omega) (by omega)
    by_cases e : eE (j * 4 + i) = x2
    · obtain ⟨r, hX, hY⟩ := ih (j + 1) (by omega)
      exact ⟨r, fun post H => br_f h (lx_val (by omega) hi (br_t e (nm_r (nI_1 j) (hX post H)))), fun post H ps dn en vi rg hr => br_f h (ly_reg (hR j (by omega)) (by omega) hi hr (fun _ _ _ _ r hz => br_t e (nm_r (nI_1 j) (hY post H _ _ _ _ r hz))))⟩
    · exact ⟨-1, fun post H => br_f h (lx_val (by omega) hi (br_f e H)), fun post H ps dn en vi rg hr => br_f h (ly_reg (hR j (by omega)) (by omega) hi hr (fun _ _ _ _ r hz => br_f e (H _ _ _ _ r hz)))⟩
/-- no such register: the reference answers -1 at every input -/
theorem ly_reg0 {i : Int32} (hi : i < 0 ∨ (¬ i < 0 ∧ ¬ i ≤ 3)) {j : Nat} (hj : j < 64) {L z kp ps dn en vi : Int32} {o a b kF kV rg : Nat → Int32} {post : Int32 → SY → Prop} (H : post (-1) (L, z, kp, ps, dn, en, vi, o, a, b, kF, kV, rg)) : wpY_register post (L, z, kp, ps, dn, en, vi, o, a, b, kF, kV, rg) (nI j) i := by
  refine br_f (nI_pos (by omega)) (br_f (nI_nlt (a := 63) (by omega) (by omega)) (br_f (by decide) ?_))
  rcases hi with h | ⟨h, g⟩
  · exact br_t h H
  · exact br_f h (br_f g H)
theorem ly_always0 {i : Int32} (hi : i < 0 ∨ (¬ i < 0 ∧ ¬ i ≤ 3)) {L z kp ps dn en vi : Int32} {o a b kF kV rg : Nat → Int32} {post : Int32 → SY → Prop} (H : post (-1) (L, z, kp, ps, dn, en, vi, o, a, b, kF, kV, rg)) : ∀ (d j : Nat), j + d = 64 → wY_always_9 post i (-1) (d + 1) (nI j) L z kp ps dn en vi o a b kF kV rg := by
  intro d
  induction d with
  | zero =>
    intro j hj
    exact br_t (nI_le (a := 64) (by omega) (by omega)) H
  | succ d ih =>
    intro j hj
    exact br_f (nI_ge (b := 64) (by omega) (by omega)) (ly_reg0 hi (by omega) (br_t rfl (nm_r (nI_1 j) (ih (j + 1) (by omega)))))
theorem ly_alwaysI {i : Int32} (hi : i < 0 ∨ (¬ i < 0 ∧ ¬ i ≤ 3)) {L z kp ps dn en vi : Int32} {o a b kF kV rg : Nat → Int32} {post : Int32 → SY → Prop} (H : post (-1) (L, z, kp, ps, dn, en, vi, o, a, b, kF, kV, rg)) : wpY_always post (L, z, kp, ps, dn, en, vi, o, a, b, kF, kV, rg) i := by
  unfold wpY_always
  dsimp only
  refine ly_reg0 (j := 0) hi (by omega) ?_
  exact ⟨64, ly_always0 hi H 63 1 rfl⟩
theorem ly_alwaysV {L z : Int32} {o a b eF eS eP eE eV : Nat → Int32} {i : Nat} (h : lj_R L z o a b eF eS eP eE eV 0) (hi : i < 4) {kp ps dn en vi : Int32} {kF kV rg : Nat → Int32} (hr : lj_z rg) {post : Int32 → SY → Prop}
    (H : ∀ (ps dn en vi : Int32) (rg : Nat → Int32), lj_z rg → wY_always_9 post (nI i) (eE (0 * 4 + i)) 64 (nI 1) L z kp ps dn en vi o a b kF kV rg) : wpY_always post (L, z, kp, ps, dn, en, vi, o, a, b, kF, kV, rg) (nI i) := by
  unfold wpY_always
  dsimp only
  refine ly_reg (k := 0) h (by omega) hi hr (fun ps dn en vi rg hr => ?_)
  exact ⟨64, H ps dn en vi rg hr⟩
theorem i_vc_always {k : Nat} {u : SX} {v : SY} (I : i_Rel k u v) (hk : k + 5 ≤ 2561) (v1 : Int32) : wpX_always (fun r => wpY_always (fun r' v' => r' = r ∧ i_Rel (k + 5) u v') v v1) u v1 := by
  have I0 := I
  obtain ⟨l, s, kp, ps, dn, en, vi, o, a, b, w, eF, eS, eP, eE, eV, kF, kV, rg, rfl, rfl, hl, hs, hI, hw, hr, hR⟩ := I
  rcases lj_cs v1 3 (by omega) with g | ⟨g, g1, g2, g3, g4⟩ | ⟨g, g1, g2, g3, g4, i, hi, rfl⟩
  · exact br_t g (br_t rfl (ly_alwaysI (Or.inl g) ⟨rfl, I0⟩))
  · exact br_f g (br_t g1 (br_t rfl (ly_alwaysI (Or.inr ⟨g, g4⟩) ⟨rfl, I0⟩)))
  · obtain ⟨r, hX, hY⟩ := lj_always (i := i) (by omega) (eE (0 * 4 + i)) (kp := kp) (w := w) (kF := kF) (kV := kV) hR 63 1 rfl
    exact br_f g (br_f g1 (br_f (by decide) (lx_val (k := 0) (by omega) (by omega) ⟨64, hX _ (ly_alwaysV (hR 0 (by omega)) (by omega) hr (fun ps dn en vi rg hr => hY _ (fun _ _ _ _ _ hz => ⟨rfl, lj_mk (k + 5) l s hl hs hI hw hz hR⟩) ps dn en vi rg hr))⟩)))
