/-- X's mask and the reference's shift ask for one bit -/
theorem lj_bit : ∀ t : Nat, t < 6 → ∀ j : Nat, j < 64 → (((nI j >>> (nI t &&& 31)) &&& 1 = 0 ∧ nI j &&& ((1 : Int32) <<< (nI t &&& 31)) = 0 ∧ nI j + ((1 : Int32) <<< (nI t &&& 31)) = nI (j + 2 ^ t) ∧ j + 2 ^ t < 64) ∨ (¬ (nI j >>> (nI t &&& 31)) &&& 1 = 0 ∧ ¬ nI j &&& ((1 : Int32) <<< (nI t &&& 31)) = 0)) := by
  decide +kernel
theorem lj_depends {i t : Nat} (hi : i < 4) (ht : t < 6) {L z kp : Int32} {o a b w eF eS eP eE eV kF kV : Nat → Int32} (hR : ∀ k, k < 64 → lj_R L z o a b eF eS eP eE eV k) : ∀ (d j : Nat) (c : Int32), j + d = 64 → ∃ r : Int32,
    (∀ post : Int32 → Prop, post r → wX_depends_29 post (nI i) ((1 : Int32) <<< (nI t &&& 31)) L z kp o a b w eF eS eP eE eV kF kV (d + 1) c (nI j)) ∧
    (∀ (post : Int32 → SY → Prop), (∀ (ps dn en vi : Int32) (rg : Nat → Int32), lj_z rg → post r (L, z, kp, ps, dn, en, vi, o, a, b, kF, kV, rg)) → ∀ (ps dn en vi : Int32) (rg : Nat → Int32), lj_z rg → wY_depends_25 post (nI i) (nI t) (d + 1) c (nI j) L z kp ps dn en vi o a b kF kV rg) := by
  intro d
  induction d with
  | zero =>
    intro j c hj
    have h : (64 : Int32) ≤ nI j := nI_le (a := 64) (by omega) (by omega)
    exact ⟨c, fun _ H => br_t h H, fun _ H ps dn en vi rg hr => br_t h (H ps dn en vi rg hr)⟩
  | succ d ih =>
    intro j c hj
    have h : ¬ (64 : Int32) ≤ nI j := nI_ge (b := 64) (by omega) (by omega)
    rcases lj_bit t ht j (by omega) with ⟨b1, b2, b3, b4⟩ | ⟨b1, b2⟩
    · by_cases e : eE (j * 4 + i) = eE ((j + 2 ^ t) * 4 + i)
      · obtain ⟨r, hX, hY⟩ := ih (j + 1) c (by omega)
        refine ⟨r, fun post H => br_f h (br_t b2 (lx_val (by omega) hi ?_)), fun post H ps dn en vi rg hr => br_f h (br_t b1 (ly_reg (hR j (by omega)) (by omega) hi hr (fun ps dn en vi rg hr => ?_)))⟩
        · rw [b3]
          exact lx_val b4 hi (br_t e (nm_r (nI_1 j) (hX post H)))
        · rw [b3]
          exact ly_reg (hR _ b4) b4 hi hr (fun ps dn en vi rg hr => br_t e (nm_r (Int32.add_zero c) (nm_r (nI_1 j) (hY post H ps dn en vi rg hr))))
      · obtain ⟨r, hX, hY⟩ := ih (j + 1) (c + 1) (by omega)
        refine ⟨r, fun post H => br_f h (br_t b2 (lx_val (by omega) hi ?_)), fun post H ps dn en vi rg hr => br_f h (br_t b1 (ly_reg (hR j (by omega)) (by omega) hi hr (fun ps dn en vi rg hr => ?_)))⟩
        · rw [b3]
          exact lx_val b4 hi (br_f e (nm_e (nm_r (nI_1 j) (hX post H))))
        · rw [b3]
          exact ly_reg (hR _ b4) b4 hi hr (fun ps dn en vi rg hr => br_f e (nm_e (nm_r (nI_1 j) (hY post H ps dn en vi rg hr))))
    · obtain ⟨r, hX, hY⟩ := ih (j + 1) c (by omega)
      exact ⟨r, fun post H => br_f h (br_f b2 (nm_r (nI_1 j) (hX post H))), fun post H ps dn en vi rg hr => br_f h (br_f b1 (nm_r (nI_1 j) (hY post H ps dn en vi rg hr)))⟩
theorem i_vc_depends {k : Nat} {u : SX} {v : SY} (I : i_Rel k u v) (hk : k + 5 ≤ 2561) (v1 : Int32) (v2 : Int32) : wpX_depends (fun r => wpY_depends (fun r' v' => r' = r ∧ i_Rel (k + 5) u v') v v1 v2) u v1 v2 := by
  have I0 := I
  obtain ⟨l, s, kp, ps, dn, en, vi, o, a, b, w, eF, eS, eP, eE, eV, kF, kV, rg, rfl, rfl, hl, hs, hI, hw, hr, hR⟩ := I
  rcases lj_cs v1 3 (by omega) with g | ⟨g, g1, g2, g3, g4⟩ | ⟨g, g1, g2, g3, g4, i, hi, rfl⟩
  · exact br_t g (br_t rfl (br_t g ⟨rfl, I0⟩))
  · exact br_f g (br_t g1 (br_t rfl (br_f g (br_t g3 ⟨rfl, I0⟩))))
  · rcases lj_cs v2 5 (by omega) with f | ⟨f, f1, f2, f3, f4⟩ | ⟨f, f1, f2, f3, f4, t, ht, rfl⟩
    · exact br_f g (br_f g1 (br_f (by decide) (br_t f (br_f g (br_f g3 (br_t f ⟨rfl, I0⟩))))))
    · exact br_f g (br_f g1 (br_f (by decide) (br_f f (br_f f2 (br_f g (br_f g3 (br_f f (br_f f4 ⟨rfl, I0⟩))))))))
    · obtain ⟨r, hX, hY⟩ := lj_depends (i := i) (t := t) (by omega) (by omega) (kp := kp) (w := w) (kF := kF) (kV := kV) hR 64 0 0 rfl
      exact br_f g (br_f g1 (br_f (by decide) (br_f f (br_t f2 (nm_e ⟨65, hX _ (br_f g (br_f g3 (br_f f (br_t f4 ⟨65, hY _ (fun _ _ _ _ _ hz => ⟨rfl, lj_mk (k + 5) l s hl hs hI hw hz hR⟩) ps dn en vi rg hr⟩))))⟩)))))
theorem lj_keep {L z kp : Int32} {o a b w eF eS eP eE eV : Nat → Int32} (hR : ∀ k, k < 64 → lj_R L z o a b eF eS eP eE eV k) : ∀ (d j : Nat) (kF kV : Nat → Int32), j + d = 64 → ∃ kF' kV' : Nat → Int32,
    (∀ post : SX → Prop, post (L, z, 1, o, a, b, w, eF, eS, eP, eE, eV, kF', kV') → wX_keep_2 post L z kp (d + 1) (nI j) o a b w eF eS eP eE eV kF kV) ∧
    (∀ (post : SY → Prop), (∀ (ps dn en vi : Int32) (rg : Nat → Int32), lj_z rg → post (L, z, 1, ps, dn, en, vi, o, a, b, kF', kV', rg)) → ∀ (ps dn en vi : Int32) (rg : Nat → Int32), lj_z rg → wY_keep_7 post (d + 1) (nI j) L z 1 ps dn en vi o a b kF kV rg) := by
  intro d
  induction d with
  | zero =>
    intro j kF kV hj
    have h : (64 : Int32) ≤ nI j := nI_le (a := 64) (by omega) (by omega)
    exact ⟨kF, kV, fun _ H => br_t h H, fun _ H ps dn en vi rg hr => br_t h (H ps dn en vi rg hr)⟩
  | succ d ih =>
    intro j kF kV hj
    have h : ¬ (64 : Int32) ≤ nI j := nI_ge (b := 64) (by omega) (by omega)
    have hi : vp_in (nI j) 64 := vp_in_nI (by omega) (by decide)
    have hc : (nI j).toNatClampNeg = j := nI_clamp (by omega)
    obtain ⟨kF', kV', hX, hY⟩ := ih (j + 1) (upd kF j (eF j)) (upd kV j (eE (j * 4 + 0))) (by omega)
    refine ⟨kF', kV', fun post H => br_f h ⟨hi, hi, nm_r (by rw [hc]) (lx_val (i := 0) (by omega) (by omega) ⟨hi, nm_r (by rw [hc]) (nm_r (nI_1 j) (hX post H))⟩)⟩, fun post H ps dn en vi rg hr => br_f h (ly_run (hR j (by omega)) hr (fun r hz hE => ⟨hi, nm_r (by rw [hc]) ⟨hi, nm_r (by rw [hc, ← hE 0 (by omega)]) (nm_r (nI_1 j) (hY post H _ _ _ _ r hz))⟩⟩))⟩
theorem i_vc_keep {k : Nat} {u : SX} {v : SY} (I : i_Rel k u v) (hk : k + 5 ≤ 2561) : wpX_keep (fun u' => wpY_keep (fun v' => i_Rel (k + 5) u' v') v) u := by
  obtain ⟨l, s, kp, ps, dn, en, vi, o, a, b, w, eF, eS, eP, eE, eV, kF, kV, rg, rfl, rfl, hl, hs, hI, hw, hr, hR⟩ := I
  obtain ⟨kF', kV', hX, hY⟩ := lj_keep (kp := kp) (w := w) hR 64 0 kF kV rfl
  exact ⟨65, hX _ ⟨65, hY _ (fun _ _ _ _ _ hz => lj_mk (k + 5) l s hl hs hI hw hz hR) ps dn en vi rg hr⟩⟩
/-- the two agree on whether the run on input k agrees with what was kept -/
theorem lj_agr {L z kp : Int32} {o a b w eF eS eP eE eV kF kV : Nat → Int32} {j : Nat} (hj : j < 64) (hR : lj_R L z o a b eF eS eP eE eV j) : ∃ c : Int32,
    (∀ post : Int32 → Prop, post c → wpX_agreesOn post (L, z, kp, o, a, b, w, eF, eS, eP, eE, eV, kF, kV) (nI j)) ∧
    (∀ (post : Int32 → SY → Prop) (ps dn en vi : Int32) (rg : Nat → Int32), lj_z rg → (∀ (ps dn en vi : Int32) (rg : Nat → Int32), lj_z rg → post c (L, z, kp, ps, dn, en, vi, o, a, b, kF, kV, rg)) → wpY_agrees post (L, z, kp, ps, dn, en, vi, o, a, b, kF, kV, rg) (nI j)) := by
  have hi : vp_in (nI j) 64 := vp_in_nI hj (by decide)
  have hc : (nI j).toNatClampNeg = j := nI_clamp (by omega)
  by_cases e : eF j = kF j
  · by_cases e0 : eF j = 0
    · by_cases ev : eE (j * 4 + 0) = kV j
      · refine ⟨1, fun post H => ⟨hi, hi, br_t (by rw [hc]; exact e) ⟨hi, br_t (by rw [hc, ← e]; exact e0) (lx_val (i := 0) hj (by omega) ⟨hi, br_t (by rw [hc]; exact ev) H⟩)⟩⟩, fun post ps dn en vi rg hr H => ?_⟩
        unfold wpY_agrees
        dsimp only
        refine ly_run hR hr (fun r hz hE => ?_)
        exact ⟨hi, br_t (by rw [hc]; exact e) (br_t e0 ⟨hi, br_t (by rw [hc]; exact (hE 0 (by omega)).symm.trans ev) (H _ _ _ _ r hz)⟩)⟩
      · refine ⟨0, fun post H => ⟨hi, hi, br_t (by rw [hc]; exact e) ⟨hi, br_t (by rw [hc, ← e]; exact e0) (lx_val (i := 0) hj (by omega) ⟨hi, br_f (by rw [hc]; exact ev) H⟩)⟩⟩, fun post ps dn en vi rg hr H => ?_⟩
        unfold wpY_agrees
        dsimp only
        refine ly_run hR hr (fun r hz hE => ?_)
        exact ⟨hi, br_t (by rw [hc]; exact e) (br_t e0 ⟨hi, br_f (by rw [hc]; exact fun q => ev ((hE 0 (by omega)).trans q)) (H _ _ _ _ r hz)⟩)⟩
    · refine ⟨1, fun post H => ⟨hi, hi, br_t (by rw [hc]; exact e) ⟨hi, br_f (by rw [hc, ← e]; exact e0) H⟩⟩, fun post ps dn en vi rg hr H => ?_⟩
      unfold wpY_agrees
      dsimp only
      refine ly_run hR hr (fun r hz hE => ?_)
      exact ⟨hi, br_t (by rw [hc]; exact e) (br_f e0 (H _ _ _ _ r hz))⟩
  · refine ⟨0, fun post H => ⟨hi, hi, br_f (by rw [hc]; exact e) H⟩, fun post ps dn en vi rg hr H => ?_⟩
    unfold wpY_agrees
    dsimp only
    refine ly_run hR hr (fun r hz hE => ?_)
    exact ⟨hi, br_f (by rw [hc]; exact e) (H _ _ _ _ r hz)⟩
theorem lj_agreeing {L z kp : Int32} {o a b w eF eS eP eE eV kF kV : Nat → Int32} (hR : ∀ k, k < 64 → lj_R L z o a b eF eS eP eE eV k) : ∀ (d j : Nat) (c : Int32), j + d = 64 → ∃ r : Int32,
    (∀ post : Int32 → Prop, post r → wX_agreeing_13 post L z kp o a b w eF eS eP eE eV kF kV (d + 1) c (nI j)) ∧
    (∀ (post : Int32 → SY → Prop), (∀ (ps dn en vi : Int32) (rg : Nat → Int32), lj_z rg → post r (L, z, kp, ps, dn, en, vi, o, a, b, kF, kV, rg)) → ∀ (ps dn en vi : Int32) (rg : Nat → Int32), lj_z rg → wY_agreeing_13 post (d + 1) c (nI j) L z kp ps dn en vi o a b kF kV rg) := by
  intro d
  induction d with
  | zero =>
    intro j c hj
    have h : (64 : Int32) ≤ nI j := nI_le (a := 64) (by omega) (by omega)
    exact ⟨c, fun _ H => br_t h H, fun _ H ps dn en vi rg hr => br_t h (H ps dn en vi rg hr)⟩
  | succ d ih =>
    intro j c hj
    have h : ¬ (64 : Int32) ≤ nI j := nI_ge (b := 64) (by omega) (by omega)
    obtain ⟨q, aX, aY⟩ := lj_agr (kp := kp) (w := w) (kF := kF) (kV := kV) (show j < 64 by omega) (hR j (by omega))
    by_cases e : q = 0
    · obtain ⟨r, hX, hY⟩ := ih (j + 1) c (by omega)
      exact ⟨r, fun post H => br_f h (aX _ (br_t e (nm_r (nI_1 j) (hX post H)))), fun post H ps dn en vi rg hr => br_f h (aY _ ps dn en vi rg hr (fun ps dn en vi rg hr => br_t e (nm_r (nI_1 j) (hY post H ps dn en vi rg hr))))⟩
    · obtain ⟨r, hX, hY⟩ := ih (j + 1) (c + 1) (by omega)
      exact ⟨r, fun post H => br_f h (aX _ (br_f e (nm_e (nm_r (nI_1 j) (hX post H))))), fun post H ps dn en vi rg hr => br_f h (aY _ ps dn en vi rg hr (fun ps dn en vi rg hr => br_f e (nm_e (nm_r (nI_1 j) (hY post H ps dn en vi rg hr)))))⟩
theorem i_vc_agreeing {k : Nat} {u : SX} {v : SY} (I : i_Rel k u v) (hk : k + 5 ≤ 2561) : wpX_agreeing (fun r => wpY_agreeing (fun r' v' => r' = r ∧ i_Rel (k + 5) u v') v) u := by
  have I0 := I
  obtain ⟨l, s, kp, ps, dn, en, vi, o, a, b, w, eF, eS, eP, eE, eV, kF, kV, rg, rfl, rfl, hl, hs, hI, hw, hr, hR⟩ := I
  by_cases e : kp = 0
  · exact br_t e (br_t e ⟨rfl, I0⟩)
  · obtain ⟨r, hX, hY⟩ := lj_agreeing (kp := kp) (w := w) (kF := kF) (kV := kV) hR 64 0 0 rfl
    exact br_f e ⟨65, hX _ (br_f e ⟨65, hY _ (fun _ _ _ _ _ hz => ⟨rfl, lj_mk (k + 5) l s hl hs hI hw hz hR⟩) ps dn en vi rg hr⟩)⟩
theorem lj_difference {L z kp : Int32} {o a b w eF eS eP eE eV kF kV : Nat → Int32} (hk : ¬ kp = 0) (hR : ∀ k, k < 64 → lj_R L z o a b eF eS eP eE eV k) : ∀ (d j : Nat), j + d = 64 → ∃ r : Int32,
    (∀ post : Int32 → Prop, post r → wX_difference_11 post L z kp o a b w eF eS eP eE eV kF kV (d + 1) (nI j)) ∧
    (∀ (post : Int32 → SY → Prop), (∀ (ps dn en vi : Int32) (rg : Nat → Int32), lj_z rg → post r (L, z, kp, ps, dn, en, vi, o, a, b, kF, kV, rg)) → ∀ (ps dn en vi : Int32) (rg : Nat → Int32), lj_z rg → wY_difference_2 post (d + 1) (nI j) L z kp ps dn en vi o a b kF kV rg) := by
  intro d
  induction d with
  | zero =>
    intro j hj
    have h : (64 : Int32) ≤ nI j := nI_le (a := 64) (by omega) (by omega)
    exact ⟨-1, fun _ H => br_t h H, fun _ H ps dn en vi rg hr => br_t h (H ps dn en vi rg hr)⟩
  | succ d ih =>
    intro j hj
    have h : ¬ (64 : Int32) ≤ nI j := nI_ge (b := 64) (by omega) (by omega)
    obtain ⟨q, aX, aY⟩ := lj_agr (kp := kp) (w := w) (kF := kF) (kV := kV) (show j < 64 by omega) (hR j (by omega))
    by_cases e : q = 0
    · exact ⟨nI j, fun post H => br_f h (aX _ (br_t e H)), fun post H ps dn en vi rg hr => br_f h (br_f hk (aY _ ps dn en vi rg hr (fun ps dn en vi rg hr => br_t e (H ps dn en vi rg hr))))⟩
    · obtain ⟨r, hX, hY⟩ := ih (j + 1) (by omega)
      exact ⟨r, fun post H => br_f h (aX _ (br_f e (nm_r (nI_1 j) (hX post H)))), fun post H ps dn en vi rg hr => br_f h (br_f hk (aY _ ps dn en vi rg hr (fun ps dn en vi rg hr => br_f e (nm_r (nI_1 j) (hY post H ps dn en vi rg hr)))))⟩
theorem i_vc_difference {k : Nat} {u : SX} {v : SY} (I : i_Rel k u v) (hk : k + 5 ≤ 2561) : wpX_difference (fun r => wpY_difference (fun r' v' => r' = r ∧ i_Rel (k + 5) u v') v) u := by
  have I0 := I
  obtain ⟨l, s, kp, ps, dn, en, vi, o, a, b, w, eF, eS, eP, eE, eV, kF, kV, rg, rfl, rfl, hl, hs, hI, hw, hr, hR⟩ := I
  by_cases e : kp = 0
  · exact br_t e ⟨1, br_f (by decide) (br_t e ⟨rfl, I0⟩)⟩
  · obtain ⟨r, hX, hY⟩ := lj_difference (w := w) (kF := kF) (kV := kV) e hR 64 0 rfl
    exact br_f e ⟨65, hX _ ⟨65, hY _ (fun _ _ _ _ _ hz => ⟨rfl, lj_mk (k + 5) l s hl hs hI hw hz hR⟩) ps dn en vi rg hr⟩⟩
