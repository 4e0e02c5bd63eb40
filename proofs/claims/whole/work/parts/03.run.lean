/-- X's loop, its run already ended with F -/
theorem lx_end {post : SX → Prop} {x1 P S V F L z kp : Int32} {o a b w eF eS eP eE eV kF kV : Nat → Int32} (n : Nat) (hF : ¬ F = -1) (h : wX_runOn_96 post x1 P S V F L z kp o a b w eF eS eP eE eV kF kV) : wX_runOn_15 post x1 (n + 1) P S V F L z kp o a b w eF eS eP eE eV kF kV :=
  br_c (fun _ => br_f hF h) (fun _ => br_c (fun _ => br_f hF h) (fun _ => br_f hF (br_f hF h)))
/-- the reference's loop, its run already ended -/
theorem ly_end {post : SY → Prop} {x2 L z kp ps dn en vi : Int32} {o a b kF kV rg : Nat → Int32} (n : Nat) (hF : 0 ≤ en) (h : post (L, z, kp, ps, dn, en, vi, o, a, b, kF, kV, rg)) : wY_run_56 post (n + 1) x2 L z kp ps dn en vi o a b kF kV rg :=
  br_c (fun _ => h) (fun _ => br_t hF h)
theorem lj_F {F : Int32} (h : F = 0 ∨ F = 2 ∨ F = 3) : ¬ F = -1 ∧ 0 ≤ F := by
  rcases h with rfl | rfl | rfl
  · exact ⟨by decide, by decide⟩
  · exact ⟨by decide, by decide⟩
  · exact ⟨by decide, by decide⟩
/-- what both runs give from here on -/
def lj_G (l s m d p : Nat) (V : Int32) (o a b r : Nat → Int32) (F S P V' : Int32) (r' : Nat → Int32) : Prop :=
  (∀ (kp : Int32) (eF eS eP eE eV kF kV : Nat → Int32) (x1 : Int32) (post : SX → Prop) (n : Nat), m + 2 ≤ n → wX_runOn_96 post x1 P S V' F (nI l) (nI s) kp o a b r' eF eS eP eE eV kF kV → wX_runOn_15 post x1 n (nI p) (nI d) V (-1) (nI l) (nI s) kp o a b r eF eS eP eE eV kF kV) ∧
  (∀ (kp : Int32) (kF kV : Nat → Int32) (post : SY → Prop) (n : Nat), m + 2 ≤ n → post (nI l, nI s, kp, P, S, F, V', o, a, b, kF, kV, r') → wY_run_56 post n (nI d) (nI l) (nI s) kp (nI p) (nI d) (-1) V o a b kF kV r)
theorem lj_out {l s m d p : Nat} (V : Int32) (o a b r : Nat → Int32) (hd : d ≤ 40) (hs : s ≤ 12) (hp : p ≤ 12) (h : s ≤ p) : lj_G l s m d p V o a b r 0 (nI d) (nI p) V r := by
  refine ⟨fun kp eF eS eP eE eV kF kV x1 post n hn H => ?_, fun kp kF kV post n hn H => ?_⟩
  · obtain ⟨n, rfl⟩ : ∃ q, n = q + 1 := ⟨n - 1, by omega⟩
    have T : wX_runOn_75 post x1 (nI p) (nI d) V (-1) (nI l) (nI s) kp o a b r eF eS eP eE eV kF kV := br_t rfl (br_f (nI_nlt h (by omega)) H)
    exact br_c (fun _ => T) (fun _ => br_t (nI_le h (by omega)) T)
  · obtain ⟨n, rfl⟩ : ∃ q, n = q + 2 := ⟨n - 2, by omega⟩
    exact br_f (nI_nlt (a := 40) hd (by omega)) (br_f lj_m1 (br_t (nI_le h (by omega)) (fun _ _ => ly_end n (by decide) H)))
theorem lj_tired {l s m d p : Nat} (V : Int32) (o a b r : Nat → Int32) (hd : d ≤ 40) (hs : s ≤ 12) (h : p < s) (hl : l ≤ d) : lj_G l s m d p V o a b r 1 (nI d) (nI p) V r := by
  refine ⟨fun kp eF eS eP eE eV kF kV x1 post n hn H => ?_, fun kp kF kV post n hn H => ?_⟩
  · obtain ⟨n, rfl⟩ : ∃ q, n = q + 1 := ⟨n - 1, by omega⟩
    exact br_t (nI_le hl (by omega)) (br_t rfl (br_t (nI_lt h (by omega)) H))
  · obtain ⟨n, rfl⟩ : ∃ q, n = q + 2 := ⟨n - 2, by omega⟩
    exact br_f (nI_nlt (a := 40) hd (by omega)) (br_f lj_m1 (br_f (nI_ge h (by omega)) (br_t (nI_pos' (by omega)) (br_f (nI_nlt hl (by omega)) (fun _ _ => ly_end n (by decide) H)))))
theorem lj_loop {l s : Nat} {o a b : Nat → Int32} (hl : l ≤ 40) (hs : s ≤ 12) (hI : ∀ p, p < s → lj_I (o p) (a p) (b p)) : ∀ (m d p : Nat) (V : Int32) (r : Nat → Int32), d + m = l → p ≤ 12 → lj_z r →
    ∃ (F S P V' : Int32) (r' : Nat → Int32), lj_z r' ∧ lj_G l s m d p V o a b r F S P V' r' := by
  intro m
  induction m with
  | zero =>
    intro d p V r hd hp hr
    by_cases h : s ≤ p
    · exact ⟨_, _, _, _, _, hr, lj_out V o a b r (by omega) hs hp h⟩
    · exact ⟨_, _, _, _, _, hr, lj_tired V o a b r (by omega) hs (by omega) (by omega)⟩
  | succ m ih =>
    intro d p V r hd hp hr
    by_cases h : s ≤ p
    · exact ⟨_, _, _, _, _, hr, lj_out V o a b r (by omega) hs hp h⟩
    · have hps : p < s := by omega
      have hpl : p < 12 := by omega
      have hi : vp_in (nI p) 12 := vp_in_nI hpl (by decide)
      have hI2 : lj_I (o (nI p).toNatClampNeg) (a (nI p).toNatClampNeg) (b (nI p).toNatClampNeg) := by rw [nI_clamp (by omega)]; exact hI p hps
      rcases lj_step (nI l) (nI s) hpl hr hI2 with ⟨F, hF, E⟩ | ⟨p2, r2, hp2, hr2, C⟩
      · obtain ⟨hF1, hF0⟩ := lj_F hF
        refine ⟨F, nI (d + 1), nI p, V ||| ((1 : Int32) <<< (nI p &&& 31)), r, hr, fun kp eF eS eP eE eV kF kV x1 post n hn H => ?_, fun kp kF kV post n hn H => ?_⟩
        · obtain ⟨n, rfl⟩ : ∃ q, n = q + 2 := ⟨n - 2, by omega⟩
          exact br_f (nI_ge (by omega) (by omega)) (br_f (nI_ge hps (by omega)) (br_t rfl (nm_e (E.1 kp eF eS eP eE eV kF kV _ (br_f hF1 (nm_r (nI_1 d) (lx_end n hF1 H)))))))
        · obtain ⟨n, rfl⟩ : ∃ q, n = q + 2 := ⟨n - 2, by omega⟩
          exact br_f (nI_nlt (a := 40) (by omega) (by omega)) (br_f lj_m1 (br_f (nI_ge hps (by omega)) (br_t (nI_pos' (by omega)) (br_t (nI_lt (by omega) (by omega)) (nm_r (nI_1 d) (nm_e ⟨hi, hi, hi, E.2 kp _ _ kF kV _ (fun _ _ => ly_end n hF0 H)⟩))))))
      · obtain ⟨F, S, P, V', r', hr', hX, hY⟩ := ih (d + 1) p2 (V ||| ((1 : Int32) <<< (nI p &&& 31))) r2 (by omega) hp2 hr2
        obtain ⟨C1, C2, C3, C4⟩ := C
        refine ⟨F, S, P, V', r', hr', fun kp eF eS eP eE eV kF kV x1 post n hn H => ?_, fun kp kF kV post n hn H => ?_⟩
        · obtain ⟨n, rfl⟩ : ∃ q, n = q + 1 := ⟨n - 1, by omega⟩
          exact br_f (nI_ge (by omega) (by omega)) (br_f (nI_ge hps (by omega)) (br_t rfl (nm_e (C1 kp eF eS eP eE eV kF kV _ (br_t rfl (C2 kp eF eS eP eE eV kF kV _ (C3 kp eF eS eP eE eV kF kV _ (nm_r (nI_1 d) (hX kp eF eS eP eE eV kF kV x1 post n (by omega) H)))))))))
        · obtain ⟨n, rfl⟩ : ∃ q, n = q + 1 := ⟨n - 1, by omega⟩
          exact br_f (nI_nlt (a := 40) (by omega) (by omega)) (br_f lj_m1 (br_f (nI_ge hps (by omega)) (br_t (nI_pos' (by omega)) (br_t (nI_lt (by omega) (by omega)) (nm_r (nI_1 d) (nm_e ⟨hi, hi, hi, C4 kp _ _ kF kV _ (nm_r (nI_1 d) (hY kp kF kV post n (by omega) H))⟩))))))
/-- the four values laid at the place of input k -/
def lj_e4 (eE : Nat → Int32) (k : Nat) (r : Nat → Int32) : Nat → Int32 := upd (upd (upd (upd eE (k * 4) (r 0)) (k * 4 + 1) (r 1)) (k * 4 + 2) (r 2)) (k * 4 + 3) (r 3)
theorem lx_ix {k i : Nat} {c : Int32} (hk : k < 64) (hi : i < 4) (hc : c = nI i) : vp_in c 4 ∧ vp_in ((nI k * 4) + c) 256 ∧ ((nI k * 4) + c).toNatClampNeg = k * 4 + i ∧ c.toNatClampNeg = i := by
  subst hc
  rw [lj_ix]
  exact ⟨vp_in_nI hi (by decide), vp_in_nI (by omega) (by decide), nI_clamp (by omega), nI_clamp (by omega)⟩
theorem lx_129 {post : SX → Prop} {k : Nat} (hk : k < 64) {L z kp : Int32} {o a b w eF eS eP eE eV kF kV : Nat → Int32} (h : post (L, z, kp, o, a, b, w, eF, eS, eP, lj_e4 eE k w, eV, kF, kV)) : wX_runOn_129 post (nI k) L z kp 5 0 o a b w eF eS eP eE eV kF kV := by
  obtain ⟨a0, b0, c0', d0⟩ := lx_ix (c := 0) hk (show 0 < 4 by decide) (by decide)
  obtain ⟨a1, b1, c1', d1⟩ := lx_ix (c := 1) hk (show 1 < 4 by decide) (by decide)
  obtain ⟨a2, b2, c2', d2⟩ := lx_ix (c := 2) hk (show 2 < 4 by decide) (by decide)
  obtain ⟨a3, b3, c3', d3⟩ := lx_ix (c := 3) hk (show 3 < 4 by decide) (by decide)
  refine br_f (by decide) ⟨a0, b0, nm_r (by rw [c0', d0]) (nm_r (show (0 : Int32) + 1 = 1 from by decide) ?_)⟩
  refine br_f (by decide) ⟨a1, b1, nm_r (by rw [c1', d1]) (nm_r (show (1 : Int32) + 1 = 2 from by decide) ?_)⟩
  refine br_f (by decide) ⟨a2, b2, nm_r (by rw [c2', d2]) (nm_r (show (2 : Int32) + 1 = 3 from by decide) ?_)⟩
  refine br_f (by decide) ⟨a3, b3, nm_r (by rw [c3', d3]) (nm_r (show (3 : Int32) + 1 = 4 from by decide) ?_)⟩
  exact br_t (by decide) h
theorem lx_96 {post : SX → Prop} {k : Nat} (hk : k < 64) {P S V F L z kp : Int32} {o a b w eF eS eP eE eV kF kV : Nat → Int32} (h : post (L, z, kp, o, a, b, w, upd eF k F, upd eS k S, upd eP k P, lj_e4 eE k w, upd eV k V, kF, kV)) : wX_runOn_96 post (nI k) P S V F L z kp o a b w eF eS eP eE eV kF kV := by
  have hi : vp_in (nI k) 64 := vp_in_nI hk (by decide)
  have hc : (nI k).toNatClampNeg = k := nI_clamp (by omega)
  exact ⟨hi, nm_r (by rw [hc]) ⟨hi, nm_r (by rw [hc]) ⟨hi, nm_r (by rw [hc]) ⟨hi, nm_r (by rw [hc]) ⟨5, lx_129 hk h⟩⟩⟩⟩⟩
/-- the reference's run on input k, from any state with this program, ends so -/
def lj_Y (L z : Int32) (o a b : Nat → Int32) (k F S P V : Int32) (r : Nat → Int32) : Prop :=
  ∀ (kp ps dn en vi : Int32) (kF kV rg : Nat → Int32) (post : SY → Prop), lj_z rg → post (L, z, kp, P, S, F, V, o, a, b, kF, kV, r) → wpY_run post (L, z, kp, ps, dn, en, vi, o, a, b, kF, kV, rg) k
theorem lj_run {l s : Nat} {o a b : Nat → Int32} (hl : l ≤ 40) (hs : s ≤ 12) (hI : ∀ p, p < s → lj_I (o p) (a p) (b p)) (k : Nat) (hk : k < 64) :
    ∃ (F S P V : Int32) (r : Nat → Int32), lj_z r ∧ lj_Y (nI l) (nI s) o a b (nI k) F S P V r ∧
      ∀ (kp : Int32) (w eF eS eP eE eV kF kV : Nat → Int32) (post : SX → Prop), lj_z w → post (nI l, nI s, kp, o, a, b, r, upd eF k F, upd eS k S, upd eP k P, lj_e4 eE k r, upd eV k V, kF, kV) → wpX_runOn post (nI l, nI s, kp, o, a, b, w, eF, eS, eP, eE, eV, kF, kV) (nI k) := by
  obtain ⟨F, S, P, V, r, hr, hX, hY⟩ := lj_loop hl hs hI l 0 0 0 (lj_r0 (nI k - nI k / 8 * 8) (nI k / 8)) (by omega) (by omega) (lj_r0z _ _)
  refine ⟨F, S, P, V, r, hr, fun kp ps dn en vi kF kV rg post hz H => ?_, fun kp w eF eS eP eE eV kF kV post hz H => ?_⟩
  · exact ⟨by decide, nm_e ⟨by decide, nm_e (nm_e (nm_r (lj_st hz _ _) ⟨l + 2, hY kp kF kV post (l + 2) (by omega) H⟩))⟩⟩
  · exact ⟨by decide, nm_e ⟨by decide, nm_e (nm_e (nm_r (lj_st hz _ _) ⟨l + 2, hX kp eF eS eP eE eV kF kV (nI k) post (l + 2) (by omega) (lx_96 hk H)⟩))⟩⟩
/-- what X has stored for input k is what the reference's run gives -/
def lj_R (L z : Int32) (o a b eF eS eP eE eV : Nat → Int32) (k : Nat) : Prop :=
  ∃ r : Nat → Int32, lj_z r ∧ (∀ i, i < 4 → eE (k * 4 + i) = r i) ∧ lj_Y L z o a b (nI k) (eF k) (eS k) (eP k) (eV k) r
theorem lj_e4s {eE r : Nat → Int32} {k : Nat} : ∀ i, i < 4 → lj_e4 eE k r (k * 4 + i) = r i := by
  intro i hi
  have hcs : i = 0 ∨ i = 1 ∨ i = 2 ∨ i = 3 := by omega
  rcases hcs with rfl | rfl | rfl | rfl
  · exact (pk_un (by omega)).trans ((pk_un (by omega)).trans ((pk_un (by omega)).trans pk_us))
  · exact (pk_un (by omega)).trans ((pk_un (by omega)).trans pk_us)
  · exact (pk_un (by omega)).trans pk_us
  · exact pk_us
theorem lj_e4n {eE r : Nat → Int32} {k j : Nat} (h : j ≠ k) {i : Nat} (hi : i < 4) : lj_e4 eE k r (j * 4 + i) = eE (j * 4 + i) :=
  (pk_un (by omega)).trans ((pk_un (by omega)).trans ((pk_un (by omega)).trans (pk_un (by omega))))
theorem lj_Rs {L z : Int32} {o a b eF eS eP eE eV : Nat → Int32} {k : Nat} {F S P V : Int32} {r : Nat → Int32} (hr : lj_z r) (h : lj_Y L z o a b (nI k) F S P V r) : lj_R L z o a b (upd eF k F) (upd eS k S) (upd eP k P) (lj_e4 eE k r) (upd eV k V) k := by
  refine ⟨r, hr, lj_e4s, ?_⟩
  rw [pk_us, pk_us, pk_us, pk_us]
  exact h
theorem lj_Rn {L z : Int32} {o a b eF eS eP eE eV : Nat → Int32} {k j : Nat} {F S P V : Int32} {r : Nat → Int32} (hj : j ≠ k) (h : lj_R L z o a b eF eS eP eE eV j) : lj_R L z o a b (upd eF k F) (upd eS k S) (upd eP k P) (lj_e4 eE k r) (upd eV k V) j := by
  obtain ⟨q, hq, hE, hY⟩ := h
  refine ⟨q, hq, fun i hi => (lj_e4n hj hi).trans (hE i hi), ?_⟩
  rw [pk_un hj, pk_un hj, pk_un hj, pk_un hj]
  exact hY
theorem lj_all {l s : Nat} {o a b : Nat → Int32} (hl : l ≤ 40) (hs : s ≤ 12) (hI : ∀ p, p < s → lj_I (o p) (a p) (b p)) (kp : Int32) (kF kV : Nat → Int32) (post : SX → Prop)
    (H : ∀ w eF eS eP eE eV : Nat → Int32, lj_z w → (∀ k, k < 64 → lj_R (nI l) (nI s) o a b eF eS eP eE eV k) → post (nI l, nI s, kp, o, a, b, w, eF, eS, eP, eE, eV, kF, kV)) :
    ∀ (d k : Nat) (w eF eS eP eE eV : Nat → Int32), k + d = 64 → lj_z w → (∀ j, j < k → lj_R (nI l) (nI s) o a b eF eS eP eE eV j) → wX_runAll_2 post (d + 1) (nI k) (nI l) (nI s) kp o a b w eF eS eP eE eV kF kV := by
  intro d
  induction d with
  | zero =>
    intro k w eF eS eP eE eV hk hw hR
    exact br_t (nI_le (a := 64) (by omega) (by omega)) (H w eF eS eP eE eV hw (fun j hj => hR j (by omega)))
  | succ d ih =>
    intro k w eF eS eP eE eV hk hw hR
    obtain ⟨F, S, P, V, r, hr, hY, hX⟩ := lj_run hl hs hI k (by omega)
    refine br_f (nI_ge (b := 64) (by omega) (by omega)) (hX kp w eF eS eP eE eV kF kV _ hw (nm_r (nI_1 k) (ih (k + 1) r _ _ _ _ _ (by omega) hr ?_)))
    intro j hj
    by_cases e : j = k
    · subst e
      exact lj_Rs hr hY
    · exact lj_Rn e (hR j (by omega))
theorem lj_runAll {l s : Nat} {o a b : Nat → Int32} (hl : l ≤ 40) (hs : s ≤ 12) (hI : ∀ p, p < s → lj_I (o p) (a p) (b p)) {kp : Int32} {w eF eS eP eE eV kF kV : Nat → Int32} {post : SX → Prop} (hw : lj_z w)
    (H : ∀ w eF eS eP eE eV : Nat → Int32, lj_z w → (∀ k, k < 64 → lj_R (nI l) (nI s) o a b eF eS eP eE eV k) → post (nI l, nI s, kp, o, a, b, w, eF, eS, eP, eE, eV, kF, kV)) : wpX_runAll post (nI l, nI s, kp, o, a, b, w, eF, eS, eP, eE, eV, kF, kV) :=
  ⟨65, lj_all hl hs hI kp kF kV post H 64 0 w eF eS eP eE eV rfl hw (fun j hj => absurd hj (by omega))⟩
