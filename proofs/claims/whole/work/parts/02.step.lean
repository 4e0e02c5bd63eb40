/-- both sides end the run with F at position p -/
def lj_E (L z : Int32) (o a b : Nat → Int32) (p : Nat) (r : Nat → Int32) (F : Int32) : Prop :=
  (∀ (kp : Int32) (eF eS eP eE eV kF kV : Nat → Int32) (post : Int32 → Prop), post F → wpX_endingAt post (L, z, kp, o, a, b, r, eF, eS, eP, eE, eV, kF, kV) (nI p)) ∧
  (∀ (kp dn vi : Int32) (kF kV : Nat → Int32) (post : SY → Prop), post (L, z, kp, nI p, dn, F, vi, o, a, b, kF, kV, r) → wpY_carryOut post (L, z, kp, nI p, dn, -1, vi, o, a, b, kF, kV, r) (o (nI p).toNatClampNeg) (a (nI p).toNatClampNeg &&& 3) (b (nI p).toNatClampNeg))
/-- both sides go on from position p to position p2 with the registers r2 -/
def lj_C (L z : Int32) (o a b : Nat → Int32) (p : Nat) (r : Nat → Int32) (p2 : Nat) (r2 : Nat → Int32) : Prop :=
  (∀ (kp : Int32) (eF eS eP eE eV kF kV : Nat → Int32) (post : Int32 → Prop), post (-1) → wpX_endingAt post (L, z, kp, o, a, b, r, eF, eS, eP, eE, eV, kF, kV) (nI p)) ∧
  (∀ (kp : Int32) (eF eS eP eE eV kF kV : Nat → Int32) (post : SX → Prop), post (L, z, kp, o, a, b, r2, eF, eS, eP, eE, eV, kF, kV) → wpX_changeRegister post (L, z, kp, o, a, b, r, eF, eS, eP, eE, eV, kF, kV) (nI p)) ∧
  (∀ (kp : Int32) (eF eS eP eE eV kF kV : Nat → Int32) (post : Int32 → Prop), post (nI p2) → wpX_nextAfter post (L, z, kp, o, a, b, r2, eF, eS, eP, eE, eV, kF, kV) (nI p)) ∧
  (∀ (kp dn vi : Int32) (kF kV : Nat → Int32) (post : SY → Prop), post (L, z, kp, nI p2, dn, -1, vi, o, a, b, kF, kV, r2) → wpY_carryOut post (L, z, kp, nI p, dn, -1, vi, o, a, b, kF, kV, r) (o (nI p).toNatClampNeg) (a (nI p).toNatClampNeg &&& 3) (b (nI p).toNatClampNeg))
def lj_v : Nat → Int32 → Int32 → Int32
  | 1 => fun _ y => y
  | 2 => fun x y => (x + y) - (x + y) / 16 * 16
  | 3 => fun x y => ((x - y) + 16) - ((x - y) + 16) / 16 * 16
  | 4 => fun x y => (x * y) - (x * y) / 16 * 16
  | 5 => fun x y => x / y
  | 6 => fun x y => x &&& y
  | 7 => fun x y => x ^^^ y
  | _ => fun x y => if y ≤ x then 0 else 1
theorem lx_r1 {x y : Int32} {post : Int32 → Prop} (h : post (lj_v 1 x y)) : wpX_resultOf post 1 x y :=
  br_f (by decide) (br_f (by decide) (br_f (by decide) (br_t rfl (h))))
theorem lx_r2 {x y : Int32} {post : Int32 → Prop} (h : post (lj_v 2 x y)) : wpX_resultOf post 2 x y :=
  br_f (by decide) (br_f (by decide) (br_f (by decide) (br_f (by decide) (br_t rfl (⟨by decide, h⟩)))))
theorem lx_r3 {x y : Int32} {post : Int32 → Prop} (h : post (lj_v 3 x y)) : wpX_resultOf post 3 x y :=
  br_f (by decide) (br_f (by decide) (br_f (by decide) (br_f (by decide) (br_f (by decide) (br_t rfl (⟨by decide, h⟩))))))
theorem lx_r4 {x y : Int32} {post : Int32 → Prop} (h : post (lj_v 4 x y)) : wpX_resultOf post 4 x y :=
  br_f (by decide) (br_f (by decide) (br_f (by decide) (br_f (by decide) (br_f (by decide) (br_f (by decide) (br_t rfl (⟨by decide, h⟩)))))))
theorem lx_r5 {x y : Int32} {post : Int32 → Prop} (hy : ¬ y = 0) (h : post (lj_v 5 x y)) : wpX_resultOf post 5 x y :=
  br_f (by decide) (br_f (by decide) (br_f (by decide) (br_f (by decide) (br_f (by decide) (br_f (by decide) (br_f (by decide) (br_t rfl (br_f hy ⟨hy, h⟩))))))))
theorem lx_r6 {x y : Int32} {post : Int32 → Prop} (h : post (lj_v 6 x y)) : wpX_resultOf post 6 x y :=
  br_f (by decide) (br_f (by decide) (br_f (by decide) (br_f (by decide) (br_f (by decide) (br_f (by decide) (br_f (by decide) (br_f (by decide) (br_t rfl (h)))))))))
theorem lx_r7 {x y : Int32} {post : Int32 → Prop} (h : post (lj_v 7 x y)) : wpX_resultOf post 7 x y :=
  br_f (by decide) (br_f (by decide) (br_f (by decide) (br_f (by decide) (br_f (by decide) (br_f (by decide) (br_f (by decide) (br_f (by decide) (br_f (by decide) (br_t rfl (h))))))))))
theorem lx_r8 {x y : Int32} {post : Int32 → Prop} (h : post (lj_v 8 x y)) : wpX_resultOf post 8 x y := by
  have h2 : post (if y ≤ x then 0 else 1) := h
  exact br_f (by decide) (br_f (by decide) (br_f (by decide) (br_f (by decide) (br_f (by decide) (br_f (by decide) (br_f (by decide) (br_f (by decide) (br_f (by decide) (br_f (by decide) (br_t rfl (br_c (fun c => by rw [if_pos c] at h2; exact h2) (fun c => by rw [if_neg c] at h2; exact h2))))))))))))
theorem ly_r1 {x y : Int32} {v : SY} {post : Int32 → Prop} (h : post (lj_v 1 x y)) : wpY_value post v 1 x y := by
  obtain ⟨L, z, kp, ps, dn, en, vi, o, a, b, kF, kV, rg⟩ := v
  exact br_t rfl h
theorem ly_r2 {x y : Int32} {v : SY} {post : Int32 → Prop} (h : post (lj_v 2 x y)) : wpY_value post v 2 x y := by
  obtain ⟨L, z, kp, ps, dn, en, vi, o, a, b, kF, kV, rg⟩ := v
  exact br_f (by decide) (br_t rfl ⟨by decide, h⟩)
theorem ly_r3 {x y : Int32} {v : SY} {post : Int32 → Prop} (h : post (lj_v 3 x y)) : wpY_value post v 3 x y := by
  obtain ⟨L, z, kp, ps, dn, en, vi, o, a, b, kF, kV, rg⟩ := v
  exact br_f (by decide) (br_f (by decide) (br_t rfl ⟨by decide, h⟩))
theorem ly_r4 {x y : Int32} {v : SY} {post : Int32 → Prop} (h : post (lj_v 4 x y)) : wpY_value post v 4 x y := by
  obtain ⟨L, z, kp, ps, dn, en, vi, o, a, b, kF, kV, rg⟩ := v
  exact br_f (by decide) (br_f (by decide) (br_f (by decide) (br_t rfl ⟨by decide, h⟩)))
theorem ly_r5 {x y : Int32} {v : SY} {post : Int32 → Prop} (hy : ¬ y = 0) (h : post (lj_v 5 x y)) : wpY_value post v 5 x y := by
  obtain ⟨L, z, kp, ps, dn, en, vi, o, a, b, kF, kV, rg⟩ := v
  exact br_f (by decide) (br_f (by decide) (br_f (by decide) (br_f (by decide) (br_t rfl (br_f hy ⟨hy, h⟩)))))
theorem ly_r6 {x y : Int32} {v : SY} {post : Int32 → Prop} (h : post (lj_v 6 x y)) : wpY_value post v 6 x y := by
  obtain ⟨L, z, kp, ps, dn, en, vi, o, a, b, kF, kV, rg⟩ := v
  exact br_f (by decide) (br_f (by decide) (br_f (by decide) (br_f (by decide) (br_f (by decide) (br_t rfl h)))))
theorem ly_r7 {x y : Int32} {v : SY} {post : Int32 → Prop} (h : post (lj_v 7 x y)) : wpY_value post v 7 x y := by
  obtain ⟨L, z, kp, ps, dn, en, vi, o, a, b, kF, kV, rg⟩ := v
  exact br_f (by decide) (br_f (by decide) (br_f (by decide) (br_f (by decide) (br_f (by decide) (br_f (by decide) (br_t rfl h))))))
theorem ly_r8 {x y : Int32} {v : SY} {post : Int32 → Prop} (h : post (lj_v 8 x y)) : wpY_value post v 8 x y := by
  obtain ⟨L, z, kp, ps, dn, en, vi, o, a, b, kF, kV, rg⟩ := v
  have h2 : post (if y ≤ x then 0 else 1) := h
  exact br_f (by decide) (br_f (by decide) (br_f (by decide) (br_f (by decide) (br_f (by decide) (br_f (by decide) (br_f (by decide) (br_c (fun c => by rw [if_pos c] at h2; exact h2) (fun c => by rw [if_neg c] at h2; exact h2))))))))
theorem lj_c0 {L z : Int32} {o a b : Nat → Int32} {p : Nat} {r : Nat → Int32} (hp : p < 12) (ha : a (nI p).toNatClampNeg &&& 3 = a (nI p).toNatClampNeg) (hA : vp_in (a (nI p).toNatClampNeg &&& 3) 4) (ho : o (nI p).toNatClampNeg = 0) : lj_C L z o a b p r (p + 1) (upd r (a (nI p).toNatClampNeg &&& 3).toNatClampNeg (b (nI p).toNatClampNeg)) := by
  refine ⟨?_, ?_, ?_, ?_⟩
  · exact fun kp eF eS eP eE eV kF kV post h => ⟨vp_in_nI hp (by decide), nm_r ho (br_f (by decide) (br_f (by decide) (br_f (by decide) h)))⟩
  · exact fun kp eF eS eP eE eV kF kV post h => ⟨vp_in_nI hp (by decide), nm_r ho ⟨vp_in_nI hp (by decide), nm_r ha.symm ⟨vp_in_nI hp (by decide), nm_e (br_t (by decide) (br_t rfl ⟨hA, br_f (by decide) (br_f (by decide) (br_t rfl ⟨hA, nm_e h⟩))⟩))⟩⟩⟩
  · exact fun kp eF eS eP eE eV kF kV post h => ⟨vp_in_nI hp (by decide), br_f (by rw [ho]; decide) (by rw [nI_1]; exact h)⟩
  · intro kp dn vi kF kV post h
    rw [ho]
    exact br_f (by decide) (br_f (by decide) (br_f (by decide) (br_f (by decide) (nm_r (nI_1 p) (br_f (by decide) (br_t rfl ⟨hA, nm_e h⟩))))))
theorem lj_c1 {L z : Int32} {o a b : Nat → Int32} {p : Nat} {r : Nat → Int32} (hp : p < 12) (ha : a (nI p).toNatClampNeg &&& 3 = a (nI p).toNatClampNeg) (hA : vp_in (a (nI p).toNatClampNeg &&& 3) 4) (hb : b (nI p).toNatClampNeg &&& 3 = b (nI p).toNatClampNeg) (hB : vp_in (b (nI p).toNatClampNeg &&& 3) 4) (ho : o (nI p).toNatClampNeg = 1) : lj_C L z o a b p r (p + 1) (upd r (a (nI p).toNatClampNeg &&& 3).toNatClampNeg (lj_v 1 (r (a (nI p).toNatClampNeg &&& 3).toNatClampNeg) (r (b (nI p).toNatClampNeg &&& 3).toNatClampNeg))) := by
  refine ⟨?_, ?_, ?_, ?_⟩
  · exact fun kp eF eS eP eE eV kF kV post h => ⟨vp_in_nI hp (by decide), nm_r ho (br_f (by decide) (br_f (by decide) (br_f (by decide) h)))⟩
  · exact fun kp eF eS eP eE eV kF kV post h => ⟨vp_in_nI hp (by decide), nm_r ho ⟨vp_in_nI hp (by decide), nm_r ha.symm ⟨vp_in_nI hp (by decide), nm_r hb.symm (br_f (by decide) (br_f (by decide) (br_f (by decide) ⟨hB, hA, lx_r1 ⟨hA, nm_e h⟩⟩)))⟩⟩⟩
  · exact fun kp eF eS eP eE eV kF kV post h => ⟨vp_in_nI hp (by decide), br_f (by rw [ho]; decide) (by rw [nI_1]; exact h)⟩
  · intro kp dn vi kF kV post h
    rw [ho]
    exact br_f (by decide) (br_f (by decide) (br_f (by decide) (br_f (by decide) (nm_r (nI_1 p) (br_f (by decide) (br_f (by decide) ⟨hA, hB, ly_r1 ⟨hA, nm_e h⟩⟩))))))
theorem lj_c2 {L z : Int32} {o a b : Nat → Int32} {p : Nat} {r : Nat → Int32} (hp : p < 12) (ha : a (nI p).toNatClampNeg &&& 3 = a (nI p).toNatClampNeg) (hA : vp_in (a (nI p).toNatClampNeg &&& 3) 4) (hb : b (nI p).toNatClampNeg &&& 3 = b (nI p).toNatClampNeg) (hB : vp_in (b (nI p).toNatClampNeg &&& 3) 4) (ho : o (nI p).toNatClampNeg = 2) : lj_C L z o a b p r (p + 1) (upd r (a (nI p).toNatClampNeg &&& 3).toNatClampNeg (lj_v 2 (r (a (nI p).toNatClampNeg &&& 3).toNatClampNeg) (r (b (nI p).toNatClampNeg &&& 3).toNatClampNeg))) := by
  refine ⟨?_, ?_, ?_, ?_⟩
  · exact fun kp eF eS eP eE eV kF kV post h => ⟨vp_in_nI hp (by decide), nm_r ho (br_f (by decide) (br_f (by decide) (br_f (by decide) h)))⟩
  · exact fun kp eF eS eP eE eV kF kV post h => ⟨vp_in_nI hp (by decide), nm_r ho ⟨vp_in_nI hp (by decide), nm_r ha.symm ⟨vp_in_nI hp (by decide), nm_r hb.symm (br_f (by decide) (br_f (by decide) (br_f (by decide) ⟨hB, hA, lx_r2 ⟨hA, nm_e h⟩⟩)))⟩⟩⟩
  · exact fun kp eF eS eP eE eV kF kV post h => ⟨vp_in_nI hp (by decide), br_f (by rw [ho]; decide) (by rw [nI_1]; exact h)⟩
  · intro kp dn vi kF kV post h
    rw [ho]
    exact br_f (by decide) (br_f (by decide) (br_f (by decide) (br_f (by decide) (nm_r (nI_1 p) (br_f (by decide) (br_f (by decide) ⟨hA, hB, ly_r2 ⟨hA, nm_e h⟩⟩))))))
theorem lj_c3 {L z : Int32} {o a b : Nat → Int32} {p : Nat} {r : Nat → Int32} (hp : p < 12) (ha : a (nI p).toNatClampNeg &&& 3 = a (nI p).toNatClampNeg) (hA : vp_in (a (nI p).toNatClampNeg &&& 3) 4) (hb : b (nI p).toNatClampNeg &&& 3 = b (nI p).toNatClampNeg) (hB : vp_in (b (nI p).toNatClampNeg &&& 3) 4) (ho : o (nI p).toNatClampNeg = 3) : lj_C L z o a b p r (p + 1) (upd r (a (nI p).toNatClampNeg &&& 3).toNatClampNeg (lj_v 3 (r (a (nI p).toNatClampNeg &&& 3).toNatClampNeg) (r (b (nI p).toNatClampNeg &&& 3).toNatClampNeg))) := by
  refine ⟨?_, ?_, ?_, ?_⟩
  · exact fun kp eF eS eP eE eV kF kV post h => ⟨vp_in_nI hp (by decide), nm_r ho (br_f (by decide) (br_f (by decide) (br_f (by decide) h)))⟩
  · exact fun kp eF eS eP eE eV kF kV post h => ⟨vp_in_nI hp (by decide), nm_r ho ⟨vp_in_nI hp (by decide), nm_r ha.symm ⟨vp_in_nI hp (by decide), nm_r hb.symm (br_f (by decide) (br_f (by decide) (br_f (by decide) ⟨hB, hA, lx_r3 ⟨hA, nm_e h⟩⟩)))⟩⟩⟩
  · exact fun kp eF eS eP eE eV kF kV post h => ⟨vp_in_nI hp (by decide), br_f (by rw [ho]; decide) (by rw [nI_1]; exact h)⟩
  · intro kp dn vi kF kV post h
    rw [ho]
    exact br_f (by decide) (br_f (by decide) (br_f (by decide) (br_f (by decide) (nm_r (nI_1 p) (br_f (by decide) (br_f (by decide) ⟨hA, hB, ly_r3 ⟨hA, nm_e h⟩⟩))))))
theorem lj_c4 {L z : Int32} {o a b : Nat → Int32} {p : Nat} {r : Nat → Int32} (hp : p < 12) (ha : a (nI p).toNatClampNeg &&& 3 = a (nI p).toNatClampNeg) (hA : vp_in (a (nI p).toNatClampNeg &&& 3) 4) (hb : b (nI p).toNatClampNeg &&& 3 = b (nI p).toNatClampNeg) (hB : vp_in (b (nI p).toNatClampNeg &&& 3) 4) (ho : o (nI p).toNatClampNeg = 4) : lj_C L z o a b p r (p + 1) (upd r (a (nI p).toNatClampNeg &&& 3).toNatClampNeg (lj_v 4 (r (a (nI p).toNatClampNeg &&& 3).toNatClampNeg) (r (b (nI p).toNatClampNeg &&& 3).toNatClampNeg))) := by
  refine ⟨?_, ?_, ?_, ?_⟩
  · exact fun kp eF eS eP eE eV kF kV post h => ⟨vp_in_nI hp (by decide), nm_r ho (br_f (by decide) (br_f (by decide) (br_f (by decide) h)))⟩
  · exact fun kp eF eS eP eE eV kF kV post h => ⟨vp_in_nI hp (by decide), nm_r ho ⟨vp_in_nI hp (by decide), nm_r ha.symm ⟨vp_in_nI hp (by decide), nm_r hb.symm (br_f (by decide) (br_f (by decide) (br_f (by decide) ⟨hB, hA, lx_r4 ⟨hA, nm_e h⟩⟩)))⟩⟩⟩
  · exact fun kp eF eS eP eE eV kF kV post h => ⟨vp_in_nI hp (by decide), br_f (by rw [ho]; decide) (by rw [nI_1]; exact h)⟩
  · intro kp dn vi kF kV post h
    rw [ho]
    exact br_f (by decide) (br_f (by decide) (br_f (by decide) (br_f (by decide) (nm_r (nI_1 p) (br_f (by decide) (br_f (by decide) ⟨hA, hB, ly_r4 ⟨hA, nm_e h⟩⟩))))))
theorem lj_c5 {L z : Int32} {o a b : Nat → Int32} {p : Nat} {r : Nat → Int32} (hp : p < 12) (ha : a (nI p).toNatClampNeg &&& 3 = a (nI p).toNatClampNeg) (hA : vp_in (a (nI p).toNatClampNeg &&& 3) 4) (hb : b (nI p).toNatClampNeg &&& 3 = b (nI p).toNatClampNeg) (hB : vp_in (b (nI p).toNatClampNeg &&& 3) 4) (ho : o (nI p).toNatClampNeg = 5) (hz : ¬ r (b (nI p).toNatClampNeg &&& 3).toNatClampNeg = 0) : lj_C L z o a b p r (p + 1) (upd r (a (nI p).toNatClampNeg &&& 3).toNatClampNeg (lj_v 5 (r (a (nI p).toNatClampNeg &&& 3).toNatClampNeg) (r (b (nI p).toNatClampNeg &&& 3).toNatClampNeg))) := by
  refine ⟨?_, ?_, ?_, ?_⟩
  · rw [hb] at hz hB
    exact fun kp eF eS eP eE eV kF kV post h => ⟨vp_in_nI hp (by decide), nm_r ho (br_t rfl ⟨vp_in_nI hp (by decide), hB, br_f hz h⟩)⟩
  · exact fun kp eF eS eP eE eV kF kV post h => ⟨vp_in_nI hp (by decide), nm_r ho ⟨vp_in_nI hp (by decide), nm_r ha.symm ⟨vp_in_nI hp (by decide), nm_r hb.symm (br_f (by decide) (br_f (by decide) (br_f (by decide) ⟨hB, hA, lx_r5 (hy := hz) ⟨hA, nm_e h⟩⟩)))⟩⟩⟩
  · exact fun kp eF eS eP eE eV kF kV post h => ⟨vp_in_nI hp (by decide), br_f (by rw [ho]; decide) (by rw [nI_1]; exact h)⟩
  · intro kp dn vi kF kV post h
    rw [ho]
    exact br_f (by decide) (br_f (by decide) (br_t rfl ⟨hB, br_f hz (br_f (by decide) (nm_r (nI_1 p) (br_f (by decide) (br_f (by decide) ⟨hA, hB, ly_r5 (hy := hz) ⟨hA, nm_e h⟩⟩))))⟩))
theorem lj_c6 {L z : Int32} {o a b : Nat → Int32} {p : Nat} {r : Nat → Int32} (hp : p < 12) (ha : a (nI p).toNatClampNeg &&& 3 = a (nI p).toNatClampNeg) (hA : vp_in (a (nI p).toNatClampNeg &&& 3) 4) (hb : b (nI p).toNatClampNeg &&& 3 = b (nI p).toNatClampNeg) (hB : vp_in (b (nI p).toNatClampNeg &&& 3) 4) (ho : o (nI p).toNatClampNeg = 6) : lj_C L z o a b p r (p + 1) (upd r (a (nI p).toNatClampNeg &&& 3).toNatClampNeg (lj_v 6 (r (a (nI p).toNatClampNeg &&& 3).toNatClampNeg) (r (b (nI p).toNatClampNeg &&& 3).toNatClampNeg))) := by
  refine ⟨?_, ?_, ?_, ?_⟩
  · exact fun kp eF eS eP eE eV kF kV post h => ⟨vp_in_nI hp (by decide), nm_r ho (br_f (by decide) (br_f (by decide) (br_f (by decide) h)))⟩
  · exact fun kp eF eS eP eE eV kF kV post h => ⟨vp_in_nI hp (by decide), nm_r ho ⟨vp_in_nI hp (by decide), nm_r ha.symm ⟨vp_in_nI hp (by decide), nm_r hb.symm (br_f (by decide) (br_f (by decide) (br_f (by decide) ⟨hB, hA, lx_r6 ⟨hA, nm_e h⟩⟩)))⟩⟩⟩
  · exact fun kp eF eS eP eE eV kF kV post h => ⟨vp_in_nI hp (by decide), br_f (by rw [ho]; decide) (by rw [nI_1]; exact h)⟩
  · intro kp dn vi kF kV post h
    rw [ho]
    exact br_f (by decide) (br_f (by decide) (br_f (by decide) (br_f (by decide) (nm_r (nI_1 p) (br_f (by decide) (br_f (by decide) ⟨hA, hB, ly_r6 ⟨hA, nm_e h⟩⟩))))))
theorem lj_c7 {L z : Int32} {o a b : Nat → Int32} {p : Nat} {r : Nat → Int32} (hp : p < 12) (ha : a (nI p).toNatClampNeg &&& 3 = a (nI p).toNatClampNeg) (hA : vp_in (a (nI p).toNatClampNeg &&& 3) 4) (hb : b (nI p).toNatClampNeg &&& 3 = b (nI p).toNatClampNeg) (hB : vp_in (b (nI p).toNatClampNeg &&& 3) 4) (ho : o (nI p).toNatClampNeg = 7) : lj_C L z o a b p r (p + 1) (upd r (a (nI p).toNatClampNeg &&& 3).toNatClampNeg (lj_v 7 (r (a (nI p).toNatClampNeg &&& 3).toNatClampNeg) (r (b (nI p).toNatClampNeg &&& 3).toNatClampNeg))) := by
  refine ⟨?_, ?_, ?_, ?_⟩
  · exact fun kp eF eS eP eE eV kF kV post h => ⟨vp_in_nI hp (by decide), nm_r ho (br_f (by decide) (br_f (by decide) (br_f (by decide) h)))⟩
  · exact fun kp eF eS eP eE eV kF kV post h => ⟨vp_in_nI hp (by decide), nm_r ho ⟨vp_in_nI hp (by decide), nm_r ha.symm ⟨vp_in_nI hp (by decide), nm_r hb.symm (br_f (by decide) (br_f (by decide) (br_f (by decide) ⟨hB, hA, lx_r7 ⟨hA, nm_e h⟩⟩)))⟩⟩⟩
  · exact fun kp eF eS eP eE eV kF kV post h => ⟨vp_in_nI hp (by decide), br_f (by rw [ho]; decide) (by rw [nI_1]; exact h)⟩
  · intro kp dn vi kF kV post h
    rw [ho]
    exact br_f (by decide) (br_f (by decide) (br_f (by decide) (br_f (by decide) (nm_r (nI_1 p) (br_f (by decide) (br_f (by decide) ⟨hA, hB, ly_r7 ⟨hA, nm_e h⟩⟩))))))
theorem lj_c8 {L z : Int32} {o a b : Nat → Int32} {p : Nat} {r : Nat → Int32} (hp : p < 12) (ha : a (nI p).toNatClampNeg &&& 3 = a (nI p).toNatClampNeg) (hA : vp_in (a (nI p).toNatClampNeg &&& 3) 4) (hb : b (nI p).toNatClampNeg &&& 3 = b (nI p).toNatClampNeg) (hB : vp_in (b (nI p).toNatClampNeg &&& 3) 4) (ho : o (nI p).toNatClampNeg = 8) : lj_C L z o a b p r (p + 1) (upd r (a (nI p).toNatClampNeg &&& 3).toNatClampNeg (lj_v 8 (r (a (nI p).toNatClampNeg &&& 3).toNatClampNeg) (r (b (nI p).toNatClampNeg &&& 3).toNatClampNeg))) := by
  refine ⟨?_, ?_, ?_, ?_⟩
  · exact fun kp eF eS eP eE eV kF kV post h => ⟨vp_in_nI hp (by decide), nm_r ho (br_f (by decide) (br_f (by decide) (br_f (by decide) h)))⟩
  · exact fun kp eF eS eP eE eV kF kV post h => ⟨vp_in_nI hp (by decide), nm_r ho ⟨vp_in_nI hp (by decide), nm_r ha.symm ⟨vp_in_nI hp (by decide), nm_r hb.symm (br_f (by decide) (br_f (by decide) (br_f (by decide) ⟨hB, hA, lx_r8 ⟨hA, nm_e h⟩⟩)))⟩⟩⟩
  · exact fun kp eF eS eP eE eV kF kV post h => ⟨vp_in_nI hp (by decide), br_f (by rw [ho]; decide) (by rw [nI_1]; exact h)⟩
  · intro kp dn vi kF kV post h
    rw [ho]
    exact br_f (by decide) (br_f (by decide) (br_f (by decide) (br_f (by decide) (nm_r (nI_1 p) (br_f (by decide) (br_f (by decide) ⟨hA, hB, ly_r8 ⟨hA, nm_e h⟩⟩))))))
theorem lj_e5 {L z : Int32} {o a b : Nat → Int32} {p : Nat} {r : Nat → Int32} (hp : p < 12) (hb : b (nI p).toNatClampNeg &&& 3 = b (nI p).toNatClampNeg) (hB : vp_in (b (nI p).toNatClampNeg &&& 3) 4) (ho : o (nI p).toNatClampNeg = 5) (hz : r (b (nI p).toNatClampNeg &&& 3).toNatClampNeg = 0) : lj_E L z o a b p r 2 := by
  refine ⟨?_, ?_⟩
  · rw [hb] at hz hB
    exact fun kp eF eS eP eE eV kF kV post h => ⟨vp_in_nI hp (by decide), nm_r ho (br_t rfl ⟨vp_in_nI hp (by decide), hB, br_t hz h⟩)⟩
  · intro kp dn vi kF kV post h
    rw [ho]
    exact br_f (by decide) (br_f (by decide) (br_t rfl ⟨hB, br_t hz h⟩))
theorem lj_e10 {L z : Int32} {o a b : Nat → Int32} {p : Nat} {r : Nat → Int32} (hp : p < 12) (ha : a (nI p).toNatClampNeg &&& 3 = a (nI p).toNatClampNeg) (hA : vp_in (a (nI p).toNatClampNeg &&& 3) 4) (ho : o (nI p).toNatClampNeg = 10) (hz : r (a (nI p).toNatClampNeg &&& 3).toNatClampNeg = 0) : lj_E L z o a b p r 3 := by
  refine ⟨?_, ?_⟩
  · rw [ha] at hz hA
    exact fun kp eF eS eP eE eV kF kV post h => ⟨vp_in_nI hp (by decide), nm_r ho (br_f (by decide) (br_t rfl ⟨vp_in_nI hp (by decide), hA, br_t hz h⟩))⟩
  · intro kp dn vi kF kV post h
    rw [ho]
    exact br_f (by decide) (br_t rfl ⟨hA, br_t hz h⟩)
theorem lj_e11 {L z : Int32} {o a b : Nat → Int32} {p : Nat} {r : Nat → Int32} (hp : p < 12) (ho : o (nI p).toNatClampNeg = 11) : lj_E L z o a b p r 0 := by
  refine ⟨?_, ?_⟩
  · exact fun kp eF eS eP eE eV kF kV post h => ⟨vp_in_nI hp (by decide), nm_r ho (br_f (by decide) (br_f (by decide) (br_t rfl h)))⟩
  · intro kp dn vi kF kV post h
    rw [ho]
    exact br_t rfl h
theorem lj_c10 {L z : Int32} {o a b : Nat → Int32} {p : Nat} {r : Nat → Int32} (hp : p < 12) (ha : a (nI p).toNatClampNeg &&& 3 = a (nI p).toNatClampNeg) (hA : vp_in (a (nI p).toNatClampNeg &&& 3) 4) (ho : o (nI p).toNatClampNeg = 10) (hz : ¬ r (a (nI p).toNatClampNeg &&& 3).toNatClampNeg = 0) : lj_C L z o a b p r (p + 1) r := by
  refine ⟨?_, ?_, ?_, ?_⟩
  · rw [ha] at hz hA
    exact fun kp eF eS eP eE eV kF kV post h => ⟨vp_in_nI hp (by decide), nm_r ho (br_f (by decide) (br_t rfl ⟨vp_in_nI hp (by decide), hA, br_f hz h⟩))⟩
  · exact fun kp eF eS eP eE eV kF kV post h => ⟨vp_in_nI hp (by decide), nm_r ho ⟨vp_in_nI hp (by decide), nm_r ha.symm ⟨vp_in_nI hp (by decide), nm_e (br_f (by decide) (br_t (by decide) (br_t rfl ⟨hA, br_f (by decide) (br_t (by decide) ⟨hA, nm_r (lj_self r _) h⟩)⟩)))⟩⟩⟩
  · exact fun kp eF eS eP eE eV kF kV post h => ⟨vp_in_nI hp (by decide), br_f (by rw [ho]; decide) (by rw [nI_1]; exact h)⟩
  · intro kp dn vi kF kV post h
    rw [ho]
    exact br_f (by decide) (br_t rfl ⟨hA, br_f hz (br_f (by decide) (br_f (by decide) (nm_r (nI_1 p) (br_t (by decide) h))))⟩)
theorem lj_c9f {L z : Int32} {o a b : Nat → Int32} {p : Nat} {r : Nat → Int32} (hp : p < 12) (ha : a (nI p).toNatClampNeg &&& 3 = a (nI p).toNatClampNeg) (hA : vp_in (a (nI p).toNatClampNeg &&& 3) 4) (ho : o (nI p).toNatClampNeg = 9) (hz : r (a (nI p).toNatClampNeg &&& 3).toNatClampNeg = 0) : lj_C L z o a b p r (p + 1) r := by
  refine ⟨?_, ?_, ?_, ?_⟩
  · exact fun kp eF eS eP eE eV kF kV post h => ⟨vp_in_nI hp (by decide), nm_r ho (br_f (by decide) (br_f (by decide) (br_f (by decide) h)))⟩
  · exact fun kp eF eS eP eE eV kF kV post h => ⟨vp_in_nI hp (by decide), nm_r ho ⟨vp_in_nI hp (by decide), nm_r ha.symm ⟨vp_in_nI hp (by decide), nm_e (br_f (by decide) (br_t (by decide) (br_t rfl ⟨hA, br_f (by decide) (br_t (by decide) ⟨hA, nm_r (lj_self r _) h⟩)⟩)))⟩⟩⟩
  · rw [ha] at hz hA
    exact fun kp eF eS eP eE eV kF kV post h => ⟨vp_in_nI hp (by decide), br_t ho ⟨vp_in_nI hp (by decide), hA, br_t hz (by rw [nI_1]; exact h)⟩⟩
  · intro kp dn vi kF kV post h
    rw [ho]
    exact br_f (by decide) (br_f (by decide) (br_f (by decide) (br_t rfl ⟨hA, br_t hz (nm_r (nI_1 p) (br_t (by decide) h))⟩)))
theorem lj_c9t {L z : Int32} {o a b : Nat → Int32} {p : Nat} {r : Nat → Int32} (hp : p < 12) (ha : a (nI p).toNatClampNeg &&& 3 = a (nI p).toNatClampNeg) (hA : vp_in (a (nI p).toNatClampNeg &&& 3) 4) {q : Nat} (hq : b (nI p).toNatClampNeg = nI q) (ho : o (nI p).toNatClampNeg = 9) (hz : ¬ r (a (nI p).toNatClampNeg &&& 3).toNatClampNeg = 0) : lj_C L z o a b p r q r := by
  refine ⟨?_, ?_, ?_, ?_⟩
  · exact fun kp eF eS eP eE eV kF kV post h => ⟨vp_in_nI hp (by decide), nm_r ho (br_f (by decide) (br_f (by decide) (br_f (by decide) h)))⟩
  · exact fun kp eF eS eP eE eV kF kV post h => ⟨vp_in_nI hp (by decide), nm_r ho ⟨vp_in_nI hp (by decide), nm_r ha.symm ⟨vp_in_nI hp (by decide), nm_e (br_f (by decide) (br_t (by decide) (br_t rfl ⟨hA, br_f (by decide) (br_t (by decide) ⟨hA, nm_r (lj_self r _) h⟩)⟩)))⟩⟩⟩
  · rw [ha] at hz hA
    exact fun kp eF eS eP eE eV kF kV post h => ⟨vp_in_nI hp (by decide), br_t ho ⟨vp_in_nI hp (by decide), hA, br_f hz ⟨vp_in_nI hp (by decide), by rw [hq]; exact h⟩⟩⟩
  · intro kp dn vi kF kV post h
    rw [ho, hq]
    exact br_f (by decide) (br_f (by decide) (br_f (by decide) (br_t rfl ⟨hA, br_f hz h⟩)))
theorem lj_step (L z : Int32) {o a b : Nat → Int32} {p : Nat} {r : Nat → Int32} (hp : p < 12) (hr : lj_z r) (hI : lj_I (o (nI p).toNatClampNeg) (a (nI p).toNatClampNeg) (b (nI p).toNatClampNeg)) :
    (∃ F : Int32, (F = 0 ∨ F = 2 ∨ F = 3) ∧ lj_E L z o a b p r F) ∨ (∃ (p2 : Nat) (r2 : Nat → Int32), p2 ≤ 12 ∧ lj_z r2 ∧ lj_C L z o a b p r p2 r2) := by
  obtain ⟨i, q, hi, ho, hq, ea, hB, hT⟩ := hI
  have ha : a (nI p).toNatClampNeg &&& 3 = a (nI p).toNatClampNeg := by rw [ea]; exact lj_a3 hq
  have hA : vp_in (a (nI p).toNatClampNeg &&& 3) 4 := by rw [ha, ea]; exact vp_in_nI hq (by decide)
  have hc : (a (nI p).toNatClampNeg &&& 3).toNatClampNeg < 4 := by rw [ha, ea, nI_clamp (by omega)]; exact hq
  have hbb : 1 ≤ i → i ≤ 8 → b (nI p).toNatClampNeg &&& 3 = b (nI p).toNatClampNeg ∧ vp_in (b (nI p).toNatClampNeg &&& 3) 4 := by
    intro h1 h8
    obtain ⟨w, hw, e⟩ := hB h1 h8
    have e3 : b (nI p).toNatClampNeg &&& 3 = b (nI p).toNatClampNeg := by rw [e]; exact lj_a3 hw
    exact ⟨e3, by rw [e3, e]; exact vp_in_nI hw (by decide)⟩
  have hcs : i = 0 ∨ i = 1 ∨ i = 2 ∨ i = 3 ∨ i = 4 ∨ i = 5 ∨ i = 6 ∨ i = 7 ∨ i = 8 ∨ i = 9 ∨ i = 10 ∨ i = 11 := by omega
  rcases hcs with rfl | rfl | rfl | rfl | rfl | rfl | rfl | rfl | rfl | rfl | rfl | rfl
  · exact Or.inr ⟨_, _, by omega, lj_zu hr hc _, lj_c0 hp ha hA ho⟩
  · obtain ⟨hb, hBB⟩ := hbb (by decide) (by decide)
    exact Or.inr ⟨_, _, by omega, lj_zu hr hc _, lj_c1 hp ha hA hb hBB ho⟩
  · obtain ⟨hb, hBB⟩ := hbb (by decide) (by decide)
    exact Or.inr ⟨_, _, by omega, lj_zu hr hc _, lj_c2 hp ha hA hb hBB ho⟩
  · obtain ⟨hb, hBB⟩ := hbb (by decide) (by decide)
    exact Or.inr ⟨_, _, by omega, lj_zu hr hc _, lj_c3 hp ha hA hb hBB ho⟩
  · obtain ⟨hb, hBB⟩ := hbb (by decide) (by decide)
    exact Or.inr ⟨_, _, by omega, lj_zu hr hc _, lj_c4 hp ha hA hb hBB ho⟩
  · obtain ⟨hb, hBB⟩ := hbb (by decide) (by decide)
    by_cases hz : r (b (nI p).toNatClampNeg &&& 3).toNatClampNeg = 0
    · exact Or.inl ⟨2, Or.inr (Or.inl rfl), lj_e5 hp hb hBB ho hz⟩
    · exact Or.inr ⟨_, _, by omega, lj_zu hr hc _, lj_c5 hp ha hA hb hBB ho hz⟩
  · obtain ⟨hb, hBB⟩ := hbb (by decide) (by decide)
    exact Or.inr ⟨_, _, by omega, lj_zu hr hc _, lj_c6 hp ha hA hb hBB ho⟩
  · obtain ⟨hb, hBB⟩ := hbb (by decide) (by decide)
    exact Or.inr ⟨_, _, by omega, lj_zu hr hc _, lj_c7 hp ha hA hb hBB ho⟩
  · obtain ⟨hb, hBB⟩ := hbb (by decide) (by decide)
    exact Or.inr ⟨_, _, by omega, lj_zu hr hc _, lj_c8 hp ha hA hb hBB ho⟩
  · obtain ⟨w, hw, e⟩ := hT rfl
    by_cases hz : r (a (nI p).toNatClampNeg &&& 3).toNatClampNeg = 0
    · exact Or.inr ⟨_, _, by omega, hr, lj_c9f hp ha hA ho hz⟩
    · exact Or.inr ⟨_, _, hw, hr, lj_c9t hp ha hA e ho hz⟩
  · by_cases hz : r (a (nI p).toNatClampNeg &&& 3).toNatClampNeg = 0
    · exact Or.inl ⟨3, Or.inr (Or.inr rfl), lj_e10 hp ha hA ho hz⟩
    · exact Or.inr ⟨_, _, by omega, hr, lj_c10 hp ha hA ho hz⟩
  · exact Or.inl ⟨0, Or.inl rfl, lj_e11 hp ho⟩
