section
theorem pk_us {f : Nat → Int32} {k : Nat} {x : Int32} : upd f k x k = x := if_pos rfl
theorem pk_un {f : Nat → Int32} {k j : Nat} {x : Int32} (h : j ≠ k) : upd f k x j = f j := if_neg h
theorem pk_sub {a b : Nat} (h : b ≤ a) : nI a - nI b = nI (a - b) := by
  obtain ⟨c, rfl⟩ : ∃ c, a = c + b := ⟨a - b, by omega⟩
  rw [← nI_add, Int32.add_sub_cancel, Nat.add_sub_cancel]
theorem pk_mul (a b : Nat) : nI a * nI b = nI (a * b) := (Int32.ofNat_mul a b).symm
theorem pk_ix (x : Int32) {n : Nat} (hn : n < 2 ^ 31) : x < 0 ∨ nI n ≤ x ∨ ∃ j : Nat, j < n ∧ x = nI j := by
  by_cases h : x < 0
  · exact Or.inl h
  · obtain ⟨j, hj, rfl⟩ := nI_of h
    by_cases h2 : j < n
    · exact Or.inr (Or.inr ⟨j, h2, rfl⟩)
    · exact Or.inr (Or.inl (nI_le (by omega) hj))
theorem pk_le {x y : Int32} {A B : Prop} (a b : Nat) (f : a ≤ b → A) (g : b < a → B) (hx : x = nI a := by rfl) (hy : y = nI b := by rfl) (ha : a < 2 ^ 31 := by omega) (hb : b < 2 ^ 31 := by omega) : (x ≤ y → A) ∧ (¬ x ≤ y → B) := by
  subst hx hy
  rw [nI_leI ha hb]
  exact ⟨f, fun z => g (by omega)⟩
theorem pk_lt {x y : Int32} {A B : Prop} (a b : Nat) (f : a < b → A) (g : b ≤ a → B) (hx : x = nI a := by rfl) (hy : y = nI b := by rfl) (ha : a < 2 ^ 31 := by omega) (hb : b < 2 ^ 31 := by omega) : (x < y → A) ∧ (¬ x < y → B) := by
  subst hx hy
  rw [nI_ltI ha hb]
  exact ⟨f, fun z => g (by omega)⟩
theorem pk_in {x : Int32} (n N : Nat) (h : n < N) (hx : x = nI n := by rfl) (hN : N < 2 ^ 31 := by omega) : vp_in x N := by
  subst hx
  exact vp_in_nI h hN
theorem pk_cl {x : Int32} (n : Nat) (hx : x = nI n := by rfl) (h : n < 2 ^ 31 := by omega) : x.toNatClampNeg = n := by
  subst hx
  exact nI_clamp h
theorem pk_tn {n : Nat} (h : n < 2 ^ 32) : (nI n).toBitVec.toNat = n := Nat.mod_eq_of_lt h
theorem pk_and (x : Int32) {m : Int32} (k : Nat) (hm : m.toBitVec.toNat = 2 ^ k - 1) : x &&& m = nI (x.toBitVec.toNat % 2 ^ k) := by
  apply Int32.toBitVec_inj.mp
  apply BitVec.eq_of_toNat_eq
  rw [Int32.toBitVec_and, BitVec.toNat_and, hm, Nat.and_two_pow_sub_one_eq_mod]
  show _ = (BitVec.ofNat 32 _).toNat
  rw [BitVec.toNat_ofNat]
  exact (Nat.mod_eq_of_lt (Nat.lt_of_le_of_lt (Nat.mod_le _ _) x.toBitVec.isLt)).symm
theorem pk_andN {n : Nat} (h : n < 2 ^ 32) {m : Int32} (k : Nat) (hm : m.toBitVec.toNat = 2 ^ k - 1) : nI n &&& m = nI (n % 2 ^ k) := by
  rw [pk_and _ k hm, pk_tn h]
/-- a register file: nothing beyond its four cells -/
def lj_z (r : Nat → Int32) : Prop := ∀ j, 4 ≤ j → r j = 0
theorem lj_z0 : lj_z (fun _ => 0) := fun _ _ => rfl
theorem lj_zu {r : Nat → Int32} (h : lj_z r) {i : Nat} (hi : i < 4) (x : Int32) : lj_z (upd r i x) := fun j hj => by
  rw [pk_un (by omega)]; exact h j hj
/-- the registers at the beginning of a run -/
def lj_r0 (x y : Int32) : Nat → Int32 := upd (upd (upd (upd (fun _ => 0) 0 x) 1 y) 2 0) 3 0
theorem lj_r0z (x y : Int32) : lj_z (lj_r0 x y) := lj_zu (lj_zu (lj_zu (lj_zu lj_z0 (by decide) _) (by decide) _) (by decide) _) (by decide) _
theorem lj_st {w : Nat → Int32} (h : lj_z w) (x y : Int32) : upd (upd (upd (upd w 0 x) 1 y) 2 0) 3 0 = lj_r0 x y := by
  funext j
  simp only [lj_r0, upd]
  by_cases h3 : j = 3
  · simp [h3]
  · by_cases h2 : j = 2
    · simp [h2]
    · by_cases h1 : j = 1
      · simp [h1]
      · by_cases h0 : j = 0
        · simp [h0]
        · simp [h0, h1, h2, h3, h j (by omega)]
theorem lj_self (r : Nat → Int32) (i : Nat) : upd r i (r i) = r := by
  funext j
  by_cases h : j = i
  · rw [h, pk_us]
  · rw [pk_un h]
/-- an instruction as the class takes it in -/
def lj_I (o a b : Int32) : Prop := ∃ i q : Nat, i ≤ 11 ∧ o = nI i ∧ q < 4 ∧ a = nI q ∧ (1 ≤ i → i ≤ 8 → ∃ w : Nat, w < 4 ∧ b = nI w) ∧ (i = 9 → ∃ w : Nat, w ≤ 12 ∧ b = nI w)
theorem lj_a3 {q : Nat} (h : q < 4) : nI q &&& 3 = nI q := by
  rw [pk_andN (by omega) 2 (by decide), Nat.mod_eq_of_lt (by omega)]
theorem lj_ix {k i : Nat} : nI k * 4 + nI i = nI (k * 4 + i) := by
  rw [show (4 : Int32) = nI 4 from by decide, pk_mul, nI_add]
theorem lj_m1 : ¬ (0 : Int32) ≤ -1 := by decide
end
section
/-- both sides end the run with F at position p -/
def lj_E (L z : Int32) (o a b : Nat → Int32) (p : Nat) (r : Nat → Int32) (F : Int32) : Prop :=
  (∀ (kp : Int32) (eF eS eP eE eV kF kV : Nat → Int32) (post : Int32 → Prop), post F → wpX_endingAt post (L, z, kp, o, a, b, r, eF, eS, eP, eE, eV, kF, kV) (nI p)) ∧
  (∀ (kp dn vi : Int32) (kF kV : Nat → Int32) (post : SY → Prop), post (L, z, kp, nI p, dn, F, vi, o, a, b, kF, kV, r) → wpY_carryOut post (L, z, kp, nI p, dn, -1, vi, o, a, b, kF, kV, r) (o (nI p).toNatClampNeg) (a (nI p).toNatClampNeg &&& 3) (b (nI p).toNatClampNeg))
/-- both sides go on from position p to position p2 with the registers r2 -/
def lj_C (L z : Int32) (o a b : Nat → Int32) (p : Nat) (r : Nat → Int32) (p2 : Nat) (r2 : Nat → Int32) : Prop :=
  (∀ (kp : Int32) (eF eS eP eE eV kF kV : Nat → Int32) (post : Int32 → Prop), post (-1) → wpX_endingAt post (L, z, kp, o, a, b, r, eF, eS, eP, eE, eV, kF, kV) (nI p)) ∧
  (∀ (kp : Int32) (eF eS eP eE eV kF kV : Nat → Int32) (post : SX → Prop), post (L, z, kp, o, a, b, r2, eF, eS, eP, eE, eV, kF, kV) → wpX_changeRegister post (L, z, kp, o, a, b, r, eF, eS, eP, eE, eV, kF, kV) (nI p)) ∧
  (∀ (kp : Int32) (eF eS eP eE eV kF kV : Nat → Int32) (post : Int32 → Prop), post (nI p2) → wpX_nextAfter post (L, z, kp, o, a, b, r2, eF, eS, eP, eE, eV, kF, kV) (nI p)) ∧
  (∀ (kp dn vi : Int32) (kF kV : Nat → Int32) (post : SY → Prop), post (L, z, kp, nI p2, dn, -1, vi, o, a, b, kF, kV, r2) → wpY_carryOut post (L, z, kp, nI p, dn, -1, vi, o, a, b, kF, kV, r) (o (nI p).toNatClampNeg) (a (nI p).toNatClampNeg &&& 3) (b (nI p).toNatClampNeg))
def lj_v : Nat → Int32 → Int32 → Int32
  | 1 => fun _ y => y
  | 2 => fun x y => (x + y) - (x + y) / 16 * 16
  | 3 => fun x y => ((x - y) + 16) - ((x - y) + 16) / 16 * 16
  | 4 => fun x y => (x * y) - (x * y) / 16 * 16
  | 5 => fun x y => x / y
  | 6 => fun x y => x &&& y
  | 7 => fun x y => x ^^^ y
  | _ => fun x y => if y ≤ x then 0 else 1
theorem lx_r1 {x y : Int32} {post : Int32 → Prop} (h : post (lj_v 1 x y)) : wpX_resultOf post 1 x y :=
  br_f (by decide) (br_f (by decide) (br_f (by decide) (br_t rfl (h))))
theorem lx_r2 {x y : Int32} {post : Int32 → Prop} (h : post (lj_v 2 x y)) : wpX_resultOf post 2 x y :=
  br_f (by decide) (br_f (by decide) (br_f (by decide) (br_f (by decide) (br_t rfl (⟨by decide, h⟩)))))
theorem lx_r3 {x y : Int32} {post : Int32 → Prop} (h : post (lj_v 3 x y)) : wpX_resultOf post 3 x y :=
  br_f (by decide) (br_f (by decide) (br_f (by decide) (br_f (by decide) (br_f (by decide) (br_t rfl (⟨by decide, h⟩))))))
theorem lx_r4 {x y : Int32} {post : Int32 → Prop} (h : post (lj_v 4 x y)) : wpX_resultOf post 4 x y :=
  br_f (by decide) (br_f (by decide) (br_f (by decide) (br_f (by decide) (br_f (by decide) (br_f (by decide) (br_t rfl (⟨by decide, h⟩)))))))
theorem lx_r5 {x y : Int32} {post : Int32 → Prop} (hy : ¬ y = 0) (h : post (lj_v 5 x y)) : wpX_resultOf post 5 x y :=
  br_f (by decide) (br_f (by decide) (br_f (by decide) (br_f (by decide) (br_f (by decide) (br_f (by decide) (br_f (by decide) (br_t rfl (br_f hy ⟨hy, h⟩))))))))
theorem lx_r6 {x y : Int32} {post : Int32 → Prop} (h : post (lj_v 6 x y)) : wpX_resultOf post 6 x y :=
  br_f (by decide) (br_f (by decide) (br_f (by decide) (br_f (by decide) (br_f (by decide) (br_f (by decide) (br_f (by decide) (br_f (by decide) (br_t rfl (h)))))))))
theorem lx_r7 {x y : Int32} {post : Int32 → Prop} (h : post (lj_v 7 x y)) : wpX_resultOf post 7 x y :=
  br_f (by decide) (br_f (by decide) (br_f (by decide) (br_f (by decide) (br_f (by decide) (br_f (by decide) (br_f (by decide) (br_f (by decide) (br_f (by decide) (br_t rfl (h))))))))))
theorem lx_r8 {x y : Int32} {post : Int32 → Prop} (h : post (lj_v 8 x y)) : wpX_resultOf post 8 x y := by
  have h2 : post (if y ≤ x then 0 else 1) := h
  exact br_f (by decide) (br_f (by decide) (br_f (by decide) (br_f (by decide) (br_f (by decide) (br_f (by decide) (br_f (by decide) (br_f (by decide) (br_f (by decide) (br_f (by decide) (br_t rfl (br_c (fun c => by rw [if_pos c] at h2; exact h2) (fun c => by rw [if_neg c] at h2; exact h2))))))))))))
theorem ly_r1 {x y : Int32} {v : SY} {post : Int32 → Prop} (h : post (lj_v 1 x y)) : wpY_value post v 1 x y := by
  obtain ⟨L, z, kp, ps, dn, en, vi, o, a, b, kF, kV, rg⟩ := v
  exact br_t rfl h
theorem ly_r2 {x y : Int32} {v : SY} {post : Int32 → Prop} (h : post (lj_v 2 x y)) : wpY_value post v 2 x y := by
  obtain ⟨L, z, kp, ps, dn, en, vi, o, a, b, kF, kV, rg⟩ := v
  exact br_f (by decide) (br_t rfl ⟨by decide, h⟩)
theorem ly_r3 {x y : Int32} {v : SY} {post : Int32 → Prop} (h : post (lj_v 3 x y)) : wpY_value post v 3 x y := by
  obtain ⟨L, z, kp, ps, dn, en, vi, o, a, b, kF, kV, rg⟩ := v
  exact br_f (by decide) (br_f (by decide) (br_t rfl ⟨by decide, h⟩))
theorem ly_r4 {x y : Int32} {v : SY} {post : Int32 → Prop} (h : post (lj_v 4 x y)) : wpY_value post v 4 x y := by
  obtain ⟨L, z, kp, ps, dn, en, vi, o, a, b, kF, kV, rg⟩ := v
  exact br_f (by decide) (br_f (by decide) (br_f (by decide) (br_t rfl ⟨by decide, h⟩)))
theorem ly_r5 {x y : Int32} {v : SY} {post : Int32 → Prop} (hy : ¬ y = 0) (h : post (lj_v 5 x y)) : wpY_value post v 5 x y := by
  obtain ⟨L, z, kp, ps, dn, en, vi, o, a, b, kF, kV, rg⟩ := v
  exact br_f (by decide) (br_f (by decide) (br_f (by decide) (br_f (by decide) (br_t rfl (br_f hy ⟨hy, h⟩)))))
theorem ly_r6 {x y : Int32} {v : SY} {post : Int32 → Prop} (h : post (lj_v 6 x y)) : wpY_value post v 6 x y := by
  obtain ⟨L, z, kp, ps, dn, en, vi, o, a, b, kF, kV, rg⟩ := v
  exact br_f (by decide) (br_f (by decide) (br_f (by decide) (br_f (by decide) (br_f (by decide) (br_t rfl h)))))
theorem ly_r7 {x y : Int32} {v : SY} {post : Int32 → Prop} (h : post (lj_v 7 x y)) : wpY_value post v 7 x y := by
  obtain ⟨L, z, kp, ps, dn, en, vi, o, a, b, kF, kV, rg⟩ := v
  exact br_f (by decide) (br_f (by decide) (br_f (by decide) (br_f (by decide) (br_f (by decide) (br_f (by decide) (br_t rfl h))))))
theorem ly_r8 {x y : Int32} {v : SY} {post : Int32 → Prop} (h : post (lj_v 8 x y)) : wpY_value post v 8 x y := by
  obtain ⟨L, z, kp, ps, dn, en, vi, o, a, b, kF, kV, rg⟩ := v
  have h2 : post (if y ≤ x then 0 else 1) := h
  exact br_f (by decide) (br_f (by decide) (br_f (by decide) (br_f (by decide) (br_f (by decide) (br_f (by decide) (br_f (by decide) (br_c (fun c => by rw [if_pos c] at h2; exact h2) (fun c => by rw [if_neg c] at h2; exact h2))))))))
theorem lj_c0 {L z : Int32} {o a b : Nat → Int32} {p : Nat} {r : Nat → Int32} (hp : p < 12) (ha : a (nI p).toNatClampNeg &&& 3 = a (nI p).toNatClampNeg) (hA : vp_in (a (nI p).toNatClampNeg &&& 3) 4) (ho : o (nI p).toNatClampNeg = 0) : lj_C L z o a b p r (p + 1) (upd r (a (nI p).toNatClampNeg &&& 3).toNatClampNeg (b (nI p).toNatClampNeg)) := by
  refine ⟨?_, ?_, ?_, ?_⟩
  · exact fun kp eF eS eP eE eV kF kV post h => ⟨vp_in_nI hp (by decide), nm_r ho (br_f (by decide) (br_f (by decide) (br_f (by decide) h)))⟩
  · exact fun kp eF eS eP eE eV kF kV post h => ⟨vp_in_nI hp (by decide), nm_r ho ⟨vp_in_nI hp (by decide), nm_r ha.symm ⟨vp_in_nI hp (by decide), nm_e (br_t (by decide) (br_t rfl ⟨hA, br_f (by decide) (br_f (by decide) (br_t rfl ⟨hA, nm_e h⟩))⟩))⟩⟩⟩
  · exact fun kp eF eS eP eE eV kF kV post h => ⟨vp_in_nI hp (by decide), br_f (by rw [ho]; decide) (by rw [nI_1]; exact h)⟩
  · intro kp dn vi kF kV post h
    rw [ho]
    exact br_f (by decide) (br_f (by decide) (br_f (by decide) (br_f (by decide) (nm_r (nI_1 p) (br_f (by decide) (br_t rfl ⟨hA, nm_e h⟩))))))
theorem lj_c1 {L z : Int32} {o a b : Nat → Int32} {p : Nat} {r : Nat → Int32} (hp : p < 12) (ha : a (nI p).toNatClampNeg &&& 3 = a (nI p).toNatClampNeg) (hA : vp_in (a (nI p).toNatClampNeg &&& 3) 4) (hb : b (nI p).toNatClampNeg &&& 3 = b (nI p).toNatClampNeg) (hB : vp_in (b (nI p).toNatClampNeg &&& 3) 4) (ho : o (nI p).toNatClampNeg = 1) : lj_C L z o a b p r (p + 1) (upd r (a (nI p).toNatClampNeg &&& 3).toNatClampNeg (lj_v 1 (r (a (nI p).toNatClampNeg &&& 3).toNatClampNeg) (r (b (nI p).toNatClampNeg &&& 3).toNatClampNeg))) := by
  refine ⟨?_, ?_, ?_, ?_⟩
  · exact fun kp eF eS eP eE eV kF kV post h => ⟨vp_in_nI hp (by decide), nm_r ho (br_f (by decide) (br_f (by decide) (br_f (by decide) h)))⟩
  · exact fun kp eF eS eP eE eV kF kV post h => ⟨vp_in_nI hp (by decide), nm_r ho ⟨vp_in_nI hp (by decide), nm_r ha.symm ⟨vp_in_nI hp (by decide), nm_r hb.symm (br_f (by decide) (br_f (by decide) (br_f (by decide) ⟨hB, hA, lx_r1 ⟨hA, nm_e h⟩⟩)))⟩⟩⟩
  · exact fun kp eF eS eP eE eV kF kV post h => ⟨vp_in_nI hp (by decide), br_f (by rw [ho]; decide) (by rw [nI_1]; exact h)⟩
  · intro kp dn vi kF kV post h
    rw [ho]
    exact br_f (by decide) (br_f (by decide) (br_f (by decide) (br_f (by decide) (nm_r (nI_1 p) (br_f (by decide) (br_f (by decide) ⟨hA, hB, ly_r1 ⟨hA, nm_e h⟩⟩))))))
theorem lj_c2 {L z : Int32} {o a b : Nat → Int32} {p : Nat} {r : Nat → Int32} (hp : p < 12) (ha : a (nI p).toNatClampNeg &&& 3 = a (nI p).toNatClampNeg) (hA : vp_in (a (nI p).toNatClampNeg &&& 3) 4) (hb : b (nI p).toNatClampNeg &&& 3 = b (nI p).toNatClampNeg) (hB : vp_in (b (nI p).toNatClampNeg &&& 3) 4) (ho : o (nI p).toNatClampNeg = 2) : lj_C L z o a b p r (p + 1) (upd r (a (nI p).toNatClampNeg &&& 3).toNatClampNeg (lj_v 2 (r (a (nI p).toNatClampNeg &&& 3).toNatClampNeg) (r (b (nI p).toNatClampNeg &&& 3).toNatClampNeg))) := by
  refine ⟨?_, ?_, ?_, ?_⟩
  · exact fun kp eF eS eP eE eV kF kV post h => ⟨vp_in_nI hp (by decide), nm_r ho (br_f (by decide) (br_f (by decide) (br_f (by decide) h)))⟩
  · exact fun kp eF eS eP eE eV kF kV post h => ⟨vp_in_nI hp (by decide), nm_r ho ⟨vp_in_nI hp (by decide), nm_r ha.symm ⟨vp_in_nI hp (by decide), nm_r hb.symm (br_f (by decide) (br_f (by decide) (br_f (by decide) ⟨hB, hA, lx_r2 ⟨hA, nm_e h⟩⟩)))⟩⟩⟩
  · exact fun kp eF eS eP eE eV kF kV post h => ⟨vp_in_nI hp (by decide), br_f (by rw [ho]; decide) (by rw [nI_1]; exact h)⟩
  · intro kp dn vi kF kV post h
    rw [ho]
    exact br_f (by decide) (br_f (by decide) (br_f (by decide) (br_f (by decide) (nm_r (nI_1 p) (br_f (by decide) (br_f (by decide) ⟨hA, hB, ly_r2 ⟨hA, nm_e h⟩⟩))))))
theorem lj_c3 {L z : Int32} {o a b : Nat → Int32} {p : Nat} {r : Nat → Int32} (hp : p < 12) (ha : a (nI p).toNatClampNeg &&& 3 = a (nI p).toNatClampNeg) (hA : vp_in (a (nI p).toNatClampNeg &&& 3) 4) (hb : b (nI p).toNatClampNeg &&& 3 = b (nI p).toNatClampNeg) (hB : vp_in (b (nI p).toNatClampNeg &&& 3) 4) (ho : o (nI p).toNatClampNeg = 3) : lj_C L z o a b p r (p + 1) (upd r (a (nI p).toNatClampNeg &&& 3).toNatClampNeg (lj_v 3 (r (a (nI p).toNatClampNeg &&& 3).toNatClampNeg) (r (b (nI p).toNatClampNeg &&& 3).toNatClampNeg))) := by
  refine ⟨?_, ?_, ?_, ?_⟩
  · exact fun kp eF eS eP eE eV kF kV post h => ⟨vp_in_nI hp (by decide), nm_r ho (br_f (by decide) (br_f (by decide) (br_f (by decide) h)))⟩
  · exact fun kp eF eS eP eE eV kF kV post h => ⟨vp_in_nI hp (by decide), nm_r ho ⟨vp_in_nI hp (by decide), nm_r ha.symm ⟨vp_in_nI hp (by decide), nm_r hb.symm (br_f (by decide) (br_f (by decide) (br_f (by decide) ⟨hB, hA, lx_r3 ⟨hA, nm_e h⟩⟩)))⟩⟩⟩
  · exact fun kp eF eS eP eE eV kF kV post h => ⟨vp_in_nI hp (by decide), br_f (by rw [ho]; decide) (by rw [nI_1]; exact h)⟩
  · intro kp dn vi kF kV post h
    rw [ho]
    exact br_f (by decide) (br_f (by decide) (br_f (by decide) (br_f (by decide) (nm_r (nI_1 p) (br_f (by decide) (br_f (by decide) ⟨hA, hB, ly_r3 ⟨hA, nm_e h⟩⟩))))))
theorem lj_c4 {L z : Int32} {o a b : Nat → Int32} {p : Nat} {r : Nat → Int32} (hp : p < 12) (ha : a (nI p).toNatClampNeg &&& 3 = a (nI p).toNatClampNeg) (hA : vp_in (a (nI p).toNatClampNeg &&& 3) 4) (hb : b (nI p).toNatClampNeg &&& 3 = b (nI p).toNatClampNeg) (hB : vp_in (b (nI p).toNatClampNeg &&& 3) 4) (ho : o (nI p).toNatClampNeg = 4) : lj_C L z o a b p r (p + 1) (upd r (a (nI p).toNatClampNeg &&& 3).toNatClampNeg (lj_v 4 (r (a (nI p).toNatClampNeg &&& 3).toNatClampNeg) (r (b (nI p).toNatClampNeg &&& 3).toNatClampNeg))) := by
  refine ⟨?_, ?_, ?_, ?_⟩
  · exact fun kp eF eS eP eE eV kF kV post h => ⟨vp_in_nI hp (by decide), nm_r ho (br_f (by decide) (br_f (by decide) (br_f (by decide) h)))⟩
  · exact fun kp eF eS eP eE eV kF kV post h => ⟨vp_in_nI hp (by decide), nm_r ho ⟨vp_in_nI hp (by decide), nm_r ha.symm ⟨vp_in_nI hp (by decide), nm_r hb.symm (br_f (by decide) (br_f (by decide) (br_f (by decide) ⟨hB, hA, lx_r4 ⟨hA, nm_e h⟩⟩)))⟩⟩⟩
  · exact fun kp eF eS eP eE eV kF kV post h => ⟨vp_in_nI hp (by decide), br_f (by rw [ho]; decide) (by rw [nI_1]; exact h)⟩
  · intro kp dn vi kF kV post h
    rw [ho]
    exact br_f (by decide) (br_f (by decide) (br_f (by decide) (br_f (by decide) (nm_r (nI_1 p) (br_f (by decide) (br_f (by decide) ⟨hA, hB, ly_r4 ⟨hA, nm_e h⟩⟩))))))
theorem lj_c5 {L z : Int32} {o a b : Nat → Int32} {p : Nat} {r : Nat → Int32} (hp : p < 12) (ha : a (nI p).toNatClampNeg &&& 3 = a (nI p).toNatClampNeg) (hA : vp_in (a (nI p).toNatClampNeg &&& 3) 4) (hb : b (nI p).toNatClampNeg &&& 3 = b (nI p).toNatClampNeg) (hB : vp_in (b (nI p).toNatClampNeg &&& 3) 4) (ho : o (nI p).toNatClampNeg = 5) (hz : ¬ r (b (nI p).toNatClampNeg &&& 3).toNatClampNeg = 0) : lj_C L z o a b p r (p + 1) (upd r (a (nI p).toNatClampNeg &&& 3).toNatClampNeg (lj_v 5 (r (a (nI p).toNatClampNeg &&& 3).toNatClampNeg) (r (b (nI p).toNatClampNeg &&& 3).toNatClampNeg))) := by
  refine ⟨?_, ?_, ?_, ?_⟩
  · rw [hb] at hz hB
    exact fun kp eF eS eP eE eV kF kV post h => ⟨vp_in_nI hp (by decide), nm_r ho (br_t rfl ⟨vp_in_nI hp (by decide), hB, br_f hz h⟩)⟩
  · exact fun kp eF eS eP eE eV kF kV post h => ⟨vp_in_nI hp (by decide), nm_r ho ⟨vp_in_nI hp (by decide), nm_r ha.symm ⟨vp_in_nI hp (by decide), nm_r hb.symm (br_f (by decide) (br_f (by decide) (br_f (by decide) ⟨hB, hA, lx_r5 (hy := hz) ⟨hA, nm_e h⟩⟩)))⟩⟩⟩
  · exact fun kp eF eS eP eE eV kF kV post h => ⟨vp_in_nI hp (by decide), br_f (by rw [ho]; decide) (by rw [nI_1]; exact h)⟩
  · intro kp dn vi kF kV post h
    rw [ho]
    exact br_f (by decide) (br_f (by decide) (br_t rfl ⟨hB, br_f hz (br_f (by decide) (nm_r (nI_1 p) (br_f (by decide) (br_f (by decide) ⟨hA, hB, ly_r5 (hy := hz) ⟨hA, nm_e h⟩⟩))))⟩))
theorem lj_c6 {L z : Int32} {o a b : Nat → Int32} {p : Nat} {r : Nat → Int32} (hp : p < 12) (ha : a (nI p).toNatClampNeg &&& 3 = a (nI p).toNatClampNeg) (hA : vp_in (a (nI p).toNatClampNeg &&& 3) 4) (hb : b (nI p).toNatClampNeg &&& 3 = b (nI p).toNatClampNeg) (hB : vp_in (b (nI p).toNatClampNeg &&& 3) 4) (ho : o (nI p).toNatClampNeg = 6) : lj_C L z o a b p r (p + 1) (upd r (a (nI p).toNatClampNeg &&& 3).toNatClampNeg (lj_v 6 (r (a (nI p).toNatClampNeg &&& 3).toNatClampNeg) (r (b (nI p).toNatClampNeg &&& 3).toNatClampNeg))) := by
  refine ⟨?_, ?_, ?_, ?_⟩
  · exact fun kp eF eS eP eE eV kF kV post h => ⟨vp_in_nI hp (by decide), nm_r ho (br_f (by decide) (br_f (by decide) (br_f (by decide) h)))⟩
  · exact fun kp eF eS eP eE eV kF kV post h => ⟨vp_in_nI hp (by decide), nm_r ho ⟨vp_in_nI hp (by decide), nm_r ha.symm ⟨vp_in_nI hp (by decide), nm_r hb.symm (br_f (by decide) (br_f (by decide) (br_f (by decide) ⟨hB, hA, lx_r6 ⟨hA, nm_e h⟩⟩)))⟩⟩⟩
  · exact fun kp eF eS eP eE eV kF kV post h => ⟨vp_in_nI hp (by decide), br_f (by rw [ho]; decide) (by rw [nI_1]; exact h)⟩
  · intro kp dn vi kF kV post h
    rw [ho]
    exact br_f (by decide) (br_f (by decide) (br_f (by decide) (br_f (by decide) (nm_r (nI_1 p) (br_f (by decide) (br_f (by decide) ⟨hA, hB, ly_r6 ⟨hA, nm_e h⟩⟩))))))
theorem lj_c7 {L z : Int32} {o a b : Nat → Int32} {p : Nat} {r : Nat → Int32} (hp : p < 12) (ha : a (nI p).toNatClampNeg &&& 3 = a (nI p).toNatClampNeg) (hA : vp_in (a (nI p).toNatClampNeg &&& 3) 4) (hb : b (nI p).toNatClampNeg &&& 3 = b (nI p).toNatClampNeg) (hB : vp_in (b (nI p).toNatClampNeg &&& 3) 4) (ho : o (nI p).toNatClampNeg = 7) : lj_C L z o a b p r (p + 1) (upd r (a (nI p).toNatClampNeg &&& 3).toNatClampNeg (lj_v 7 (r (a (nI p).toNatClampNeg &&& 3).toNatClampNeg) (r (b (nI p).toNatClampNeg &&& 3).toNatClampNeg))) := by
  refine ⟨?_, ?_, ?_, ?_⟩
  · exact fun kp eF eS eP eE eV kF kV post h => ⟨vp_in_nI hp (by decide), nm_r ho (br_f (by decide) (br_f (by decide) (br_f (by decide) h)))⟩
  · exact fun kp eF eS eP eE eV kF kV post h => ⟨vp_in_nI hp (by decide), nm_r ho ⟨vp_in_nI hp (by decide), nm_r ha.symm ⟨vp_in_nI hp (by decide), nm_r hb.symm (br_f (by decide) (br_f (by decide) (br_f (by decide) ⟨hB, hA, lx_r7 ⟨hA, nm_e h⟩⟩)))⟩⟩⟩
  · exact fun kp eF eS eP eE eV kF kV post h => ⟨vp_in_nI hp (by decide), br_f (by rw [ho]; decide) (by rw [nI_1]; exact h)⟩
  · intro kp dn vi kF kV post h
    rw [ho]
    exact br_f (by decide) (br_f (by decide) (br_f (by decide) (br_f (by decide) (nm_r (nI_1 p) (br_f (by decide) (br_f (by decide) ⟨hA, hB, ly_r7 ⟨hA, nm_e h⟩⟩))))))
theorem lj_c8 {L z : Int32} {o a b : Nat → Int32} {p : Nat} {r : Nat → Int32} (hp : p < 12) (ha : a (nI p).toNatClampNeg &&& 3 = a (nI p).toNatClampNeg) (hA : vp_in (a (nI p).toNatClampNeg &&& 3) 4) (hb : b (nI p).toNatClampNeg &&& 3 = b (nI p).toNatClampNeg) (hB : vp_in (b (nI p).toNatClampNeg &&& 3) 4) (ho : o (nI p).toNatClampNeg = 8) : lj_C L z o a b p r (p + 1) (upd r (a (nI p).toNatClampNeg &&& 3).toNatClampNeg (lj_v 8 (r (a (nI p).toNatClampNeg &&& 3).toNatClampNeg) (r (b (nI p).toNatClampNeg &&& 3).toNatClampNeg))) := by
  refine ⟨?_, ?_, ?_, ?_⟩
  · exact fun kp eF eS eP eE eV kF kV post h => ⟨vp_in_nI hp (by decide), nm_r ho (br_f (by decide) (br_f (by decide) (br_f (by decide) h)))⟩
  · exact fun kp eF eS eP eE eV kF kV post h => ⟨vp_in_nI hp (by decide), nm_r ho ⟨vp_in_nI hp (by decide), nm_r ha.symm ⟨vp_in_nI hp (by decide), nm_r hb.symm (br_f (by decide) (br_f (by decide) (br_f (by decide) ⟨hB, hA, lx_r8 ⟨hA, nm_e h⟩⟩)))⟩⟩⟩
  · exact fun kp eF eS eP eE eV kF kV post h => ⟨vp_in_nI hp (by decide), br_f (by rw [ho]; decide) (by rw [nI_1]; exact h)⟩
  · intro kp dn vi kF kV post h
    rw [ho]
    exact br_f (by decide) (br_f (by decide) (br_f (by decide) (br_f (by decide) (nm_r (nI_1 p) (br_f (by decide) (br_f (by decide) ⟨hA, hB, ly_r8 ⟨hA, nm_e h⟩⟩))))))
theorem lj_e5 {L z : Int32} {o a b : Nat → Int32} {p : Nat} {r : Nat → Int32} (hp : p < 12) (hb : b (nI p).toNatClampNeg &&& 3 = b (nI p).toNatClampNeg) (hB : vp_in (b (nI p).toNatClampNeg &&& 3) 4) (ho : o (nI p).toNatClampNeg = 5) (hz : r (b (nI p).toNatClampNeg &&& 3).toNatClampNeg = 0) : lj_E L z o a b p r 2 := by
  refine ⟨?_, ?_⟩
  · rw [hb] at hz hB
    exact fun kp eF eS eP eE eV kF kV post h => ⟨vp_in_nI hp (by decide), nm_r ho (br_t rfl ⟨vp_in_nI hp (by decide), hB, br_t hz h⟩)⟩
  · intro kp dn vi kF kV post h
    rw [ho]
    exact br_f (by decide) (br_f (by decide) (br_t rfl ⟨hB, br_t hz h⟩))
theorem lj_e10 {L z : Int32} {o a b : Nat → Int32} {p : Nat} {r : Nat → Int32} (hp : p < 12) (ha : a (nI p).toNatClampNeg &&& 3 = a (nI p).toNatClampNeg) (hA : vp_in (a (nI p).toNatClampNeg &&& 3) 4) (ho : o (nI p).toNatClampNeg = 10) (hz : r (a (nI p).toNatClampNeg &&& 3).toNatClampNeg = 0) : lj_E L z o a b p r 3 := by
  refine ⟨?_, ?_⟩
  · rw [ha] at hz hA
    exact fun kp eF eS eP eE eV kF kV post h => ⟨vp_in_nI hp (by decide), nm_r ho (br_f (by decide) (br_t rfl ⟨vp_in_nI hp (by decide), hA, br_t hz h⟩))⟩
  · intro kp dn vi kF kV post h
    rw [ho]
    exact br_f (by decide) (br_t rfl ⟨hA, br_t hz h⟩)
theorem lj_e11 {L z : Int32} {o a b : Nat → Int32} {p : Nat} {r : Nat → Int32} (hp : p < 12) (ho : o (nI p).toNatClampNeg = 11) : lj_E L z o a b p r 0 := by
  refine ⟨?_, ?_⟩
  · exact fun kp eF eS eP eE eV kF kV post h => ⟨vp_in_nI hp (by decide), nm_r ho (br_f (by decide) (br_f (by decide) (br_t rfl h)))⟩
  · intro kp dn vi kF kV post h
    rw [ho]
    exact br_t rfl h
theorem lj_c10 {L z : Int32} {o a b : Nat → Int32} {p : Nat} {r : Nat → Int32} (hp : p < 12) (ha : a (nI p).toNatClampNeg &&& 3 = a (nI p).toNatClampNeg) (hA : vp_in (a (nI p).toNatClampNeg &&& 3) 4) (ho : o (nI p).toNatClampNeg = 10) (hz : ¬ r (a (nI p).toNatClampNeg &&& 3).toNatClampNeg = 0) : lj_C L z o a b p r (p + 1) r := by
  refine ⟨?_, ?_, ?_, ?_⟩
  · rw [ha] at hz hA
    exact fun kp eF eS eP eE eV kF kV post h => ⟨vp_in_nI hp (by decide), nm_r ho (br_f (by decide) (br_t rfl ⟨vp_in_nI hp (by decide), hA, br_f hz h⟩))⟩
  · exact fun kp eF eS eP eE eV kF kV post h => ⟨vp_in_nI hp (by decide), nm_r ho ⟨vp_in_nI hp (by decide), nm_r ha.symm ⟨vp_in_nI hp (by decide), nm_e (br_f (by decide) (br_t (by decide) (br_t rfl ⟨hA, br_f (by decide) (br_t (by decide) ⟨hA, nm_r (lj_self r _) h⟩)⟩)))⟩⟩⟩
  · exact fun kp eF eS eP eE eV kF kV post h => ⟨vp_in_nI hp (by decide), br_f (by rw [ho]; decide) (by rw [nI_1]; exact h)⟩
  · intro kp dn vi kF kV post h
    rw [ho]
    exact br_f (by decide) (br_t rfl ⟨hA, br_f hz (br_f (by decide) (br_f (by decide) (nm_r (nI_1 p) (br_t (by decide) h))))⟩)
theorem lj_c9f {L z : Int32} {o a b : Nat → Int32} {p : Nat} {r : Nat → Int32} (hp : p < 12) (ha : a (nI p).toNatClampNeg &&& 3 = a (nI p).toNatClampNeg) (hA : vp_in (a (nI p).toNatClampNeg &&& 3) 4) (ho : o (nI p).toNatClampNeg = 9) (hz : r (a (nI p).toNatClampNeg &&& 3).toNatClampNeg = 0) : lj_C L z o a b p r (p + 1) r := by
  refine ⟨?_, ?_, ?_, ?_⟩
  · exact fun kp eF eS eP eE eV kF kV post h => ⟨vp_in_nI hp (by decide), nm_r ho (br_f (by decide) (br_f (by decide) (br_f (by decide) h)))⟩
  · exact fun kp eF eS eP eE eV kF kV post h => ⟨vp_in_nI hp (by decide), nm_r ho ⟨vp_in_nI hp (by decide), nm_r ha.symm ⟨vp_in_nI hp (by decide), nm_e (br_f (by decide) (br_t (by decide) (br_t rfl ⟨hA, br_f (by decide) (br_t (by decide) ⟨hA, nm_r (lj_self r _) h⟩)⟩)))⟩⟩⟩
  · rw [ha] at hz hA
    exact fun kp eF eS eP eE eV kF kV post h => ⟨vp_in_nI hp (by decide), br_t ho ⟨vp_in_nI hp (by decide), hA, br_t hz (by rw [nI_1]; exact h)⟩⟩
  · intro kp dn vi kF kV post h
    rw [ho]
    exact br_f (by decide) (br_f (by decide) (br_f (by decide) (br_t rfl ⟨hA, br_t hz (nm_r (nI_1 p) (br_t (by decide) h))⟩)))
theorem lj_c9t {L z : Int32} {o a b : Nat → Int32} {p : Nat} {r : Nat → Int32} (hp : p < 12) (ha : a (nI p).toNatClampNeg &&& 3 = a (nI p).toNatClampNeg) (hA : vp_in (a (nI p).toNatClampNeg &&& 3) 4) {q : Nat} (hq : b (nI p).toNatClampNeg = nI q) (ho : o (nI p).toNatClampNeg = 9) (hz : ¬ r (a (nI p).toNatClampNeg &&& 3).toNatClampNeg = 0) : lj_C L z o a b p r q r := by
  refine ⟨?_, ?_, ?_, ?_⟩
  · exact fun kp eF eS eP eE eV kF kV post h => ⟨vp_in_nI hp (by decide), nm_r ho (br_f (by decide) (br_f (by decide) (br_f (by decide) h)))⟩
  · exact fun kp eF eS eP eE eV kF kV post h => ⟨vp_in_nI hp (by decide), nm_r ho ⟨vp_in_nI hp (by decide), nm_r ha.symm ⟨vp_in_nI hp (by decide), nm_e (br_f (by decide) (br_t (by decide) (br_t rfl ⟨hA, br_f (by decide) (br_t (by decide) ⟨hA, nm_r (lj_self r _) h⟩)⟩)))⟩⟩⟩
  · rw [ha] at hz hA
    exact fun kp eF eS eP eE eV kF kV post h => ⟨vp_in_nI hp (by decide), br_t ho ⟨vp_in_nI hp (by decide), hA, br_f hz ⟨vp_in_nI hp (by decide), by rw [hq]; exact h⟩⟩⟩
  · intro kp dn vi kF kV post h
    rw [ho, hq]
    exact br_f (by decide) (br_f (by decide) (br_f (by decide) (br_t rfl ⟨hA, br_f hz h⟩)))
theorem lj_step (L z : Int32) {o a b : Nat → Int32} {p : Nat} {r : Nat → Int32} (hp : p < 12) (hr : lj_z r) (hI : lj_I (o (nI p).toNatClampNeg) (a (nI p).toNatClampNeg) (b (nI p).toNatClampNeg)) :
    (∃ F : Int32, (F = 0 ∨ F = 2 ∨ F = 3) ∧ lj_E L z o a b p r F) ∨ (∃ (p2 : Nat) (r2 : Nat → Int32), p2 ≤ 12 ∧ lj_z r2 ∧ lj_C L z o a b p r p2 r2) := by
  obtain ⟨i, q, hi, ho, hq, ea, hB, hT⟩ := hI
  have ha : a (nI p).toNatClampNeg &&& 3 = a (nI p).toNatClampNeg := by rw [ea]; exact lj_a3 hq
  have hA : vp_in (a (nI p).toNatClampNeg &&& 3) 4 := by rw [ha, ea]; exact vp_in_nI hq (by decide)
  have hc : (a (nI p).toNatClampNeg &&& 3).toNatClampNeg < 4 := by rw [ha, ea, nI_clamp (by omega)]; exact hq
  have hbb : 1 ≤ i → i ≤ 8 → b (nI p).toNatClampNeg &&& 3 = b (nI p).toNatClampNeg ∧ vp_in (b (nI p).toNatClampNeg &&& 3) 4 := by
    intro h1 h8
    obtain ⟨w, hw, e⟩ := hB h1 h8
    have e3 : b (nI p).toNatClampNeg &&& 3 = b (nI p).toNatClampNeg := by rw [e]; exact lj_a3 hw
    exact ⟨e3, by rw [e3, e]; exact vp_in_nI hw (by decide)⟩
  have hcs : i = 0 ∨ i = 1 ∨ i = 2 ∨ i = 3 ∨ i = 4 ∨ i = 5 ∨ i = 6 ∨ i = 7 ∨ i = 8 ∨ i = 9 ∨ i = 10 ∨ i = 11 := by omega
  rcases hcs with rfl | rfl | rfl | rfl | rfl | rfl | rfl | rfl | rfl | rfl | rfl | rfl
  · exact Or.inr ⟨_, _, by omega, lj_zu hr hc _, lj_c0 hp ha hA ho⟩
  · obtain ⟨hb, hBB⟩ := hbb (by decide) (by decide)
    exact Or.inr ⟨_, _, by omega, lj_zu hr hc _, lj_c1 hp ha hA hb hBB ho⟩
  · obtain ⟨hb, hBB⟩ := hbb (by decide) (by decide)
    exact Or.inr ⟨_, _, by omega, lj_zu hr hc _, lj_c2 hp ha hA hb hBB ho⟩
  · obtain ⟨hb, hBB⟩ := hbb (by decide) (by decide)
    exact Or.inr ⟨_, _, by omega, lj_zu hr hc _, lj_c3 hp ha hA hb hBB ho⟩
  · obtain ⟨hb, hBB⟩ := hbb (by decide) (by decide)
    exact Or.inr ⟨_, _, by omega, lj_zu hr hc _, lj_c4 hp ha hA hb hBB ho⟩
  · obtain ⟨hb, hBB⟩ := hbb (by decide) (by decide)
    by_cases hz : r (b (nI p).toNatClampNeg &&& 3).toNatClampNeg = 0
    · exact Or.inl ⟨2, Or.inr (Or.inl rfl), lj_e5 hp hb hBB ho hz⟩
    · exact Or.inr ⟨_, _, by omega, lj_zu hr hc _, lj_c5 hp ha hA hb hBB ho hz⟩
  · obtain ⟨hb, hBB⟩ := hbb (by decide) (by decide)
    exact Or.inr ⟨_, _, by omega, lj_zu hr hc _, lj_c6 hp ha hA hb hBB ho⟩
  · obtain ⟨hb, hBB⟩ := hbb (by decide) (by decide)
    exact Or.inr ⟨_, _, by omega, lj_zu hr hc _, lj_c7 hp ha hA hb hBB ho⟩
  · obtain ⟨hb, hBB⟩ := hbb (by decide) (by decide)
    exact Or.inr ⟨_, _, by omega, lj_zu hr hc _, lj_c8 hp ha hA hb hBB ho⟩
  · obtain ⟨w, hw, e⟩ := hT rfl
    by_cases hz : r (a (nI p).toNatClampNeg &&& 3).toNatClampNeg = 0
    · exact Or.inr ⟨_, _, by omega, hr, lj_c9f hp ha hA ho hz⟩
    · exact Or.inr ⟨_, _, hw, hr, lj_c9t hp ha hA e ho hz⟩
  · by_cases hz : r (a (nI p).toNatClampNeg &&& 3).toNatClampNeg = 0
    · exact Or.inl ⟨3, Or.inr (Or.inr rfl), lj_e10 hp ha hA ho hz⟩
    · exact Or.inr ⟨_, _, by omega, hr, lj_c10 hp ha hA ho hz⟩
  · exact Or.inl ⟨0, Or.inl rfl, lj_e11 hp ho⟩
end
section
/-- X's loop, its run already ended with F -/
theorem lx_end {post : SX → Prop} {x1 P S V F L z kp : Int32} {o a b w eF eS eP eE eV kF kV : Nat → Int32} (n : Nat) (hF : ¬ F = -1) (h : wX_runOn_96 post x1 P S V F L z kp o a b w eF eS eP eE eV kF kV) : wX_runOn_15 post x1 (n + 1) P S V F L z kp o a b w eF eS eP eE eV kF kV :=
  br_c (fun _ => br_f hF h) (fun _ => br_c (fun _ => br_f hF h) (fun _ => br_f hF (br_f hF h)))
/-- the reference's loop, its run already ended -/
theorem ly_end {post : SY → Prop} {x2 L z kp ps dn en vi : Int32} {o a b kF kV rg : Nat → Int32} (n : Nat) (hF : 0 ≤ en) (h : post (L, z, kp, ps, dn, en, vi, o, a, b, kF, kV, rg)) : wY_run_56 post (n + 1) x2 L z kp ps dn en vi o a b kF kV rg :=
  br_c (fun _ => h) (fun _ => br_t hF h)
theorem lj_F {F : Int32} (h : F = 0 ∨ F = 2 ∨ F = 3) : ¬ F = -1 ∧ 0 ≤ F := by
  rcases h with rfl | rfl | rfl
  · exact ⟨by decide, by decide⟩
  · exact ⟨by decide, by decide⟩
  · exact ⟨by decide, by decide⟩
/-- what both runs give from here on -/
def lj_G (l s m d p : Nat) (V : Int32) (o a b r : Nat → Int32) (F S P V' : Int32) (r' : Nat → Int32) : Prop :=
  (∀ (kp : Int32) (eF eS eP eE eV kF kV : Nat → Int32) (x1 : Int32) (post : SX → Prop) (n : Nat), m + 2 ≤ n → wX_runOn_96 post x1 P S V' F (nI l) (nI s) kp o a b r' eF eS eP eE eV kF kV → wX_runOn_15 post x1 n (nI p) (nI d) V (-1) (nI l) (nI s) kp o a b r eF eS eP eE eV kF kV) ∧
  (∀ (kp : Int32) (kF kV : Nat → Int32) (post : SY → Prop) (n : Nat), m + 2 ≤ n → post (nI l, nI s, kp, P, S, F, V', o, a, b, kF, kV, r') → wY_run_56 post n (nI d) (nI l) (nI s) kp (nI p) (nI d) (-1) V o a b kF kV r)
theorem lj_out {l s m d p : Nat} (V : Int32) (o a b r : Nat → Int32) (hd : d ≤ 40) (hs : s ≤ 12) (hp : p ≤ 12) (h : s ≤ p) : lj_G l s m d p V o a b r 0 (nI d) (nI p) V r := by
  refine ⟨fun kp eF eS eP eE eV kF kV x1 post n hn H => ?_, fun kp kF kV post n hn H => ?_⟩
  · obtain ⟨n, rfl⟩ : ∃ q, n = q + 1 := ⟨n - 1, by omega⟩
    have T : wX_runOn_75 post x1 (nI p) (nI d) V (-1) (nI l) (nI s) kp o a b r eF eS eP eE eV kF kV := br_t rfl (br_f (nI_nlt h (by omega)) H)
    exact br_c (fun _ => T) (fun _ => br_t (nI_le h (by omega)) T)
  · obtain ⟨n, rfl⟩ : ∃ q, n = q + 2 := ⟨n - 2, by omega⟩
    exact br_f (nI_nlt (a := 40) hd (by omega)) (br_f lj_m1 (br_t (nI_le h (by omega)) (fun _ _ => ly_end n (by decide) H)))
theorem lj_tired {l s m d p : Nat} (V : Int32) (o a b r : Nat → Int32) (hd : d ≤ 40) (hs : s ≤ 12) (h : p < s) (hl : l ≤ d) : lj_G l s m d p V o a b r 1 (nI d) (nI p) V r := by
  refine ⟨fun kp eF eS eP eE eV kF kV x1 post n hn H => ?_, fun kp kF kV post n hn H => ?_⟩
  · obtain ⟨n, rfl⟩ : ∃ q, n = q + 1 := ⟨n - 1, by omega⟩
    exact br_t (nI_le hl (by omega)) (br_t rfl (br_t (nI_lt h (by omega)) H))
  · obtain ⟨n, rfl⟩ : ∃ q, n = q + 2 := ⟨n - 2, by omega⟩
    exact br_f (nI_nlt (a := 40) hd (by omega)) (br_f lj_m1 (br_f (nI_ge h (by omega)) (br_t (nI_pos' (by omega)) (br_f (nI_nlt hl (by omega)) (fun _ _ => ly_end n (by decide) H)))))
theorem lj_loop {l s : Nat} {o a b : Nat → Int32} (hl : l ≤ 40) (hs : s ≤ 12) (hI : ∀ p, p < s → lj_I (o p) (a p) (b p)) : ∀ (m d p : Nat) (V : Int32) (r : Nat → Int32), d + m = l → p ≤ 12 → lj_z r →
    ∃ (F S P V' : Int32) (r' : Nat → Int32), lj_z r' ∧ lj_G l s m d p V o a b r F S P V' r' := by
  intro m
  induction m with
  | zero =>
    intro d p V r hd hp hr
    by_cases h : s ≤ p
    · exact ⟨_, _, _, _, _, hr, lj_out V o a b r (by omega) hs hp h⟩
    · exact ⟨_, _, _, _, _, hr, lj_tired V o a b r (by omega) hs (by omega) (by omega)⟩
  | succ m ih =>
    intro d p V r hd hp hr
    by_cases h : s ≤ p
    · exact ⟨_, _, _, _, _, hr, lj_out V o a b r (by omega) hs hp h⟩
    · have hps : p < s := by omega
      have hpl : p < 12 := by omega
      have hi : vp_in (nI p) 12 := vp_in_nI hpl (by decide)
      have hI2 : lj_I (o (nI p).toNatClampNeg) (a (nI p).toNatClampNeg) (b (nI p).toNatClampNeg) := by rw [nI_clamp (by omega)]; exact hI p hps
      rcases lj_step (nI l) (nI s) hpl hr hI2 with ⟨F, hF, E⟩ | ⟨p2, r2, hp2, hr2, C⟩
      · obtain ⟨hF1, hF0⟩ := lj_F hF
        refine ⟨F, nI (d + 1), nI p, V ||| ((1 : Int32) <<< (nI p &&& 31)), r, hr, fun kp eF eS eP eE eV kF kV x1 post n hn H => ?_, fun kp kF kV post n hn H => ?_⟩
        · obtain ⟨n, rfl⟩ : ∃ q, n = q + 2 := ⟨n - 2, by omega⟩
          exact br_f (nI_ge (by omega) (by omega)) (br_f (nI_ge hps (by omega)) (br_t rfl (nm_e (E.1 kp eF eS eP eE eV kF kV _ (br_f hF1 (nm_r (nI_1 d) (lx_end n hF1 H)))))))
        · obtain ⟨n, rfl⟩ : ∃ q, n = q + 2 := ⟨n - 2, by omega⟩
          exact br_f (nI_nlt (a := 40) (by omega) (by omega)) (br_f lj_m1 (br_f (nI_ge hps (by omega)) (br_t (nI_pos' (by omega)) (br_t (nI_lt (by omega) (by omega)) (nm_r (nI_1 d) (nm_e ⟨hi, hi, hi, E.2 kp _ _ kF kV _ (fun _ _ => ly_end n hF0 H)⟩))))))
      · obtain ⟨F, S, P, V', r', hr', hX, hY⟩ := ih (d + 1) p2 (V ||| ((1 : Int32) <<< (nI p &&& 31))) r2 (by omega) hp2 hr2
        obtain ⟨C1, C2, C3, C4⟩ := C
        refine ⟨F, S, P, V', r', hr', fun kp eF eS eP eE eV kF kV x1 post n hn H => ?_, fun kp kF kV post n hn H => ?_⟩
        · obtain ⟨n, rfl⟩ : ∃ q, n = q + 1 := ⟨n - 1, by omega⟩
          exact br_f (nI_ge (by omega) (by omega)) (br_f (nI_ge hps (by omega)) (br_t rfl (nm_e (C1 kp eF eS eP eE eV kF kV _ (br_t rfl (C2 kp eF eS eP eE eV kF kV _ (C3 kp eF eS eP eE eV kF kV _ (nm_r (nI_1 d) (hX kp eF eS eP eE eV kF kV x1 post n (by omega) H)))))))))
        · obtain ⟨n, rfl⟩ : ∃ q, n = q + 1 := ⟨n - 1, by omega⟩
          exact br_f (nI_nlt (a := 40) (by omega) (by omega)) (br_f lj_m1 (br_f (nI_ge hps (by omega)) (br_t (nI_pos' (by omega)) (br_t (nI_lt (by omega) (by omega)) (nm_r (nI_1 d) (nm_e ⟨hi, hi, hi, C4 kp _ _ kF kV _ (nm_r (nI_1 d) (hY kp kF kV post n (by omega) H))⟩))))))
/-- the four values laid at the place of input k -/
def lj_e4 (eE : Nat → Int32) (k : Nat) (r : Nat → Int32) : Nat → Int32 := upd (upd (upd (upd eE (k * 4) (r 0)) (k * 4 + 1) (r 1)) (k * 4 + 2) (r 2)) (k * 4 + 3) (r 3)
theorem lx_ix {k i : Nat} {c : Int32} (hk : k < 64) (hi : i < 4) (hc : c = nI i) : vp_in c 4 ∧ vp_in ((nI k * 4) + c) 256 ∧ ((nI k * 4) + c).toNatClampNeg = k * 4 + i ∧ c.toNatClampNeg = i := by
  subst hc
  rw [lj_ix]
  exact ⟨vp_in_nI hi (by decide), vp_in_nI (by omega) (by decide), nI_clamp (by omega), nI_clamp (by omega)⟩
theorem lx_129 {post : SX → Prop} {k : Nat} (hk : k < 64) {L z kp : Int32} {o a b w eF eS eP eE eV kF kV : Nat → Int32} (h : post (L, z, kp, o, a, b, w, eF, eS, eP, lj_e4 eE k w, eV, kF, kV)) : wX_runOn_129 post (nI k) L z kp 5 0 o a b w eF eS eP eE eV kF kV := by
  obtain ⟨a0, b0, c0', d0⟩ := lx_ix (c := 0) hk (show 0 < 4 by decide) (by decide)
  obtain ⟨a1, b1, c1', d1⟩ := lx_ix (c := 1) hk (show 1 < 4 by decide) (by decide)
  obtain ⟨a2, b2, c2', d2⟩ := lx_ix (c := 2) hk (show 2 < 4 by decide) (by decide)
  obtain ⟨a3, b3, c3', d3⟩ := lx_ix (c := 3) hk (show 3 < 4 by decide) (by decide)
  refine br_f (by decide) ⟨a0, b0, nm_r (by rw [c0', d0]) (nm_r (show (0 : Int32) + 1 = 1 from by decide) ?_)⟩
  refine br_f (by decide) ⟨a1, b1, nm_r (by rw [c1', d1]) (nm_r (show (1 : Int32) + 1 = 2 from by decide) ?_)⟩
  refine br_f (by decide) ⟨a2, b2, nm_r (by rw [c2', d2]) (nm_r (show (2 : Int32) + 1 = 3 from by decide) ?_)⟩
  refine br_f (by decide) ⟨a3, b3, nm_r (by rw [c3', d3]) (nm_r (show (3 : Int32) + 1 = 4 from by decide) ?_)⟩
  exact br_t (by decide) h
theorem lx_96 {post : SX → Prop} {k : Nat} (hk : k < 64) {P S V F L z kp : Int32} {o a b w eF eS eP eE eV kF kV : Nat → Int32} (h : post (L, z, kp, o, a, b, w, upd eF k F, upd eS k S, upd eP k P, lj_e4 eE k w, upd eV k V, kF, kV)) : wX_runOn_96 post (nI k) P S V F L z kp o a b w eF eS eP eE eV kF kV := by
  have hi : vp_in (nI k) 64 := vp_in_nI hk (by decide)
  have hc : (nI k).toNatClampNeg = k := nI_clamp (by omega)
  exact ⟨hi, nm_r (by rw [hc]) ⟨hi, nm_r (by rw [hc]) ⟨hi, nm_r (by rw [hc]) ⟨hi, nm_r (by rw [hc]) ⟨5, lx_129 hk h⟩⟩⟩⟩⟩
/-- the reference's run on input k, from any state with this program, ends so -/
def lj_Y (L z : Int32) (o a b : Nat → Int32) (k F S P V : Int32) (r : Nat → Int32) : Prop :=
  ∀ (kp ps dn en vi : Int32) (kF kV rg : Nat → Int32) (post : SY → Prop), lj_z rg → post (L, z, kp, P, S, F, V, o, a, b, kF, kV, r) → wpY_run post (L, z, kp, ps, dn, en, vi, o, a, b, kF, kV, rg) k
theorem lj_run {l s : Nat} {o a b : Nat → Int32} (hl : l ≤ 40) (hs : s ≤ 12) (hI : ∀ p, p < s → lj_I (o p) (a p) (b p)) (k : Nat) (hk : k < 64) :
    ∃ (F S P V : Int32) (r : Nat → Int32), lj_z r ∧ lj_Y (nI l) (nI s) o a b (nI k) F S P V r ∧
      ∀ (kp : Int32) (w eF eS eP eE eV kF kV : Nat → Int32) (post : SX → Prop), lj_z w → post (nI l, nI s, kp, o, a, b, r, upd eF k F, upd eS k S, upd eP k P, lj_e4 eE k r, upd eV k V, kF, kV) → wpX_runOn post (nI l, nI s, kp, o, a, b, w, eF, eS, eP, eE, eV, kF, kV) (nI k) := by
  obtain ⟨F, S, P, V, r, hr, hX, hY⟩ := lj_loop hl hs hI l 0 0 0 (lj_r0 (nI k - nI k / 8 * 8) (nI k / 8)) (by omega) (by omega) (lj_r0z _ _)
  refine ⟨F, S, P, V, r, hr, fun kp ps dn en vi kF kV rg post hz H => ?_, fun kp w eF eS eP eE eV kF kV post hz H => ?_⟩
  · exact ⟨by decide, nm_e ⟨by decide, nm_e (nm_e (nm_r (lj_st hz _ _) ⟨l + 2, hY kp kF kV post (l + 2) (by omega) H⟩))⟩⟩
  · exact ⟨by decide, nm_e ⟨by decide, nm_e (nm_e (nm_r (lj_st hz _ _) ⟨l + 2, hX kp eF eS eP eE eV kF kV (nI k) post (l + 2) (by omega) (lx_96 hk H)⟩))⟩⟩
/-- what X has stored for input k is what the reference's run gives -/
def lj_R (L z : Int32) (o a b eF eS eP eE eV : Nat → Int32) (k : Nat) : Prop :=
  ∃ r : Nat → Int32, lj_z r ∧ (∀ i, i < 4 → eE (k * 4 + i) = r i) ∧ lj_Y L z o a b (nI k) (eF k) (eS k) (eP k) (eV k) r
theorem lj_e4s {eE r : Nat → Int32} {k : Nat} : ∀ i, i < 4 → lj_e4 eE k r (k * 4 + i) = r i := by
  intro i hi
  have hcs : i = 0 ∨ i = 1 ∨ i = 2 ∨ i = 3 := by omega
  rcases hcs with rfl | rfl | rfl | rfl
  · exact (pk_un (by omega)).trans ((pk_un (by omega)).trans ((pk_un (by omega)).trans pk_us))
  · exact (pk_un (by omega)).trans ((pk_un (by omega)).trans pk_us)
  · exact (pk_un (by omega)).trans pk_us
  · exact pk_us
theorem lj_e4n {eE r : Nat → Int32} {k j : Nat} (h : j ≠ k) {i : Nat} (hi : i < 4) : lj_e4 eE k r (j * 4 + i) = eE (j * 4 + i) :=
  (pk_un (by omega)).trans ((pk_un (by omega)).trans ((pk_un (by omega)).trans (pk_un (by omega))))
theorem lj_Rs {L z : Int32} {o a b eF eS eP eE eV : Nat → Int32} {k : Nat} {F S P V : Int32} {r : Nat → Int32} (hr : lj_z r) (h : lj_Y L z o a b (nI k) F S P V r) : lj_R L z o a b (upd eF k F) (upd eS k S) (upd eP k P) (lj_e4 eE k r) (upd eV k V) k := by
  refine ⟨r, hr, lj_e4s, ?_⟩
  rw [pk_us, pk_us, pk_us, pk_us]
  exact h
theorem lj_Rn {L z : Int32} {o a b eF eS eP eE eV : Nat → Int32} {k j : Nat} {F S P V : Int32} {r : Nat → Int32} (hj : j ≠ k) (h : lj_R L z o a b eF eS eP eE eV j) : lj_R L z o a b (upd eF k F) (upd eS k S) (upd eP k P) (lj_e4 eE k r) (upd eV k V) j := by
  obtain ⟨q, hq, hE, hY⟩ := h
  refine ⟨q, hq, fun i hi => (lj_e4n hj hi).trans (hE i hi), ?_⟩
  rw [pk_un hj, pk_un hj, pk_un hj, pk_un hj]
  exact hY
theorem lj_all {l s : Nat} {o a b : Nat → Int32} (hl : l ≤ 40) (hs : s ≤ 12) (hI : ∀ p, p < s → lj_I (o p) (a p) (b p)) (kp : Int32) (kF kV : Nat → Int32) (post : SX → Prop)
    (H : ∀ w eF eS eP eE eV : Nat → Int32, lj_z w → (∀ k, k < 64 → lj_R (nI l) (nI s) o a b eF eS eP eE eV k) → post (nI l, nI s, kp, o, a, b, w, eF, eS, eP, eE, eV, kF, kV)) :
    ∀ (d k : Nat) (w eF eS eP eE eV : Nat → Int32), k + d = 64 → lj_z w → (∀ j, j < k → lj_R (nI l) (nI s) o a b eF eS eP eE eV j) → wX_runAll_2 post (d + 1) (nI k) (nI l) (nI s) kp o a b w eF eS eP eE eV kF kV := by
  intro d
  induction d with
  | zero =>
    intro k w eF eS eP eE eV hk hw hR
    exact br_t (nI_le (a := 64) (by omega) (by omega)) (H w eF eS eP eE eV hw (fun j hj => hR j (by omega)))
  | succ d ih =>
    intro k w eF eS eP eE eV hk hw hR
    obtain ⟨F, S, P, V, r, hr, hY, hX⟩ := lj_run hl hs hI k (by omega)
    refine br_f (nI_ge (b := 64) (by omega) (by omega)) (hX kp w eF eS eP eE eV kF kV _ hw (nm_r (nI_1 k) (ih (k + 1) r _ _ _ _ _ (by omega) hr ?_)))
    intro j hj
    by_cases e : j = k
    · subst e
      exact lj_Rs hr hY
    · exact lj_Rn e (hR j (by omega))
theorem lj_runAll {l s : Nat} {o a b : Nat → Int32} (hl : l ≤ 40) (hs : s ≤ 12) (hI : ∀ p, p < s → lj_I (o p) (a p) (b p)) {kp : Int32} {w eF eS eP eE eV kF kV : Nat → Int32} {post : SX → Prop} (hw : lj_z w)
    (H : ∀ w eF eS eP eE eV : Nat → Int32, lj_z w → (∀ k, k < 64 → lj_R (nI l) (nI s) o a b eF eS eP eE eV k) → post (nI l, nI s, kp, o, a, b, w, eF, eS, eP, eE, eV, kF, kV)) : wpX_runAll post (nI l, nI s, kp, o, a, b, w, eF, eS, eP, eE, eV, kF, kV) :=
  ⟨65, lj_all hl hs hI kp kF kV post H 64 0 w eF eS eP eE eV rfl hw (fun j hj => absurd hj (by omega))⟩
end
section
/-- one program, one record of what was kept; what X has stored is what the reference's runs give -/
def i_Rel (_ : Nat) (u : SX) (v : SY) : Prop :=
  ∃ (l s : Nat) (kp ps dn en vi : Int32) (o a b w eF eS eP eE eV kF kV rg : Nat → Int32), u = (nI l, nI s, kp, o, a, b, w, eF, eS, eP, eE, eV, kF, kV) ∧ v = (nI l, nI s, kp, ps, dn, en, vi, o, a, b, kF, kV, rg) ∧
    l ≤ 40 ∧ s ≤ 12 ∧ (∀ p, p < s → lj_I (o p) (a p) (b p)) ∧ lj_z w ∧ lj_z rg ∧ (∀ k, k < 64 → lj_R (nI l) (nI s) o a b eF eS eP eE eV k)
theorem lj_mk (n l s : Nat) {kp ps dn en vi : Int32} {o a b w eF eS eP eE eV kF kV rg : Nat → Int32} (hl : l ≤ 40) (hs : s ≤ 12) (hI : ∀ p, p < s → lj_I (o p) (a p) (b p)) (hw : lj_z w) (hr : lj_z rg) (hR : ∀ k, k < 64 → lj_R (nI l) (nI s) o a b eF eS eP eE eV k) :
    i_Rel n (nI l, nI s, kp, o, a, b, w, eF, eS, eP, eE, eV, kF, kV) (nI l, nI s, kp, ps, dn, en, vi, o, a, b, kF, kV, rg) :=
  ⟨l, s, kp, ps, dn, en, vi, o, a, b, w, eF, eS, eP, eE, eV, kF, kV, rg, rfl, rfl, hl, hs, hI, hw, hr, hR⟩
theorem i_up {k : Nat} {u : SX} {v : SY} (h : i_Rel k u v) : i_Rel (k + 5) u v := h
theorem i_vc0 (k0 : Int32) : wpX_init (fun u => wpY_init (fun v => i_Rel 1 u v) k0) k0 := by
  by_cases h1 : 1 ≤ k0
  · by_cases h40 : k0 ≤ 40
    · obtain ⟨l, hl, rfl⟩ := nI_of2 (x := k0) (M := 40) (n := 40) (by decide) (fun h => absurd (Int32.lt_of_lt_of_le h (by decide : (0 : Int32) ≤ 1)) (Int32.not_lt.mpr h1)) h40
      refine br_t h1 (br_t h40 ?_)
      refine lj_runAll (s := 0) hl (by omega) (fun p hp => absurd hp (by omega)) lj_z0 (fun w eF eS eP eE eV hw hR => br_t h1 (br_t h40 (lj_mk 1 l 0 hl (by omega) (fun p hp => absurd hp (by omega)) hw lj_z0 hR)))
    · refine br_t h1 (br_f h40 ?_)
      refine lj_runAll (l := 40) (s := 0) (by omega) (by omega) (fun p hp => absurd hp (by omega)) lj_z0 (fun w eF eS eP eE eV hw hR => br_t h1 (br_f h40 (lj_mk 1 40 0 (by omega) (by omega) (fun p hp => absurd hp (by omega)) hw lj_z0 hR)))
  · refine br_f h1 ?_
    refine lj_runAll (l := 1) (s := 0) (by omega) (by omega) (fun p hp => absurd hp (by omega)) lj_z0 (fun w eF eS eP eE eV hw hR => br_f h1 (lj_mk 1 1 0 (by omega) (by omega) (fun p hp => absurd hp (by omega)) hw lj_z0 hR))
/-- a number, as both sides ask for its range -/
theorem lj_cs (x : Int32) (n : Nat) (hn : n < 2 ^ 30) : x < 0 ∨ (¬ x < 0 ∧ nI (n + 1) ≤ x ∧ ¬ x < nI (n + 1) ∧ nI n < x ∧ ¬ x ≤ nI n) ∨ (¬ x < 0 ∧ ¬ nI (n + 1) ≤ x ∧ x < nI (n + 1) ∧ ¬ nI n < x ∧ x ≤ nI n ∧ ∃ j : Nat, j ≤ n ∧ x = nI j) := by
  by_cases h : x < 0
  · exact Or.inl h
  · obtain ⟨j, hj, rfl⟩ := nI_of h
    by_cases h2 : j ≤ n
    · exact Or.inr (Or.inr ⟨h, nI_ge (by omega) (by omega), nI_lt (by omega) (by omega), nI_nlt h2 (by omega), nI_le h2 (by omega), j, h2, rfl⟩)
    · exact Or.inr (Or.inl ⟨h, nI_le (by omega) (by omega), nI_nlt (by omega) (by omega), nI_lt (by omega) (by omega), nI_ge (by omega) (by omega)⟩)
/-- fitsB against complaint's end, with the greatest b -/
theorem lj_b (b : Int32) (n : Nat) (hn : n < 2 ^ 30) : ∃ c : Int32, (c = 0 ∨ c = 1) ∧
    (∀ post : Int32 → Prop, post c → (b < 0 → post 0) ∧ (¬ b < 0 → ((nI n < b → post 0) ∧ (¬ nI n < b → post 1)))) ∧
    (∀ post : Int32 → Prop, post c → (b < 0 → post 0) ∧ (¬ b < 0 → ((nI (n + 1) ≤ b → post 0) ∧ (¬ nI (n + 1) ≤ b → post 1)))) ∧
    (∀ post : Int32 → Prop, post (if c = 0 then -4 else 0) → (b < 0 → post (-4)) ∧ (¬ b < 0 → ((b ≤ nI n → post 0) ∧ (¬ b ≤ nI n → post (-4))))) ∧
    (¬ c = 0 → ∃ j : Nat, j ≤ n ∧ b = nI j) := by
  rcases lj_cs b n hn with h | ⟨h, h1, h2, h3, h4⟩ | ⟨h, h1, h2, h3, h4, h5⟩
  · exact ⟨0, Or.inl rfl, fun _ H => br_t h H, fun _ H => br_t h H, fun _ H => br_t h H, fun z => absurd rfl z⟩
  · exact ⟨0, Or.inl rfl, fun _ H => br_f h (br_t h3 H), fun _ H => br_f h (br_t h1 H), fun _ H => br_f h (br_f h4 H), fun z => absurd rfl z⟩
  · exact ⟨1, Or.inr rfl, fun _ H => br_f h (br_f h3 H), fun _ H => br_f h (br_f h1 H), fun _ H => br_f h (br_t h4 H), fun _ => h5⟩
/-- X's refusal and the reference's complaint are one number; 0 only for an instruction -/
def lj_Q (op a b c : Int32) : Prop := (∀ post : Int32 → Prop, post c → wpX_refusalOf post op a b) ∧ (∀ (v : SY) (post : Int32 → Prop), post c → wpY_complaint post v op a b) ∧ (c = 0 → lj_I op a b)
theorem lj_if {c : Int32} {post : Int32 → Prop} (hc : c = 0 ∨ c = 1) (H : post (if c = 0 then -4 else 0)) : (c = 0 → post (-4)) ∧ (¬ c = 0 → post 0) := by
  rcases hc with rfl | rfl
  · exact br_t rfl H
  · exact br_f (by decide) H
theorem lj_if0 {c : Int32} (hc : c = 0 ∨ c = 1) (h : (if c = 0 then (-4 : Int32) else 0) = 0) : ¬ c = 0 := by
  rcases hc with rfl | rfl
  · exact absurd h (by decide)
  · decide
theorem lj_01 {c : Int32} {post : Int32 → Prop} (hc : c = 0 ∨ c = 1) (H : post c) : (c = 0 → post 0) ∧ (¬ c = 0 → post 1) := by
  rcases hc with rfl | rfl
  · exact br_t rfl H
  · exact br_f (by decide) H
theorem lj_ref (op a b : Int32) : ∃ c : Int32, lj_Q op a b c := by
  rcases lj_cs op 11 (by omega) with h | ⟨h, h1, h2, h3, h4⟩ | ⟨h, h1, h2, h3, h4, i, hi, ei⟩
  · exact ⟨-2, fun _ H => br_t h H, fun ⟨_, _, _, _, _, _, _, _, _, _, _, _, _⟩ _ H => br_t h H, fun z => absurd z (by decide)⟩
  · exact ⟨-2, fun _ H => br_f h (br_f h4 H), fun ⟨_, _, _, _, _, _, _, _, _, _, _, _, _⟩ _ H => br_f h (br_f h4 H), fun z => absurd z (by decide)⟩
  rcases lj_cs a 3 (by omega) with g | ⟨g, g1, g2, g3, g4⟩ | ⟨g, g1, g2, g3, g4, q, hq, eq⟩
  · exact ⟨-3, fun _ H => br_f h (br_t h4 (br_t g (br_t rfl H))), fun ⟨_, _, _, _, _, _, _, _, _, _, _, _, _⟩ _ H => br_f h (br_t h4 (br_t g H)), fun z => absurd z (by decide)⟩
  · exact ⟨-3, fun _ H => br_f h (br_t h4 (br_f g (br_t g1 (br_t rfl H)))), fun ⟨_, _, _, _, _, _, _, _, _, _, _, _, _⟩ _ H => br_f h (br_t h4 (br_f g (br_f g4 H))), fun z => absurd z (by decide)⟩
  subst ei
  have hcs : i = 0 ∨ i = 1 ∨ i = 2 ∨ i = 3 ∨ i = 4 ∨ i = 5 ∨ i = 6 ∨ i = 7 ∨ i = 8 ∨ i = 9 ∨ i = 10 ∨ i = 11 := by omega
  rcases hcs with rfl | rfl | rfl | rfl | rfl | rfl | rfl | rfl | rfl | rfl | rfl | rfl
  · obtain ⟨c, hc, f1, f2, f3, f4⟩ := lj_b b 15 (by omega)
    exact ⟨if c = 0 then -4 else 0, fun post H => br_f h (br_t h4 (br_f g (br_f g1 (br_f (by decide) (br_t rfl (f1 (fun r => (r = 0 → post (-4)) ∧ (¬ r = 0 → post 0)) (lj_if hc H))))))), fun ⟨_, _, _, _, _, _, _, _, _, _, _, _, _⟩ post H => br_f h (br_t h4 (br_f g (br_t g4 (br_t (by decide) (br_t rfl (f3 _ H)))))), fun z => ⟨0, q, hi, rfl, by omega, eq, fun z1 z8 => absurd (And.intro z1 z8) (by decide), fun z9 => absurd z9 (by decide)⟩⟩
  · obtain ⟨c, hc, f1, f2, f3, f4⟩ := lj_b b 3 (by omega)
    exact ⟨if c = 0 then -4 else 0, fun post H => br_f h (br_t h4 (br_f g (br_f g1 (br_f (by decide) (br_f (by decide) (br_f (by decide) (br_f (by decide) (br_f (by decide) (br_f (by decide) (f2 (fun r => (r = 0 → ((fun r => (r = 0 → post (-4)) ∧ (¬ r = 0 → post 0))) 0) ∧ (¬ r = 0 → ((fun r => (r = 0 → post (-4)) ∧ (¬ r = 0 → post 0))) 1)) (lj_01 (post := (fun r => (r = 0 → post (-4)) ∧ (¬ r = 0 → post 0))) hc (lj_if hc H)))))))))))), fun ⟨_, _, _, _, _, _, _, _, _, _, _, _, _⟩ post H => br_f h (br_t h4 (br_f g (br_t g4 (br_t (by decide) (br_f (by decide) (br_f (by decide) (f3 _ H))))))), fun z => ⟨1, q, hi, rfl, by omega, eq, fun _ _ => (f4 (lj_if0 hc z)).elim (fun j hj => ⟨j, by omega, hj.2⟩), fun z9 => absurd z9 (by decide)⟩⟩
  · obtain ⟨c, hc, f1, f2, f3, f4⟩ := lj_b b 3 (by omega)
    exact ⟨if c = 0 then -4 else 0, fun post H => br_f h (br_t h4 (br_f g (br_f g1 (br_f (by decide) (br_f (by decide) (br_f (by decide) (br_f (by decide) (br_f (by decide) (br_f (by decide) (f2 (fun r => (r = 0 → ((fun r => (r = 0 → post (-4)) ∧ (¬ r = 0 → post 0))) 0) ∧ (¬ r = 0 → ((fun r => (r = 0 → post (-4)) ∧ (¬ r = 0 → post 0))) 1)) (lj_01 (post := (fun r => (r = 0 → post (-4)) ∧ (¬ r = 0 → post 0))) hc (lj_if hc H)))))))))))), fun ⟨_, _, _, _, _, _, _, _, _, _, _, _, _⟩ post H => br_f h (br_t h4 (br_f g (br_t g4 (br_t (by decide) (br_f (by decide) (br_f (by decide) (f3 _ H))))))), fun z => ⟨2, q, hi, rfl, by omega, eq, fun _ _ => (f4 (lj_if0 hc z)).elim (fun j hj => ⟨j, by omega, hj.2⟩), fun z9 => absurd z9 (by decide)⟩⟩
  · obtain ⟨c, hc, f1, f2, f3, f4⟩ := lj_b b 3 (by omega)
    exact ⟨if c = 0 then -4 else 0, fun post H => br_f h (br_t h4 (br_f g (br_f g1 (br_f (by decide) (br_f (by decide) (br_f (by decide) (br_f (by decide) (br_f (by decide) (br_f (by decide) (f2 (fun r => (r = 0 → ((fun r => (r = 0 → post (-4)) ∧ (¬ r = 0 → post 0))) 0) ∧ (¬ r = 0 → ((fun r => (r = 0 → post (-4)) ∧ (¬ r = 0 → post 0))) 1)) (lj_01 (post := (fun r => (r = 0 → post (-4)) ∧ (¬ r = 0 → post 0))) hc (lj_if hc H)))))))))))), fun ⟨_, _, _, _, _, _, _, _, _, _, _, _, _⟩ post H => br_f h (br_t h4 (br_f g (br_t g4 (br_t (by decide) (br_f (by decide) (br_f (by decide) (f3 _ H))))))), fun z => ⟨3, q, hi, rfl, by omega, eq, fun _ _ => (f4 (lj_if0 hc z)).elim (fun j hj => ⟨j, by omega, hj.2⟩), fun z9 => absurd z9 (by decide)⟩⟩
  · obtain ⟨c, hc, f1, f2, f3, f4⟩ := lj_b b 3 (by omega)
    exact ⟨if c = 0 then -4 else 0, fun post H => br_f h (br_t h4 (br_f g (br_f g1 (br_f (by decide) (br_f (by decide) (br_f (by decide) (br_f (by decide) (br_f (by decide) (br_f (by decide) (f2 (fun r => (r = 0 → ((fun r => (r = 0 → post (-4)) ∧ (¬ r = 0 → post 0))) 0) ∧ (¬ r = 0 → ((fun r => (r = 0 → post (-4)) ∧ (¬ r = 0 → post 0))) 1)) (lj_01 (post := (fun r => (r = 0 → post (-4)) ∧ (¬ r = 0 → post 0))) hc (lj_if hc H)))))))))))), fun ⟨_, _, _, _, _, _, _, _, _, _, _, _, _⟩ post H => br_f h (br_t h4 (br_f g (br_t g4 (br_t (by decide) (br_f (by decide) (br_f (by decide) (f3 _ H))))))), fun z => ⟨4, q, hi, rfl, by omega, eq, fun _ _ => (f4 (lj_if0 hc z)).elim (fun j hj => ⟨j, by omega, hj.2⟩), fun z9 => absurd z9 (by decide)⟩⟩
  · obtain ⟨c, hc, f1, f2, f3, f4⟩ := lj_b b 3 (by omega)
    exact ⟨if c = 0 then -4 else 0, fun post H => br_f h (br_t h4 (br_f g (br_f g1 (br_f (by decide) (br_f (by decide) (br_f (by decide) (br_f (by decide) (br_f (by decide) (br_f (by decide) (f2 (fun r => (r = 0 → ((fun r => (r = 0 → post (-4)) ∧ (¬ r = 0 → post 0))) 0) ∧ (¬ r = 0 → ((fun r => (r = 0 → post (-4)) ∧ (¬ r = 0 → post 0))) 1)) (lj_01 (post := (fun r => (r = 0 → post (-4)) ∧ (¬ r = 0 → post 0))) hc (lj_if hc H)))))))))))), fun ⟨_, _, _, _, _, _, _, _, _, _, _, _, _⟩ post H => br_f h (br_t h4 (br_f g (br_t g4 (br_t (by decide) (br_f (by decide) (br_f (by decide) (f3 _ H))))))), fun z => ⟨5, q, hi, rfl, by omega, eq, fun _ _ => (f4 (lj_if0 hc z)).elim (fun j hj => ⟨j, by omega, hj.2⟩), fun z9 => absurd z9 (by decide)⟩⟩
  · obtain ⟨c, hc, f1, f2, f3, f4⟩ := lj_b b 3 (by omega)
    exact ⟨if c = 0 then -4 else 0, fun post H => br_f h (br_t h4 (br_f g (br_f g1 (br_f (by decide) (br_f (by decide) (br_f (by decide) (br_f (by decide) (br_f (by decide) (br_f (by decide) (f2 (fun r => (r = 0 → ((fun r => (r = 0 → post (-4)) ∧ (¬ r = 0 → post 0))) 0) ∧ (¬ r = 0 → ((fun r => (r = 0 → post (-4)) ∧ (¬ r = 0 → post 0))) 1)) (lj_01 (post := (fun r => (r = 0 → post (-4)) ∧ (¬ r = 0 → post 0))) hc (lj_if hc H)))))))))))), fun ⟨_, _, _, _, _, _, _, _, _, _, _, _, _⟩ post H => br_f h (br_t h4 (br_f g (br_t g4 (br_t (by decide) (br_f (by decide) (br_f (by decide) (f3 _ H))))))), fun z => ⟨6, q, hi, rfl, by omega, eq, fun _ _ => (f4 (lj_if0 hc z)).elim (fun j hj => ⟨j, by omega, hj.2⟩), fun z9 => absurd z9 (by decide)⟩⟩
  · obtain ⟨c, hc, f1, f2, f3, f4⟩ := lj_b b 3 (by omega)
    exact ⟨if c = 0 then -4 else 0, fun post H => br_f h (br_t h4 (br_f g (br_f g1 (br_f (by decide) (br_f (by decide) (br_f (by decide) (br_f (by decide) (br_f (by decide) (br_f (by decide) (f2 (fun r => (r = 0 → ((fun r => (r = 0 → post (-4)) ∧ (¬ r = 0 → post 0))) 0) ∧ (¬ r = 0 → ((fun r => (r = 0 → post (-4)) ∧ (¬ r = 0 → post 0))) 1)) (lj_01 (post := (fun r => (r = 0 → post (-4)) ∧ (¬ r = 0 → post 0))) hc (lj_if hc H)))))))))))), fun ⟨_, _, _, _, _, _, _, _, _, _, _, _, _⟩ post H => br_f h (br_t h4 (br_f g (br_t g4 (br_t (by decide) (br_f (by decide) (br_f (by decide) (f3 _ H))))))), fun z => ⟨7, q, hi, rfl, by omega, eq, fun _ _ => (f4 (lj_if0 hc z)).elim (fun j hj => ⟨j, by omega, hj.2⟩), fun z9 => absurd z9 (by decide)⟩⟩
  · obtain ⟨c, hc, f1, f2, f3, f4⟩ := lj_b b 3 (by omega)
    exact ⟨if c = 0 then -4 else 0, fun post H => br_f h (br_t h4 (br_f g (br_f g1 (br_f (by decide) (br_f (by decide) (br_f (by decide) (br_f (by decide) (br_f (by decide) (br_f (by decide) (f2 (fun r => (r = 0 → ((fun r => (r = 0 → post (-4)) ∧ (¬ r = 0 → post 0))) 0) ∧ (¬ r = 0 → ((fun r => (r = 0 → post (-4)) ∧ (¬ r = 0 → post 0))) 1)) (lj_01 (post := (fun r => (r = 0 → post (-4)) ∧ (¬ r = 0 → post 0))) hc (lj_if hc H)))))))))))), fun ⟨_, _, _, _, _, _, _, _, _, _, _, _, _⟩ post H => br_f h (br_t h4 (br_f g (br_t g4 (br_t (by decide) (br_f (by decide) (br_f (by decide) (f3 _ H))))))), fun z => ⟨8, q, hi, rfl, by omega, eq, fun _ _ => (f4 (lj_if0 hc z)).elim (fun j hj => ⟨j, by omega, hj.2⟩), fun z9 => absurd z9 (by decide)⟩⟩
  · obtain ⟨c, hc, f1, f2, f3, f4⟩ := lj_b b 12 (by omega)
    exact ⟨if c = 0 then -4 else 0, fun post H => br_f h (br_t h4 (br_f g (br_f g1 (br_f (by decide) (br_f (by decide) (br_t rfl (f1 (fun r => (r = 0 → post (-4)) ∧ (¬ r = 0 → post 0)) (lj_if hc H)))))))), fun ⟨_, _, _, _, _, _, _, _, _, _, _, _, _⟩ post H => br_f h (br_t h4 (br_f g (br_t g4 (br_t (by decide) (br_f (by decide) (br_t rfl (f3 _ H))))))), fun z => ⟨9, q, hi, rfl, by omega, eq, fun z1 z8 => absurd (And.intro z1 z8) (by decide), fun _ => f4 (lj_if0 hc z)⟩⟩
  · exact ⟨0, fun post H => br_f h (br_t h4 (br_f g (br_f g1 (br_f (by decide) (br_f (by decide) (br_f (by decide) (br_f (by decide) (br_t (by decide) (br_t rfl (br_f (by decide) H)))))))))), fun ⟨_, _, _, _, _, _, _, _, _, _, _, _, _⟩ post H => br_f h (br_t h4 (br_f g (br_t g4 (br_f (by decide) H)))), fun z => ⟨10, q, hi, rfl, by omega, eq, fun z1 z8 => absurd (And.intro z1 z8) (by decide), fun z9 => absurd z9 (by decide)⟩⟩
  · exact ⟨0, fun post H => br_f h (br_t h4 (br_f g (br_f g1 (br_f (by decide) (br_f (by decide) (br_f (by decide) (br_f (by decide) (br_t (by decide) (br_t rfl (br_f (by decide) H)))))))))), fun ⟨_, _, _, _, _, _, _, _, _, _, _, _, _⟩ post H => br_f h (br_t h4 (br_f g (br_t g4 (br_f (by decide) H)))), fun z => ⟨11, q, hi, rfl, by omega, eq, fun z1 z8 => absurd (And.intro z1 z8) (by decide), fun z9 => absurd z9 (by decide)⟩⟩
/-- both sides lay one instruction at p; X runs all inputs anew -/
theorem lj_put {l s p : Nat} {o a b : Nat → Int32} {op x y : Int32} (hI : ∀ p, p < s → lj_I (o p) (a p) (b p)) (h : lj_I op x y) {s2 : Nat} (hp : ∀ j, j < s2 → j = p ∨ j < s) : ∀ j, j < s2 → lj_I (upd o p op j) (upd a p x j) (upd b p y j) := by
  intro j hj
  by_cases e : j = p
  · rw [e, pk_us, pk_us, pk_us]; exact h
  · rw [pk_un e, pk_un e, pk_un e]; exact hI j ((hp j hj).resolve_left e)
theorem lx_place {l s p : Nat} (hp : p < 12) {kp : Int32} {o a b w eF eS eP eE eV kF kV : Nat → Int32} {op x y : Int32} {post : SX → Prop} (hl : l ≤ 40) (hs : s ≤ 12) (hI : ∀ j, j < s → lj_I (upd o p op j) (upd a p x j) (upd b p y j)) (hw : lj_z w)
    (H : ∀ w eF eS eP eE eV : Nat → Int32, lj_z w → (∀ k, k < 64 → lj_R (nI l) (nI s) (upd o p op) (upd a p x) (upd b p y) eF eS eP eE eV k) → post (nI l, nI s, kp, upd o p op, upd a p x, upd b p y, w, eF, eS, eP, eE, eV, kF, kV)) : wpX_place post (nI l, nI s, kp, o, a, b, w, eF, eS, eP, eE, eV, kF, kV) (nI p) op x y := by
  have hi : vp_in (nI p) 12 := vp_in_nI hp (by decide)
  have hc : (nI p).toNatClampNeg = p := nI_clamp (by omega)
  exact ⟨hi, nm_r (by rw [hc]) ⟨hi, nm_r (by rw [hc]) ⟨hi, nm_r (by rw [hc]) (lj_runAll hl hs hI hw H)⟩⟩⟩
theorem ly_put {p : Nat} (hp : p < 12) {L z kp ps dn en vi : Int32} {o a b kF kV rg : Nat → Int32} {op x y : Int32} {post : SY → Prop} (H : post (L, z, kp, ps, dn, en, vi, upd o p op, upd a p x, upd b p y, kF, kV, rg)) : wpY_put post (L, z, kp, ps, dn, en, vi, o, a, b, kF, kV, rg) (nI p) op x y := by
  have hi : vp_in (nI p) 12 := vp_in_nI hp (by decide)
  have hc : (nI p).toNatClampNeg = p := nI_clamp (by omega)
  exact ⟨hi, nm_r (by rw [hc]) ⟨hi, nm_r (by rw [hc]) ⟨hi, nm_r (by rw [hc]) H⟩⟩⟩
theorem i_vc_emit {k : Nat} {u : SX} {v : SY} (I : i_Rel k u v) (hk : k + 5 ≤ 2561) (v1 : Int32) (v2 : Int32) (v3 : Int32) : wpX_emit (fun r u' => wpY_emit (fun r' v' => r' = r ∧ i_Rel (k + 5) u' v') v v1 v2 v3) u v1 v2 v3 := by
  have I0 := I
  obtain ⟨l, s, kp, ps, dn, en, vi, o, a, b, w, eF, eS, eP, eE, eV, kF, kV, rg, rfl, rfl, hl, hs, hI, hw, hr, hR⟩ := I
  by_cases h12 : s < 12
  · have hc : nI s < 12 := nI_lt (b := 12) h12 (by omega)
    obtain ⟨c, hX, hY, hQ⟩ := lj_ref v1 v2 v3
    by_cases z : c = 0
    · have hI2 := lj_put (l := l) (p := s) (s2 := s + 1) hI (hQ z) (fun j hj => by omega)
      refine br_t hc (hX _ (br_t z (nm_r (nI_1 s) (lx_place h12 hl (by omega) hI2 hw (fun w eF eS eP eE eV hw hR => ?_)))))
      exact br_t hc (hY _ _ (br_t z (ly_put h12 (nm_r (nI_1 s) ⟨nI_pred s, lj_mk (k + 5) l (s + 1) hl (by omega) hI2 hw hr hR⟩))))
    · exact br_t hc (hX _ (br_f z (br_t hc (hY _ _ (br_f z ⟨rfl, I0⟩)))))
  · have hc : ¬ nI s < 12 := nI_nlt (b := 12) (by omega) (by omega)
    exact br_f hc (br_f hc ⟨rfl, I0⟩)
theorem i_vc_patch {k : Nat} {u : SX} {v : SY} (I : i_Rel k u v) (hk : k + 5 ≤ 2561) (v1 : Int32) (v2 : Int32) (v3 : Int32) (v4 : Int32) : wpX_patch (fun r u' => wpY_patch (fun r' v' => r' = r ∧ i_Rel (k + 5) u' v') v v1 v2 v3 v4) u v1 v2 v3 v4 := by
  have I0 := I
  obtain ⟨l, s, kp, ps, dn, en, vi, o, a, b, w, eF, eS, eP, eE, eV, kF, kV, rg, rfl, rfl, hl, hs, hI, hw, hr, hR⟩ := I
  rcases pk_ix v1 (n := s) (by omega) with h | h | ⟨p, hp, rfl⟩
  · exact br_t h (br_t rfl (br_t h ⟨rfl, I0⟩))
  · have h0 : ¬ v1 < 0 := Int32.not_lt.mpr (Int32.le_trans (nI_pos' (by omega)) h)
    exact br_f h0 (br_t h (br_t rfl (br_f h0 (br_f (Int32.not_lt.mpr h) ⟨rfl, I0⟩))))
  · have h0 : ¬ nI p < 0 := nI_pos (by omega)
    have h1 : ¬ nI s ≤ nI p := nI_ge hp (by omega)
    have h2 : nI p < nI s := nI_lt hp (by omega)
    have hp12 : p < 12 := by omega
    obtain ⟨c, hX, hY, hQ⟩ := lj_ref v2 v3 v4
    by_cases z : c = 0
    · have hI2 := lj_put (l := l) (p := p) (s2 := s) hI (hQ z) (fun j hj => Or.inr hj)
      refine br_f h0 (br_f h1 (br_f (by decide) (hX _ (br_t z (lx_place hp12 hl (by omega) hI2 hw (fun w eF eS eP eE eV hw hR => ?_))))))
      exact br_f h0 (br_t h2 (hY _ _ (br_t z (ly_put hp12 ⟨rfl, lj_mk (k + 5) l s hl hs hI2 hw hr hR⟩))))
    · exact br_f h0 (br_f h1 (br_f (by decide) (hX _ (br_f z (br_f h0 (br_t h2 (hY _ _ (br_f z ⟨rfl, I0⟩))))))))
theorem i_vc_clear {k : Nat} {u : SX} {v : SY} (I : i_Rel k u v) (hk : k + 5 ≤ 2561) : wpX_clear (fun u' => wpY_clear (fun v' => i_Rel (k + 5) u' v') v) u := by
  obtain ⟨l, s, kp, ps, dn, en, vi, o, a, b, w, eF, eS, eP, eE, eV, kF, kV, rg, rfl, rfl, hl, hs, hI, hw, hr, hR⟩ := I
  have hI2 : ∀ p, p < 0 → lj_I (o p) (a p) (b p) := fun p hp => absurd hp (by omega)
  exact lj_runAll (s := 0) hl (by omega) hI2 hw (fun w eF eS eP eE eV hw hR => lj_mk (k + 5) l 0 hl (by omega) hI2 hw hr hR)
theorem i_vc_length {k : Nat} {u : SX} {v : SY} (I : i_Rel k u v) (hk : k + 5 ≤ 2561) : wpX_length (fun r => wpY_length (fun r' => r' = r ∧ i_Rel (k + 5) u v) v) u := by
  have I0 := I
  obtain ⟨l, s, kp, ps, dn, en, vi, o, a, b, w, eF, eS, eP, eE, eV, kF, kV, rg, rfl, rfl, hl, hs, hI, hw, hr, hR⟩ := I
  exact ⟨rfl, I0⟩
end
section
theorem ly_run {L z : Int32} {o a b eF eS eP eE eV : Nat → Int32} {k : Nat} (h : lj_R L z o a b eF eS eP eE eV k) {kp ps dn en vi : Int32} {kF kV rg : Nat → Int32} (hr : lj_z rg) {post : SY → Prop}
    (H : ∀ r : Nat → Int32, lj_z r → (∀ i, i < 4 → eE (k * 4 + i) = r i) → post (L, z, kp, eP k, eS k, eF k, eV k, o, a, b, kF, kV, r)) : wpY_run post (L, z, kp, ps, dn, en, vi, o, a, b, kF, kV, rg) (nI k) := by
  obtain ⟨r, hz, hE, hY⟩ := h
  exact hY kp ps dn en vi kF kV rg post hr (H r hz hE)
theorem lx_val {k i : Nat} (hk : k < 64) (hi : i < 4) {L z kp : Int32} {o a b w eF eS eP eE eV kF kV : Nat → Int32} {post : Int32 → Prop} (H : post (eE (k * 4 + i))) : wpX_endValue post (L, z, kp, o, a, b, w, eF, eS, eP, eE, eV, kF, kV) (nI k) (nI i) := by
  refine ⟨?_, ?_⟩
  · rw [lj_ix]; exact vp_in_nI (by omega) (by decide)
  · rw [lj_ix, nI_clamp (by omega)]; exact H
theorem ly_reg {L z : Int32} {o a b eF eS eP eE eV : Nat → Int32} {k i : Nat} (h : lj_R L z o a b eF eS eP eE eV k) (hk : k < 64) (hi : i < 4) {kp ps dn en vi : Int32} {kF kV rg : Nat → Int32} (hr : lj_z rg) {post : Int32 → SY → Prop}
    (H : ∀ (ps dn en vi : Int32) (rg : Nat → Int32), lj_z rg → post (eE (k * 4 + i)) (L, z, kp, ps, dn, en, vi, o, a, b, kF, kV, rg)) : wpY_register post (L, z, kp, ps, dn, en, vi, o, a, b, kF, kV, rg) (nI k) (nI i) := by
  refine br_f (nI_pos (by omega)) (br_f (nI_nlt (a := 63) (by omega) (by omega)) (br_f (by decide) (br_f (nI_pos (by omega)) (br_t (nI_le (b := 3) (by omega) (by omega)) (ly_run h hr (fun r hz hE => ⟨vp_in_nI hi (by decide), ?_⟩))))))
  rw [nI_clamp (by omega), ← hE i hi]
  exact H _ _ _ _ r hz
theorem i_vc_fate {k : Nat} {u : SX} {v : SY} (I : i_Rel k u v) (hk : k + 5 ≤ 2561) (v1 : Int32) : wpX_fate (fun r => wpY_fate (fun r' v' => r' = r ∧ i_Rel (k + 5) u v') v v1) u v1 := by
  have I0 := I
  obtain ⟨l, s, kp, ps, dn, en, vi, o, a, b, w, eF, eS, eP, eE, eV, kF, kV, rg, rfl, rfl, hl, hs, hI, hw, hr, hR⟩ := I
  rcases lj_cs v1 63 (by omega) with h | ⟨h, h1, h2, h3, h4⟩ | ⟨h, h1, h2, h3, h4, j, hj, rfl⟩
  · exact br_t h (br_t rfl (br_t h (br_t rfl ⟨rfl, I0⟩)))
  · exact br_f h (br_t h1 (br_t rfl (br_f h (br_t h3 (br_t rfl ⟨rfl, I0⟩)))))
  · exact br_f h (br_f h1 (br_f (by decide) ⟨vp_in_nI (by omega) (by decide), br_f h (br_f h3 (br_f (by decide) (ly_run (hR j (by omega)) hr (fun r hz hE => ⟨by rw [nI_clamp (by omega)], lj_mk (k + 5) l s hl hs hI hw hz hR⟩))))⟩))
theorem i_vc_steps {k : Nat} {u : SX} {v : SY} (I : i_Rel k u v) (hk : k + 5 ≤ 2561) (v1 : Int32) : wpX_steps (fun r => wpY_steps (fun r' v' => r' = r ∧ i_Rel (k + 5) u v') v v1) u v1 := by
  have I0 := I
  obtain ⟨l, s, kp, ps, dn, en, vi, o, a, b, w, eF, eS, eP, eE, eV, kF, kV, rg, rfl, rfl, hl, hs, hI, hw, hr, hR⟩ := I
  rcases lj_cs v1 63 (by omega) with h | ⟨h, h1, h2, h3, h4⟩ | ⟨h, h1, h2, h3, h4, j, hj, rfl⟩
  · exact br_t h (br_t rfl (br_t h (br_t rfl ⟨rfl, I0⟩)))
  · exact br_f h (br_t h1 (br_t rfl (br_f h (br_t h3 (br_t rfl ⟨rfl, I0⟩)))))
  · exact br_f h (br_f h1 (br_f (by decide) ⟨vp_in_nI (by omega) (by decide), br_f h (br_f h3 (br_f (by decide) (ly_run (hR j (by omega)) hr (fun r hz hE => ⟨by rw [nI_clamp (by omega)], lj_mk (k + 5) l s hl hs hI hw hz hR⟩))))⟩))
theorem i_vc_endAt {k : Nat} {u : SX} {v : SY} (I : i_Rel k u v) (hk : k + 5 ≤ 2561) (v1 : Int32) : wpX_endAt (fun r => wpY_endAt (fun r' v' => r' = r ∧ i_Rel (k + 5) u v') v v1) u v1 := by
  have I0 := I
  obtain ⟨l, s, kp, ps, dn, en, vi, o, a, b, w, eF, eS, eP, eE, eV, kF, kV, rg, rfl, rfl, hl, hs, hI, hw, hr, hR⟩ := I
  rcases lj_cs v1 63 (by omega) with h | ⟨h, h1, h2, h3, h4⟩ | ⟨h, h1, h2, h3, h4, j, hj, rfl⟩
  · exact br_t h (br_t rfl (br_t h (br_t rfl ⟨rfl, I0⟩)))
  · exact br_f h (br_t h1 (br_t rfl (br_f h (br_t h3 (br_t rfl ⟨rfl, I0⟩)))))
  · exact br_f h (br_f h1 (br_f (by decide) ⟨vp_in_nI (by omega) (by decide), br_f h (br_f h3 (br_f (by decide) (ly_run (hR j (by omega)) hr (fun r hz hE => ⟨by rw [nI_clamp (by omega)], lj_mk (k + 5) l s hl hs hI hw hz hR⟩))))⟩))
theorem i_vc_register {k : Nat} {u : SX} {v : SY} (I : i_Rel k u v) (hk : k + 5 ≤ 2561) (v1 : Int32) (v2 : Int32) : wpX_register (fun r => wpY_register (fun r' v' => r' = r ∧ i_Rel (k + 5) u v') v v1 v2) u v1 v2 := by
  have I0 := I
  obtain ⟨l, s, kp, ps, dn, en, vi, o, a, b, w, eF, eS, eP, eE, eV, kF, kV, rg, rfl, rfl, hl, hs, hI, hw, hr, hR⟩ := I
  rcases lj_cs v1 63 (by omega) with h | ⟨h, h1, h2, h3, h4⟩ | ⟨h, h1, h2, h3, h4, j, hj, rfl⟩
  · exact br_t h (br_t rfl (br_t h (br_t rfl ⟨rfl, I0⟩)))
  · exact br_f h (br_t h1 (br_t rfl (br_f h (br_t h3 (br_t rfl ⟨rfl, I0⟩)))))
  · rcases lj_cs v2 3 (by omega) with g | ⟨g, g1, g2, g3, g4⟩ | ⟨g, g1, g2, g3, g4, i, hi, rfl⟩
    · exact br_f h (br_f h1 (br_f (by decide) (br_t g (br_t rfl (br_f h (br_f h3 (br_f (by decide) (br_t g ⟨rfl, I0⟩))))))))
    · exact br_f h (br_f h1 (br_f (by decide) (br_f g (br_t g1 (br_t rfl (br_f h (br_f h3 (br_f (by decide) (br_f g (br_f g4 ⟨rfl, I0⟩))))))))))
    · exact br_f h (br_f h1 (br_f (by decide) (br_f g (br_f g1 (br_f (by decide) (lx_val (by omega) (by omega) (ly_reg (hR j (by omega)) (by omega) (by omega) hr (fun _ _ _ _ r hz => ⟨rfl, lj_mk (k + 5) l s hl hs hI hw hz hR⟩))))))))
theorem lj_count (x1 : Int32) {L z kp : Int32} {o a b w eF eS eP eE eV kF kV : Nat → Int32} (hR : ∀ k, k < 64 → lj_R L z o a b eF eS eP eE eV k) : ∀ (d j : Nat) (c : Int32), j + d = 64 → ∃ r : Int32,
    (∀ post : Int32 → Prop, post r → wX_count_4 post x1 L z kp o a b w eF eS eP eE eV kF kV (d + 1) c (nI j)) ∧
    (∀ (post : Int32 → SY → Prop), (∀ (ps dn en vi : Int32) (rg : Nat → Int32), lj_z rg → post r (L, z, kp, ps, dn, en, vi, o, a, b, kF, kV, rg)) → ∀ (ps dn en vi : Int32) (rg : Nat → Int32), lj_z rg → wY_count_4 post x1 (d + 1) c (nI j) L z kp ps dn en vi o a b kF kV rg) := by
  intro d
  induction d with
  | zero =>
    intro j c hj
    have h : (64 : Int32) ≤ nI j := nI_le (a := 64) (by omega) (by omega)
    exact ⟨c, fun _ H => br_t h H, fun _ H ps dn en vi rg hr => br_t h (H ps dn en vi rg hr)⟩
  | succ d ih =>
    intro j c hj
    have h : ¬ (64 : Int32) ≤ nI j := nI_ge (b := 64) (by omega) (by omega)
    have hi : vp_in (nI j) 64 := vp_in_nI (by omega) (by decide)
    have hc : (nI j).toNatClampNeg = j := nI_clamp (by omega)
    by_cases e : eF j = x1
    · obtain ⟨r, hX, hY⟩ := ih (j + 1) (c + 1) (by omega)
      exact ⟨r, fun post H => br_f h ⟨hi, br_t (by rw [hc]; exact e) (nm_e (nm_r (nI_1 j) (hX post H)))⟩, fun post H ps dn en vi rg hr => br_f h (ly_run (hR j (by omega)) hr (fun r hz hE => br_t e (nm_e (nm_r (nI_1 j) (hY post H _ _ _ _ r hz)))))⟩
    · obtain ⟨r, hX, hY⟩ := ih (j + 1) c (by omega)
      exact ⟨r, fun post H => br_f h ⟨hi, br_f (by rw [hc]; exact e) (nm_r (nI_1 j) (hX post H))⟩, fun post H ps dn en vi rg hr => br_f h (ly_run (hR j (by omega)) hr (fun r hz hE => br_f e (nm_r (nI_1 j) (hY post H _ _ _ _ r hz))))⟩
theorem i_vc_count {k : Nat} {u : SX} {v : SY} (I : i_Rel k u v) (hk : k + 5 ≤ 2561) (v1 : Int32) : wpX_count (fun r => wpY_count (fun r' v' => r' = r ∧ i_Rel (k + 5) u v') v v1) u v1 := by
  obtain ⟨l, s, kp, ps, dn, en, vi, o, a, b, w, eF, eS, eP, eE, eV, kF, kV, rg, rfl, rfl, hl, hs, hI, hw, hr, hR⟩ := I
  obtain ⟨r, hX, hY⟩ := lj_count v1 (kp := kp) (w := w) (kF := kF) (kV := kV) hR 64 0 0 rfl
  exact ⟨65, hX _ ⟨65, hY _ (fun _ _ _ _ _ hz => ⟨rfl, lj_mk (k + 5) l s hl hs hI hw hz hR⟩) ps dn en vi rg hr⟩⟩
theorem lj_first (x1 : Int32) {L z kp : Int32} {o a b w eF eS eP eE eV kF kV : Nat → Int32} (hR : ∀ k, k < 64 → lj_R L z o a b eF eS eP eE eV k) : ∀ (d j : Nat), j + d = 64 → ∃ r : Int32,
    (∀ post : Int32 → Prop, post r → wX_first_2 post x1 L z kp o a b w eF eS eP eE eV kF kV (d + 1) (nI j)) ∧
    (∀ (post : Int32 → SY → Prop), (∀ (ps dn en vi : Int32) (rg : Nat → Int32), lj_z rg → post r (L, z, kp, ps, dn, en, vi, o, a, b, kF, kV, rg)) → ∀ (ps dn en vi : Int32) (rg : Nat → Int32), lj_z rg → wY_first_2 post x1 (d + 1) (nI j) L z kp ps dn en vi o a b kF kV rg) := by
  intro d
  induction d with
  | zero =>
    intro j hj
    have h : (64 : Int32) ≤ nI j := nI_le (a := 64) (by omega) (by omega)
    exact ⟨-1, fun _ H => br_t h H, fun _ H ps dn en vi rg hr => br_t h (H ps dn en vi rg hr)⟩
  | succ d ih =>
    intro j hj
    have h : ¬ (64 : Int32) ≤ nI j := nI_ge (b := 64) (by omega) (by omega)
    have hi : vp_in (nI j) 64 := vp_in_nI (by omega) (by decide)
    have hc : (nI j).toNatClampNeg = j := nI_clamp (by omega)
    by_cases e : eF j = x1
    · exact ⟨nI j, fun post H => br_f h ⟨hi, br_t (by rw [hc]; exact e) H⟩, fun post H ps dn en vi rg hr => br_f h (ly_run (hR j (by omega)) hr (fun r hz hE => br_t e (H _ _ _ _ r hz)))⟩
    · obtain ⟨r, hX, hY⟩ := ih (j + 1) (by omega)
      exact ⟨r, fun post H => br_f h ⟨hi, br_f (by rw [hc]; exact e) (nm_r (nI_1 j) (hX post H))⟩, fun post H ps dn en vi rg hr => br_f h (ly_run (hR j (by omega)) hr (fun r hz hE => br_f e (nm_r (nI_1 j) (hY post H _ _ _ _ r hz))))⟩
theorem i_vc_first {k : Nat} {u : SX} {v : SY} (I : i_Rel k u v) (hk : k + 5 ≤ 2561) (v1 : Int32) : wpX_first (fun r => wpY_first (fun r' v' => r' = r ∧ i_Rel (k + 5) u v') v v1) u v1 := by
  obtain ⟨l, s, kp, ps, dn, en, vi, o, a, b, w, eF, eS, eP, eE, eV, kF, kV, rg, rfl, rfl, hl, hs, hI, hw, hr, hR⟩ := I
  obtain ⟨r, hX, hY⟩ := lj_first v1 (kp := kp) (w := w) (kF := kF) (kV := kV) hR 64 0 rfl
  exact ⟨65, hX _ ⟨65, hY _ (fun _ _ _ _ _ hz => ⟨rfl, lj_mk (k + 5) l s hl hs hI hw hz hR⟩) ps dn en vi rg hr⟩⟩
theorem lj_visits (x1 : Int32) {L z kp : Int32} {o a b w eF eS eP eE eV kF kV : Nat → Int32} (hR : ∀ k, k < 64 → lj_R L z o a b eF eS eP eE eV k) : ∀ (d j : Nat) (c : Int32), j + d = 64 → ∃ r : Int32,
    (∀ post : Int32 → Prop, post r → wX_visits_14 post x1 L z kp o a b w eF eS eP eE eV kF kV (d + 1) c (nI j)) ∧
    (∀ (post : Int32 → SY → Prop), (∀ (ps dn en vi : Int32) (rg : Nat → Int32), lj_z rg → post r (L, z, kp, ps, dn, en, vi, o, a, b, kF, kV, rg)) → ∀ (ps dn en vi : Int32) (rg : Nat → Int32), lj_z rg → wY_visits_16 post x1 (d + 1) c (nI j) L z kp ps dn en vi o a b kF kV rg) := by
  intro d
  induction d with
  | zero =>
    intro j c hj
    have h : (64 : Int32) ≤ nI j := nI_le (a := 64) (by omega) (by omega)
    exact ⟨c, fun _ H => br_t h H, fun _ H ps dn en vi rg hr => br_t h (H ps dn en vi rg hr)⟩
  | succ d ih =>
    intro j c hj
    have h : ¬ (64 : Int32) ≤ nI j := nI_ge (b := 64) (by omega) (by omega)
    have hi : vp_in (nI j) 64 := vp_in_nI (by omega) (by decide)
    have hc : (nI j).toNatClampNeg = j := nI_clamp (by omega)
    obtain ⟨r, hX, hY⟩ := ih (j + 1) (c + ((eV j >>> (x1 &&& 31)) &&& 1)) (by omega)
    exact ⟨r, fun post H => br_f h ⟨hi, nm_r (by rw [hc]) (nm_r (nI_1 j) (hX post H))⟩, fun post H ps dn en vi rg hr => br_f h (ly_run (hR j (by omega)) hr (fun r hz hE => nm_e (nm_r (nI_1 j) (hY post H _ _ _ _ r hz))))⟩
theorem i_vc_visits {k : Nat} {u : SX} {v : SY} (I : i_Rel k u v) (hk : k + 5 ≤ 2561) (v1 : Int32) : wpX_visits (fun r => wpY_visits (fun r' v' => r' = r ∧ i_Rel (k + 5) u v') v v1) u v1 := by
  have I0 := I
  obtain ⟨l, s, kp, ps, dn, en, vi, o, a, b, w, eF, eS, eP, eE, eV, kF, kV, rg, rfl, rfl, hl, hs, hI, hw, hr, hR⟩ := I
  by_cases h : v1 < 0
  · exact br_t h (br_t rfl (br_t h ⟨rfl, I0⟩))
  · by_cases g : nI s ≤ v1
    · exact br_f h (br_t g (br_t rfl (br_f h (br_t g ⟨rfl, I0⟩))))
    · obtain ⟨r, hX, hY⟩ := lj_visits v1 (kp := kp) (w := w) (kF := kF) (kV := kV) hR 64 0 0 rfl
      exact br_f h (br_f g (br_f (by decide) ⟨65, hX _ (br_f h (br_f g ⟨65, hY _ (fun _ _ _ _ _ hz => ⟨rfl, lj_mk (k + 5) l s hl hs hI hw hz hR⟩) ps dn en vi rg hr⟩))⟩))
theorem lj_always {i : Nat} (hi : i < 4) (x2 : Int32) {L z kp : Int32} {o a b w eF eS eP eE eV kF kV : Nat → Int32} (hR : ∀ k, k < 64 → lj_R L z o a b eF eS eP eE eV k) : ∀ (d j : Nat), j + d = 64 → ∃ r : Int32,
    (∀ post : Int32 → Prop, post r → wX_always_18 post (nI i) x2 L z kp o a b w eF eS eP eE eV kF kV (d + 1) (nI j)) ∧
    (∀ (post : Int32 → SY → Prop), (∀ (ps dn en vi : Int32) (rg : Nat → Int32), lj_z rg → post r (L, z, kp, ps, dn, en, vi, o, a, b, kF, kV, rg)) → ∀ (ps dn en vi : Int32) (rg : Nat → Int32), lj_z rg → wY_always_9 post (nI i) x2 (d + 1) (nI j) L z kp ps dn en vi o a b kF kV rg) := by
  intro d
  induction d with
  | zero =>
    intro j hj
    have h : (64 : Int32) ≤ nI j := nI_le (a := 64) (by omega) (by omega)
    exact ⟨x2, fun _ H => br_t h H, fun _ H ps dn en vi rg hr => br_t h (H ps dn en vi rg hr)⟩
  | succ d ih =>
    intro j hj
    have h : ¬ (64 : Int32) ≤ nI j := nI_ge (b := 64) (by omega) (by omega)
    by_cases e : eE (j * 4 + i) = x2
    · obtain ⟨r, hX, hY⟩ := ih (j + 1) (by omega)
      exact ⟨r, fun post H => br_f h (lx_val (by omega) hi (br_t e (nm_r (nI_1 j) (hX post H)))), fun post H ps dn en vi rg hr => br_f h (ly_reg (hR j (by omega)) (by omega) hi hr (fun _ _ _ _ r hz => br_t e (nm_r (nI_1 j) (hY post H _ _ _ _ r hz))))⟩
    · exact ⟨-1, fun post H => br_f h (lx_val (by omega) hi (br_f e H)), fun post H ps dn en vi rg hr => br_f h (ly_reg (hR j (by omega)) (by omega) hi hr (fun _ _ _ _ r hz => br_f e (H _ _ _ _ r hz)))⟩
/-- no such register: the reference answers -1 at every input -/
theorem ly_reg0 {i : Int32} (hi : i < 0 ∨ (¬ i < 0 ∧ ¬ i ≤ 3)) {j : Nat} (hj : j < 64) {L z kp ps dn en vi : Int32} {o a b kF kV rg : Nat → Int32} {post : Int32 → SY → Prop} (H : post (-1) (L, z, kp, ps, dn, en, vi, o, a, b, kF, kV, rg)) : wpY_register post (L, z, kp, ps, dn, en, vi, o, a, b, kF, kV, rg) (nI j) i := by
  refine br_f (nI_pos (by omega)) (br_f (nI_nlt (a := 63) (by omega) (by omega)) (br_f (by decide) ?_))
  rcases hi with h | ⟨h, g⟩
  · exact br_t h H
  · exact br_f h (br_f g H)
theorem ly_always0 {i : Int32} (hi : i < 0 ∨ (¬ i < 0 ∧ ¬ i ≤ 3)) {L z kp ps dn en vi : Int32} {o a b kF kV rg : Nat → Int32} {post : Int32 → SY → Prop} (H : post (-1) (L, z, kp, ps, dn, en, vi, o, a, b, kF, kV, rg)) : ∀ (d j : Nat), j + d = 64 → wY_always_9 post i (-1) (d + 1) (nI j) L z kp ps dn en vi o a b kF kV rg := by
  intro d
  induction d with
  | zero =>
    intro j hj
    exact br_t (nI_le (a := 64) (by omega) (by omega)) H
  | succ d ih =>
    intro j hj
    exact br_f (nI_ge (b := 64) (by omega) (by omega)) (ly_reg0 hi (by omega) (br_t rfl (nm_r (nI_1 j) (ih (j + 1) (by omega)))))
theorem ly_alwaysI {i : Int32} (hi : i < 0 ∨ (¬ i < 0 ∧ ¬ i ≤ 3)) {L z kp ps dn en vi : Int32} {o a b kF kV rg : Nat → Int32} {post : Int32 → SY → Prop} (H : post (-1) (L, z, kp, ps, dn, en, vi, o, a, b, kF, kV, rg)) : wpY_always post (L, z, kp, ps, dn, en, vi, o, a, b, kF, kV, rg) i := by
  unfold wpY_always
  dsimp only
  refine ly_reg0 (j := 0) hi (by omega) ?_
  exact ⟨64, ly_always0 hi H 63 1 rfl⟩
theorem ly_alwaysV {L z : Int32} {o a b eF eS eP eE eV : Nat → Int32} {i : Nat} (h : lj_R L z o a b eF eS eP eE eV 0) (hi : i < 4) {kp ps dn en vi : Int32} {kF kV rg : Nat → Int32} (hr : lj_z rg) {post : Int32 → SY → Prop}
    (H : ∀ (ps dn en vi : Int32) (rg : Nat → Int32), lj_z rg → wY_always_9 post (nI i) (eE (0 * 4 + i)) 64 (nI 1) L z kp ps dn en vi o a b kF kV rg) : wpY_always post (L, z, kp, ps, dn, en, vi, o, a, b, kF, kV, rg) (nI i) := by
  unfold wpY_always
  dsimp only
  refine ly_reg (k := 0) h (by omega) hi hr (fun ps dn en vi rg hr => ?_)
  exact ⟨64, H ps dn en vi rg hr⟩
theorem i_vc_always {k : Nat} {u : SX} {v : SY} (I : i_Rel k u v) (hk : k + 5 ≤ 2561) (v1 : Int32) : wpX_always (fun r => wpY_always (fun r' v' => r' = r ∧ i_Rel (k + 5) u v') v v1) u v1 := by
  have I0 := I
  obtain ⟨l, s, kp, ps, dn, en, vi, o, a, b, w, eF, eS, eP, eE, eV, kF, kV, rg, rfl, rfl, hl, hs, hI, hw, hr, hR⟩ := I
  rcases lj_cs v1 3 (by omega) with g | ⟨g, g1, g2, g3, g4⟩ | ⟨g, g1, g2, g3, g4, i, hi, rfl⟩
  · exact br_t g (br_t rfl (ly_alwaysI (Or.inl g) ⟨rfl, I0⟩))
  · exact br_f g (br_t g1 (br_t rfl (ly_alwaysI (Or.inr ⟨g, g4⟩) ⟨rfl, I0⟩)))
  · obtain ⟨r, hX, hY⟩ := lj_always (i := i) (by omega) (eE (0 * 4 + i)) (kp := kp) (w := w) (kF := kF) (kV := kV) hR 63 1 rfl
    exact br_f g (br_f g1 (br_f (by decide) (lx_val (k := 0) (by omega) (by omega) ⟨64, hX _ (ly_alwaysV (hR 0 (by omega)) (by omega) hr (fun ps dn en vi rg hr => hY _ (fun _ _ _ _ _ hz => ⟨rfl, lj_mk (k + 5) l s hl hs hI hw hz hR⟩) ps dn en vi rg hr))⟩)))
end
section
/-- X's mask and the reference's shift ask for one bit -/
theorem lj_bit : ∀ t : Nat, t < 6 → ∀ j : Nat, j < 64 → (((nI j >>> (nI t &&& 31)) &&& 1 = 0 ∧ nI j &&& ((1 : Int32) <<< (nI t &&& 31)) = 0 ∧ nI j + ((1 : Int32) <<< (nI t &&& 31)) = nI (j + 2 ^ t) ∧ j + 2 ^ t < 64) ∨ (¬ (nI j >>> (nI t &&& 31)) &&& 1 = 0 ∧ ¬ nI j &&& ((1 : Int32) <<< (nI t &&& 31)) = 0)) := by
  decide +kernel
theorem lj_depends {i t : Nat} (hi : i < 4) (ht : t < 6) {L z kp : Int32} {o a b w eF eS eP eE eV kF kV : Nat → Int32} (hR : ∀ k, k < 64 → lj_R L z o a b eF eS eP eE eV k) : ∀ (d j : Nat) (c : Int32), j + d = 64 → ∃ r : Int32,
    (∀ post : Int32 → Prop, post r → wX_depends_29 post (nI i) ((1 : Int32) <<< (nI t &&& 31)) L z kp o a b w eF eS eP eE eV kF kV (d + 1) c (nI j)) ∧
    (∀ (post : Int32 → SY → Prop), (∀ (ps dn en vi : Int32) (rg : Nat → Int32), lj_z rg → post r (L, z, kp, ps, dn, en, vi, o, a, b, kF, kV, rg)) → ∀ (ps dn en vi : Int32) (rg : Nat → Int32), lj_z rg → wY_depends_25 post (nI i) (nI t) (d + 1) c (nI j) L z kp ps dn en vi o a b kF kV rg) := by
  intro d
  induction d with
  | zero =>
    intro j c hj
    have h : (64 : Int32) ≤ nI j := nI_le (a := 64) (by omega) (by omega)
    exact ⟨c, fun _ H => br_t h H, fun _ H ps dn en vi rg hr => br_t h (H ps dn en vi rg hr)⟩
  | succ d ih =>
    intro j c hj
    have h : ¬ (64 : Int32) ≤ nI j := nI_ge (b := 64) (by omega) (by omega)
    rcases lj_bit t ht j (by omega) with ⟨b1, b2, b3, b4⟩ | ⟨b1, b2⟩
    · by_cases e : eE (j * 4 + i) = eE ((j + 2 ^ t) * 4 + i)
      · obtain ⟨r, hX, hY⟩ := ih (j + 1) c (by omega)
        refine ⟨r, fun post H => br_f h (br_t b2 (lx_val (by omega) hi ?_)), fun post H ps dn en vi rg hr => br_f h (br_t b1 (ly_reg (hR j (by omega)) (by omega) hi hr (fun ps dn en vi rg hr => ?_)))⟩
        · rw [b3]
          exact lx_val b4 hi (br_t e (nm_r (nI_1 j) (hX post H)))
        · rw [b3]
          exact ly_reg (hR _ b4) b4 hi hr (fun ps dn en vi rg hr => br_t e (nm_r (Int32.add_zero c) (nm_r (nI_1 j) (hY post H ps dn en vi rg hr))))
      · obtain ⟨r, hX, hY⟩ := ih (j + 1) (c + 1) (by omega)
        refine ⟨r, fun post H => br_f h (br_t b2 (lx_val (by omega) hi ?_)), fun post H ps dn en vi rg hr => br_f h (br_t b1 (ly_reg (hR j (by omega)) (by omega) hi hr (fun ps dn en vi rg hr => ?_)))⟩
        · rw [b3]
          exact lx_val b4 hi (br_f e (nm_e (nm_r (nI_1 j) (hX post H))))
        · rw [b3]
          exact ly_reg (hR _ b4) b4 hi hr (fun ps dn en vi rg hr => br_f e (nm_e (nm_r (nI_1 j) (hY post H ps dn en vi rg hr))))
    · obtain ⟨r, hX, hY⟩ := ih (j + 1) c (by omega)
      exact ⟨r, fun post H => br_f h (br_f b2 (nm_r (nI_1 j) (hX post H))), fun post H ps dn en vi rg hr => br_f h (br_f b1 (nm_r (nI_1 j) (hY post H ps dn en vi rg hr)))⟩
theorem i_vc_depends {k : Nat} {u : SX} {v : SY} (I : i_Rel k u v) (hk : k + 5 ≤ 2561) (v1 : Int32) (v2 : Int32) : wpX_depends (fun r => wpY_depends (fun r' v' => r' = r ∧ i_Rel (k + 5) u v') v v1 v2) u v1 v2 := by
  have I0 := I
  obtain ⟨l, s, kp, ps, dn, en, vi, o, a, b, w, eF, eS, eP, eE, eV, kF, kV, rg, rfl, rfl, hl, hs, hI, hw, hr, hR⟩ := I
  rcases lj_cs v1 3 (by omega) with g | ⟨g, g1, g2, g3, g4⟩ | ⟨g, g1, g2, g3, g4, i, hi, rfl⟩
  · exact br_t g (br_t rfl (br_t g ⟨rfl, I0⟩))
  · exact br_f g (br_t g1 (br_t rfl (br_f g (br_t g3 ⟨rfl, I0⟩))))
  · rcases lj_cs v2 5 (by omega) with f | ⟨f, f1, f2, f3, f4⟩ | ⟨f, f1, f2, f3, f4, t, ht, rfl⟩
    · exact br_f g (br_f g1 (br_f (by decide) (br_t f (br_f g (br_f g3 (br_t f ⟨rfl, I0⟩))))))
    · exact br_f g (br_f g1 (br_f (by decide) (br_f f (br_f f2 (br_f g (br_f g3 (br_f f (br_f f4 ⟨rfl, I0⟩))))))))
    · obtain ⟨r, hX, hY⟩ := lj_depends (i := i) (t := t) (by omega) (by omega) (kp := kp) (w := w) (kF := kF) (kV := kV) hR 64 0 0 rfl
      exact br_f g (br_f g1 (br_f (by decide) (br_f f (br_t f2 (nm_e ⟨65, hX _ (br_f g (br_f g3 (br_f f (br_t f4 ⟨65, hY _ (fun _ _ _ _ _ hz => ⟨rfl, lj_mk (k + 5) l s hl hs hI hw hz hR⟩) ps dn en vi rg hr⟩))))⟩)))))
theorem lj_keep {L z kp : Int32} {o a b w eF eS eP eE eV : Nat → Int32} (hR : ∀ k, k < 64 → lj_R L z o a b eF eS eP eE eV k) : ∀ (d j : Nat) (kF kV : Nat → Int32), j + d = 64 → ∃ kF' kV' : Nat → Int32,
    (∀ post : SX → Prop, post (L, z, 1, o, a, b, w, eF, eS, eP, eE, eV, kF', kV') → wX_keep_2 post L z kp (d + 1) (nI j) o a b w eF eS eP eE eV kF kV) ∧
    (∀ (post : SY → Prop), (∀ (ps dn en vi : Int32) (rg : Nat → Int32), lj_z rg → post (L, z, 1, ps, dn, en, vi, o, a, b, kF', kV', rg)) → ∀ (ps dn en vi : Int32) (rg : Nat → Int32), lj_z rg → wY_keep_7 post (d + 1) (nI j) L z 1 ps dn en vi o a b kF kV rg) := by
  intro d
  induction d with
  | zero =>
    intro j kF kV hj
    have h : (64 : Int32) ≤ nI j := nI_le (a := 64) (by omega) (by omega)
    exact ⟨kF, kV, fun _ H => br_t h H, fun _ H ps dn en vi rg hr => br_t h (H ps dn en vi rg hr)⟩
  | succ d ih =>
    intro j kF kV hj
    have h : ¬ (64 : Int32) ≤ nI j := nI_ge (b := 64) (by omega) (by omega)
    have hi : vp_in (nI j) 64 := vp_in_nI (by omega) (by decide)
    have hc : (nI j).toNatClampNeg = j := nI_clamp (by omega)
    obtain ⟨kF', kV', hX, hY⟩ := ih (j + 1) (upd kF j (eF j)) (upd kV j (eE (j * 4 + 0))) (by omega)
    refine ⟨kF', kV', fun post H => br_f h ⟨hi, hi, nm_r (by rw [hc]) (lx_val (i := 0) (by omega) (by omega) ⟨hi, nm_r (by rw [hc]) (nm_r (nI_1 j) (hX post H))⟩)⟩, fun post H ps dn en vi rg hr => br_f h (ly_run (hR j (by omega)) hr (fun r hz hE => ⟨hi, nm_r (by rw [hc]) ⟨hi, nm_r (by rw [hc, ← hE 0 (by omega)]) (nm_r (nI_1 j) (hY post H _ _ _ _ r hz))⟩⟩))⟩
theorem i_vc_keep {k : Nat} {u : SX} {v : SY} (I : i_Rel k u v) (hk : k + 5 ≤ 2561) : wpX_keep (fun u' => wpY_keep (fun v' => i_Rel (k + 5) u' v') v) u := by
  obtain ⟨l, s, kp, ps, dn, en, vi, o, a, b, w, eF, eS, eP, eE, eV, kF, kV, rg, rfl, rfl, hl, hs, hI, hw, hr, hR⟩ := I
  obtain ⟨kF', kV', hX, hY⟩ := lj_keep (kp := kp) (w := w) hR 64 0 kF kV rfl
  exact ⟨65, hX _ ⟨65, hY _ (fun _ _ _ _ _ hz => lj_mk (k + 5) l s hl hs hI hw hz hR) ps dn en vi rg hr⟩⟩
/-- the two agree on whether the run on input k agrees with what was kept -/
theorem lj_agr {L z kp : Int32} {o a b w eF eS eP eE eV kF kV : Nat → Int32} {j : Nat} (hj : j < 64) (hR : lj_R L z o a b eF eS eP eE eV j) : ∃ c : Int32,
    (∀ post : Int32 → Prop, post c → wpX_agreesOn post (L, z, kp, o, a, b, w, eF, eS, eP, eE, eV, kF, kV) (nI j)) ∧
    (∀ (post : Int32 → SY → Prop) (ps dn en vi : Int32) (rg : Nat → Int32), lj_z rg → (∀ (ps dn en vi : Int32) (rg : Nat → Int32), lj_z rg → post c (L, z, kp, ps, dn, en, vi, o, a, b, kF, kV, rg)) → wpY_agrees post (L, z, kp, ps, dn, en, vi, o, a, b, kF, kV, rg) (nI j)) := by
  have hi : vp_in (nI j) 64 := vp_in_nI hj (by decide)
  have hc : (nI j).toNatClampNeg = j := nI_clamp (by omega)
  by_cases e : eF j = kF j
  · by_cases e0 : eF j = 0
    · by_cases ev : eE (j * 4 + 0) = kV j
      · refine ⟨1, fun post H => ⟨hi, hi, br_t (by rw [hc]; exact e) ⟨hi, br_t (by rw [hc, ← e]; exact e0) (lx_val (i := 0) hj (by omega) ⟨hi, br_t (by rw [hc]; exact ev) H⟩)⟩⟩, fun post ps dn en vi rg hr H => ?_⟩
        unfold wpY_agrees
        dsimp only
        refine ly_run hR hr (fun r hz hE => ?_)
        exact ⟨hi, br_t (by rw [hc]; exact e) (br_t e0 ⟨hi, br_t (by rw [hc]; exact (hE 0 (by omega)).symm.trans ev) (H _ _ _ _ r hz)⟩)⟩
      · refine ⟨0, fun post H => ⟨hi, hi, br_t (by rw [hc]; exact e) ⟨hi, br_t (by rw [hc, ← e]; exact e0) (lx_val (i := 0) hj (by omega) ⟨hi, br_f (by rw [hc]; exact ev) H⟩)⟩⟩, fun post ps dn en vi rg hr H => ?_⟩
        unfold wpY_agrees
        dsimp only
        refine ly_run hR hr (fun r hz hE => ?_)
        exact ⟨hi, br_t (by rw [hc]; exact e) (br_t e0 ⟨hi, br_f (by rw [hc]; exact fun q => ev ((hE 0 (by omega)).trans q)) (H _ _ _ _ r hz)⟩)⟩
    · refine ⟨1, fun post H => ⟨hi, hi, br_t (by rw [hc]; exact e) ⟨hi, br_f (by rw [hc, ← e]; exact e0) H⟩⟩, fun post ps dn en vi rg hr H => ?_⟩
      unfold wpY_agrees
      dsimp only
      refine ly_run hR hr (fun r hz hE => ?_)
      exact ⟨hi, br_t (by rw [hc]; exact e) (br_f e0 (H _ _ _ _ r hz))⟩
  · refine ⟨0, fun post H => ⟨hi, hi, br_f (by rw [hc]; exact e) H⟩, fun post ps dn en vi rg hr H => ?_⟩
    unfold wpY_agrees
    dsimp only
    refine ly_run hR hr (fun r hz hE => ?_)
    exact ⟨hi, br_f (by rw [hc]; exact e) (H _ _ _ _ r hz)⟩
theorem lj_agreeing {L z kp : Int32} {o a b w eF eS eP eE eV kF kV : Nat → Int32} (hR : ∀ k, k < 64 → lj_R L z o a b eF eS eP eE eV k) : ∀ (d j : Nat) (c : Int32), j + d = 64 → ∃ r : Int32,
    (∀ post : Int32 → Prop, post r → wX_agreeing_13 post L z kp o a b w eF eS eP eE eV kF kV (d + 1) c (nI j)) ∧
    (∀ (post : Int32 → SY → Prop), (∀ (ps dn en vi : Int32) (rg : Nat → Int32), lj_z rg → post r (L, z, kp, ps, dn, en, vi, o, a, b, kF, kV, rg)) → ∀ (ps dn en vi : Int32) (rg : Nat → Int32), lj_z rg → wY_agreeing_13 post (d + 1) c (nI j) L z kp ps dn en vi o a b kF kV rg) := by
  intro d
  induction d with
  | zero =>
    intro j c hj
    have h : (64 : Int32) ≤ nI j := nI_le (a := 64) (by omega) (by omega)
    exact ⟨c, fun _ H => br_t h H, fun _ H ps dn en vi rg hr => br_t h (H ps dn en vi rg hr)⟩
  | succ d ih =>
    intro j c hj
    have h : ¬ (64 : Int32) ≤ nI j := nI_ge (b := 64) (by omega) (by omega)
    obtain ⟨q, aX, aY⟩ := lj_agr (kp := kp) (w := w) (kF := kF) (kV := kV) (show j < 64 by omega) (hR j (by omega))
    by_cases e : q = 0
    · obtain ⟨r, hX, hY⟩ := ih (j + 1) c (by omega)
      exact ⟨r, fun post H => br_f h (aX _ (br_t e (nm_r (nI_1 j) (hX post H)))), fun post H ps dn en vi rg hr => br_f h (aY _ ps dn en vi rg hr (fun ps dn en vi rg hr => br_t e (nm_r (nI_1 j) (hY post H ps dn en vi rg hr))))⟩
    · obtain ⟨r, hX, hY⟩ := ih (j + 1) (c + 1) (by omega)
      exact ⟨r, fun post H => br_f h (aX _ (br_f e (nm_e (nm_r (nI_1 j) (hX post H))))), fun post H ps dn en vi rg hr => br_f h (aY _ ps dn en vi rg hr (fun ps dn en vi rg hr => br_f e (nm_e (nm_r (nI_1 j) (hY post H ps dn en vi rg hr)))))⟩
theorem i_vc_agreeing {k : Nat} {u : SX} {v : SY} (I : i_Rel k u v) (hk : k + 5 ≤ 2561) : wpX_agreeing (fun r => wpY_agreeing (fun r' v' => r' = r ∧ i_Rel (k + 5) u v') v) u := by
  have I0 := I
  obtain ⟨l, s, kp, ps, dn, en, vi, o, a, b, w, eF, eS, eP, eE, eV, kF, kV, rg, rfl, rfl, hl, hs, hI, hw, hr, hR⟩ := I
  by_cases e : kp = 0
  · exact br_t e (br_t e ⟨rfl, I0⟩)
  · obtain ⟨r, hX, hY⟩ := lj_agreeing (kp := kp) (w := w) (kF := kF) (kV := kV) hR 64 0 0 rfl
    exact br_f e ⟨65, hX _ (br_f e ⟨65, hY _ (fun _ _ _ _ _ hz => ⟨rfl, lj_mk (k + 5) l s hl hs hI hw hz hR⟩) ps dn en vi rg hr⟩)⟩
theorem lj_difference {L z kp : Int32} {o a b w eF eS eP eE eV kF kV : Nat → Int32} (hk : ¬ kp = 0) (hR : ∀ k, k < 64 → lj_R L z o a b eF eS eP eE eV k) : ∀ (d j : Nat), j + d = 64 → ∃ r : Int32,
    (∀ post : Int32 → Prop, post r → wX_difference_11 post L z kp o a b w eF eS eP eE eV kF kV (d + 1) (nI j)) ∧
    (∀ (post : Int32 → SY → Prop), (∀ (ps dn en vi : Int32) (rg : Nat → Int32), lj_z rg → post r (L, z, kp, ps, dn, en, vi, o, a, b, kF, kV, rg)) → ∀ (ps dn en vi : Int32) (rg : Nat → Int32), lj_z rg → wY_difference_2 post (d + 1) (nI j) L z kp ps dn en vi o a b kF kV rg) := by
  intro d
  induction d with
  | zero =>
    intro j hj
    have h : (64 : Int32) ≤ nI j := nI_le (a := 64) (by omega) (by omega)
    exact ⟨-1, fun _ H => br_t h H, fun _ H ps dn en vi rg hr => br_t h (H ps dn en vi rg hr)⟩
  | succ d ih =>
    intro j hj
    have h : ¬ (64 : Int32) ≤ nI j := nI_ge (b := 64) (by omega) (by omega)
    obtain ⟨q, aX, aY⟩ := lj_agr (kp := kp) (w := w) (kF := kF) (kV := kV) (show j < 64 by omega) (hR j (by omega))
    by_cases e : q = 0
    · exact ⟨nI j, fun post H => br_f h (aX _ (br_t e H)), fun post H ps dn en vi rg hr => br_f h (br_f hk (aY _ ps dn en vi rg hr (fun ps dn en vi rg hr => br_t e (H ps dn en vi rg hr))))⟩
    · obtain ⟨r, hX, hY⟩ := ih (j + 1) (by omega)
      exact ⟨r, fun post H => br_f h (aX _ (br_f e (nm_r (nI_1 j) (hX post H)))), fun post H ps dn en vi rg hr => br_f h (br_f hk (aY _ ps dn en vi rg hr (fun ps dn en vi rg hr => br_f e (nm_r (nI_1 j) (hY post H ps dn en vi rg hr)))))⟩
theorem i_vc_difference {k : Nat} {u : SX} {v : SY} (I : i_Rel k u v) (hk : k + 5 ≤ 2561) : wpX_difference (fun r => wpY_difference (fun r' v' => r' = r ∧ i_Rel (k + 5) u v') v) u := by
  have I0 := I
  obtain ⟨l, s, kp, ps, dn, en, vi, o, a, b, w, eF, eS, eP, eE, eV, kF, kV, rg, rfl, rfl, hl, hs, hI, hw, hr, hR⟩ := I
  by_cases e : kp = 0
  · exact br_t e ⟨1, br_f (by decide) (br_t e ⟨rfl, I0⟩)⟩
  · obtain ⟨r, hX, hY⟩ := lj_difference (w := w) (kF := kF) (kV := kV) e hR 64 0 rfl
    exact br_f e ⟨65, hX _ ⟨65, hY _ (fun _ _ _ _ _ hz => ⟨rfl, lj_mk (k + 5) l s hl hs hI hw hz hR⟩) ps dn en vi rg hr⟩⟩
end
