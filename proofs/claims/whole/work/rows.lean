section
theorem pk_us {f : Nat → Int32} {k : Nat} {x : Int32} : upd f k x k = x := if_pos rfl
theorem pk_un {f : Nat → Int32} {k j : Nat} {x : Int32} (h : j ≠ k) : upd f k x j = f j := if_neg h
theorem pk_sub {a b : Nat} (h : b ≤ a) : nI a - nI b = nI (a - b) := by
  obtain ⟨c, rfl⟩ : ∃ c, a = c + b := ⟨a - b, by omega⟩
  rw [← nI_add, Int32.add_sub_cancel, Nat.add_sub_cancel]
theorem pk_mul (a b : Nat) : nI a * nI b = nI (a * b) := (Int32.ofNat_mul a b).symm
theorem pk_ix (x : Int32) {n : Nat} (hn : n < 2 ^ 31) : x < 0 ∨ nI n ≤ x ∨ ∃ j : Nat, j < n ∧ x = nI j := by
  by_cases h : x < 0
  · exact Or.inl h
  · obtain ⟨j, hj, rfl⟩ := nI_of h
    by_cases h2 : j < n
    · exact Or.inr (Or.inr ⟨j, h2, rfl⟩)
    · exact Or.inr (Or.inl (nI_le (by omega) hj))
theorem pk_le {x y : Int32} {A B : Prop} (a b : Nat) (f : a ≤ b → A) (g : b < a → B) (hx : x = nI a := by rfl) (hy : y = nI b := by rfl) (ha : a < 2 ^ 31 := by omega) (hb : b < 2 ^ 31 := by omega) : (x ≤ y → A) ∧ (¬ x ≤ y → B) := by
  subst hx hy
  rw [nI_leI ha hb]
  exact ⟨f, fun z => g (by omega)⟩
theorem pk_lt {x y : Int32} {A B : Prop} (a b : Nat) (f : a < b → A) (g : b ≤ a → B) (hx : x = nI a := by rfl) (hy : y = nI b := by rfl) (ha : a < 2 ^ 31 := by omega) (hb : b < 2 ^ 31 := by omega) : (x < y → A) ∧ (¬ x < y → B) := by
  subst hx hy
  rw [nI_ltI ha hb]
  exact ⟨f, fun z => g (by omega)⟩
theorem pk_in {x : Int32} (n N : Nat) (h : n < N) (hx : x = nI n := by rfl) (hN : N < 2 ^ 31 := by omega) : vp_in x N := by
  subst hx
  exact vp_in_nI h hN
theorem pk_cl {x : Int32} (n : Nat) (hx : x = nI n := by rfl) (h : n < 2 ^ 31 := by omega) : x.toNatClampNeg = n := by
  subst hx
  exact nI_clamp h
theorem pk_tn {n : Nat} (h : n < 2 ^ 32) : (nI n).toBitVec.toNat = n := Nat.mod_eq_of_lt h
theorem pk_and (x : Int32) {m : Int32} (k : Nat) (hm : m.toBitVec.toNat = 2 ^ k - 1) : x &&& m = nI (x.toBitVec.toNat % 2 ^ k) := by
  apply Int32.toBitVec_inj.mp
  apply BitVec.eq_of_toNat_eq
  rw [Int32.toBitVec_and, BitVec.toNat_and, hm, Nat.and_two_pow_sub_one_eq_mod]
  show _ = (BitVec.ofNat 32 _).toNat
  rw [BitVec.toNat_ofNat]
  exact (Nat.mod_eq_of_lt (Nat.lt_of_le_of_lt (Nat.mod_le _ _) x.toBitVec.isLt)).symm
theorem pk_andN {n : Nat} (h : n < 2 ^ 32) {m : Int32} (k : Nat) (hm : m.toBitVec.toNat = 2 ^ k - 1) : nI n &&& m = nI (n % 2 ^ k) := by
  rw [pk_and _ k hm, pk_tn h]
/-- a register file: nothing beyond its four cells -/
def lj_z (r : Nat → Int32) : Prop := ∀ j, 4 ≤ j → r j = 0
theorem lj_z0 : lj_z (fun _ => 0) := fun _ _ => rfl
theorem lj_zu {r : Nat → Int32} (h : lj_z r) {i : Nat} (hi : i < 4) (x : Int32) : lj_z (upd r i x) := fun j hj => by
  rw [pk_un (by omega)]; exact h j hj
/-- the registers at the beginning of a run -/
def lj_r0 (x y : Int32) : Nat → Int32 := upd (upd (upd (upd (fun _ => 0) 0 x) 1 y) 2 0) 3 0
theorem lj_r0z (x y : Int32) : lj_z (lj_r0 x y) := lj_zu (lj_zu (lj_zu (lj_zu lj_z0 (by decide) _) (by decide) _) (by decide) _) (by decide) _
theorem lj_st {w : Nat → Int32} (h : lj_z w) (x y : Int32) : upd (upd (upd (upd w 0 x) 1 y) 2 0) 3 0 = lj_r0 x y := by
  funext j
  simp only [lj_r0, upd]
  by_cases h3 : j = 3
  · simp [h3]
  · by_cases h2 : j = 2
    · simp [h2]
    · by_cases h1 : j = 1
      · simp [h1]
      · by_cases h0 : j = 0
        · simp [h0]
        · simp [h0, h1, h2, h3, h j (by omega)]
theorem lj_self (r : Nat → Int32) (i : Nat) : upd r i (r i) = r := by
  funext j
  by_cases h : j = i
  · rw [h, pk_us]
  · rw [pk_un h]
/-- an instruction as the class takes it in -/
def lj_I (o a b : Int32) : Prop := ∃ i q : Nat, i ≤ 11 ∧ o = nI i ∧ q < 4 ∧ a = nI q ∧ (1 ≤ i → i ≤ 8 → ∃ w : Nat, w < 4 ∧ b = nI w) ∧ (i = 9 → ∃ w : Nat, w ≤ 12 ∧ b = nI w)
theorem lj_a3 {q : Nat} (h : q < 4) : nI q &&& 3 = nI q := by
  rw [pk_andN (by omega) 2 (by decide), Nat.mod_eq_of_lt (by omega)]
theorem lj_ix {k i : Nat} : nI k * 4 + nI i = nI (k * 4 + i) := by
  rw [show (4 : Int32) = nI 4 from by decide, pk_mul, nI_add]
theorem lj_m1 : ¬ (0 : Int32) ≤ -1 := by decide
end
section
/-- both sides end the run with F at position p -/
def lj_E (L z : Int32) (o a b : Nat → Int32) (p : Nat) (r : Nat → Int32) (F : Int32) : Prop :=
  (∀ (kp : Int32) (eF eS eP eE eV kF kV : Nat → Int32) (post : Int32 → Prop), post F → wpX_endingAt post (L, z, kp, o, a, b, r, eF, eS, eP, eE, eV, kF, kV) (nI p)) ∧
  (∀ (kp dn vi : Int32) (kF kV : Nat → Int32) (post : SY → Prop), post (L, z, kp, nI p, dn, F, vi, o, a, b, kF, kV, r) → wpY_carryOut post (L, z, kp, nI p, dn, -1, vi, o, a, b, kF, kV, r) (o (nI p).toNatClampNeg) (a (nI p).toNatClampNeg &&& 3) (b (nI p).toNatClampNeg))
/-- both sides go on from position p to position p2 with the registers r2 -/
def lj_C (L z : Int32) (o a b : Nat → Int32) (p : Nat) (r : Nat → Int32) (p2 : Nat) (r2 : Nat → Int32) : Prop :=
  (∀ (kp : Int32) (eF eS eP eE eV kF kV : Nat → Int32) (post : Int32 → Prop), post (-1) → wpX_endingAt post (L, z, kp, o, a, b, r, eF, eS, eP, eE, eV, kF, kV) (nI p)) ∧
  (∀ (kp : Int32) (eF eS eP eE eV kF kV : Nat → Int32) (post : SX → Prop), post (L, z, kp, o, a, b, r2, eF, eS, eP, eE, eV, kF, kV) → wpX_changeRegister post (L, z, kp, o, a, b, r, eF, eS, eP, eE, eV, kF, kV) (nI p)) ∧
  (∀ (kp : Int32) (eF eS eP eE eV kF kV : Nat → Int32) (post : Int32 → Prop), post (nI p2) → wpX_nextAfter post (L, z, kp, o, a, b, r2, eF, eS, eP, eE, eV, kF, kV) (nI p)) ∧
  (∀ (kp dn vi : Int32) (kF kV : Nat → Int32) (post : SY → Prop), post (L, z, kp, nI p2, dn, -1, vi, o, a, b, kF, kV, r2) → wpY_carryOut post (L, z, kp, nI p, dn, -1, vi, o, a, b, kF, kV, r) (o (nI p).toNatClampNeg) (a (nI p).toNatClampNeg &&& 3) (b (nI p).toNatClampNeg))
def lj_v : Nat → Int32 → Int32 → Int32
  | 1 => fun _ y => y
  | 2 => fun x y => (x + y) - (x + y) / 16 * 16
  | 3 => fun x y => ((x - y) + 16) - ((x - y) + 16) / 16 * 16
  | 4 => fun x y => (x * y) - (x * y) / 16 * 16
  | 5 => fun x y => x / y
  | 6 => fun x y => x &&& y
  | 7 => fun x y => x ^^^ y
  | _ => fun x y => if y ≤ x then 0 else 1
theorem lx_r1 {x y : Int32} {post : Int32 → Prop} (h : post (lj_v 1 x y)) : wpX_resultOf post 1 x y :=
  br_f (by decide) (br_f (by decide) (br_f (by decide) (br_t rfl (h))))
theorem lx_r2 {x y : Int32} {post : Int32 → Prop} (h : post (lj_v 2 x y)) : wpX_resultOf post 2 x y :=
  br_f (by decide) (br_f (by decide) (br_f (by decide) (br_f (by decide) (br_t rfl (⟨by decide, h⟩)))))
theorem lx_r3 {x y : Int32} {post : Int32 → Prop} (h : post (lj_v 3 x y)) : wpX_resultOf post 3 x y :=
  br_f (by decide) (br_f (by decide) (br_f (by decide) (br_f (by decide) (br_f (by decide) (br_t rfl (⟨by decide, h⟩))))))
theorem lx_r4 {x y : Int32} {post : Int32 → Prop} (h : post (lj_v 4 x y)) : wpX_resultOf post 4 x y :=
  br_f (by decide) (br_f (by decide) (br_f (by decide) (br_f (by decide) (br_f (by decide) (br_f (by decide) (br_t rfl (⟨by decide, h⟩)))))))
theorem lx_r5 {x y : Int32} {post : Int32 → Prop} (hy : ¬ y = 0) (h : post (lj_v 5 x y)) : wpX_resultOf post 5 x y :=
  br_f (by decide) (br_f (by decide) (br_f (by decide) (br_f (by decide) (br_f (by decide) (br_f (by decide) (br_f (by decide) (br_t rfl (br_f hy ⟨hy, h⟩))))))))
theorem lx_r6 {x y : Int32} {post : Int32 → Prop} (h : post (lj_v 6 x y)) : wpX_resultOf post 6 x y :=
  br_f (by decide) (br_f (by decide) (br_f (by decide) (br_f (by decide) (br_f (by decide) (br_f (by decide) (br_f (by decide) (br_f (by decide) (br_t rfl (h)))))))))
theorem lx_r7 {x y : Int32} {post : Int32 → Prop} (h : post (lj_v 7 x y)) : wpX_resultOf post 7 x y :=
  br_f (by decide) (br_f (by decide) (br_f (by decide) (br_f (by decide) (br_f (by decide) (br_f (by decide) (br_f (by decide) (br_f (by decide) (br_f (by decide) (br_t rfl (h))))))))))
theorem lx_r8 {x y : Int32} {post : Int32 → Prop} (h : post (lj_v 8 x y)) : wpX_resultOf post 8 x y := by
  have h2 : post (if y ≤ x then 0 else 1) := h
  exact br_f (by decide) (br_f (by decide) (br_f (by decide) (br_f (by decide) (br_f (by decide) (br_f (by decide) (br_f (by decide) (br_f (by decide) (br_f (by decide) (br_f (by decide) (br_t rfl (br_c (fun c => by rw [if_pos c] at h2; exact h2) (fun c => by rw [if_neg c] at h2; exact h2))))))))))))
theorem ly_r1 {x y : Int32} {v : SY} {post : Int32 → Prop} (h : post (lj_v 1 x y)) : wpY_value post v 1 x y := by
  obtain ⟨L, z, kp, ps, dn, en, vi, o, a, b, kF, kV, rg⟩ := v
  exact br_t rfl h
theorem ly_r2 {x y : Int32} {v : SY} {post : Int32 → Prop} (h : post (lj_v 2 x y)) : wpY_value post v 2 x y := by
  obtain ⟨L, z, kp, ps, dn, en, vi, o, a, b, kF, kV, rg⟩ := v
  exact br_f (by decide) (br_t rfl ⟨by decide, h⟩)
theorem ly_r3 {x y : Int32} {v : SY} {post : Int32 → Prop} (h : post (lj_v 3 x y)) : wpY_value post v 3 x y := by
  obtain ⟨L, z, kp, ps, dn, en, vi, o, a, b, kF, kV, rg⟩ := v
  exact br_f (by decide) (br_f (by decide) (br_t rfl ⟨by decide, h⟩))
theorem ly_r4 {x y : Int32} {v : SY} {post : Int32 → Prop} (h : post (lj_v 4 x y)) : wpY_value post v 4 x y := by
  obtain ⟨L, z, kp, ps, dn, en, vi, o, a, b, kF, kV, rg⟩ := v
  exact br_f (by decide) (br_f (by decide) (br_f (by decide) (br_t rfl ⟨by decide, h⟩)))
theorem ly_r5 {x y : Int32} {v : SY} {post : Int32 → Prop} (hy : ¬ y = 0) (h : post (lj_v 5 x y)) : wpY_value post v 5 x y := by
  obtain ⟨L, z, kp, ps, dn, en, vi, o, a, b, kF, kV, rg⟩ := v
  exact br_f (by decide) (br_f (by decide) (br_f (by decide) (br_f (by decide) (br_t rfl (br_f hy ⟨hy, h⟩)))))
theorem ly_r6 {x y : Int32} {v : SY} {post : Int32 → Prop} (h : post (lj_v 6 x y)) : wpY_value post v 6 x y := by
  obtain ⟨L, z, kp, ps, dn, en, vi, o, a, b, kF, kV, rg⟩ := v
  exact br_f (by decide) (br_f (by decide) (br_f (by decide) (br_f (by decide) (br_f (by decide) (br_t rfl h)))))
theorem ly_r7 {x y : Int32} {v : SY} {post : Int32 → Prop} (h : post (lj_v 7 x y)) : wpY_value post v 7 x y := by
  obtain ⟨L, z, kp, ps, dn, en, vi, o, a, b, kF, kV, rg⟩ := v
  exact br_f (by decide) (br_f (by decide) (br_f (by decide) (br_f (by decide) (br_f (by decide) (br_f (by decide) (br_t rfl h))))))
theorem ly_r8 {x y : Int32} {v : SY} {post : Int32 → Prop} (h : post (lj_v 8 x y)) : wpY_value post v 8 x y := by
  obtain ⟨L, z, kp, ps, dn, en, vi, o, a, b, kF, kV, rg⟩ := v
  have h2 : post (if y ≤ x then 0 else 1) := h
  exact br_f (by decide) (br_f (by decide) (br_f (by decide) (br_f (by decide) (br_f (by decide) (br_f (by decide) (br_f (by decide) (br_c (fun c => by rw [if_pos c] at h2; exact h2) (fun c => by rw [if_neg c] at h2; exact h2))))))))
theorem lj_c0 {L z : Int32} {o a b : Nat → Int32} {p : Nat} {r : Nat → Int32} (hp : p < 12) (ha : a (nI p).toNatClampNeg &&& 3 = a (nI p).toNatClampNeg) (hA : vp_in (a (nI p).toNatClampNeg &&& 3) 4) (ho : o (nI p).toNatClampNeg = 0) : lj_C L z o a b p r (p + 1) (upd r (a (nI p).toNatClampNeg &&& 3).toNatClampNeg (b (nI p).toNatClampNeg)) := by
  refine ⟨?_, ?_, ?_, ?_⟩
  · exact fun kp eF eS eP eE eV kF kV post h => ⟨vp_in_nI hp (by decide), nm_r ho (br_f (by decide) (br_f (by decide) (br_f (by decide) h)))⟩
  · exact fun kp eF eS eP eE eV kF kV post h => ⟨vp_in_nI hp (by decide), nm_r ho ⟨vp_in_nI hp (by decide), nm_r ha.symm ⟨vp_in_nI hp (by decide), nm_e (br_t (by decide) (br_t rfl ⟨hA, br_f (by decide) (br_f (by decide) (br_t rfl ⟨hA, nm_e h⟩))⟩))⟩⟩⟩
  · exact fun kp eF eS eP eE eV kF kV post h => ⟨vp_in_nI hp (by decide), br_f (by rw [ho]; decide) (by rw [nI_1]; exact h)⟩
  · intro kp dn vi kF kV post h
    rw [ho]
    exact br_f (by decide) (br_f (by decide) (br_f (by decide) (br_f (by decide) (nm_r (nI_1 p) (br_f (by decide) (br_t rfl ⟨hA, nm_e h⟩))))))
theorem lj_c1 {L z : Int32} {o a b : Nat → Int32} {p : Nat} {r : Nat → Int32} (hp : p < 12) (ha : a (nI p).toNatClampNeg &&& 3 = a (nI p).toNatClampNeg) (hA : vp_in (a (nI p).toNatClampNeg &&& 3) 4) (hb : b (nI p).toNatClampNeg &&& 3 = b (nI p).toNatClampNeg) (hB : vp_in (b (nI p).toNatClampNeg &&& 3) 4) (ho : o (nI p).toNatClampNeg = 1) : lj_C L z o a b p r (p + 1) (upd r (a (nI p).toNatClampNeg &&& 3).toNatClampNeg (lj_v 1 (r (a (nI p).toNatClampNeg &&& 3).toNatClampNeg) (r (b (nI p).toNatClampNeg &&& 3).toNatClampNeg))) := by
  refine ⟨?_, ?_, ?_, ?_⟩
  · exact fun kp eF eS eP eE eV kF kV post h => ⟨vp_in_nI hp (by decide), nm_r ho (br_f (by decide) (br_f (by decide) (br_f (by decide) h)))⟩
  · exact fun kp eF eS eP eE eV kF kV post h => ⟨vp_in_nI hp (by decide), nm_r ho ⟨vp_in_nI hp (by decide), nm_r ha.symm ⟨vp_in_nI hp (by decide), nm_r hb.symm (br_f (by decide) (br_f (by decide) (br_f (by decide) ⟨hB, hA, lx_r1 ⟨hA, nm_e h⟩⟩)))⟩⟩⟩
  · exact fun kp eF eS eP eE eV kF kV post h => ⟨vp_in_nI hp (by decide), br_f (by rw [ho]; decide) (by rw [nI_1]; exact h)⟩
  · intro kp dn vi kF kV post h
    rw [ho]
    exact br_f (by decide) (br_f (by decide) (br_f (by decide) (br_f (by decide) (nm_r (nI_1 p) (br_f (by decide) (br_f (by decide) ⟨hA, hB, ly_r1 ⟨hA, nm_e h⟩⟩))))))
theorem lj_c2 {L z : Int32} {o a b : Nat → Int32} {p : Nat} {r : Nat → Int32} (hp : p < 12) (ha : a (nI p).toNatClampNeg &&& 3 = a (nI p).toNatClampNeg) (hA : vp_in (a (nI p).toNatClampNeg &&& 3) 4) (hb : b (nI p).toNatClampNeg &&& 3 = b (nI p).toNatClampNeg) (hB : vp_in (b (nI p).toNatClampNeg &&& 3) 4) (ho : o (nI p).toNatClampNeg = 2) : lj_C L z o a b p r (p + 1) (upd r (a (nI p).toNatClampNeg &&& 3).toNatClampNeg (lj_v 2 (r (a (nI p).toNatClampNeg &&& 3).toNatClampNeg) (r (b (nI p).toNatClampNeg &&& 3).toNatClampNeg))) := by
  refine ⟨?_, ?_, ?_, ?_⟩
  · exact fun kp eF eS eP eE eV kF kV post h => ⟨vp_in_nI hp (by decide), nm_r ho (br_f (by decide) (br_f (by decide) (br_f (by decide) h)))⟩
  · exact fun kp eF eS eP eE eV kF kV post h => ⟨vp_in_nI hp (by decide), nm_r ho ⟨vp_in_nI hp (by decide), nm_r ha.symm ⟨vp_in_nI hp (by decide), nm_r hb.symm (br_f (by decide) (br_f (by decide) (br_f (by decide) ⟨hB, hA, lx_r2 ⟨hA, nm_e h⟩⟩)))⟩⟩⟩
  · exact fun kp eF eS eP eE eV kF kV post h => ⟨vp_in_nI hp (by decide), br_f (by rw [ho]; decide) (by rw [nI_1]; exact h)⟩
  · intro kp dn vi kF kV post h
    rw [ho]
    exact br_f (by decide) (br_f (by decide) (br_f (by decide) (br_f (by decide) (nm_r (nI_1 p) (br_f (by decide) (br_f (by decide) ⟨hA, hB, ly_r2 ⟨hA, nm_e h⟩⟩))))))
theorem lj_c3 {L z : Int32} {o a b : Nat → Int32} {p : Nat} {r : Nat → Int32} (hp : p < 12) (ha : a (nI p).toNatClampNeg &&& 3 = a (nI p).toNatClampNeg) (hA : vp_in (a (nI p).toNatClampNeg &&& 3) 4) (hb : b (nI p).toNatClampNeg &&& 3 = b (nI p).toNatClampNeg) (hB : vp_in (b (nI p).toNatClampNeg &&& 3) 4) (ho : o (nI p).toNatClampNeg = 3) : lj_C L z o a b p r (p + 1) (upd r (a (nI p).toNatClampNeg &&& 3).toNatClampNeg (lj_v 3 (r (a (nI p).toNatClampNeg &&& 3).toNatClampNeg) (r (b (nI p).toNatClampNeg &&& 3).toNatClampNeg))) := by
  refine ⟨?_, ?_, ?_, ?_⟩
  · exact fun kp eF eS eP eE eV kF kV post h => ⟨vp_in_nI hp (by decide), nm_r ho (br_f (by decide) (br_f (by decide) (br_f (by decide) h)))⟩
  · exact fun kp eF eS eP eE eV kF kV post h => ⟨vp_in_nI hp (by decide), nm_r ho ⟨vp_in_nI hp (by decide), nm_r ha.symm ⟨vp_in_nI hp (by decide), nm_r hb.symm (br_f (by decide) (br_f (by decide) (br_f (by decide) ⟨hB, hA, lx_r3 ⟨hA, nm_e h⟩⟩)))⟩⟩⟩
  · exact fun kp eF eS eP eE eV kF kV post h => ⟨vp_in_nI hp (by decide), br_f (by rw [ho]; decide) (by rw [nI_1]; exact h)⟩
  · intro kp dn vi kF kV post h
    rw [ho]
    exact br_f (by decide) (br_f (by decide) (br_f (by decide) (br_f (by decide) (nm_r (nI_1 p) (br_f (by decide) (br_f (by decide) ⟨hA, hB, ly_r3 ⟨hA, nm_e h⟩⟩))))))
theorem lj_c4 {L z : Int32} {o a b : Nat → Int32} {p : Nat} {r : Nat → Int32} (hp : p < 12) (ha : a (nI p).toNatClampNeg &&& 3 = a (nI p).toNatClampNeg) (hA : vp_in (a (nI p).toNatClampNeg &&& 3) 4) (hb : b (nI p).toNatClampNeg &&& 3 = b (nI p).toNatClampNeg) (hB : vp_in (b (nI p).toNatClampNeg &&& 3) 4) (ho : o (nI p).toNatClampNeg = 4) : lj_C L z o a b p r (p + 1) (upd r (a (nI p).toNatClampNeg &&& 3).toNatClampNeg (lj_v 4 (r (a (nI p).toNatClampNeg &&& 3).toNatClampNeg) (r (b (nI p).toNatClampNeg &&& 3).toNatClampNeg))) := by
  refine ⟨?_, ?_, ?_, ?_⟩
  · exact fun kp eF eS eP eE eV kF kV post h => ⟨vp_in_nI hp (by decide), nm_r ho (br_f (by decide) (br_f (by decide) (br_f (by decide) h)))⟩
  · exact fun kp eF eS eP eE eV kF kV post h => ⟨vp_in_nI hp (by decide), nm_r ho ⟨vp_in_nI hp (by decide), nm_r ha.symm ⟨vp_in_nI hp (by decide), nm_r hb.symm (br_f (by decide) (br_f (by decide) (br_f (by decide) ⟨hB, hA, lx_r4 ⟨hA, nm_e h⟩⟩)))⟩⟩⟩
  · exact fun kp eF eS eP eE eV kF kV post h => ⟨vp_in_nI hp (by decide), br_f (by rw [ho]; decide) (by rw [nI_1]; exact h)⟩
  · intro kp dn vi kF kV post h
    rw [ho]
    exact br_f (by decide) (br_f (by decide) (br_f (by decide) (br_f (by decide) (nm_r (nI_1 p) (br_f (by decide) (br_f (by decide) ⟨hA, hB, ly_r4 ⟨hA, nm_e h⟩⟩))))))
theorem lj_c5 {L z : Int32} {o a b : Nat → Int32} {p : Nat} {r : Nat → Int32} (hp : p < 12) (ha : a (nI p).toNatClampNeg &&& 3 = a (nI p).toNatClampNeg) (hA : vp_in (a (nI p).toNatClampNeg &&& 3) 4) (hb : b (nI p).toNatClampNeg &&& 3 = b (nI p).toNatClampNeg) (hB : vp_in (b (nI p).toNatClampNeg &&& 3) 4) (ho : o (nI p).toNatClampNeg = 5) (hz : ¬ r (b (nI p).toNatClampNeg &&& 3).toNatClampNeg = 0) : lj_C L z o a b p r (p + 1) (upd r (a (nI p).toNatClampNeg &&& 3).toNatClampNeg (lj_v 5 (r (a (nI p).toNatClampNeg &&& 3).toNatClampNeg) (r (b (nI p).toNatClampNeg &&& 3).toNatClampNeg))) := by
  refine ⟨?_, ?_, ?_, ?_⟩
  · rw [hb] at hz hB
    exact fun kp eF eS eP eE eV kF kV post h => ⟨vp_in_nI hp (by decide), nm_r ho (br_t rfl ⟨vp_in_nI hp (by decide), hB, br_f hz h⟩)⟩
  · exact fun kp eF eS eP eE eV kF kV post h => ⟨vp_in_nI hp (by decide), nm_r ho ⟨vp_in_nI hp (by decide), nm_r ha.symm ⟨vp_in_nI hp (by decide), nm_r hb.symm (br_f (by decide) (br_f (by decide) (br_f (by decide) ⟨hB, hA, lx_r5 (hy := hz) ⟨hA, nm_e h⟩⟩)))⟩⟩⟩
  · exact fun kp eF eS eP eE eV kF kV post h => ⟨vp_in_nI hp (by decide), br_f (by rw [ho]; decide) (by rw [nI_1]; exact h)⟩
  · intro kp dn vi kF kV post h
    rw [ho]
    exact br_f (by decide) (br_f (by decide) (br_t rfl ⟨hB, br_f hz (br_f (by decide) (nm_r (nI_1 p) (br_f (by decide) (br_f (by decide) ⟨hA, hB, ly_r5 (hy := hz) ⟨hA, nm_e h⟩⟩))))⟩))
theorem lj_c6 {L z : Int32} {o a b : Nat → Int32} {p : Nat} {r : Nat → Int32} (hp : p < 12) (ha : a (nI p).toNatClampNeg &&& 3 = a (nI p).toNatClampNeg) (hA : vp_in (a (nI p).toNatClampNeg &&& 3) 4) (hb : b (nI p).toNatClampNeg &&& 3 = b (nI p).toNatClampNeg) (hB : vp_in (b (nI p).toNatClampNeg &&& 3) 4) (ho : o (nI p).toNatClampNeg = 6) : lj_C L z o a b p r (p + 1) (upd r (a (nI p).toNatClampNeg &&& 3).toNatClampNeg (lj_v 6 (r (a (nI p).toNatClampNeg &&& 3).toNatClampNeg) (r (b (nI p).toNatClampNeg &&& 3).toNatClampNeg))) := by
  refine ⟨?_, ?_, ?_, ?_⟩
  · exact fun kp eF eS eP eE eV kF kV post h => ⟨vp_in_nI hp (by decide), nm_r ho (br_f (by decide) (br_f (by decide) (br_f (by decide) h)))⟩
  · exact fun kp eF eS eP eE eV kF kV post h => ⟨vp_in_nI hp (by decide), nm_r ho ⟨vp_in_nI hp (by decide), nm_r ha.symm ⟨vp_in_nI hp (by decide), nm_r hb.symm (br_f (by decide) (br_f (by decide) (br_f (by decide) ⟨hB, hA, lx_r6 ⟨hA, nm_e h⟩⟩)))⟩⟩⟩
  · exact fun kp eF eS eP eE eV kF kV post h => ⟨vp_in_nI hp (by decide), br_f (by rw [ho]; decide) (by rw [nI_1]; exact h)⟩
  · intro kp dn vi kF kV post h
    rw [ho]
    exact br_f (by decide) (br_f (by decide) (br_f (by decide) (br_f (by decide) (nm_r (nI_1 p) (br_f (by decide) (br_f (by decide) ⟨hA, hB, ly_r6 ⟨hA, nm_e h⟩⟩))))))
theorem lj_c7 {L z : Int32} {o a b : Nat → Int32} {p : Nat} {r : Nat → Int32} (hp : p < 12) (ha : a (nI p).toNatClampNeg &&& 3 = a (nI p).toNatClampNeg) (hA : vp_in (a (nI p).toNatClampNeg &&& 3) 4) (hb : b (nI p).toNatClampNeg &&& 3 = b (nI p).toNatClampNeg) (hB : vp_in (b (nI p).toNatClampNeg &&& 3) 4) (ho : o (nI p).toNatClampNeg = 7) : lj_C L z o a b p r (p + 1) (upd r (a (nI p).toNatClampNeg &&& 3).toNatClampNeg (lj_v 7 (r (a (nI p).toNatClampNeg &&& 3).toNatClampNeg) (r (b (nI p).toNatClampNeg &&& 3).toNatClampNeg))) := by
  refine ⟨?_, ?_, ?_, ?_⟩
  · exact fun kp eF eS eP eE eV kF kV post h => ⟨vp_in_nI hp (by decide), nm_r ho (br_f (by decide) (br_f (by decide) (br_f (by decide) h)))⟩
  · exact fun kp eF eS eP eE eV kF kV post h => ⟨vp_in_nI hp (by decide), nm_r ho ⟨vp_in_nI hp (by decide), nm_r ha.symm ⟨vp_in_nI hp (by decide), nm_r hb.symm (br_f (by decide) (br_f (by decide) (br_f (by decide) ⟨hB, hA, lx_r7 ⟨hA, nm_e h⟩⟩)))⟩⟩⟩
  · exact fun kp eF eS eP eE eV kF kV post h => ⟨vp_in_nI hp (by decide), br_f (by rw [ho]; decide) (by rw [nI_1]; exact h)⟩
  · intro kp dn vi kF kV post h
    rw [ho]
    exact br_f (by decide) (br_f (by decide) (br_f (by decide) (br_f (by decide) (nm_r (nI_1 p) (br_f (by decide) (br_f (by decide) ⟨hA, hB, ly_r7 ⟨hA, nm_e h⟩⟩))))))
theorem lj_c8 {L z : Int32} {o a b : Nat → Int32} {p : Nat} {r : Nat → Int32} (hp : p < 12) (ha : a (nI p).toNatClampNeg &&& 3 = a (nI p).toNatClampNeg) (hA : vp_in (a (nI p).toNatClampNeg &&& 3) 4) (hb : b (nI p).toNatClampNeg &&& 3 = b (nI p).toNatClampNeg) (hB : vp_in (b (nI p).toNatClampNeg &&& 3) 4) (ho : o (nI p).toNatClampNeg = 8) : lj_C L z o a b p r (p + 1) (upd r (a (nI p).toNatClampNeg &&& 3).toNatClampNeg (lj_v 8 (r (a (nI p).toNatClampNeg &&& 3).toNatClampNeg) (r (b (nI p).toNatClampNeg &&& 3).toNatClampNeg))) := by
  refine ⟨?_, ?_, ?_, ?_⟩
  · exact fun kp eF eS eP eE eV kF kV post h => ⟨vp_in_nI hp (by decide), nm_r ho (br_f (by decide) (br_f (by decide) (br_f (by decide) h)))⟩
  · exact fun kp eF eS eP eE eV kF kV post h => ⟨vp_in_nI hp (by decide), nm_r ho ⟨vp_in_nI hp (by decide), nm_r ha.symm ⟨vp_in_nI hp (by decide), nm_r hb.symm (br_f (by decide) (br_f (by decide) (br_f (by decide) ⟨hB, hA, lx_r8 ⟨hA, nm_e h⟩⟩)))⟩⟩⟩
  · exact fun kp eF eS eP eE eV kF kV post h => ⟨vp_in_nI hp (by decide), br_f (by rw [ho]; decide) (by rw [nI_1]; exact h)⟩
  · intro kp dn vi kF kV post h
    rw [ho]
    exact br_f (by decide) (br_f (by decide) (br_f (by decide) (br_f (by decide) (nm_r (nI_1 p) (br_f (by decide) (br_f (by decide) ⟨hA, hB, ly_r8 ⟨hA, nm_e h⟩⟩))))))
theorem lj_e5 {L z : Int32} {o a b : Nat → Int32} {p : Nat} {r : Nat → Int32} (hp : p < 12) (hb : b (nI p).toNatClampNeg &&& 3 = b (nI p).toNatClampNeg) (hB : vp_in (b (nI p).toNatClampNeg &&& 3) 4) (ho : o (nI p).toNatClampNeg = 5) (hz : r (b (nI p).toNatClampNeg &&& 3).toNatClampNeg = 0) : lj_E L z o a b p r 2 := by
  refine ⟨?_, ?_⟩
  · rw [hb] at hz hB
    exact fun kp eF eS eP eE eV kF kV post h => ⟨vp_in_nI hp (by decide), nm_r ho (br_t rfl ⟨vp_in_nI hp (by decide), hB, br_t hz h⟩)⟩
  · intro kp dn vi kF kV post h
    rw [ho]
    exact br_f (by decide) (br_f (by decide) (br_t rfl ⟨hB, br_t hz h⟩))
theorem lj_e10 {L z : Int32} {o a b : Nat → Int32} {p : Nat} {r : Nat → Int32} (hp : p < 12) (ha : a (nI p).toNatClampNeg &&& 3 = a (nI p).toNatClampNeg) (hA : vp_in (a (nI p).toNatClampNeg &&& 3) 4) (ho : o (nI p).toNatClampNeg = 10) (hz : r (a (nI p).toNatClampNeg &&& 3).toNatClampNeg = 0) : lj_E L z o a b p r 3 := by
  refine ⟨?_, ?_⟩
  · rw [ha] at hz hA
    exact fun kp eF eS eP eE eV kF kV post h => ⟨vp_in_nI hp (by decide), nm_r ho (br_f (by decide) (br_t rfl ⟨vp_in_nI hp (by decide), hA, br_t hz h⟩))⟩
  · intro kp dn vi kF kV post h
    rw [ho]
    exact br_f (by decide) (br_t rfl ⟨hA, br_t hz h⟩)
theorem lj_e11 {L z : Int32} {o a b : Nat → Int32} {p : Nat} {r : Nat → Int32} (hp : p < 12) (ho : o (nI p).toNatClampNeg = 11) : lj_E L z o a b p r 0 := by
  refine ⟨?_, ?_⟩
  · exact fun kp eF eS eP eE eV kF kV post h => ⟨vp_in_nI hp (by decide), nm_r ho (br_f (by decide) (br_f (by decide) (br_t rfl h)))⟩
  · intro kp dn vi kF kV post h
    rw [ho]
    exact br_t rfl h
theorem lj_c10 {L z : Int32} {o a b : Nat → Int32} {p : Nat} {r : Nat → Int32} (hp : p < 12) (ha : a (nI p).toNatClampNeg &&& 3 = a (nI p).toNatClampNeg) (hA : vp_in (a (nI p).toNatClampNeg &&& 3) 4) (ho : o (nI p).toNatClampNeg = 10) (hz : ¬ r (a (nI p).toNatClampNeg &&& 3).toNatClampNeg = 0) : lj_C L z o a b p r (p + 1) r := by
  refine ⟨?_, ?_, ?_, ?_⟩
  · rw [ha] at hz hA
    exact fun kp eF eS eP eE eV kF kV post h => ⟨vp_in_nI hp (by decide), nm_r ho (br_f (by decide) (br_t rfl ⟨vp_in_nI hp (by decide), hA, br_f hz h⟩))⟩
  · exact fun kp eF eS eP eE eV kF kV post h => ⟨vp_in_nI hp (by decide), nm_r ho ⟨vp_in_nI hp (by decide), nm_r ha.symm ⟨vp_in_nI hp (by decide), nm_e (br_f (by decide) (br_t (by decide) (br_t rfl ⟨hA, br_f (by decide) (br_t (by decide) ⟨hA, nm_r (lj_self r _) h⟩)⟩)))⟩⟩⟩
  · exact fun kp eF eS eP eE eV kF kV post h => ⟨vp_in_nI hp (by decide), br_f (by rw [ho]; decide) (by rw [nI_1]; exact h)⟩
  · intro kp dn vi kF kV post h
    rw [ho]
    exact br_f (by decide) (br_t rfl ⟨hA, br_f hz (br_f (by decide) (br_f (by decide) (nm_r (nI_1 p) (br_t (by decide) h))))⟩)
theorem lj_c9f {L z : Int32} {o a b : Nat → Int32} {p : Nat} {r : Nat → Int32} (hp : p < 12) (ha : a (nI p).toNatClampNeg &&& 3 = a (nI p).toNatClampNeg) (hA : vp_in (a (nI p).toNatClampNeg &&& 3) 4) (ho : o (nI p).toNatClampNeg = 9) (hz : r (a (nI p).toNatClampNeg &&& 3).toNatClampNeg = 0) : lj_C L z o a b p r (p + 1) r := by
  refine ⟨?_, ?_, ?_, ?_⟩
  · exact fun kp eF eS eP eE eV kF kV post h => ⟨vp_in_nI hp (by decide), nm_r ho (br_f (by decide) (br_f (by decide) (br_f (by decide) h)))⟩
  · exact fun kp eF eS eP eE eV kF kV post h => ⟨vp_in_nI hp (by decide), nm_r ho ⟨vp_in_nI hp (by decide), nm_r ha.symm ⟨vp_in_nI hp (by decide), nm_e (br_f (by decide) (br_t (by decide) (br_t rfl ⟨hA, br_f (by decide) (br_t (by decide) ⟨hA, nm_r (lj_self r _) h⟩)⟩)))⟩⟩⟩
  · rw [ha] at hz hA
    exact fun kp eF eS eP eE eV kF kV post h => ⟨vp_in_nI hp (by decide), br_t ho ⟨vp_in_nI hp (by decide), hA, br_t hz (by rw [nI_1]; exact h)⟩⟩
  · intro kp dn vi kF kV post h
    rw [ho]
    exact br_f (by decide) (br_f (by decide) (br_f (by decide) (br_t rfl ⟨hA, br_t hz (nm_r (nI_1 p) (br_t (by decide) h))⟩)))
theorem lj_c9t {L z : Int32} {o a b : Nat → Int32} {p : Nat} {r : Nat → Int32} (hp : p < 12) (ha : a (nI p).toNatClampNeg &&& 3 = a (nI p).toNatClampNeg) (hA : vp_in (a (nI p).toNatClampNeg &&& 3) 4) {q : Nat} (hq : b (nI p).toNatClampNeg = nI q) (ho : o (nI p).toNatClampNeg = 9) (hz : ¬ r (a (nI p).toNatClampNeg &&& 3).toNatClampNeg = 0) : lj_C L z o a b p r q r := by
  refine ⟨?_, ?_, ?_, ?_⟩
  · exact fun kp eF eS eP eE eV kF kV post h => ⟨vp_in_nI hp (by decide), nm_r ho (br_f (by decide) (br_f (by decide) (br_f (by decide) h)))⟩
  · exact fun kp eF eS eP eE eV kF kV post h => ⟨vp_in_nI hp (by decide), nm_r ho ⟨vp_in_nI hp (by decide), nm_r ha.symm ⟨vp_in_nI hp (by decide), nm_e (br_f (by decide) (br_t (by decide) (br_t rfl ⟨hA, br_f (by decide) (br_t (by decide) ⟨hA, nm_r (lj_self r _) h⟩)⟩)))⟩⟩⟩
  · rw [ha] at hz hA
    exact fun kp eF eS eP eE eV kF kV post h => ⟨vp_in_nI hp (by decide), br_t ho ⟨vp_in_nI hp (by decide), hA, br_f hz ⟨vp_in_nI hp (by decide), by rw [hq]; exact h⟩⟩⟩
  · intro kp dn vi kF kV post h
    rw [ho, hq]
    exact br_f (by decide) (br_f (by decide) (br_f (by decide) (br_t rfl ⟨hA, br_f hz h⟩)))
theorem lj_step (L z : Int32) {o a b : Nat → Int32} {p : Nat} {r : Nat → Int32} (hp : p < 12) (hr : lj_z r) (hI : lj_I (o (nI p).toNatClampNeg) (a (nI p).toNatClampNeg) (b (nI p).toNatClampNeg)) :
    (∃ F : Int32, (F = 0 ∨ F = 2 ∨ F = 3) ∧ lj_E L z o a b p r F) ∨ (∃ (p2 : Nat) (r2 : Nat → Int32), p2 ≤ 12 ∧ lj_z r2 ∧ lj_C L z o a b p r p2 r2) := by
  obtain ⟨i, q, hi, ho, hq, ea, hB, hT⟩ := hI
  have ha : a (nI p).toNatClampNeg &&& 3 = a (nI p).toNatClampNeg := by rw [ea]; exact lj_a3 hq
  have hA : vp_in (a (nI p).toNatClampNeg &&& 3) 4 := by rw [ha, ea]; exact vp_in_nI hq (by decide)
  have hc : (a (nI p).toNatClampNeg &&& 3).toNatClampNeg < 4 := by rw [ha, ea, nI_clamp (by omega)]; exact hq
  have hbb : 1 ≤ i → i ≤ 8 → b (nI p).toNatClampNeg &&& 3 = b (nI p).toNatClampNeg ∧ vp_in (b (nI p).toNatClampNeg &&& 3) 4 := by
    intro h1 h8
    obtain ⟨w, hw, e⟩ := hB h1 h8
    have e3 : b (nI p).toNatClampNeg &&& 3 = b (nI p).toNatClampNeg := by rw [e]; exact lj_a3 hw
    exact ⟨e3, by rw [e3, e]; exact vp_in_nI hw (by decide)⟩
  have hcs : i = 0 ∨ i = 1 ∨ i = 2 ∨ i = 3 ∨ i = 4 ∨ i = 5 ∨ i = 6 ∨ i = 7 ∨ i = 8 ∨ i = 9 ∨ i = 10 ∨ i = 11 := by omega
  rcases hcs with rfl | rfl | rfl | rfl | rfl | rfl | rfl | rfl | rfl | rfl | rfl | rfl
  · exact Or.inr ⟨_, _, by omega, lj_zu hr hc _, lj_c0 hp ha hA ho⟩
  · obtain ⟨hb, hBB⟩ := hbb (by decide) (by decide)
    exact Or.inr ⟨_, _, by omega, lj_zu hr hc _, lj_c1 hp ha hA hb hBB ho⟩
  · obtain ⟨hb, hBB⟩ := hbb (by decide) (by decide)
    exact Or.inr ⟨_, _, by omega, lj_zu hr hc _, lj_c2 hp ha hA hb hBB ho⟩
  · obtain ⟨hb, hBB⟩ := hbb (by decide) (by decide)
    exact Or.inr ⟨_, _, by omega, lj_zu hr hc _, lj_c3 hp ha hA hb hBB ho⟩
  · obtain ⟨hb, hBB⟩ := hbb (by decide) (by decide)
    exact Or.inr ⟨_, _, by omega, lj_zu hr hc _, lj_c4 hp ha hA hb hBB ho⟩
  · obtain ⟨hb, hBB⟩ := hbb (by decide) (by decide)
    by_cases hz : r (b (nI p).toNatClampNeg &&& 3).toNatClampNeg = 0
    · exact Or.inl ⟨2, Or.inr (Or.inl rfl), lj_e5 hp hb hBB ho hz⟩
    · exact Or.inr ⟨_, _, by omega, lj_zu hr hc _, lj_c5 hp ha hA hb hBB ho hz⟩
  · obtain ⟨hb, hBB⟩ := hbb (by decide) (by decide)
    exact Or.inr ⟨_, _, by omega, lj_zu hr hc _, lj_c6 hp ha hA hb hBB ho⟩
  · obtain ⟨hb, hBB⟩ := hbb (by decide) (by decide)
    exact Or.inr ⟨_, _, by omega, lj_zu hr hc _, lj_c7 hp ha hA hb hBB ho⟩
  · obtain ⟨hb, hBB⟩ := hbb (by decide) (by decide)
    exact Or.inr ⟨_, _, by omega, lj_zu hr hc _, lj_c8 hp ha hA hb hBB ho⟩
  · obtain ⟨w, hw, e⟩ := hT rfl
    by_cases hz : r (a (nI p).toNatClampNeg &&& 3).toNatClampNeg = 0
    · exact Or.inr ⟨_, _, by omega, hr, lj_c9f hp ha hA ho hz⟩
    · exact Or.inr ⟨_, _, hw, hr, lj_c9t hp ha hA e ho hz⟩
  · by_cases hz : r (a (nI p).toNatClampNeg &&& 3).toNatClampNeg = 0
    · exact Or.inl ⟨3, Or.inr (Or.inr rfl), lj_e10 hp ha hA ho hz⟩
    · exact Or.inr ⟨_, _, by omega, hr, lj_c10 hp ha hA ho hz⟩
  · exact Or.inl ⟨0, Or.inl rfl, lj_e11 hp ho⟩
end
