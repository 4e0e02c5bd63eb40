theorem pk_us {f : Nat → Int32} {k : Nat} {x : Int32} : upd f k x k = x := if_pos rfl
theorem pk_un {f : Nat → Int32} {k j : Nat} {x : Int32} (h : j ≠ k) : upd f k x j = f j := if_neg h
theorem pk_sub {a b : Nat} (h : b ≤ a) : nI a - nI b = nI (a - b) := by
  obtain ⟨c, rfl⟩ : ∃ c, a = c + b := ⟨a - b, by omega⟩
  rw [← nI_add, Int32.add_sub_cancel, Nat.add_sub_cancel]
theorem pk_mul (a b : Nat) : nI a * nI b = nI (a * b) := (Int32.ofNat_mul a b).symm
theorem pk_ix (x : Int32) {n : Nat} (hn : n < 2 ^ 31) : x < 0 ∨ nI n ≤ x ∨ ∃ j : Nat, j < n ∧ x = nI j := by
  by_cases h : x < 0
  · exact Or.inl h
  · obtain ⟨j, hj, rfl⟩ := nI_of h
    by_cases h2 : j < n
    · exact Or.inr (Or.inr ⟨j, h2, rfl⟩)
    · exact Or.inr (Or.inl (nI_le (by omega) hj))
theorem pk_le {x y : Int32} {A B : Prop} (a b : Nat) (f : a ≤ b → A) (g : b < a → B) (hx : x = nI a := by rfl) (hy : y = nI b := by rfl) (ha : a < 2 ^ 31 := by omega) (hb : b < 2 ^ 31 := by omega) : (x ≤ y → A) ∧ (¬ x ≤ y → B) := by
  subst hx hy
  rw [nI_leI ha hb]
  exact ⟨f, fun z => g (by omega)⟩
theorem pk_lt {x y : Int32} {A B : Prop} (a b : Nat) (f : a < b → A) (g : b ≤ a → B) (hx : x = nI a := by rfl) (hy : y = nI b := by rfl) (ha : a < 2 ^ 31 := by omega) (hb : b < 2 ^ 31 := by omega) : (x < y → A) ∧ (¬ x < y → B) := by
  subst hx hy
  rw [nI_ltI ha hb]
  exact ⟨f, fun z => g (by omega)⟩
theorem pk_in {x : Int32} (n N : Nat) (h : n < N) (hx : x = nI n := by rfl) (hN : N < 2 ^ 31 := by omega) : vp_in x N := by
  subst hx
  exact vp_in_nI h hN
theorem pk_cl {x : Int32} (n : Nat) (hx : x = nI n := by rfl) (h : n < 2 ^ 31 := by omega) : x.toNatClampNeg = n := by
  subst hx
  exact nI_clamp h
theorem pk_tn {n : Nat} (h : n < 2 ^ 32) : (nI n).toBitVec.toNat = n := Nat.mod_eq_of_lt h
theorem pk_and (x : Int32) {m : Int32} (k : Nat) (hm : m.toBitVec.toNat = 2 ^ k - 1) : x &&& m = nI (x.toBitVec.toNat % 2 ^ k) := by
  apply Int32.toBitVec_inj.mp
  apply BitVec.eq_of_toNat_eq
  rw [Int32.toBitVec_and, BitVec.toNat_and, hm, Nat.and_two_pow_sub_one_eq_mod]
  show _ = (BitVec.ofNat 32 _).toNat
  rw [BitVec.toNat_ofNat]
  exact (Nat.mod_eq_of_lt (Nat.lt_of_le_of_lt (Nat.mod_le _ _) x.toBitVec.isLt)).symm
theorem pk_andN {n : Nat} (h : n < 2 ^ 32) {m : Int32} (k : Nat) (hm : m.toBitVec.toNat = 2 ^ k - 1) : nI n &&& m = nI (n % 2 ^ k) := by
  rw [pk_and _ k hm, pk_tn h]
/-- a register file: nothing beyond its four cells -/
def lj_z (r : Nat → Int32) : Prop := ∀ j, 4 ≤ j → r j = 0
theorem lj_z0 : lj_z (fun _ => 0) := fun _ _ => rfl
theorem lj_zu {r : Nat → Int32} (h : lj_z r) {i : Nat} (hi : i < 4) (x : Int32) : lj_z (upd r i x) := fun j hj => by
  rw [pk_un (by omega)]; exact h j hj
/-- the registers at the beginning of a run -/
def lj_r0 (x y : Int32) : Nat → Int32 := upd (upd (upd (upd (fun _ => 0) 0 x) 1 y) 2 0) 3 0
theorem lj_r0z (x y : Int32) : lj_z (lj_r0 x y) := lj_zu (lj_zu (lj_zu (lj_zu lj_z0 (by decide) _) (by decide) _) (by decide) _) (by decide) _
theorem lj_st {w : Nat → Int32} (h : lj_z w) (x y : Int32) : upd (upd (upd (upd w 0 x) 1 y) 2 0) 3 0 = lj_r0 x y := by
  funext j
  simp only [lj_r0, upd]
  by_cases h3 : j = 3
  · simp [h3]
  · by_cases h2 : j = 2
    · simp [h2]
    · by_cases h1 : j = 1
      · simp [h1]
      · by_cases h0 : j = 0
        · simp [h0]
        · simp [h0, h1, h2, h3, h j (by omega)]
theorem lj_self (r : Nat → Int32) (i : Nat) : upd r i (r i) = r := by
  funext j
  by_cases h : j = i
  · rw [h, pk_us]
  · rw [pk_un h]
/-- an instruction as the class takes it in -/
def lj_I (o a b : Int32) : Prop := ∃ i q : Nat, i ≤ 11 ∧ o = nI i ∧ q < 4 ∧ a = nI q ∧ (1 ≤ i → i ≤ 8 → ∃ w : Nat, w < 4 ∧ b = nI w) ∧ (i = 9 → ∃ w : Nat, w ≤ 12 ∧ b = nI w)
theorem lj_a3 {q : Nat} (h : q < 4) : nI q &&& 3 = nI q := by
  rw [pk_andN (by omega) 2 (by decide), Nat.mod_eq_of_lt (by omega)]
theorem lj_ix {k i : Nat} : nI k * 4 + nI i = nI (k * 4 + i) := by
  rw [show (4 : Int32) = nI 4 from by decide, pk_mul, nI_add]
theorem lj_m1 : ¬ (0 : Int32) ≤ -1 := by decide
