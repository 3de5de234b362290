/-! PURE: no machine from here on. Small facts of numbers; rows that are copied. -/
theorem pu_F : bw_F = 5000 := rfl
theorem pu_1 (n : Nat) : nI n + 1 = nI (n + 1) := nI_1 n
theorem pu_in {k n : Nat} (h : k < n) (hn : n ≤ 1000) : bw_in (nI k) n := vp_in_nI h (by omega)
theorem pu_cl {k : Nat} (h : k < 100000) : (nI k).toNatClampNeg = k := nI_clamp (by omega)
theorem pu_le {a b : Nat} (ha : a < 100000) (hb : b < 100000) : nI a ≤ nI b ↔ a ≤ b := nI_leI (by omega) (by omega)
theorem pu_lt {a b : Nat} (ha : a < 100000) (hb : b < 100000) : nI a < nI b ↔ a < b := nI_ltI (by omega) (by omega)
theorem pu_eq {a b : Nat} (ha : a < 100000) (hb : b < 100000) : nI a = nI b ↔ a = b := nI_eq (by omega) (by omega)
theorem pu_neg {a : Nat} (ha : a < 100000) : ¬ nI a < 0 := nI_pos (by omega)
theorem pu_add (a b : Nat) : nI a + nI b = nI (a + b) := nI_add a b
theorem pu_mul (a b : Nat) : nI a * nI b = nI (a * b) := pk_mul a b
theorem pu_ofn {k n : Nat} (h : k < n) (hn : n ≤ 1000) : ¬ Int32.ofNat n ≤ nI k := nI_ge h (by omega)
theorem pu_us {α : Type} {f : Nat → α} {k : Nat} {x : α} (f2 : Nat → α) (h : f2 = fun j => if j = k then x else f j) : f2 k = x := by rw [h]; simp
theorem pu_upd (f : Nat → Int32) (k : Nat) (x : Int32) (j : Nat) : upd f k x j = if j = k then x else f j := by
  by_cases h : j = k
  · rw [if_pos h, h, pk_us]
  · rw [if_neg h, pk_un h]
theorem pu_at {n : Nat} (f : Nat → Int32) {k : Nat} (h : k < n) (hn : n ≤ 1000) : f_X4_at n f (nI k) = some (f k) := by
  unfold f_X4_at
  rw [if_neg (pu_neg (by omega)), if_neg (pu_ofn h hn), if_pos (pu_in h hn), pu_cl (by omega)]
theorem pu_copyL (n : Nat) (hn : n ≤ 1000) (f : Nat → Int32) : ∀ (d k : Nat) (t : Nat → Int32) (fu : Nat), d + k = n → d < fu → ∃ r, f_X4_copyRow_L2 fu n n f t (nI k) = some r ∧ (∀ j, k ≤ j → j < n → r j = f j) ∧ ∀ j, j < k → r j = t j := by
  intro d
  induction d with
  | zero =>
    intro k t fu h1 h2
    obtain ⟨fu, rfl⟩ : ∃ u, fu = u + 1 := ⟨fu - 1, by omega⟩
    rw [f_X4_copyRow_L2, if_pos (show Int32.ofNat n ≤ nI k from (pu_le (by omega) (by omega)).mpr (by omega))]
    exact ⟨t, rfl, fun j h3 h4 => by omega, fun j _ => rfl⟩
  | succ d ih =>
    intro k t fu h1 h2
    obtain ⟨fu, rfl⟩ : ∃ u, fu = u + 1 := ⟨fu - 1, by omega⟩
    have hk : k < n := by omega
    rw [f_X4_copyRow_L2, if_neg (pu_ofn hk hn), if_neg (pu_ofn hk hn), if_pos (pu_in hk hn), if_pos (pu_in hk hn), pu_cl (by omega), pu_1]
    obtain ⟨r, e1, e2, e3⟩ := ih (k + 1) (upd t k (f k)) fu (by omega) (by omega)
    refine ⟨r, e1, fun j h3 h4 => ?_, fun j h3 => ?_⟩
    · rcases Nat.lt_or_ge k j with h5 | h5
      · exact e2 j h5 h4
      · have h6 : j = k := by omega
        subst h6
        rw [e3 j (by omega), pk_us]
    · rw [e3 j (by omega), pk_un (by omega)]
theorem pu_copy (n : Nat) (hn : n ≤ 1000) (f t : Nat → Int32) : ∃ r, f_X4_copyRow n n f t = some r ∧ ∀ j, j < n → r j = f j := by
  obtain ⟨r, e1, e2, -⟩ := pu_copyL n hn f n 0 t bw_F (by omega) (by rw [pu_F]; omega)
  exact ⟨r, e1, fun j h => e2 j (Nat.zero_le j) h⟩
/-- two courts that hold the same -/
def bwSame (q c : bwCt) : Prop := q.1 = c.1 ∧ q.2.1 = c.2.1 ∧ q.2.2.1 = c.2.2.1 ∧ (∀ j, j < 3 → q.2.2.2.1 j = c.2.2.2.1 j) ∧ (∀ j, j < 6 → q.2.2.2.2.1 j = c.2.2.2.2.1 j) ∧ (∀ j, j < 36 → q.2.2.2.2.2.1 j = c.2.2.2.2.2.1 j) ∧ (∀ j, j < 24 → q.2.2.2.2.2.2.1 j = c.2.2.2.2.2.2.1 j) ∧ ∀ j, j < 24 → q.2.2.2.2.2.2.2 j = c.2.2.2.2.2.2.2 j
theorem pu_become (sp c : bwCt) : ∃ q, bw_bec sp c = some q ∧ bwSame q c := by
  unfold bw_bec f_X0_become
  obtain ⟨r1, a1, b1⟩ := pu_copy 3 (by omega) c.2.2.2.1 sp.2.2.2.1
  obtain ⟨r2, a2, b2⟩ := pu_copy 6 (by omega) c.2.2.2.2.1 sp.2.2.2.2.1
  obtain ⟨r3, a3, b3⟩ := pu_copy 36 (by omega) c.2.2.2.2.2.1 sp.2.2.2.2.2.1
  obtain ⟨r4, a4, b4⟩ := pu_copy 24 (by omega) c.2.2.2.2.2.2.1 sp.2.2.2.2.2.2.1
  obtain ⟨r5, a5, b5⟩ := pu_copy 24 (by omega) c.2.2.2.2.2.2.2 sp.2.2.2.2.2.2.2
  rw [a1, a2, a3, a4, a5]
  exact ⟨_, rfl, rfl, rfl, rfl, b1, b2, b3, b4, b5⟩
/-- the class's court c holds what the model's row v holds -/
def bwCR (c : bwCt) (v : Nat → Int32) : Prop := v 3 = c.1 ∧ v 4 = c.2.1 ∧ v 5 = c.2.2.1 ∧ (∀ j, j < 3 → v j = c.2.2.2.1 j) ∧ (∀ j, j < 6 → v (6 + j) = c.2.2.2.2.1 j) ∧ (∀ j, j < 36 → v (12 + j) = c.2.2.2.2.2.1 j) ∧ ∃ nb : Nat, nb ≤ 24 ∧ c.1 = nI nb ∧ ∀ j, j < nb → v (48 + j) = c.2.2.2.2.2.2.1 j ∧ v (72 + j) = c.2.2.2.2.2.2.2 j
theorem pu_CRs {q c : bwCt} {v v' : Nat → Int32} (hs : bwSame q c) (hv : ∀ j, j < 120 → v' j = v j) (h : bwCR c v) : bwCR q v' := by
  obtain ⟨s1, s2, s3, s4, s5, s6, s7, s8⟩ := hs
  obtain ⟨h1, h2, h3, h4, h5, h6, nb, h7, h8, h9⟩ := h
  refine ⟨by rw [hv 3 (by omega), h1, s1], by rw [hv 4 (by omega), h2, s2], by rw [hv 5 (by omega), h3, s3], fun j hj => by rw [hv j (by omega), h4 j hj, s4 j hj], fun j hj => by rw [hv _ (by omega), h5 j hj, s5 j hj], fun j hj => by rw [hv _ (by omega), h6 j hj, s6 j hj], nb, h7, by rw [s1, h8], fun j hj => ⟨by rw [hv _ (by omega), (h9 j hj).1, s7 j (by omega)], by rw [hv _ (by omega), (h9 j hj).2, s8 j (by omega)]⟩⟩
