/-! PURE: put -/
def bwCo (p : Int64) (j : Nat) : Nat := bwVal p / 2 ^ (8 * j) % 256
theorem pu_m8 (i : Nat) : (8 : Int32) * nI i = nI (8 * i) := pu_mul 8 i
theorem pu_codeAt (p : Int64) {i : Nat} (h : i < 8) : f_X4_codeAt p (nI i) = some (nI (bwCo p i)) := by
  unfold f_X4_codeAt bwCo
  rw [pu_m8, pu_c32, pu_shr p h]
theorem pu_coLt (p : Int64) (j : Nat) : bwCo p j < 256 := Nat.mod_lt _ (by omega)
theorem pu_codesL (p : Int64) : ∀ (d i fu fu' : Nat) (x2 : Int64), d + i = 8 → d < fu → d < fu' → bwVal x2 = bwVal p / 2 ^ (8 * i) →
    ∃ n : Nat, n ≤ 8 ∧ f_X4_codesIn_L2 fu p (nI i) = some (nI n) ∧ f_X5_charactersOf_L5 fu' p x2 (nI i) = some (nI n) ∧ ∀ j, i ≤ j → j < n → 33 ≤ bwCo p j ∧ bwCo p j ≤ 126 := by
  intro d
  induction d with
  | zero =>
    intro i fu fu' x2 h1 h2 h3 hx
    obtain ⟨fu, rfl⟩ : ∃ u, fu = u + 1 := ⟨fu - 1, by omega⟩
    obtain ⟨fu', rfl⟩ : ∃ u, fu' = u + 1 := ⟨fu' - 1, by omega⟩
    obtain rfl : i = 8 := by omega
    have hp : bwVal p < 2 ^ 64 := p.toBitVec.isLt
    have h0 : bwVal x2 = 0 := by rw [hx]; exact Nat.div_eq_of_lt hp
    rw [f_X4_codesIn_L2, f_X5_charactersOf_L5, if_pos (show (8 : Int32) ≤ nI 8 by decide), if_pos (show (8 : Int32) ≤ nI 8 by decide), if_pos (show (8 : Int32) ≤ nI 8 by decide), if_pos ((pu_cmp0 x2).mpr h0)]
    exact ⟨8, by omega, rfl, rfl, fun j q1 q2 => by omega⟩
  | succ d ih =>
    intro i fu fu' x2 h1 h2 h3 hx
    obtain ⟨fu, rfl⟩ : ∃ u, fu = u + 1 := ⟨fu - 1, by omega⟩
    obtain ⟨fu', rfl⟩ : ∃ u, fu' = u + 1 := ⟨fu' - 1, by omega⟩
    have hi : i < 8 := by omega
    have hle : ¬ (8 : Int32) ≤ nI i := pu_ofn (n := 8) hi (by omega)
    have hr : bw_ushr p (nI (8 * i)) = x2 := pu_inj (by rw [pu_shr p hi, hx])
    have hco : bwVal x2 % 256 = bwCo p i := by rw [hx]; rfl
    have hlt := pu_coLt p i
    rw [f_X4_codesIn_L2, f_X5_charactersOf_L5, if_neg hle, if_neg hle, if_neg hle, pu_codeAt p hi, pu_inM, pu_cI, hco, pu_m8, hr, pu_1]
    simp only [Option.bind_some]
    rw [show (33 : Int64).toInt = 33 from rfl, show (126 : Int64).toInt = 126 from rfl]
    by_cases c0 : bwCo p i = 0
    · rw [if_pos (show nI (bwCo p i) = 0 by rw [c0]; rfl), if_neg (show ¬ ((33 : Int) ≤ ((bwCo p i : Nat) : Int) ∧ ((bwCo p i : Nat) : Int) ≤ 126) by omega), if_pos (rfl : (0 : Int32) = 0)]
      by_cases e : lg_cmp x2 0 = 0
      · rw [if_pos e]
        exact ⟨i, by omega, rfl, rfl, fun j q1 q2 => by omega⟩
      · rw [if_neg e]
        exact ⟨0, by omega, rfl, rfl, fun j q1 q2 => by omega⟩
    · have k0 : ¬ nI (bwCo p i) = 0 := fun z => c0 ((pu_eq (b := 0) (by omega) (by omega)).mp z)
      have hne : ¬ lg_cmp x2 0 = 0 := fun z => by
        have := (pu_cmp0 x2).mp z
        omega
      have k1 : nI (bwCo p i) < 33 ↔ bwCo p i < 33 := pu_lt (b := 33) (by omega) (by omega)
      have k2 : nI (bwCo p i) ≤ 126 ↔ bwCo p i ≤ 126 := pu_le (b := 126) (by omega) (by omega)
      rw [if_neg k0]
      by_cases c1 : bwCo p i < 33
      · rw [if_pos (k1.mpr c1), if_neg (show ¬ ((33 : Int) ≤ ((bwCo p i : Nat) : Int) ∧ ((bwCo p i : Nat) : Int) ≤ 126) by omega), if_pos (rfl : (0 : Int32) = 0), if_neg hne]
        exact ⟨0, by omega, rfl, rfl, fun j q1 q2 => by omega⟩
      · rw [if_neg (fun z => c1 (k1.mp z))]
        by_cases c2 : bwCo p i ≤ 126
        · rw [if_pos (k2.mpr c2), if_pos (show ((33 : Int) ≤ ((bwCo p i : Nat) : Int) ∧ ((bwCo p i : Nat) : Int) ≤ 126) by omega), if_neg pu_one0]
          obtain ⟨n, z1, z2, z3, z4⟩ := ih (i + 1) fu fu' (bw_ushr x2 8) (by omega) (by omega) (by omega) (by
            rw [show bw_ushr x2 8 = bw_ushr x2 (nI (8 * 1)) from rfl, pu_shr x2 (show 1 < 8 by omega), hx, Nat.div_div_eq_div_mul, ← Nat.pow_add]
            rfl)
          refine ⟨n, z1, z2, z3, fun j q1 q2 => ?_⟩
          rcases Nat.lt_or_ge i j with q3 | q3
          · exact z4 j q3 q2
          · obtain rfl : j = i := by omega
            exact ⟨by omega, c2⟩
        · rw [if_neg (fun z => c2 (k2.mp z)), if_neg (show ¬ ((33 : Int) ≤ ((bwCo p i : Nat) : Int) ∧ ((bwCo p i : Nat) : Int) ≤ 126) by omega), if_pos (rfl : (0 : Int32) = 0), if_neg hne]
          exact ⟨0, by omega, rfl, rfl, fun j q1 q2 => by omega⟩
theorem pu_append {len c : Nat} (h : len < 60) (hc : c < 256) (ch : Nat → Int32) : f_X2_append (nI len) ch (((nI c).toUInt32 % 65536).toInt32) = some (nI (len + 1), upd ch len (nI c)) := by
  unfold f_X2_append
  rw [if_neg (pu_neg (by omega)), if_neg (show ¬ (60 : Int32) ≤ nI len from pu_ofn (n := 60) h (by omega)), if_pos (pu_in h (by omega)), pu_i2c c hc, pu_nar c hc, pu_cl (by omega), pu_1]
theorem pu_putC (p : Int64) (x3 : Int32) : ∀ (d fu len : Nat) (ch : Nat → Int32), d ≤ 8 → d < fu → len + d ≤ 60 → ∃ ch', f_X4_put_L34 fu (nI len) ch p x3 (nI d - 1) = some (nI (len + d), nI (len + d), ch') ∧ (∀ j, j < d → ch' (len + j) = nI (bwCo p (d - 1 - j))) ∧ ∀ j, j < len → ch' j = ch j := by
  intro d
  induction d with
  | zero =>
    intro fu len ch h1 h2 h3
    obtain ⟨fu, rfl⟩ : ∃ u, fu = u + 1 := ⟨fu - 1, by omega⟩
    rw [f_X4_put_L34, if_pos (show nI 0 - 1 < 0 by decide)]
    exact ⟨ch, rfl, fun j hj => absurd hj (Nat.not_lt_zero j), fun j _ => rfl⟩
  | succ d ih =>
    intro fu len ch h1 h2 h3
    obtain ⟨fu, rfl⟩ : ∃ u, fu = u + 1 := ⟨fu - 1, by omega⟩
    rw [nI_pred, f_X4_put_L34, if_neg (pu_neg (by omega)), pu_codeAt p (by omega), Option.bind_some, pu_append (by omega) (pu_coLt p d), Option.bind_some]
    obtain ⟨ch', a1, a2, a3⟩ := ih fu (len + 1) (upd ch len (nI (bwCo p d))) (by omega) (by omega) (by omega)
    refine ⟨ch', ?_, fun j hj => ?_, fun j hj => ?_⟩
    · rw [show len + (d + 1) = len + 1 + d by omega, ← Int32.sub_eq_add_neg]
      exact a1
    · rcases Nat.eq_zero_or_pos j with e | e
      · subst e
        rw [a3 _ (by omega), Nat.add_zero, pk_us]
        exact congrArg nI (congrArg (bwCo p) (by omega))
      · have z := a2 (j - 1) (by omega)
        rw [show len + 1 + (j - 1) = len + j by omega] at z
        rw [z]
        exact congrArg nI (congrArg (bwCo p) (by omega))
    · rw [a3 j (by omega), pk_un (by omega)]
theorem pu_putM (p : Int64) {n : Nat} (hn : n ≤ 8) {len : Nat} (hl : len + n ≤ 60) : ∀ (d k fu : Nat) (te : Nat → Int32), d + k = n → d < fu → ∃ te', f_X5_put_L29 fu (nI len) te p (nI n) (nI k) = some (nI (len + n), nI (len + n), te') ∧ (∀ j, k ≤ j → j < n → te' (len + j) = nI (bwCo p (n - 1 - j))) ∧ ∀ j, j < len + k → te' j = te j := by
  intro d
  induction d with
  | zero =>
    intro k fu te h1 h2
    obtain ⟨fu, rfl⟩ : ∃ u, fu = u + 1 := ⟨fu - 1, by omega⟩
    rw [f_X5_put_L29, if_pos ((pu_le (by omega) (by omega)).mpr (by omega)), pu_add]
    exact ⟨te, rfl, fun j _ _ => by omega, fun j _ => rfl⟩
  | succ d ih =>
    intro k fu te h1 h2
    obtain ⟨fu, rfl⟩ : ∃ u, fu = u + 1 := ⟨fu - 1, by omega⟩
    obtain ⟨n', rfl⟩ : ∃ u, n = u + 1 := ⟨n - 1, by omega⟩
    rw [f_X5_put_L29, if_neg (fun z => absurd ((pu_le (by omega) (by omega)).mp z) (by omega)), nI_pred, pu_sub (show k ≤ n' by omega), pu_m8, pu_c6432, pu_shr p (show n' - k < 8 by omega), pu_add len k, if_pos (pu_in (show len + k < 60 by omega) (by omega)), pu_cl (by omega), pu_1]
    obtain ⟨te', a1, a2, a3⟩ := ih (k + 1) fu (upd te (len + k) (nI (bwVal p / 2 ^ (8 * (n' - k)) % 256))) (by omega) (by omega)
    refine ⟨te', a1, fun j q1 q2 => ?_, fun j hj => ?_⟩
    · rcases Nat.lt_or_ge k j with q3 | q3
      · exact a2 j q3 q2
      · obtain rfl : j = k := by omega
        rw [a3 _ (by omega), pk_us]
        exact congrArg nI (congrArg (bwCo p) (show n' - j = n' + 1 - 1 - j by omega))
    · rw [a3 j (by omega), pk_un (by omega)]
theorem ok_put (p0 : Int64) : bwO bwRel (fun x => x_put x p0) (fun m => m_put m p0) := by
  intro x m ⟨hc, hp, hs, hh⟩
  simp only [x_put, m_put]
  unfold f_X5_put f_X4_put f_X4_codesIn f_X5_charactersOf
  obtain ⟨n, z1, z2, z3, z4⟩ := pu_codesL p0 8 0 bw_F bw_F p0 (by omega) (by rw [pu_F]; omega) (by rw [pu_F]; omega) (by rw [Nat.mul_zero, Nat.pow_zero, Nat.div_one])
  rw [nI_0] at z2 z3
  rw [z2, z3]
  simp only [Option.bind_some]
  by_cases c : n = 0
  · simp only [if_pos (show nI n = 0 by rw [c]; rfl), Option.bind_some]
    exact bwO_fin rfl ⟨hc, hp, hs, hh⟩
  · simp only [if_neg (show ¬ nI n = 0 from fun z => c ((pu_eq (b := 0) (by omega) (by omega)).mp z))]
    obtain ⟨len, b1, b2, b3, b4⟩ := id hp
    rw [b2, b3, pu_add]
    have k : nI (len + n) ≤ 60 ↔ len + n ≤ 60 := pu_le (b := 60) (by omega) (by omega)
    by_cases d : len + n ≤ 60
    · simp only [if_pos (k.mpr d)]
      obtain ⟨ch', a1, a2, a3⟩ := pu_putC p0 (nI n) n bw_F len x.2.1.2 z1 (by rw [pu_F]; omega) d
      obtain ⟨te', e1, e2, e3⟩ := pu_putM p0 z1 d n 0 bw_F m.2.2.2.2.2.2.2.2.2.2.2.2.2.2.1 (by omega) (by rw [pu_F]; omega)
      rw [nI_0] at e1
      rw [a1, e1]
      simp only [Option.bind_some]
      refine bwO_fin rfl ⟨hc, ⟨len + n, d, rfl, rfl, fun j hj => ?_⟩, hs, hh⟩
      show ch' j = te' j ∧ 33 ≤ (te' j).toInt ∧ (te' j).toInt ≤ 126
      by_cases e : j < len
      · rw [a3 j e, e3 j (by omega)]
        exact b4 j e
      · have y1 := a2 (j - len) (by omega)
        have y2 := e2 (j - len) (Nat.zero_le _) (by omega)
        rw [show len + (j - len) = j by omega] at y1 y2
        obtain ⟨y3, y4⟩ := z4 (n - 1 - (j - len)) (Nat.zero_le _) (by omega)
        rw [y1, y2, nI_toInt (by omega)]
        exact ⟨rfl, by omega, by omega⟩
    · simp only [if_neg (fun z => d (k.mp z)), Option.bind_some]
      refine bwO_fin rfl ⟨hc, ⟨len, b1, rfl, rfl, b4⟩, hs, hh⟩
