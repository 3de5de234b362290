/-! PURE: what is left without the flourishes; too long groups; flourishes; the reason -/
def bwNo (W : Nat → Int32) : Nat → Nat
  | 0 => 0
  | n + 1 => bwNo W n + if W n = -1000006 then 1 else 0
def bwFl (W : Nat → Int32) : Nat → Nat
  | 0 => 0
  | n + 1 => bwFl W n + if W n < 42 then 0 else 1
theorem pu_flour {x : Int32} : f_X4_isFlourish x = some (if x < 42 then 0 else 1) := by
  unfold f_X4_isFlourish; by_cases h : x < 42 <;> simp [h]
theorem pu_flourM {x : Int32} : f_X5_isFlourish x = some (if x < 42 then 0 else 1) := by
  unfold f_X5_isFlourish; by_cases h : x < 42 <;> simp [h]
theorem pu_keep {K : Nat} (hK : K < 24) (L : Nat → Int32) (w : Int32) : f_X3_keep (nI K) L w = some (nI (K + 1), upd L K w) := by
  unfold f_X3_keep
  rw [if_neg (pu_neg (by omega)), if_neg (show ¬ (24 : Int32) ≤ nI K from pu_ofn (n := 24) hK (by omega)), if_pos (pu_in hK (by omega)), pu_cl (by omega), pu_1]
theorem pu_leave {g : Nat} (hg : g ≤ 24) {W W' v : Nat → Int32} {x1 x2 x3 : Int32} (hW : ∀ j, j < g → W j = W' j) :
    ∀ (d i K F N fu fu' : Nat) (L L' : Nat → Int32), d + i = g → d < fu → d < fu' → K + F + N = i → N = bwNo W i → F = bwFl W i → (N = 0 → ∀ j, j < K → L j = L' j) →
    ∃ (K1 F1 N1 : Nat) (L1 L1' : Nat → Int32), K1 + F1 + N1 = g ∧ N1 = bwNo W g ∧ F1 = bwFl W g ∧ (N1 = 0 → ∀ j, j < K1 → L1 j = L1' j) ∧
      f_X3_leaveOutFlourishes_L17 fu (nI g) (nI K) (nI F) (nI N) W L (nI i) = some (nI K1, nI F1, nI N1, L1) ∧
      f_X5_parts_L130 fu' (nI g) (nI (K + N)) v W' L' x1 x2 x3 (nI i) = some (nI g, nI (K1 + N1), W', L1') := by
  intro d
  induction d with
  | zero =>
    intro i K F N fu fu' L L' h1 h2 h3 h4 h5 h6 h7
    obtain ⟨fu, rfl⟩ : ∃ u, fu = u + 1 := ⟨fu - 1, by omega⟩
    obtain ⟨fu', rfl⟩ : ∃ u, fu' = u + 1 := ⟨fu' - 1, by omega⟩
    have hi : i = g := by omega
    subst hi
    refine ⟨K, F, N, L, L', h4, h5, h6, h7, ?_, ?_⟩
    · rw [f_X3_leaveOutFlourishes_L17, if_pos ((pu_le (by omega) (by omega)).mpr (Nat.le_refl _))]
    · rw [f_X5_parts_L130, if_pos ((pu_le (by omega) (by omega)).mpr (Nat.le_refl _))]
  | succ d ih =>
    intro i K F N fu fu' L L' h1 h2 h3 h4 h5 h6 h7
    obtain ⟨fu, rfl⟩ : ∃ u, fu = u + 1 := ⟨fu - 1, by omega⟩
    obtain ⟨fu', rfl⟩ : ∃ u, fu' = u + 1 := ⟨fu' - 1, by omega⟩
    have hi : i < g := by omega
    rw [f_X3_leaveOutFlourishes_L17, if_neg (fun q => absurd ((pu_le (by omega) (by omega)).mp q) (by omega)), pu_at W (show i < 24 by omega) (by omega)]
    rw [f_X5_parts_L130, if_neg (fun q => absurd ((pu_le (by omega) (by omega)).mp q) (by omega))]
    simp only [if_pos (pu_in (show i < 24 by omega) (show 24 ≤ 1000 by omega)), if_pos (pu_in (show K + N < 24 by omega) (show 24 ≤ 1000 by omega))]
    rw [pu_cl (show i < 100000 by omega), pu_cl (show K + N < 100000 by omega), ← hW i hi, pu_flourM]
    simp only [Option.bind_some]
    rw [pu_1 i, pu_1 N, pu_1 F, pu_1 (K + N), pu_flour]
    simp only [Option.bind_some]
    rw [pu_keep (by omega)]
    simp only [Option.bind_some]
    by_cases c1 : W i = -1000006
    · have c2 : W i < 42 := by rw [c1]; decide
      rw [if_pos c1, if_pos c2, if_pos rfl]
      have e := ih (i + 1) K F (N + 1) fu fu' L (upd L' (K + N) (W i)) (by omega) (by omega) (by omega) (by omega) (by rw [bwNo, if_pos c1, ← h5]) (by rw [bwFl, if_pos c2, ← h6]; rfl) (fun q => by omega)
      exact e
    · rw [if_neg c1]
      by_cases c2 : W i < 42
      · rw [if_pos c2, if_pos rfl, if_pos rfl]
        have e := ih (i + 1) (K + 1) F N fu fu' (upd L K (W i)) (upd L' (K + N) (W i)) (by omega) (by omega) (by omega) (by omega) (by rw [bwNo, if_neg c1, ← h5]; rfl) (by rw [bwFl, if_pos c2, ← h6]; rfl) (fun q j hj => by
          rw [pu_upd, pu_upd, q, Nat.add_zero]
          by_cases hj2 : j = K
          · rw [if_pos hj2, if_pos hj2]
          · rw [if_neg hj2, if_neg hj2]; exact h7 q j (by omega))
        rw [show K + 1 + N = K + N + 1 by omega] at e
        exact e
      · rw [if_neg c2, if_neg (by decide), if_neg (by decide)]
        have e := ih (i + 1) K (F + 1) N fu fu' L L' (by omega) (by omega) (by omega) (by omega) (by rw [bwNo, if_neg c1, ← h5]; rfl) (by rw [bwFl, if_neg c2, ← h6]) h7
        exact e
theorem pu_nI10 (n : Nat) : (if n = 0 then (0 : Int32) else 1) = 0 ↔ n = 0 := by by_cases h : n = 0 <;> simp [h]
theorem pu_tooLong {g : Nat} (hg : g ≤ 24) {W : Nat → Int32} : ∀ (d i fu : Nat), d + i = g → d < fu → f_X5_isTooLong_L4 fu (nI g) W (if bwNo W i = 0 then 0 else 1) (nI i) = some (if bwNo W g = 0 then 0 else 1) := by
  intro d
  induction d with
  | zero =>
    intro i fu h1 h2
    obtain ⟨fu, rfl⟩ : ∃ u, fu = u + 1 := ⟨fu - 1, by omega⟩
    have hi : i = g := by omega
    subst hi
    rw [f_X5_isTooLong_L4, if_pos ((pu_le (by omega) (by omega)).mpr (Nat.le_refl _)), if_pos]
    by_cases c : bwNo W i = 0
    · rw [if_pos c]; exact Or.inl rfl
    · rw [if_neg c]; exact Or.inr rfl
  | succ d ih =>
    intro i fu h1 h2
    obtain ⟨fu, rfl⟩ : ∃ u, fu = u + 1 := ⟨fu - 1, by omega⟩
    have hi : i < g := by omega
    have e := ih (i + 1) fu (by omega) (by omega)
    rw [f_X5_isTooLong_L4, if_neg (fun q => absurd ((pu_le (by omega) (by omega)).mp q) (by omega)), if_pos (pu_in (show i < 24 by omega) (by omega)), pu_cl (by omega), pu_1]
    rw [bwNo] at e
    by_cases c : bwNo W i = 0
    · rw [if_pos c, if_pos rfl]
      by_cases c2 : W i = -1000006
      · rw [if_pos c2, if_neg (by omega)] at e
        rw [if_pos c2]; exact e
      · rw [if_neg c2, c, if_pos rfl] at e
        rw [if_neg c2]; exact e
    · rw [if_neg c, if_neg (by decide)]
      rw [if_neg (by omega)] at e
      exact e
theorem pu_flourCount {g : Nat} (hg : g ≤ 24) {W : Nat → Int32} : ∀ (d i fu : Nat), d + i = g → d < fu → f_X5_flourishes_L4 fu (nI g) W (nI (bwFl W i)) (nI i) = some (nI (bwFl W g)) := by
  intro d
  induction d with
  | zero =>
    intro i fu h1 h2
    obtain ⟨fu, rfl⟩ : ∃ u, fu = u + 1 := ⟨fu - 1, by omega⟩
    have hi : i = g := by omega
    subst hi
    rw [f_X5_flourishes_L4, if_pos ((pu_le (by omega) (by omega)).mpr (Nat.le_refl _))]
  | succ d ih =>
    intro i fu h1 h2
    obtain ⟨fu, rfl⟩ : ∃ u, fu = u + 1 := ⟨fu - 1, by omega⟩
    have hi : i < g := by omega
    have e := ih (i + 1) fu (by omega) (by omega)
    rw [f_X5_flourishes_L4, if_neg (fun q => absurd ((pu_le (by omega) (by omega)).mp q) (by omega)), if_pos (pu_in (show i < 24 by omega) (by omega)), pu_cl (by omega), pu_flourM]
    simp only [Option.bind_some]
    rw [pu_1, pu_1]
    rw [bwFl] at e
    by_cases c : W i < 42
    · rw [if_pos c] at e
      rw [if_pos c, if_pos rfl, show nI (bwFl W i) + 0 = nI (bwFl W i + 0) from pu_add _ 0]; exact e
    · rw [if_neg c] at e
      rw [if_neg c, if_neg (by decide)]; exact e
/-- some three of what is left is in its order -/
def bwOrd (L : Nat → Int32) (t : Nat) : Prop := (0 ≤ (L (3 * t)).toInt ∧ (L (3 * t)).toInt < 6) ∧ (6 ≤ (L (3 * t + 1)).toInt ∧ (L (3 * t + 1)).toInt < 42) ∧ (0 ≤ (L (3 * t + 2)).toInt ∧ (L (3 * t + 2)).toInt < 6)
theorem pu_part {t w : Nat} (L : Nat → Int32) (h : 3 * t + w < 24) : f_X3_part L (nI t) (nI w) = some (L (3 * t + w)) := by
  unfold f_X3_part
  rw [show (3 : Int32) * nI t = nI (3 * t) from pu_mul 3 t, pu_add, if_neg (pu_neg (by omega)), if_neg (show ¬ (24 : Int32) ≤ nI (3 * t + w) from pu_ofn (n := 24) h (by omega)), if_pos (pu_in h (by omega)), pu_cl (by omega)]
theorem pu_nameC (x : Int32) : f_X4_isNameOfCourtier x = some (if 0 ≤ x.toInt ∧ x.toInt < 6 then 1 else 0) := by
  unfold f_X4_isNameOfCourtier
  have k1 : x < 0 ↔ x.toInt < 0 := Int32.lt_iff_toInt_lt
  have k2 : (6 : Int32) ≤ x ↔ 6 ≤ x.toInt := Int32.le_iff_toInt_le
  by_cases h1 : x.toInt < 0
  · rw [if_pos (k1.mpr h1), if_neg (by omega)]
  · rw [if_neg (fun q => h1 (k1.mp q))]
    by_cases h2 : 6 ≤ x.toInt
    · rw [if_pos (k2.mpr h2), if_neg (by omega)]
    · rw [if_neg (fun q => h2 (k2.mp q)), if_pos (by omega)]
theorem pu_deedC (x : Int32) : f_X4_isDeed x = some (if 6 ≤ x.toInt ∧ x.toInt < 42 then 1 else 0) := by
  unfold f_X4_isDeed
  have k1 : x < 6 ↔ x.toInt < 6 := Int32.lt_iff_toInt_lt
  have k2 : (42 : Int32) ≤ x ↔ 42 ≤ x.toInt := Int32.le_iff_toInt_le
  by_cases h1 : x.toInt < 6
  · rw [if_pos (k1.mpr h1), if_neg (by omega)]
  · rw [if_neg (fun q => h1 (k1.mp q))]
    by_cases h2 : 42 ≤ x.toInt
    · rw [if_pos (k2.mpr h2), if_neg (by omega)]
    · rw [if_neg (fun q => h2 (k2.mp q)), if_pos (by omega)]
theorem pu_inOrder {t : Nat} (L : Nat → Int32) (h : 3 * t + 2 < 24) : ∃ r, f_X3_isInOrder L (nI t) = some r ∧ (r = 0 ↔ ¬ bwOrd L t) := by
  unfold f_X3_isInOrder bwOrd
  rw [show f_X3_part L (nI t) 0 = some (L (3 * t)) from pu_part (w := 0) L (by omega), show f_X3_part L (nI t) 1 = some (L (3 * t + 1)) from pu_part (w := 1) L (by omega), show f_X3_part L (nI t) 2 = some (L (3 * t + 2)) from pu_part (w := 2) L (by omega)]
  simp only [Option.bind_some, pu_nameC, pu_deedC]
  by_cases c1 : 0 ≤ (L (3 * t)).toInt ∧ (L (3 * t)).toInt < 6
  · rw [if_pos c1, if_neg (by decide)]
    by_cases c2 : 6 ≤ (L (3 * t + 1)).toInt ∧ (L (3 * t + 1)).toInt < 42
    · rw [if_pos c2, if_neg (by decide)]
      by_cases c3 : 0 ≤ (L (3 * t + 2)).toInt ∧ (L (3 * t + 2)).toInt < 6
      · rw [if_pos c3, if_neg (by decide)]
        exact ⟨1, rfl, fun q => absurd q (by decide), fun q => absurd ⟨c1, c2, c3⟩ q⟩
      · rw [if_neg c3, if_pos rfl]
        exact ⟨0, rfl, fun _ q => c3 q.2.2, fun _ => rfl⟩
    · rw [if_neg c2, if_pos rfl]
      exact ⟨0, rfl, fun _ q => c2 q.2.1, fun _ => rfl⟩
  · rw [if_neg c1, if_pos rfl]
    exact ⟨0, rfl, fun _ q => c1 q.1, fun _ => rfl⟩
