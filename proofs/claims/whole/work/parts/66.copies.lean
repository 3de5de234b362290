/-! PURE: the model's other rows that are copied or emptied -/
theorem pu_keeps (all : Nat → Int32) : ∀ (d k : Nat) (kept : Nat → Int32) (fu : Nat), d + k = 120 → d < fu → ∃ r, f_X5_keeps_L2 fu all kept (nI k) = some r ∧ (∀ j, k ≤ j → j < 120 → r j = all j) ∧ ∀ j, j < k → r j = kept j := by
  intro d
  induction d with
  | zero =>
    intro k kept fu h1 h2
    obtain ⟨fu, rfl⟩ : ∃ u, fu = u + 1 := ⟨fu - 1, by omega⟩
    rw [f_X5_keeps_L2, if_pos (show (120 : Int32) ≤ nI k from (pu_le (a := 120) (by omega) (by omega)).mpr (by omega))]
    exact ⟨kept, rfl, fun j _ _ => by omega, fun j _ => rfl⟩
  | succ d ih =>
    intro k kept fu h1 h2
    obtain ⟨fu, rfl⟩ : ∃ u, fu = u + 1 := ⟨fu - 1, by omega⟩
    rw [f_X5_keeps_L2, if_neg (show ¬ (120 : Int32) ≤ nI k from pu_ofn (n := 120) (by omega) (by omega))]
    simp only [if_pos (pu_in (show k < 120 by omega) (show 120 ≤ 1000 by omega))]
    rw [pu_cl (show k < 100000 by omega), pu_1]
    obtain ⟨r, e1, e2, e3⟩ := ih (k + 1) (upd kept k (all k)) fu (by omega) (by omega)
    refine ⟨r, e1, fun j q1 q2 => ?_, fun j q1 => by rw [e3 j (by omega), pk_un (by omega)]⟩
    rcases Nat.lt_or_ge k j with q3 | q3
    · exact e2 j q3 q2
    · have q4 : j = k := by omega
      subst q4
      rw [e3 _ (by omega), pk_us]
theorem pu_comesBack (kept : Nat → Int32) : ∀ (d k : Nat) (all : Nat → Int32) (fu : Nat), d + k = 120 → d < fu → ∃ r, f_X5_comesBack_L2 fu all kept (nI k) = some r ∧ (∀ j, k ≤ j → j < 120 → r j = kept j) ∧ ∀ j, j < k → r j = all j := by
  intro d
  induction d with
  | zero =>
    intro k all fu h1 h2
    obtain ⟨fu, rfl⟩ : ∃ u, fu = u + 1 := ⟨fu - 1, by omega⟩
    rw [f_X5_comesBack_L2, if_pos (show (120 : Int32) ≤ nI k from (pu_le (a := 120) (by omega) (by omega)).mpr (by omega))]
    exact ⟨all, rfl, fun j _ _ => by omega, fun j _ => rfl⟩
  | succ d ih =>
    intro k all fu h1 h2
    obtain ⟨fu, rfl⟩ : ∃ u, fu = u + 1 := ⟨fu - 1, by omega⟩
    rw [f_X5_comesBack_L2, if_neg (show ¬ (120 : Int32) ≤ nI k from pu_ofn (n := 120) (by omega) (by omega))]
    simp only [if_pos (pu_in (show k < 120 by omega) (show 120 ≤ 1000 by omega))]
    rw [pu_cl (show k < 100000 by omega), pu_1]
    obtain ⟨r, e1, e2, e3⟩ := ih (k + 1) (upd all k (kept k)) fu (by omega) (by omega)
    refine ⟨r, e1, fun j q1 q2 => ?_, fun j q1 => by rw [e3 j (by omega), pk_un (by omega)]⟩
    rcases Nat.lt_or_ge k j with q3 | q3
    · exact e2 j q3 q2
    · have q4 : j = k := by omega
      subst q4
      rw [e3 _ (by omega), pk_us]
theorem pu_undoL {h : Nat} (hh : h < 6) (hist : Nat → Int32) : ∀ (d k : Nat) (all : Nat → Int32) (fu : Nat), d + k = 120 → d < fu → ∃ r, f_X5_undo_L22 fu (nI h) all hist (nI k) = some (nI h, nI h, r) ∧ (∀ j, k ≤ j → j < 120 → r j = hist (120 * h + j)) ∧ ∀ j, j < k → r j = all j := by
  intro d
  induction d with
  | zero =>
    intro k all fu h1 h2
    obtain ⟨fu, rfl⟩ : ∃ u, fu = u + 1 := ⟨fu - 1, by omega⟩
    rw [f_X5_undo_L22, if_pos (show (120 : Int32) ≤ nI k from (pu_le (a := 120) (by omega) (by omega)).mpr (by omega))]
    exact ⟨all, rfl, fun j _ _ => by omega, fun j _ => rfl⟩
  | succ d ih =>
    intro k all fu h1 h2
    obtain ⟨fu, rfl⟩ : ∃ u, fu = u + 1 := ⟨fu - 1, by omega⟩
    rw [f_X5_undo_L22, if_neg (show ¬ (120 : Int32) ≤ nI k from pu_ofn (n := 120) (by omega) (by omega)), pu_ix]
    simp only [if_pos (pu_in (show k < 120 by omega) (show 120 ≤ 1000 by omega)), if_pos (pu_in (show 120 * h + k < 720 by omega) (show 720 ≤ 1000 by omega))]
    rw [pu_cl (show k < 100000 by omega), pu_cl (show 120 * h + k < 100000 by omega), pu_1]
    obtain ⟨r, e1, e2, e3⟩ := ih (k + 1) (upd all k (hist (120 * h + k))) fu (by omega) (by omega)
    refine ⟨r, e1, fun j q1 q2 => ?_, fun j q1 => by rw [e3 j (by omega), pk_un (by omega)]⟩
    rcases Nat.lt_or_ge k j with q3 | q3
    · exact e2 j q3 q2
    · have q4 : j = k := by omega
      subst q4
      rw [e3 _ (by omega), pk_us]
theorem pu_saveL {s : Nat} (hs : s < 2) (all isS : Nat → Int32) : ∀ (d k : Nat) (slots : Nat → Int32) (fu : Nat), d + k = 120 → d < fu → ∃ r, f_X5_save_L12 fu all slots isS (nI s) (nI k) = some (all 3, r, upd isS s 1) ∧ (∀ j, k ≤ j → j < 120 → r (120 * s + j) = all j) ∧ ∀ j, (j < 120 * s + k ∨ 120 * s + 120 ≤ j) → r j = slots j := by
  intro d
  induction d with
  | zero =>
    intro k slots fu h1 h2
    obtain ⟨fu, rfl⟩ : ∃ u, fu = u + 1 := ⟨fu - 1, by omega⟩
    rw [f_X5_save_L12, if_pos (show (120 : Int32) ≤ nI k from (pu_le (a := 120) (by omega) (by omega)).mpr (by omega)), if_pos (pu_in hs (by omega)), if_pos (show bw_in 3 120 by decide), pu_cl (by omega)]
    exact ⟨slots, rfl, fun j _ _ => by omega, fun j _ => rfl⟩
  | succ d ih =>
    intro k slots fu h1 h2
    obtain ⟨fu, rfl⟩ : ∃ u, fu = u + 1 := ⟨fu - 1, by omega⟩
    rw [f_X5_save_L12, if_neg (show ¬ (120 : Int32) ≤ nI k from pu_ofn (n := 120) (by omega) (by omega)), pu_ix]
    simp only [if_pos (pu_in (show k < 120 by omega) (show 120 ≤ 1000 by omega)), if_pos (pu_in (show 120 * s + k < 240 by omega) (show 240 ≤ 1000 by omega))]
    rw [pu_cl (show k < 100000 by omega), pu_cl (show 120 * s + k < 100000 by omega), pu_1]
    obtain ⟨r, e1, e2, e3⟩ := ih (k + 1) (upd slots (120 * s + k) (all k)) fu (by omega) (by omega)
    refine ⟨r, e1, fun j q1 q2 => ?_, fun j q1 => by rw [e3 j (by omega), pk_un (by omega)]⟩
    rcases Nat.lt_or_ge k j with q3 | q3
    · exact e2 j q3 q2
    · have q4 : j = k := by omega
      subst q4
      rw [e3 _ (Or.inl (by omega)), pk_us]
theorem pu_restoreL {s : Nat} (hs : s < 2) (hl : Int32) (hist slots isS : Nat → Int32) : ∀ (d k : Nat) (all : Nat → Int32) (fu : Nat), d + k = 120 → d < fu → ∃ r, f_X5_restore_L28 fu hl all hist slots isS (nI s) (nI k) = some (r 3, hl, r, hist) ∧ (∀ j, k ≤ j → j < 120 → r j = slots (120 * s + j)) ∧ ∀ j, j < k → r j = all j := by
  intro d
  induction d with
  | zero =>
    intro k all fu h1 h2
    obtain ⟨fu, rfl⟩ : ∃ u, fu = u + 1 := ⟨fu - 1, by omega⟩
    rw [f_X5_restore_L28, if_pos (show (120 : Int32) ≤ nI k from (pu_le (a := 120) (by omega) (by omega)).mpr (by omega)), if_pos (show bw_in 3 120 by decide)]
    exact ⟨all, rfl, fun j _ _ => by omega, fun j _ => rfl⟩
  | succ d ih =>
    intro k all fu h1 h2
    obtain ⟨fu, rfl⟩ : ∃ u, fu = u + 1 := ⟨fu - 1, by omega⟩
    rw [f_X5_restore_L28, if_neg (show ¬ (120 : Int32) ≤ nI k from pu_ofn (n := 120) (by omega) (by omega)), pu_ix]
    simp only [if_pos (pu_in (show k < 120 by omega) (show 120 ≤ 1000 by omega)), if_pos (pu_in (show 120 * s + k < 240 by omega) (show 240 ≤ 1000 by omega))]
    rw [pu_cl (show k < 100000 by omega), pu_cl (show 120 * s + k < 100000 by omega), pu_1]
    obtain ⟨r, e1, e2, e3⟩ := ih (k + 1) (upd all k (slots (120 * s + k))) fu (by omega) (by omega)
    refine ⟨r, e1, fun j q1 q2 => ?_, fun j q1 => by rw [e3 j (by omega), pk_un (by omega)]⟩
    rcases Nat.lt_or_ge k j with q3 | q3
    · exact e2 j q3 q2
    · have q4 : j = k := by omega
      subst q4
      rw [e3 _ (by omega), pk_us]
theorem pu_hushL : ∀ (d k : Nat) (all : Nat → Int32) (fu : Nat), d + k = 120 → 3 < k → d < fu → ∃ r, f_X5_hushes_L3 fu all (nI k) = some r ∧ r 3 = 0 ∧ ∀ j, j < k → j ≠ 3 → r j = all j := by
  intro d
  induction d with
  | zero =>
    intro k all fu h1 h3 h2
    obtain ⟨fu, rfl⟩ : ∃ u, fu = u + 1 := ⟨fu - 1, by omega⟩
    rw [f_X5_hushes_L3, if_pos (show (120 : Int32) ≤ nI k from (pu_le (a := 120) (by omega) (by omega)).mpr (by omega)), if_pos (show bw_in 3 120 by decide)]
    exact ⟨_, rfl, pk_us, fun j _ q => pk_un q⟩
  | succ d ih =>
    intro k all fu h1 h3 h2
    obtain ⟨fu, rfl⟩ : ∃ u, fu = u + 1 := ⟨fu - 1, by omega⟩
    rw [f_X5_hushes_L3, if_neg (show ¬ (120 : Int32) ≤ nI k from pu_ofn (n := 120) (by omega) (by omega))]
    simp only [if_pos (pu_in (show k < 120 by omega) (show 120 ≤ 1000 by omega))]
    rw [pu_cl (show k < 100000 by omega), pu_1]
    obtain ⟨r, e1, e2, e3⟩ := ih (k + 1) (upd all k 0) fu (by omega) (by omega) (by omega)
    exact ⟨r, e1, e2, fun j q1 q2 => by rw [e3 j (by omega) q2, pk_un (by omega)]⟩
theorem pu_hushes (all : Nat → Int32) : ∃ r, f_X5_hushes all = some r ∧ r 3 = 0 ∧ ∀ j, j < 48 → j ≠ 3 → r j = all j := by
  obtain ⟨r, e1, e2, e3⟩ := pu_hushL 72 48 all bw_F (by omega) (by omega) (by rw [pu_F]; omega)
  exact ⟨r, e1, e2, e3⟩
/-- an Int32 in a small range is a number -/
theorem pu_toN {x : Int32} {n : Nat} (h0 : 0 ≤ x.toInt) (h : x.toInt < n) (hn : n < 100000) : ∃ k : Nat, k < n ∧ x = nI k := by
  refine ⟨x.toInt.toNat, by omega, ?_⟩
  have h1 : (nI x.toInt.toNat).toInt = x.toInt := by
    rw [nI_toInt (by omega)]; omega
  exact (Int32.toInt_inj.mp h1).symm
theorem pu_ltC {x : Int32} {n : Int32} : x < n ↔ x.toInt < n.toInt := Int32.lt_iff_toInt_lt
theorem pu_leC {x : Int32} {n : Int32} : x ≤ n ↔ x.toInt ≤ n.toInt := Int32.le_iff_toInt_le
theorem pu_courC (x : Int32) : f_X4_isCourtier x = some (if 0 ≤ x.toInt ∧ x.toInt ≤ 5 then 1 else 0) := by
  have e := pu_nameC x
  unfold f_X4_isNameOfCourtier at e
  unfold f_X4_isCourtier
  rw [e]
  by_cases c : 0 ≤ x.toInt ∧ x.toInt < 6
  · rw [if_pos c, if_pos (by omega)]
  · rw [if_neg c, if_neg (by omega)]
theorem pu_eyesC (x : Int32) : f_X4_areEyes x = some (if 0 ≤ x.toInt ∧ x.toInt ≤ 2 then 1 else 0) := by
  unfold f_X4_areEyes
  have k1 : x < 0 ↔ x.toInt < 0 := Int32.lt_iff_toInt_lt
  have k2 : (3 : Int32) ≤ x ↔ 3 ≤ x.toInt := Int32.le_iff_toInt_le
  by_cases h1 : x.toInt < 0
  · rw [if_pos (k1.mpr h1), if_neg (by omega)]
  · rw [if_neg (fun q => h1 (k1.mp q))]
    by_cases h2 : 3 ≤ x.toInt
    · rw [if_pos (k2.mpr h2), if_neg (by omega)]
    · rw [if_neg (fun q => h2 (k2.mp q)), if_pos (by omega)]
theorem pu_slotC (x : Int32) : f_X4_isSlot x = some (if 0 ≤ x.toInt ∧ x.toInt ≤ 1 then 1 else 0) := by
  unfold f_X4_isSlot
  have k1 : x < 0 ↔ x.toInt < 0 := Int32.lt_iff_toInt_lt
  have k2 : (2 : Int32) ≤ x ↔ 2 ≤ x.toInt := Int32.le_iff_toInt_le
  by_cases h1 : x.toInt < 0
  · rw [if_pos (k1.mpr h1), if_neg (by omega)]
  · rw [if_neg (fun q => h1 (k1.mp q))]
    by_cases h2 : 2 ≤ x.toInt
    · rw [if_pos (k2.mpr h2), if_neg (by omega)]
    · rw [if_neg (fun q => h2 (k2.mp q)), if_pos (by omega)]
theorem pu_slotM (x : Int32) : f_X5_isSlot x = some (if 0 ≤ x.toInt ∧ x.toInt ≤ 1 then 1 else 0) := by
  unfold f_X5_isSlot
  have k1 : x = 0 ↔ x.toInt = 0 := Int32.toInt_inj.symm
  have k2 : x = 1 ↔ x.toInt = 1 := Int32.toInt_inj.symm
  by_cases h1 : x.toInt = 0
  · rw [if_pos (k1.mpr h1), if_pos (by omega)]
  · rw [if_neg (fun q => h1 (k1.mp q))]
    by_cases h2 : x.toInt = 1
    · rw [if_pos (k2.mpr h2), if_pos (by omega)]
    · rw [if_neg (fun q => h2 (k2.mp q)), if_neg (by omega)]
