/-! PURE: bow, takeBack, undo, save, restore -/
theorem pu_one0 : ¬ (1 : Int32) = 0 := by decide
theorem ok_bow (p0 p1 p2 : Int32) : bwO bwRel (fun x => x_bow x p0 p1 p2) (fun m => m_bow m p0 p1 p2) := by
  intro x m ⟨hc, hp, hs, hh⟩
  obtain ⟨h1, -, -, -, -, -, nb, h7, h8, -⟩ := id hc
  have hC : ∀ K : Option (Int32 × Int32 × (Nat → Int32) × (Nat → Int32) × bwH), ∀ B, (if p0 < 1 then B else (if 3 < p0 then B else (if p1 < 0 then B else (if 2 ≤ p1 then B else (if p2 < 0 then B else (if p2 ≤ 9 then K else B)))))) = if (1 ≤ p0.toInt ∧ p0.toInt ≤ 3) ∧ (0 ≤ p1.toInt ∧ p1.toInt ≤ 1) ∧ (0 ≤ p2.toInt ∧ p2.toInt ≤ 9) then K else B := by
    intro K B
    have a1 : p0 < 1 ↔ p0.toInt < 1 := Int32.lt_iff_toInt_lt
    have a2 : 3 < p0 ↔ 3 < p0.toInt := Int32.lt_iff_toInt_lt
    have a3 : p1 < 0 ↔ p1.toInt < 0 := Int32.lt_iff_toInt_lt
    have a4 : 2 ≤ p1 ↔ 2 ≤ p1.toInt := Int32.le_iff_toInt_le
    have a5 : p2 < 0 ↔ p2.toInt < 0 := Int32.lt_iff_toInt_lt
    have a6 : p2 ≤ 9 ↔ p2.toInt ≤ 9 := Int32.le_iff_toInt_le
    by_cases c1 : p0.toInt < 1
    · rw [if_pos (a1.mpr c1), if_neg (by omega)]
    rw [if_neg (fun z => c1 (a1.mp z))]
    by_cases c2 : 3 < p0.toInt
    · rw [if_pos (a2.mpr c2), if_neg (by omega)]
    rw [if_neg (fun z => c2 (a2.mp z))]
    by_cases c3 : p1.toInt < 0
    · rw [if_pos (a3.mpr c3), if_neg (by omega)]
    rw [if_neg (fun z => c3 (a3.mp z))]
    by_cases c4 : 2 ≤ p1.toInt
    · rw [if_pos (a4.mpr c4), if_neg (by omega)]
    rw [if_neg (fun z => c4 (a4.mp z))]
    by_cases c5 : p2.toInt < 0
    · rw [if_pos (a5.mpr c5), if_neg (by omega)]
    rw [if_neg (fun z => c5 (a5.mp z))]
    by_cases c6 : p2.toInt ≤ 9
    · rw [if_pos (a6.mpr c6), if_pos (by omega)]
    · rw [if_neg (fun z => c6 (a6.mp z)), if_neg (by omega)]
  simp only [x_bow, m_bow]
  unfold f_X5_bow f_X4_bow
  rw [hC, pu_inI, pu_inI, pu_inI, show (1 : Int64).toInt = 1 from rfl, show (3 : Int64).toInt = 3 from rfl, show (0 : Int64).toInt = 0 from rfl, show (9 : Int64).toInt = 9 from rfl]
  simp only [Option.bind_some]
  by_cases c1 : 1 ≤ p0.toInt ∧ p0.toInt ≤ 3
  · by_cases c2 : 0 ≤ p1.toInt ∧ p1.toInt ≤ 1
    · by_cases c3 : 0 ≤ p2.toInt ∧ p2.toInt ≤ 9
      · simp only [c1, c2, c3, and_self, if_true, if_neg pu_one0, if_pos (show bw_in 3 120 by decide), show Int32.toNatClampNeg 3 = 3 from rfl]
        rw [h1, h8]
        by_cases c4 : nb = 24
        · rw [if_neg (show ¬ nI nb < 24 by rw [c4]; decide), if_pos (show nI nb = 24 by rw [c4]; rfl)]
          simp only [Option.bind_some]
          refine bwO_fin rfl ⟨?_, hp, hs, hh⟩
          rw [← h8]; exact hc
        · rw [if_pos (show nI nb < 24 from (pu_lt (b := 24) (by omega) (by omega)).mpr (by omega)), if_neg (show ¬ nI nb = 24 from fun q => c4 ((pu_eq (b := 24) (by omega) (by omega)).mp q))]
          obtain ⟨hs', hl', hist', e1, e2, e3⟩ := pu_remember hc hh
          rw [← h8, show f_X1_remember x.1.1 x.1.2.1 x.1.2.2.1 x.1.2.2.2.1 x.1.2.2.2.2.1 x.1.2.2.2.2.2.1 x.1.2.2.2.2.2.2.1 x.1.2.2.2.2.2.2.2 x.2.2.2.2.2.2 = some hs' from e1, e2]
          unfold f_X4_bowNumber
          simp only [Option.bind_some]
          rw [pu_adds (nb := nb) (by omega) (h1.trans h8), h8, pu_addBow (by omega)]
          simp only [Option.bind_some]
          exact bwO_fin pk_us.symm ⟨pu_CRadd hc (by omega) h8 _ _, hp, hs, e3⟩
      · simp only [c1, c2, c3, and_self, and_false, if_false, if_true, if_neg pu_one0, Option.bind_some]
        exact bwO_fin rfl ⟨hc, hp, hs, hh⟩
    · simp only [c1, c2, and_self, and_false, false_and, if_false, if_true, if_neg pu_one0, Option.bind_some]
      exact bwO_fin rfl ⟨hc, hp, hs, hh⟩
  · simp only [c1, and_self, and_false, false_and, if_false, if_true, if_neg pu_one0, Option.bind_some]
    exact bwO_fin rfl ⟨hc, hp, hs, hh⟩
theorem ok_takeBack : bwO bwRel (fun x => x_takeBack x) (fun m => m_takeBack m) := by
  intro x m ⟨hc, hp, hs, hh⟩
  obtain ⟨h1, h2, h3, h4, h5, h6, nb, h7, h8, h9⟩ := id hc
  simp only [x_takeBack, m_takeBack]
  unfold f_X5_takeBack f_X4_takeBack
  simp only [if_pos (show bw_in 3 120 by decide), show Int32.toNatClampNeg 3 = 3 from rfl]
  by_cases c : nb = 0
  · rw [if_neg (show ¬ 0 < x.1.1 by rw [h8, c]; decide), if_pos (show m.2.2.2.2.2.2.1 3 = 0 by rw [h1, h8, c]; rfl)]
    simp only [Option.bind_some]
    exact bwO_fin rfl ⟨hc, hp, hs, hh⟩
  obtain ⟨k, rfl⟩ : ∃ k, nb = k + 1 := ⟨nb - 1, by omega⟩
  rw [if_pos (show 0 < x.1.1 by rw [h8]; exact (pu_lt (a := 0) (by omega) (by omega)).mpr (by omega)), if_neg (show ¬ m.2.2.2.2.2.2.1 3 = 0 by rw [h1, h8]; exact fun q => c ((pu_eq (b := 0) (by omega) (by omega)).mp q))]
  obtain ⟨hs', hl', hist', e1, e2, e3⟩ := pu_remember hc hh
  rw [show f_X1_remember x.1.1 x.1.2.1 x.1.2.2.1 x.1.2.2.2.1 x.1.2.2.2.2.1 x.1.2.2.2.2.2.1 x.1.2.2.2.2.2.2.1 x.1.2.2.2.2.2.2.2 x.2.2.2.2.2.2 = some hs' from e1, e2]
  unfold f_X0_bowAt
  rw [h1, h8, nI_pred, pu_at _ (show k < 24 by omega) (by omega)]
  simp only [Option.bind_some, pk_us]
  rw [show (48 : Int32) + nI k = nI (48 + k) from pu_add 48 k]
  simp only [if_pos (pu_in (show 48 + k < 120 by omega) (show 120 ≤ 1000 by omega)), pu_cl (show 48 + k < 100000 by omega)]
  rw [pk_un (f := upd m.2.2.2.2.2.2.1 3 (nI k)) (show 3 ≠ 48 + k by omega)]
  simp only [pk_us]
  rw [show (72 : Int32) + nI k = nI (72 + k) from pu_add 72 k]
  simp only [if_pos (pu_in (show 72 + k < 120 by omega) (show 120 ≤ 1000 by omega)), pu_cl (show 72 + k < 100000 by omega), Option.bind_some]
  have un : ∀ j, j ≠ 3 → j ≠ 48 + k → j ≠ 72 + k → upd (upd (upd m.2.2.2.2.2.2.1 3 (nI k)) (48 + k) 0) (72 + k) 0 j = m.2.2.2.2.2.2.1 j := fun j q1 q2 q3 => by rw [pk_un q3, pk_un q2, pk_un q1]
  have hCR : bwCR (nI k, x.1.2.1, x.1.2.2.1, x.1.2.2.2.1, x.1.2.2.2.2.1, x.1.2.2.2.2.2.1, x.1.2.2.2.2.2.2.1, x.1.2.2.2.2.2.2.2) (upd (upd (upd m.2.2.2.2.2.2.1 3 (nI k)) (48 + k) 0) (72 + k) 0) :=
    ⟨by rw [pk_un (show 3 ≠ 72 + k by omega), pk_un (show 3 ≠ 48 + k by omega), pk_us], (un 4 (by omega) (by omega) (by omega)).trans h2, (un 5 (by omega) (by omega) (by omega)).trans h3, fun j hj => (un j (by omega) (by omega) (by omega)).trans (h4 j hj), fun j hj => (un _ (by omega) (by omega) (by omega)).trans (h5 j hj), fun j hj => (un _ (by omega) (by omega) (by omega)).trans (h6 j hj), k, by omega, rfl, fun j hj => ⟨(un _ (by omega) (by omega) (by omega)).trans (h9 j (by omega)).1, (un _ (by omega) (by omega) (by omega)).trans (h9 j (by omega)).2⟩⟩
  exact bwO_fin ((h9 k (by omega)).1.symm.trans (pk_un (show 48 + k ≠ 3 by omega)).symm) ⟨hCR, hp, hs, e3⟩
theorem ok_undo : bwO bwRel (fun x => x_undo x) (fun m => m_undo m) := by
  intro x m ⟨hc, hp, hs, hh⟩
  obtain ⟨h, n, a1, a2, a3, a4, a5, a6⟩ := id hh
  simp only [x_undo, m_undo]
  unfold f_X5_undo f_X4_undo f_X1_stepBack f_sbC
  rw [a3, a4, a5]
  have hidx : nI n + 6 - 1 - (nI n + 6 - 1) / 6 * 6 = nI ((n + 5) % 6) := by
    rw [show nI n + 6 = nI (n + 5 + 1) from (pu_add n 6).trans (congrArg nI (by omega)), nI_pred]
    exact pk_rem (a := n + 5) (d := 6) (by omega) (by omega) (by omega)
  rw [hidx]
  by_cases c : h = 0
  · subst c
    rw [if_pos (show nI 0 ≤ 0 by decide), if_pos (show nI 0 = 0 from rfl)]
    simp only [Option.bind_some, if_true]
    refine bwO_fin rfl ⟨hc, hp, hs, ?_⟩
    exact ⟨0, n, by omega, a2, a3, a4, rfl, fun i hi => absurd hi (Nat.not_lt_zero i)⟩
  obtain ⟨k, rfl⟩ : ∃ k, h = k + 1 := ⟨h - 1, by omega⟩
  have hlt : (n + 5) % 6 < 6 := Nat.mod_lt _ (by omega)
  rw [if_neg (show ¬ nI (k + 1) ≤ 0 from fun q => absurd ((pu_le (b := 0) (by omega) (by omega)).mp q) (by omega)), if_neg (pu_neg (show (n + 5) % 6 < 100000 by omega)), if_pos (pu_in hlt (by omega)), pu_cl (show (n + 5) % 6 < 100000 by omega), if_neg (show ¬ nI (k + 1) = 0 from fun q => absurd ((pu_eq (b := 0) (by omega) (by omega)).mp q) (by omega)), nI_pred]
  obtain ⟨d, g1, g2⟩ := a6 k (by omega)
  have g1' : x.2.2.2.2.2.2.2.2 ((n + 5) % 6) = some d := by rw [← g1]; exact congrArg x.2.2.2.2.2.2.2.2 (by omega)
  rw [g1']
  obtain ⟨q, e1, e2⟩ := pu_become (x.1.1, x.1.2.1, x.1.2.2.1, x.1.2.2.2.1, x.1.2.2.2.2.1, x.1.2.2.2.2.2.1, x.1.2.2.2.2.2.2.1, x.1.2.2.2.2.2.2.2) d
  obtain ⟨v, b1, b2, -⟩ := pu_undoL (h := k) (by omega) m.2.2.2.2.2.2.2.2.1 120 0 m.2.2.2.2.2.2.1 bw_F (by omega) (by rw [pu_F]; omega)
  rw [show f_X5_undo_L22 bw_F (nI k) m.2.2.2.2.2.2.1 m.2.2.2.2.2.2.2.2.1 0 = _ from b1]
  simp only [e1, Option.bind_some, if_neg pu_one0]
  refine bwO_fin rfl ⟨pu_CRs e2 (fun j hj => b2 j (Nat.zero_le j) hj) g2, hp, hs, ?_⟩
  refine ⟨k, (n + 5) % 6, by omega, hlt, rfl, rfl, rfl, fun i hi => ?_⟩
  obtain ⟨c1, z1, z2⟩ := a6 i (by omega)
  refine ⟨c1, ?_, z2⟩
  rw [← z1]
  exact congrArg x.2.2.2.2.2.2.2.2 (by omega)
theorem ok_save (p0 : Int32) : bwO bwRel (fun x => x_save x p0) (fun m => m_save m p0) := by
  intro x m ⟨hc, hp, hs, hh⟩
  simp only [x_save, m_save]
  unfold f_saveC f_X5_save
  rw [pu_slotC, pu_slotM]
  simp only [Option.bind_some]
  by_cases c : 0 ≤ p0.toInt ∧ p0.toInt ≤ 1
  · simp only [if_pos c, if_neg pu_one0]
    obtain ⟨k, hk, rfl⟩ := pu_toN (x := p0) (n := 2) (by omega) (by omega) (by omega)
    rw [if_pos (pu_in hk (by omega)), pu_cl (by omega)]
    obtain ⟨q, e1, e2⟩ := pu_become ((x.2.2.2.2.2.1 k).getD bw_c0) x.1
    obtain ⟨sl, b1, b2, b3⟩ := pu_saveL hk m.2.2.2.2.2.2.1 m.2.2.2.2.2.2.2.2.2.2.1 120 0 m.2.2.2.2.2.2.2.2.2.1 bw_F (by omega) (by rw [pu_F]; omega)
    rw [e1, show f_X5_save_L12 bw_F m.2.2.2.2.2.2.1 m.2.2.2.2.2.2.2.2.2.1 m.2.2.2.2.2.2.2.2.2.2.1 (nI k) 0 = _ from b1]
    simp only [Option.bind_some]
    have hSL : bwSL (va_up x.2.2.2.2.2.1 k (some q)) sl (upd m.2.2.2.2.2.2.2.2.2.2.1 k 1) := by
      intro s hs2
      rw [pu_vaup, pu_upd]
      by_cases z : s = k
      · subst z
        rw [if_pos rfl, if_pos rfl]
        refine ⟨⟨fun w => absurd w (by decide), fun w => by cases w⟩, fun c1 w => ?_⟩
        cases w
        exact pu_CRs e2 (fun j hj => b2 j (Nat.zero_le j) hj) hc
      · rw [if_neg z, if_neg z]
        refine ⟨(hs s hs2).1, fun c1 w => ?_⟩
        exact pu_CRv (fun j hj => b3 _ (by omega)) ((hs s hs2).2 c1 w)
    exact bwO_fin hc.1.symm ⟨hc, hp, hSL, hh⟩
  · simp only [if_neg c, if_true, Option.bind_some]
    exact bwO_fin rfl ⟨hc, hp, hs, hh⟩
theorem pu_restM {k : Nat} (hk : k < 2) {hl hl' : Int32} {all hist hist' slots isS : Nat → Int32} (hz : ¬ isS k = 0) (e2 : f_X5_changes hl all hist = some (hl', hist')) : ∃ v, f_X5_restore hl all hist slots isS (nI k) = some (v 3, hl', v, hist') ∧ ∀ j, j < 120 → v j = slots (120 * k + j) := by
  obtain ⟨v, b1, b2, -⟩ := pu_restoreL hk hl' hist' slots isS 120 0 all bw_F (by omega) (by rw [pu_F]; omega)
  refine ⟨v, ?_, fun j hj => b2 j (Nat.zero_le j) hj⟩
  rw [nI_0] at b1
  unfold f_X5_restore
  have h1 : f_X5_isSlot (nI k) = some 1 := by
    have hk2 : k = 0 ∨ k = 1 := by omega
    rcases hk2 with rfl | rfl <;> rfl
  rw [h1, Option.bind_some, if_neg pu_one0, if_pos (pu_in hk (by omega)), pu_cl (by omega), if_neg hz, e2, Option.bind_some]
  exact b1
theorem ok_restore (p0 : Int32) : bwO bwRel (fun x => x_restore x p0) (fun m => m_restore m p0) := by
  intro x m ⟨hc, hp, hs, hh⟩
  simp only [x_restore, m_restore]
  unfold f_restoreC
  rw [pu_slotC]
  simp only [Option.bind_some]
  by_cases c : 0 ≤ p0.toInt ∧ p0.toInt ≤ 1
  · simp only [if_pos c, if_neg pu_one0]
    obtain ⟨k, hk, rfl⟩ := pu_toN (x := p0) (n := 2) (by omega) (by omega) (by omega)
    simp only [if_pos (pu_in hk (show 2 ≤ 1000 by omega))]
    rw [pu_cl (by omega)]
    cases hf : x.2.2.2.2.2.1 k with
    | none =>
      have h1 : f_X5_restore m.1 m.2.2.2.2.2.2.1 m.2.2.2.2.2.2.2.2.1 m.2.2.2.2.2.2.2.2.2.1 m.2.2.2.2.2.2.2.2.2.2.1 (nI k) = some (-1000005, m.1, m.2.2.2.2.2.2.1, m.2.2.2.2.2.2.2.2.1) := by
        unfold f_X5_restore
        rw [pu_slotM, if_pos c, Option.bind_some, if_neg pu_one0, if_pos (pu_in hk (by omega)), pu_cl (by omega), if_pos ((hs k hk).1.mpr hf)]
      rw [h1]
      simp only [Option.bind_some]
      exact bwO_fin rfl ⟨hc, hp, hs, hh⟩
    | some d =>
      have hz : ¬ m.2.2.2.2.2.2.2.2.2.2.1 k = 0 := fun w => by rw [(hs k hk).1.mp w] at hf; cases hf
      obtain ⟨hs', hl', hist', e1, e2, e3⟩ := pu_remember hc hh
      obtain ⟨q, f1, f2⟩ := pu_become x.1 d
      obtain ⟨v, b1, b2⟩ := pu_restM hk (slots := m.2.2.2.2.2.2.2.2.2.1) hz e2
      rw [b1]
      simp only [e1, f1, Option.bind_some]
      have hCR : bwCR q v := pu_CRs f2 b2 ((hs k hk).2 d hf)
      exact bwO_fin hCR.1.symm ⟨hCR, hp, hs, e3⟩
  · have h1 : f_X5_restore m.1 m.2.2.2.2.2.2.1 m.2.2.2.2.2.2.2.2.1 m.2.2.2.2.2.2.2.2.2.1 m.2.2.2.2.2.2.2.2.2.2.1 p0 = some (-1000002, m.1, m.2.2.2.2.2.2.1, m.2.2.2.2.2.2.2.2.1) := by
      unfold f_X5_restore
      rw [pu_slotM, if_neg c, Option.bind_some, if_pos rfl]
    rw [h1]
    simp only [if_neg c, if_true, Option.bind_some]
    exact bwO_fin rfl ⟨hc, hp, hs, hh⟩
