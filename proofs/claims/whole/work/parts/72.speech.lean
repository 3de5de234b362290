/-! PURE: speech, word, sentence -/
theorem pu_lookR {c : bwCt} {v : Nat → Int32} (hc : bwCR c v) (e : Int32) (s0 : bwSn) (gr ll : Int32) (W0 L0 : Nat → Int32) :
    ∃ (s : bwSn) (q : bwPt), f_X3_look s0.1 s0.2.1 s0.2.2.1 s0.2.2.2.1 s0.2.2.2.2.1 s0.2.2.2.2.2.1 s0.2.2.2.2.2.2.1 s0.2.2.2.2.2.2.2 c.1 c.2.2.2.1 c.2.2.2.2.2.2.1 c.2.2.2.2.2.2.2 e = some s ∧ f_X5_parts gr ll v W0 L0 e = some q ∧ bwSR s q ∧ f_X5_sentences gr ll v W0 L0 e = some (s.2.2.2.2.2.1, q) := by
  obtain ⟨h1, h2, h3, h4, h5, h6, nb, h7, h8, h9⟩ := hc
  obtain ⟨s, q, e1, e2, e3⟩ := pu_look h7 (st := c.2.2.2.1) (num := c.2.2.2.2.2.2.1) (pau := c.2.2.2.2.2.2.2) (v := v) e (h1.trans h8) (h4 0 (by omega)) h9 s0 gr ll W0 L0
  rw [← h8] at e1
  exact ⟨s, q, e1, e2, e3, pu_sent e3 e2⟩
theorem pu_c4 (p : Int32) : (0 ≤ p.toInt ∧ p.toInt ≤ 3) ↔ (p = 0 ∨ p = 1 ∨ p = 2 ∨ p = 3) := by
  have k0 : p = 0 ↔ p.toInt = 0 := Int32.toInt_inj.symm
  have k1 : p = 1 ↔ p.toInt = 1 := Int32.toInt_inj.symm
  have k2 : p = 2 ↔ p.toInt = 2 := Int32.toInt_inj.symm
  have k3 : p = 3 ↔ p.toInt = 3 := Int32.toInt_inj.symm
  rw [k0, k1, k2, k3]; omega
theorem ok_speech (p0 p1 : Int32) : bwO bwRel (fun x => x_speech x p0 p1) (fun m => m_speech m p0 p1) := by
  intro x m ⟨hc, hp, hs, hh⟩
  simp only [x_speech, m_speech]
  unfold f_X5_speech f_X4_speech
  rw [pu_eyesM, pu_eyesC, pu_inI, show (0 : Int64).toInt = 0 from rfl, show (3 : Int64).toInt = 3 from rfl]
  obtain ⟨s, q, e1, e2, e3, e4⟩ := pu_lookR hc p0 x.2.2.1 m.2.1 m.2.2.1 m.2.2.2.2.2.2.2.2.2.2.2.1 m.2.2.2.2.2.2.2.2.2.2.2.2.1
  rw [e1, e4]
  simp only [Option.bind_some]
  by_cases c : 0 ≤ p0.toInt ∧ p0.toInt ≤ 2
  · simp only [if_pos c, if_neg pu_one0]
    obtain ⟨G, F, T, -, g1, g2, -, g4, g5, g6, -, -⟩ := id e3
    by_cases d : 0 ≤ p1.toInt ∧ p1.toInt ≤ 3
    · simp only [if_pos d, if_neg pu_one0]
      rw [g6, g5]
      simp only [Option.bind_some]
      rcases (pu_c4 p1).mp d with rfl | rfl | rfl | rfl
      · simp only [if_true, Option.bind_some]
        exact bwO_fin (g1.trans g2.symm) ⟨hc, hp, hs, hh⟩
      · simp only [show ¬ (1 : Int32) = 0 by decide, if_true, if_false, Option.bind_some]
        exact bwO_fin rfl ⟨hc, hp, hs, hh⟩
      · simp only [show ¬ (2 : Int32) = 0 by decide, show ¬ (2 : Int32) = 1 by decide, if_true, if_false, Option.bind_some]
        exact bwO_fin rfl ⟨hc, hp, hs, hh⟩
      · simp only [show ¬ (3 : Int32) = 0 by decide, show ¬ (3 : Int32) = 1 by decide, show ¬ (3 : Int32) = 2 by decide, if_true, if_false, Option.bind_some]
        exact bwO_fin g4 ⟨hc, hp, hs, hh⟩
    · have d2 := fun z => d ((pu_c4 p1).mpr z)
      simp only [if_neg d, if_true, show ¬ p1 = 0 from fun z => d2 (Or.inl z), show ¬ p1 = 1 from fun z => d2 (Or.inr (Or.inl z)), show ¬ p1 = 2 from fun z => d2 (Or.inr (Or.inr (Or.inl z))), show ¬ p1 = 3 from fun z => d2 (Or.inr (Or.inr (Or.inr z))), if_false, Option.bind_some]
      exact bwO_fin rfl ⟨hc, hp, hs, hh⟩
  · simp only [if_neg c, if_true, Option.bind_some]
    exact bwO_fin rfl ⟨hc, hp, hs, hh⟩
theorem pu_i64m1 {n : Nat} (hn : n < 1000) : ((nI n).toInt64 - 1).toInt = (n : Int) - 1 := by
  rw [Int64.toInt_sub, Int32.toInt_toInt64, nI_toInt (by omega), show (1 : Int64).toInt = 1 from rfl]
  rw [Int.bmod_eq_of_le] <;> omega
theorem ok_word (p0 p1 : Int32) : bwO bwRel (fun x => x_word x p0 p1) (fun m => m_word m p0 p1) := by
  intro x m ⟨hc, hp, hs, hh⟩
  simp only [x_word, m_word]
  unfold f_X5_word f_X4_word
  rw [pu_eyesM, pu_eyesC]
  obtain ⟨s, q, e1, e2, e3, e4⟩ := pu_lookR hc p0 x.2.2.1 m.2.1 m.2.2.1 m.2.2.2.2.2.2.2.2.2.2.2.1 m.2.2.2.2.2.2.2.2.2.2.2.2.1
  rw [e1, e2]
  simp only [Option.bind_some]
  by_cases c : 0 ≤ p0.toInt ∧ p0.toInt ≤ 2
  · simp only [if_pos c, if_neg pu_one0]
    obtain ⟨G, F, T, g0, g1, g2, g3, -, -, -, -, -⟩ := id e3
    rw [pu_inI, g1, g2, show (0 : Int64).toInt = 0 from rfl, pu_i64m1 (by omega)]
    simp only [Option.bind_some]
    have k1 : p1 < 0 ↔ p1.toInt < 0 := Int32.lt_iff_toInt_lt
    have k2 : p1 < nI G ↔ p1.toInt < (nI G).toInt := Int32.lt_iff_toInt_lt
    rw [nI_toInt (by omega)] at k2
    by_cases d : 0 ≤ p1.toInt ∧ p1.toInt ≤ (G : Int) - 1
    · obtain ⟨k, hk, rfl⟩ := pu_toN (x := p1) (n := G) (by omega) (by omega) (by omega)
      simp only [if_pos d, if_neg pu_one0, if_neg (fun z => absurd (k1.mp z) (by omega)), if_pos (k2.mpr (by omega)), if_pos (pu_in (show k < 24 by omega) (show 24 ≤ 1000 by omega))]
      rw [pu_at _ (show k < 24 by omega) (by omega), pu_cl (by omega)]
      simp only [Option.bind_some]
      exact bwO_fin (g3 k hk) ⟨hc, hp, hs, hh⟩
    · simp only [if_neg d, if_true, Option.bind_some]
      by_cases d1 : p1.toInt < 0
      · simp only [if_pos (k1.mpr d1), Option.bind_some]
        exact bwO_fin rfl ⟨hc, hp, hs, hh⟩
      · simp only [if_neg (fun z => d1 (k1.mp z)), if_neg (fun z => absurd (k2.mp z) (by omega)), Option.bind_some]
        exact bwO_fin rfl ⟨hc, hp, hs, hh⟩
  · simp only [if_neg c, if_true, Option.bind_some]
    exact bwO_fin rfl ⟨hc, hp, hs, hh⟩
/-- how many sentences: at most eight, none where it says nothing -/
theorem pu_SRn {s : bwSn} {q : bwPt} (h : bwSR s q) : ∃ T : Nat, T ≤ 8 ∧ s.2.2.2.2.2.1 = nI T ∧ (s.2.2.2.2.1 = 0 ↔ 0 < T) ∧ (∀ j, j < 3 * T → s.2.2.2.2.2.2.2 j = q.2.2.2 j) ∧ ∀ u, u < T → bwOrd s.2.2.2.2.2.2.2 u ∧ s.2.2.2.2.2.2.2 (3 * u) ≠ s.2.2.2.2.2.2.2 (3 * u + 2) := by
  obtain ⟨G, F, T, -, -, -, -, -, -, -, h8, h9⟩ := h
  by_cases c : s.2.2.2.2.1 = 0
  · obtain ⟨z1, z2, z3, z4, z5, z6⟩ := h9 c
    exact ⟨T, z2, z4, ⟨fun _ => z1, fun _ => c⟩, z5, z6⟩
  · exact ⟨0, by omega, h8 c, ⟨fun z => absurd z c, fun z => absurd z (by omega)⟩, fun j hj => absurd hj (by omega), fun u hu => absurd hu (by omega)⟩
theorem pu_kind {t : Nat} (L : Nat → Int32) (h : 3 * t + 1 < 24) : f_X3_isKind L (nI t) = some (if L (3 * t + 1) - L (3 * t + 1) / 2 * 2 = 0 then 1 else 0) := by
  unfold f_X3_isKind
  rw [show f_X3_part L (nI t) 1 = some (L (3 * t + 1)) from pu_part (w := 1) L h]
  simp only [Option.bind_some]
  by_cases c : L (3 * t + 1) - L (3 * t + 1) / 2 * 2 = 0
  · rw [if_pos c, if_pos c]
  · rw [if_neg c, if_neg c]
theorem ok_sentence (p0 p1 p2 : Int32) : bwO bwRel (fun x => x_sentence x p0 p1 p2) (fun m => m_sentence m p0 p1 p2) := by
  intro x m ⟨hc, hp, hs, hh⟩
  simp only [x_sentence, m_sentence]
  unfold f_X5_sentence f_X4_sentence
  rw [pu_eyesM, pu_eyesC, pu_inI, show (0 : Int64).toInt = 0 from rfl, show (3 : Int64).toInt = 3 from rfl]
  obtain ⟨s, q, e1, e2, e3, e4⟩ := pu_lookR hc p0 x.2.2.1 m.2.1 m.2.2.1 m.2.2.2.2.2.2.2.2.2.2.2.1 m.2.2.2.2.2.2.2.2.2.2.2.2.1
  rw [e1, e4]
  simp only [Option.bind_some]
  by_cases c : 0 ≤ p0.toInt ∧ p0.toInt ≤ 2
  · simp only [if_pos c, if_neg pu_one0]
    have a1 : p2 < 0 ↔ p2.toInt < 0 := Int32.lt_iff_toInt_lt
    have a2 : p2 ≤ 3 ↔ p2.toInt ≤ 3 := Int32.le_iff_toInt_le
    by_cases d : 0 ≤ p2.toInt ∧ p2.toInt ≤ 3
    · simp only [if_pos d, if_neg pu_one0, if_neg (fun z => absurd (a1.mp z) (by omega)), if_pos (a2.mpr d.2)]
      obtain ⟨T, t1, t2, t3, t4, t5⟩ := pu_SRn e3
      rw [pu_inI, t2, show (0 : Int64).toInt = 0 from rfl, pu_i64m1 (by omega)]
      simp only [Option.bind_some]
      have k1 : p1 < 0 ↔ p1.toInt < 0 := Int32.lt_iff_toInt_lt
      have k2 : p1 < nI T ↔ p1.toInt < (nI T).toInt := Int32.lt_iff_toInt_lt
      rw [nI_toInt (by omega)] at k2
      by_cases f : 0 ≤ p1.toInt ∧ p1.toInt ≤ (T : Int) - 1
      · obtain ⟨k, hk, rfl⟩ := pu_toN (x := p1) (n := T) (by omega) (by omega) (by omega)
        obtain ⟨w, hw, rfl⟩ := pu_toN (x := p2) (n := 4) (by omega) (by omega) (by omega)
        simp only [if_pos f, if_neg pu_one0, if_neg (fun z => absurd (k1.mp z) (by omega)), if_pos (k2.mpr (by omega))]
        rw [show (3 : Int32) * nI k = nI (3 * k) from pu_mul 3 k, show nI (3 * k) + 1 = nI (3 * k + 1) from pu_add _ 1, pu_add (3 * k) w, pu_kind _ (show 3 * k + 1 < 24 by omega)]
        simp only [Option.bind_some]
        by_cases g : w = 3
        · subst g
          simp only [show nI 3 = 3 from rfl, if_true, if_pos (pu_in (show 3 * k + 1 < 24 by omega) (show 24 ≤ 1000 by omega))]
          rw [pu_cl (show 3 * k + 1 < 100000 by omega), ← t4 (3 * k + 1) (by omega)]
          obtain ⟨o1, -⟩ := t5 k hk
          obtain ⟨z, hz, hz2⟩ := pu_toN (x := s.2.2.2.2.2.2.2 (3 * k + 1)) (n := 42) (by have := o1.2.1.1; omega) (by have := o1.2.1.2; omega) (by omega)
          have hrem : nI z - nI z / 2 * 2 = nI (z % 2) := pk_rem (a := z) (d := 2) (by omega) (by omega) (by omega)
          rw [hz2, hrem]
          have z2 : z % 2 = 0 ∨ z % 2 = 1 := by omega
          rcases z2 with z2 | z2
          · rw [z2]
            simp only [show nI 0 = 0 from rfl, if_true, if_neg pu_one0, Option.bind_some]
            exact bwO_fin rfl ⟨hc, hp, hs, hh⟩
          · rw [z2]
            simp only [show ¬ nI 1 = 0 by decide, if_true, if_false, Option.bind_some]
            exact bwO_fin rfl ⟨hc, hp, hs, hh⟩
        · simp only [show ¬ nI w = 3 from fun z => g ((pu_eq (b := 3) (by omega) (by omega)).mp z), if_false, if_pos (pu_in (show 3 * k + w < 24 by omega) (show 24 ≤ 1000 by omega))]
          rw [pu_part _ (show 3 * k + w < 24 by omega), pu_cl (show 3 * k + w < 100000 by omega)]
          simp only [Option.bind_some]
          exact bwO_fin (t4 _ (by omega)) ⟨hc, hp, hs, hh⟩
      · simp only [if_neg f, if_true, Option.bind_some]
        by_cases d1 : p1.toInt < 0
        · simp only [if_pos (k1.mpr d1), Option.bind_some]
          exact bwO_fin rfl ⟨hc, hp, hs, hh⟩
        · simp only [if_neg (fun z => d1 (k1.mp z)), if_neg (fun z => absurd (k2.mp z) (by omega)), Option.bind_some]
          exact bwO_fin rfl ⟨hc, hp, hs, hh⟩
    · simp only [if_neg d, if_true, Option.bind_some]
      by_cases d1 : p2.toInt < 0
      · simp only [if_pos (a1.mpr d1), Option.bind_some]
        exact bwO_fin rfl ⟨hc, hp, hs, hh⟩
      · simp only [if_neg (fun z => d1 (a1.mp z)), if_neg (fun z => absurd (a2.mp z) (by omega)), Option.bind_some]
        exact bwO_fin rfl ⟨hc, hp, hs, hh⟩
  · simp only [if_neg c, if_true, Option.bind_some]
    exact bwO_fin rfl ⟨hc, hp, hs, hh⟩
