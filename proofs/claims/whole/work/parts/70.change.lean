/-! PURE: the calls that change: set, eyes, bow, takeBack, hush; favour, wipe -/
theorem pu_CRset {c : bwCt} {v : Nat → Int32} {k : Nat} (hk : k < 3) (x : Int32) (h : bwCR c v) : bwCR (c.1, c.2.1, c.2.2.1, upd c.2.2.2.1 k x, c.2.2.2.2.1, c.2.2.2.2.2.1, c.2.2.2.2.2.2.1, c.2.2.2.2.2.2.2) (upd v k x) := by
  obtain ⟨h1, h2, h3, h4, h5, h6, nb, h7, h8, h9⟩ := h
  refine ⟨by rw [pk_un (by omega)]; exact h1, by rw [pk_un (by omega)]; exact h2, by rw [pk_un (by omega)]; exact h3, fun j hj => ?_, fun j hj => by rw [pk_un (by omega)]; exact h5 j hj, fun j hj => by rw [pk_un (by omega)]; exact h6 j hj, nb, h7, h8, fun j hj => ⟨by rw [pk_un (by omega)]; exact (h9 j hj).1, by rw [pk_un (by omega)]; exact (h9 j hj).2⟩⟩
  show upd v k x j = upd c.2.2.2.1 k x j
  rw [pu_upd, pu_upd, h4 j hj]
theorem pu_CReyes {c : bwCt} {v : Nat → Int32} {k : Nat} (hk : k < 6) (x : Int32) (h : bwCR c v) : bwCR (c.1, c.2.1, c.2.2.1, c.2.2.2.1, upd c.2.2.2.2.1 k x, c.2.2.2.2.2.1, c.2.2.2.2.2.2.1, c.2.2.2.2.2.2.2) (upd v (6 + k) x) := by
  obtain ⟨h1, h2, h3, h4, h5, h6, nb, h7, h8, h9⟩ := h
  refine ⟨by rw [pk_un (by omega)]; exact h1, by rw [pk_un (by omega)]; exact h2, by rw [pk_un (by omega)]; exact h3, fun j hj => by rw [pk_un (by omega)]; exact h4 j hj, fun j hj => ?_, fun j hj => by rw [pk_un (by omega)]; exact h6 j hj, nb, h7, h8, fun j hj => ⟨by rw [pk_un (by omega)]; exact (h9 j hj).1, by rw [pk_un (by omega)]; exact (h9 j hj).2⟩⟩
  show upd v (6 + k) x (6 + j) = upd c.2.2.2.2.1 k x j
  rw [pu_upd, pu_upd, h5 j hj]
  by_cases q : j = k
  · rw [if_pos (by omega), if_pos q]
  · rw [if_neg (by omega), if_neg q]
theorem pu_addBow {nb : Nat} (hn : nb < 24) (num pau : Nat → Int32) (n p : Int32) : f_X0_addBow (nI nb) num pau n p = some (nI (nb + 1), upd num nb n, upd pau nb p) := by
  unfold f_X0_addBow
  rw [if_neg (pu_neg (by omega)), if_neg (show ¬ (24 : Int32) ≤ nI nb from pu_ofn (n := 24) hn (by omega))]
  simp only [if_pos (pu_in hn (show 24 ≤ 1000 by omega))]
  rw [pu_cl (by omega), pu_1]
theorem pu_adds {nb : Nat} (hn : nb < 24) {v : Nat → Int32} (hv : v 3 = nI nb) (n p : Int32) : f_X5_adds v n p = some (upd (upd (upd v (48 + nb) n) (72 + nb) p) 3 (nI (nb + 1))) := by
  unfold f_X5_adds
  have e3 : (Int32.toNatClampNeg 3) = 3 := rfl
  simp only [if_pos (show bw_in 3 120 by decide), e3]
  rw [hv, show (48 : Int32) + nI nb = nI (48 + nb) from pu_add 48 nb]
  simp only [if_pos (pu_in (show 48 + nb < 120 by omega) (show 120 ≤ 1000 by omega))]
  rw [pu_cl (show 48 + nb < 100000 by omega), pk_un (f := v) (show 3 ≠ 48 + nb by omega), hv, show (72 : Int32) + nI nb = nI (72 + nb) from pu_add 72 nb]
  simp only [if_pos (pu_in (show 72 + nb < 120 by omega) (show 120 ≤ 1000 by omega))]
  rw [pu_cl (show 72 + nb < 100000 by omega), pk_un (show 3 ≠ 72 + nb by omega), pk_un (f := v) (show 3 ≠ 48 + nb by omega), hv, pu_1]
theorem pu_CRadd {c : bwCt} {v : Nat → Int32} (h : bwCR c v) {nb : Nat} (hn : nb < 24) (hb : c.1 = nI nb) (n p : Int32) : bwCR (nI (nb + 1), c.2.1, c.2.2.1, c.2.2.2.1, c.2.2.2.2.1, c.2.2.2.2.2.1, upd c.2.2.2.2.2.2.1 nb n, upd c.2.2.2.2.2.2.2 nb p) (upd (upd (upd v (48 + nb) n) (72 + nb) p) 3 (nI (nb + 1))) := by
  obtain ⟨h1, h2, h3, h4, h5, h6, nb', h7, h8, h9⟩ := h
  have e : nb' = nb := (pu_eq (by omega) (by omega)).mp (h8.symm.trans hb)
  subst e
  have un : ∀ j, j ≠ 3 → j ≠ 48 + nb' → j ≠ 72 + nb' → upd (upd (upd v (48 + nb') n) (72 + nb') p) 3 (nI (nb' + 1)) j = v j := fun j q1 q2 q3 => by rw [pk_un q1, pk_un q3, pk_un q2]
  refine ⟨pk_us, by rw [un 4 (by omega) (by omega) (by omega)]; exact h2, by rw [un 5 (by omega) (by omega) (by omega)]; exact h3, fun j hj => by rw [un j (by omega) (by omega) (by omega)]; exact h4 j hj, fun j hj => by rw [un _ (by omega) (by omega) (by omega)]; exact h5 j hj, fun j hj => by rw [un _ (by omega) (by omega) (by omega)]; exact h6 j hj, nb' + 1, by omega, rfl, fun j hj => ⟨?_, ?_⟩⟩
  · show _ = upd c.2.2.2.2.2.2.1 nb' n j
    rw [pk_un (show 48 + j ≠ 3 by omega), pk_un (show 48 + j ≠ 72 + nb' by omega), pu_upd, pu_upd]
    by_cases q : j = nb'
    · rw [if_pos (by omega), if_pos q]
    · rw [if_neg (by omega), if_neg q]; exact (h9 j (by omega)).1
  · show _ = upd c.2.2.2.2.2.2.2 nb' p j
    rw [pk_un (show 72 + j ≠ 3 by omega), pu_upd (upd v (48 + nb') n), pu_upd c.2.2.2.2.2.2.2]
    by_cases q : j = nb'
    · rw [if_pos (by omega), if_pos q]
    · rw [if_neg (by omega), if_neg q, pk_un (by omega)]; exact (h9 j (by omega)).2
theorem pu_isSet (p q : Int32) : f_X5_isSetting p q = some (if (p.toInt = 0 ∧ 2 ≤ q.toInt ∨ p.toInt = 1 ∧ 1 ≤ q.toInt ∨ p.toInt = 2 ∧ 1 ≤ q.toInt) ∧ q.toInt ≤ 9 then 1 else 0) := by
  unfold f_X5_isSetting
  have k0 : p = 0 ↔ p.toInt = 0 := Int32.toInt_inj.symm
  have k1 : p = 1 ↔ p.toInt = 1 := Int32.toInt_inj.symm
  have k2 : p = 2 ↔ p.toInt = 2 := Int32.toInt_inj.symm
  have t1 : (1 : Int64).toInt = 1 := rfl
  have t2 : (2 : Int64).toInt = 2 := rfl
  have t9 : (9 : Int64).toInt = 9 := rfl
  rw [pu_inI, pu_inI, t1, t2, t9]
  simp only [Option.bind_some, if_pos (pu_nb _)]
  by_cases c0 : p.toInt = 0
  · rw [if_pos (k0.mpr c0)]
    by_cases d : 2 ≤ q.toInt ∧ q.toInt ≤ 9
    · rw [if_pos d, if_pos (by omega)]
    · rw [if_neg d, if_neg (by omega)]
  rw [if_neg (fun z => c0 (k0.mp z))]
  by_cases c1 : p.toInt = 1
  · rw [if_pos (k1.mpr c1)]
    by_cases d : 1 ≤ q.toInt ∧ q.toInt ≤ 9
    · rw [if_pos d, if_pos (by omega)]
    · rw [if_neg d, if_neg (by omega)]
  rw [if_neg (fun z => c1 (k1.mp z))]
  by_cases c2 : p.toInt = 2
  · rw [if_pos (k2.mpr c2)]
    by_cases d : 1 ≤ q.toInt ∧ q.toInt ≤ 9
    · rw [if_pos d, if_pos (by omega)]
    · rw [if_neg d, if_neg (by omega)]
  rw [if_neg (fun z => c2 (k2.mp z)), if_neg (by omega)]
theorem pu_setC (c : bwCt) (hs : bwH) (p q : Int32) : f_X4_set c.1 c.2.1 c.2.2.1 c.2.2.2.1 c.2.2.2.2.1 c.2.2.2.2.2.1 c.2.2.2.2.2.2.1 c.2.2.2.2.2.2.2 hs p q =
    (if (p.toInt = 0 ∧ 2 ≤ q.toInt ∨ p.toInt = 1 ∧ 1 ≤ q.toInt ∨ p.toInt = 2 ∧ 1 ≤ q.toInt) ∧ q.toInt ≤ 9 then (f_remC c hs).bind fun z => some (c.2.2.2.1 p.toNatClampNeg, upd c.2.2.2.1 p.toNatClampNeg q, z) else some (-1000002, c.2.2.2.1, hs)) := by
  unfold f_X4_set
  have a0 : p < 0 ↔ p.toInt < 0 := Int32.lt_iff_toInt_lt
  have a3 : p < 3 ↔ p.toInt < 3 := Int32.lt_iff_toInt_lt
  have k0 : p = 0 ↔ p.toInt = 0 := Int32.toInt_inj.symm
  have b2 : q < 2 ↔ q.toInt < 2 := Int32.lt_iff_toInt_lt
  have b1 : q < 1 ↔ q.toInt < 1 := Int32.lt_iff_toInt_lt
  have b9 : q ≤ 9 ↔ q.toInt ≤ 9 := Int32.le_iff_toInt_le
  by_cases c1 : p.toInt < 0
  · rw [if_pos (a0.mpr c1), if_neg (by omega)]
  rw [if_neg (fun z => c1 (a0.mp z))]
  by_cases c2 : p.toInt < 3
  · obtain ⟨k, hk, rfl⟩ := pu_toN (n := 3) (by omega) c2 (by omega)
    rw [if_pos (a3.mpr c2)]
    simp only [if_pos (pu_in hk (show 3 ≤ 1000 by omega))]
    by_cases c3 : (nI k).toInt = 0
    · rw [if_pos (k0.mpr c3)]
      by_cases c4 : q.toInt < 2
      · rw [if_pos (b2.mpr c4), if_neg (by omega)]
      rw [if_neg (fun z => c4 (b2.mp z))]
      by_cases c5 : q.toInt ≤ 9
      · rw [if_pos (b9.mpr c5), if_pos (by omega)]; rfl
      · rw [if_neg (fun z => c5 (b9.mp z)), if_neg (by omega)]
    · rw [if_neg (fun z => c3 (k0.mp z))]
      by_cases c4 : q.toInt < 1
      · rw [if_pos (b1.mpr c4), if_neg (by omega)]
      rw [if_neg (fun z => c4 (b1.mp z))]
      by_cases c5 : q.toInt ≤ 9
      · rw [if_pos (b9.mpr c5), if_pos (by omega)]; rfl
      · rw [if_neg (fun z => c5 (b9.mp z)), if_neg (by omega)]
  · rw [if_neg (fun z => c2 (a3.mp z)), if_neg (by omega)]
theorem ok_set (p0 p1 : Int32) : bwO bwRel (fun x => x_set x p0 p1) (fun m => m_set m p0 p1) := by
  intro x m ⟨hc, hp, hs, hh⟩
  simp only [x_set, m_set]
  rw [pu_setC]
  unfold f_X5_set
  rw [pu_isSet]
  simp only [Option.bind_some]
  by_cases c : (p0.toInt = 0 ∧ 2 ≤ p1.toInt ∨ p0.toInt = 1 ∧ 1 ≤ p1.toInt ∨ p0.toInt = 2 ∧ 1 ≤ p1.toInt) ∧ p1.toInt ≤ 9
  · rw [if_pos c, if_pos c, if_neg (by decide)]
    obtain ⟨k, hk, rfl⟩ := pu_toN (x := p0) (n := 3) (by omega) (by omega) (by omega)
    obtain ⟨hs', hl', hist', e1, e2, e3⟩ := pu_remember hc hh
    rw [e1, e2]
    simp only [Option.bind_some, if_pos (pu_in (show k < 120 by omega) (show 120 ≤ 1000 by omega))]
    rw [pu_cl (by omega)]
    exact bwO_fin (hc.2.2.2.1 k hk).symm ⟨pu_CRset hk p1 hc, hp, hs, e3⟩
  · rw [if_neg c, if_neg c, if_pos rfl]
    exact bwO_fin rfl ⟨hc, hp, hs, hh⟩
theorem pu_CRhush {c : bwCt} {v v' : Nat → Int32} (hc : bwCR c v) (g2 : v' 3 = 0) (g3 : ∀ j, j < 48 → j ≠ 3 → v' j = v j) : bwCR (0, c.2.1, c.2.2.1, c.2.2.2.1, c.2.2.2.2.1, c.2.2.2.2.2.1, c.2.2.2.2.2.2.1, c.2.2.2.2.2.2.2) v' := by
  obtain ⟨h1, h2, h3, h4, h5, h6, nb, h7, h8, h9⟩ := hc
  exact ⟨g2, (g3 4 (by omega) (by omega)).trans h2, (g3 5 (by omega) (by omega)).trans h3, fun j hj => (g3 j (by omega) (by omega)).trans (h4 j hj), fun j hj => (g3 _ (by omega) (by omega)).trans (h5 j hj), fun j hj => (g3 _ (by omega) (by omega)).trans (h6 j hj), 0, by omega, rfl, fun j hj => absurd hj (Nat.not_lt_zero j)⟩
theorem ok_eyes (p0 p1 : Int32) : bwO bwRel (fun x => x_eyes x p0 p1) (fun m => m_eyes m p0 p1) := by
  intro x m ⟨hc, hp, hs, hh⟩
  simp only [x_eyes, m_eyes]
  unfold f_X5_eyes f_X4_eyes
  rw [pu_courM, pu_courC, pu_eyesM, pu_eyesC]
  simp only [Option.bind_some]
  by_cases c : 0 ≤ p0.toInt ∧ p0.toInt ≤ 5
  · simp only [if_pos c, if_neg (show ¬ (1 : Int32) = 0 by decide)]
    by_cases d : 0 ≤ p1.toInt ∧ p1.toInt ≤ 2
    · simp only [if_pos d, if_neg (show ¬ (1 : Int32) = 0 by decide)]
      obtain ⟨k, hk, rfl⟩ := pu_toN (x := p0) (n := 6) (by omega) (by omega) (by omega)
      obtain ⟨hs', hl', hist', e1, e2, e3⟩ := pu_remember hc hh
      rw [show f_X1_remember x.1.1 x.1.2.1 x.1.2.2.1 x.1.2.2.2.1 x.1.2.2.2.2.1 x.1.2.2.2.2.2.1 x.1.2.2.2.2.2.2.1 x.1.2.2.2.2.2.2.2 x.2.2.2.2.2.2 = some hs' from e1, e2, show (6 : Int32) + nI k = nI (6 + k) from pu_add 6 k]
      simp only [Option.bind_some, if_pos (pu_in (show k < 6 by omega) (show 6 ≤ 1000 by omega)), if_pos (pu_in (show 6 + k < 120 by omega) (show 120 ≤ 1000 by omega))]
      rw [pu_cl (by omega), pu_cl (by omega)]
      exact bwO_fin (hc.2.2.2.2.1 k hk).symm ⟨pu_CReyes hk p1 hc, hp, hs, e3⟩
    · simp only [if_neg d, if_pos (show (0 : Int32) = 0 from rfl), Option.bind_some]
      exact bwO_fin rfl ⟨hc, hp, hs, hh⟩
  · simp only [if_neg c, if_pos (show (0 : Int32) = 0 from rfl), Option.bind_some]
    exact bwO_fin rfl ⟨hc, hp, hs, hh⟩
theorem ok_hush : bwO bwRel (fun x => x_hush x) (fun m => m_hush m) := by
  intro x m ⟨hc, hp, hs, hh⟩
  simp only [x_hush, m_hush]
  unfold f_X5_hush f_X4_hush
  obtain ⟨hs', hl', hist', e1, e2, e3⟩ := pu_remember hc hh
  obtain ⟨v, g1, g2, g3⟩ := pu_hushes m.2.2.2.2.2.2.1
  rw [show f_X1_remember x.1.1 x.1.2.1 x.1.2.2.1 x.1.2.2.2.1 x.1.2.2.2.2.1 x.1.2.2.2.2.2.1 x.1.2.2.2.2.2.2.1 x.1.2.2.2.2.2.2.2 x.2.2.2.2.2.2 = some hs' from e1, e2, g1]
  simp only [Option.bind_some, if_pos (show bw_in 3 120 by decide)]
  exact bwO_fin hc.1.symm ⟨pu_CRhush hc g2 g3, hp, hs, e3⟩
theorem ok_wipe : bwO bwRel (fun x => x_wipe x) (fun m => m_wipe m) := by
  intro x m ⟨hc, hp, hs, hh⟩
  simp only [x_wipe, m_wipe]
  unfold f_X5_wipe f_X4_wipe
  obtain ⟨n, h1, h2, h3, h4⟩ := hp
  exact bwO_fin (h2.trans h3.symm) ⟨hc, ⟨0, by omega, rfl, rfl, fun j hj => absurd hj (Nat.not_lt_zero j)⟩, hs, hh⟩
theorem ok_favour (p0 p1 : Int32) : bwO bwRel (fun x => x_favour x p0 p1) (fun m => m_favour m p0 p1) := by
  intro x m ⟨hc, hp, hs, hh⟩
  simp only [x_favour, m_favour]
  unfold f_X5_favour f_X4_favour f_X4_favourIndex f_X5_at
  rw [pu_courM, pu_courC, pu_courM, pu_courC]
  simp only [Option.bind_some]
  by_cases c : 0 ≤ p0.toInt ∧ p0.toInt ≤ 5
  · simp only [if_pos c, if_neg (show ¬ (1 : Int32) = 0 by decide)]
    by_cases d : 0 ≤ p1.toInt ∧ p1.toInt ≤ 5
    · simp only [if_pos d, if_neg (show ¬ (1 : Int32) = 0 by decide)]
      obtain ⟨k, hk, rfl⟩ := pu_toN (x := p0) (n := 6) (by omega) (by omega) (by omega)
      obtain ⟨j, hj, rfl⟩ := pu_toN (x := p1) (n := 6) (by omega) (by omega) (by omega)
      rw [show (6 : Int32) * nI k = nI (6 * k) from pu_mul 6 k, pu_add, show (12 : Int32) + nI (6 * k) = nI (12 + 6 * k) from pu_add 12 _, pu_add, if_pos (pu_in (show 6 * k + j < 36 by omega) (by omega)), if_pos (pu_in (show 12 + 6 * k + j < 120 by omega) (by omega)), pu_cl (by omega), pu_cl (by omega)]
      refine bwO_fin ?_ ⟨hc, hp, hs, hh⟩
      rw [← hc.2.2.2.2.2.1 (6 * k + j) (by omega), ← Nat.add_assoc]
    · simp only [if_neg d, if_pos (show (0 : Int32) = 0 from rfl), Option.bind_some]
      exact bwO_fin rfl ⟨hc, hp, hs, hh⟩
  · simp only [if_neg c, if_pos (show (0 : Int32) = 0 from rfl), Option.bind_some]
    exact bwO_fin rfl ⟨hc, hp, hs, hh⟩
