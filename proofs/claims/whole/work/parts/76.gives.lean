/-! PURE: give; ifGiven -/
theorem pu_giveIn {k : Nat} (hk : k < 6) (c : bwCt) {s : bwSn} {tgt fav0 : Nat → Int32} (p : bwSn) (hist : bwH) (x1 : Int32)
    (hb : ∀ g, g < 6 → ∀ f : Nat → Int32, f (6 * k + g) = fav0 (6 * k + g) → f_X4_favourBehindSeen c.2.2.2.1 f s.2.2.2.2.2.1 s.2.2.2.2.2.2.2 (nI k) (nI g) = some (tgt g)) :
    ∀ (d g fu : Nat) (fav : Nat → Int32), d + g = 6 → d < fu → (∀ j, 6 * k + g ≤ j → j < 6 * k + 6 → fav j = fav0 j) →
      ∃ fav' : Nat → Int32, f_X4_give_L25 fu 1 c.1 c.2.1 c.2.2.1 c.2.2.2.1 c.2.2.2.2.1 fav c.2.2.2.2.2.2.1 c.2.2.2.2.2.2.2 s.1 s.2.1 s.2.2.1 s.2.2.2.1 s.2.2.2.2.1 s.2.2.2.2.2.1 s.2.2.2.2.2.2.1 s.2.2.2.2.2.2.2 p.1 p.2.1 p.2.2.1 p.2.2.2.1 p.2.2.2.2.1 p.2.2.2.2.2.1 p.2.2.2.2.2.2.1 p.2.2.2.2.2.2.2 hist x1 (nI k) (nI g) = f_X4_give_L25 (fu - d - 1) 0 c.1 c.2.1 c.2.2.1 c.2.2.2.1 c.2.2.2.2.1 fav' c.2.2.2.2.2.2.1 c.2.2.2.2.2.2.2 s.1 s.2.1 s.2.2.1 s.2.2.2.1 s.2.2.2.2.1 s.2.2.2.2.2.1 s.2.2.2.2.2.2.1 s.2.2.2.2.2.2.2 p.1 p.2.1 p.2.2.1 p.2.2.2.1 p.2.2.2.2.1 p.2.2.2.2.2.1 p.2.2.2.2.2.2.1 p.2.2.2.2.2.2.2 hist x1 (nI (k + 1)) 0 ∧ (∀ g', g ≤ g' → g' < 6 → fav' (6 * k + g') = tgt g') ∧ ∀ j, (j < 6 * k + g ∨ 6 * k + 6 ≤ j) → fav' j = fav j := by
  intro d
  induction d with
  | zero =>
    intro g fu fav h1 h2 h3
    obtain ⟨fu, rfl⟩ : ∃ u, fu = u + 1 := ⟨fu - 1, by omega⟩
    obtain rfl : g = 6 := by omega
    rw [f_X4_give_L25, if_pos (show (6 : Int32) ≤ nI 6 by decide), pu_1]
    exact ⟨fav, rfl, fun g' _ _ => by omega, fun j _ => rfl⟩
  | succ d ih =>
    intro g fu fav h1 h2 h3
    obtain ⟨fu, rfl⟩ : ∃ u, fu = u + 1 := ⟨fu - 1, by omega⟩
    rw [f_X4_give_L25, if_neg (show ¬ (6 : Int32) ≤ nI g from pu_ofn (n := 6) (by omega) (by omega)), pu_favIx, Option.bind_some, hb g (by omega) fav (h3 _ (by omega) (by omega)), Option.bind_some, if_pos (pu_in (show 6 * k + g < 36 by omega) (by omega)), pu_cl (by omega), pu_1]
    obtain ⟨fav', a1, a2, a3⟩ := ih (g + 1) fu (upd fav (6 * k + g) (tgt g)) (by omega) (by omega) (fun j q1 q2 => by rw [pk_un (by omega)]; exact h3 j (by omega) q2)
    refine ⟨fav', ?_, fun g' q1 q2 => ?_, fun j q1 => ?_⟩
    · rw [show fu + 1 - (d + 1) - 1 = fu - d - 1 by omega]; exact a1
    · rcases Nat.lt_or_ge g g' with q3 | q3
      · exact a2 g' q3 q2
      · have q4 : g' = g := by omega
        subst q4
        rw [a3 _ (Or.inl (by omega)), pk_us]
    · rw [a3 j (by omega), pk_un (by omega)]
theorem pu_CR45 {c : bwCt} {v : Nat → Int32} (h : bwCR c v) (a b : Int32) : bwCR (c.1, a, b, c.2.2.2.1, c.2.2.2.2.1, c.2.2.2.2.2.1, c.2.2.2.2.2.2.1, c.2.2.2.2.2.2.2) (upd (upd v 4 a) 5 b) := by
  obtain ⟨h1, h2, h3, h4, h5, h6, nb, h7, h8, h9⟩ := h
  refine ⟨by rw [pk_un (by omega), pk_un (by omega)]; exact h1, by rw [pk_un (by omega), pk_us], by rw [pk_us], fun j hj => by rw [pk_un (by omega), pk_un (by omega)]; exact h4 j hj, fun j hj => by rw [pk_un (by omega), pk_un (by omega)]; exact h5 j hj, fun j hj => by rw [pk_un (by omega), pk_un (by omega)]; exact h6 j hj, nb, h7, h8, fun j hj => ⟨by rw [pk_un (by omega), pk_un (by omega)]; exact (h9 j hj).1, by rw [pk_un (by omega), pk_un (by omega)]; exact (h9 j hj).2⟩⟩
theorem pu_CRfav {c : bwCt} {v v' : Nat → Int32} {fav' : Nat → Int32} {k : Nat} (hk : k < 6) (h : bwCR c v) (hv : ∀ j, (j < 12 + 6 * k ∨ 12 + 6 * k + 6 ≤ j) → v' j = v j) (hf : ∀ g, g < 6 → fav' (6 * k + g) = v' (12 + (6 * k + g))) (hg : ∀ j, (j < 6 * k ∨ 6 * k + 6 ≤ j) → fav' j = c.2.2.2.2.2.1 j) :
    bwCR (c.1, c.2.1, c.2.2.1, c.2.2.2.1, c.2.2.2.2.1, fav', c.2.2.2.2.2.2.1, c.2.2.2.2.2.2.2) v' := by
  obtain ⟨h1, h2, h3, h4, h5, h6, nb, h7, h8, h9⟩ := h
  refine ⟨by rw [hv 3 (by omega)]; exact h1, by rw [hv 4 (by omega)]; exact h2, by rw [hv 5 (by omega)]; exact h3, fun j hj => by rw [hv j (by omega)]; exact h4 j hj, fun j hj => by rw [hv _ (by omega)]; exact h5 j hj, fun j hj => ?_, nb, h7, h8, fun j hj => ⟨by rw [hv _ (by omega)]; exact (h9 j hj).1, by rw [hv _ (by omega)]; exact (h9 j hj).2⟩⟩
  by_cases e : j < 6 * k ∨ 6 * k + 6 ≤ j
  · rw [hv _ (by omega)]; exact (h6 j hj).trans (hg j e).symm
  · have z := hf (j - 6 * k) (by omega)
    rw [show 6 * k + (j - 6 * k) = j by omega] at z
    exact z.symm
theorem pu_gives6 (fu : Nat) (gr ll : Int32) (v W L : Nat → Int32) (n : Int32) : ∃ v' : Nat → Int32, f_X5_gives_L4 (fu + 1) gr ll v W L n (nI 6) = some (n, gr, ll, v', W, L) ∧ v' 3 = 0 ∧ ∀ j, j < 48 → j ≠ 3 → v' j = upd (upd v 4 (v 4 + 1)) 5 (v 5 + n) j := by
  obtain ⟨v', g1, g2, g3⟩ := pu_hushes (upd (upd v 4 (v 4 + 1)) 5 (v 5 + n))
  refine ⟨v', ?_, g2, g3⟩
  rw [f_X5_gives_L4, if_pos (show (6 : Int32) ≤ nI 6 by decide)]
  simp only [if_pos (show bw_in 4 120 by decide), if_pos (show bw_in 5 120 by decide), show Int32.toNatClampNeg 4 = 4 from rfl, show Int32.toNatClampNeg 5 = 5 from rfl]
  rw [show upd v 4 (v 4 + 1) 5 = v 5 from pk_un (by omega), g1, Option.bind_some]
theorem pu_giveL (p : bwSn) (hist : bwH) : ∀ (d k fu fu' : Nat) (n : Int32) (c : bwCt) (s0 : bwSn) (gr ll : Int32) (v W0 L0 : Nat → Int32), d + k = 6 → 8 * d < fu → d < fu' → bwCR c v →
    ∃ (r : Int32) (s : bwSn) (q : bwPt) (v' fav' : Nat → Int32),
      f_X4_give_L25 fu 0 c.1 c.2.1 c.2.2.1 c.2.2.2.1 c.2.2.2.2.1 c.2.2.2.2.2.1 c.2.2.2.2.2.2.1 c.2.2.2.2.2.2.2 s0.1 s0.2.1 s0.2.2.1 s0.2.2.2.1 s0.2.2.2.2.1 s0.2.2.2.2.2.1 s0.2.2.2.2.2.2.1 s0.2.2.2.2.2.2.2 p.1 p.2.1 p.2.2.1 p.2.2.2.1 p.2.2.2.2.1 p.2.2.2.2.2.1 p.2.2.2.2.2.2.1 p.2.2.2.2.2.2.2 hist n (nI k) 0 = some (r, 0, c.2.1 + 1, c.2.2.1 + r, fav', s.1, s.2.1, s.2.2.1, s.2.2.2.1, s.2.2.2.2.1, s.2.2.2.2.2.1, s.2.2.2.2.2.2.1, s.2.2.2.2.2.2.2, p.1, p.2.1, p.2.2.1, p.2.2.2.1, p.2.2.2.2.1, p.2.2.2.2.2.1, p.2.2.2.2.2.2.1, p.2.2.2.2.2.2.2, hist) ∧
      f_X5_gives_L4 fu' gr ll v W0 L0 n (nI k) = some (r, q.1, q.2.1, v', q.2.2.1, q.2.2.2) ∧
      bwCR (0, c.2.1 + 1, c.2.2.1 + r, c.2.2.2.1, c.2.2.2.2.1, fav', c.2.2.2.2.2.2.1, c.2.2.2.2.2.2.2) v' ∧
      (∀ j, 12 ≤ j → j < 12 + 6 * k → v' j = v j) ∧
      ∀ k', k ≤ k' → k' < 6 → ∀ g, g < 6 → ∀ s1 : bwSn, ∃ s2 : bwSn, f_X4_lookThroughEyesOf c.1 c.2.2.2.1 c.2.2.2.2.1 c.2.2.2.2.2.2.1 c.2.2.2.2.2.2.2 s1.1 s1.2.1 s1.2.2.1 s1.2.2.2.1 s1.2.2.2.2.1 s1.2.2.2.2.2.1 s1.2.2.2.2.2.2.1 s1.2.2.2.2.2.2.2 (nI k') = some s2 ∧
        ∀ f : Nat → Int32, f (6 * k' + g) = v (12 + (6 * k' + g)) → f_X4_favourBehindSeen c.2.2.2.1 f s2.2.2.2.2.2.1 s2.2.2.2.2.2.2.2 (nI k') (nI g) = some (v' (12 + (6 * k' + g))) := by
  intro d
  induction d with
  | zero =>
    intro k fu fu' n c s0 gr ll v W0 L0 h1 h2 h3 hc
    obtain ⟨fu, rfl⟩ : ∃ u, fu = u + 1 := ⟨fu - 1, by omega⟩
    obtain ⟨fu', rfl⟩ : ∃ u, fu' = u + 1 := ⟨fu' - 1, by omega⟩
    obtain rfl : k = 6 := by omega
    obtain ⟨v', g1, g2, g3⟩ := pu_gives6 fu' gr ll v W0 L0 n
    rw [f_X4_give_L25, if_pos (show (6 : Int32) ≤ nI 6 by decide), g1]
    have hc' := pu_CR45 hc (c.2.1 + 1) (c.2.2.1 + n)
    rw [hc.2.1, hc.2.2.1] at g3
    refine ⟨n, s0, (gr, ll, W0, L0), v', c.2.2.2.2.2.1, rfl, rfl, pu_CRhush hc' g2 g3, fun j q1 q2 => ?_, fun k' q1 q2 => by omega⟩
    rw [g3 j (by omega) (by omega), pk_un (by omega), pk_un (by omega)]
  | succ d ih =>
    intro k fu fu' n c s0 gr ll v W0 L0 h1 h2 h3 hc
    obtain ⟨fu, rfl⟩ : ∃ u, fu = u + 1 := ⟨fu - 1, by omega⟩
    obtain ⟨fu', rfl⟩ : ∃ u, fu' = u + 1 := ⟨fu' - 1, by omega⟩
    have hk : k < 6 := by omega
    have hle : ¬ (6 : Int32) ≤ nI k := pu_ofn (n := 6) hk (by omega)
    obtain ⟨r1, s, q, v1, a1, a2, a3, a4, a5⟩ := pu_takesAll hc hk s0 gr ll W0 L0
    obtain ⟨fav1, b1, b2, b3⟩ := pu_giveIn hk c (s := s) (tgt := fun g => v1 (12 + (6 * k + g))) (fav0 := c.2.2.2.2.2.1) p hist (n + r1) (fun g hg f hf => a5 g hg f (by rw [hf, hc.2.2.2.2.2.1 _ (by omega)])) 6 0 fu c.2.2.2.2.2.1 (by omega) (by omega) (fun j _ _ => rfl)
    have hc1 : bwCR (c.1, c.2.1, c.2.2.1, c.2.2.2.1, c.2.2.2.2.1, fav1, c.2.2.2.2.2.2.1, c.2.2.2.2.2.2.2) v1 := pu_CRfav hk hc a4 (fun g hg => b2 g (Nat.zero_le g) hg) (fun j hj => b3 j (by omega))
    obtain ⟨r, s', q', v', fav', z1, z2, z3, z4, z5⟩ := ih (k + 1) (fu - 6 - 1) fu' (n + r1) (c.1, c.2.1, c.2.2.1, c.2.2.2.1, c.2.2.2.2.1, fav1, c.2.2.2.2.2.2.1, c.2.2.2.2.2.2.2) s q.1 q.2.1 v1 q.2.2.1 q.2.2.2 (by omega) (by omega) (by omega) hc1
    refine ⟨r, s', q', v', fav', ?_, ?_, z3, fun j q1 q2 => ?_, fun k' q1 q2 g hg s1 => ?_⟩
    · rw [f_X4_give_L25, if_neg hle, a1, Option.bind_some, a3, Option.bind_some]
      exact b1.trans z1
    · rw [f_X5_gives_L4, if_neg hle, a2, Option.bind_some, pu_1]
      exact z2
    · rw [z4 j q1 (by omega), a4 j (Or.inl (by omega))]
    · rcases Nat.lt_or_ge k k' with q3 | q3
      · obtain ⟨s2, y1, y2⟩ := z5 k' q3 q2 g hg s1
        refine ⟨s2, y1, fun f hf => y2 f ?_⟩
        rw [hf, a4 _ (Or.inr (by omega))]
      · obtain rfl : k' = k := by omega
        obtain ⟨r1', s2, qq, v1', y1, y2, -, -, y5⟩ := pu_takesAll hc hk s1 gr ll W0 L0
        rw [a2] at y2
        have e : v1 = v1' := congrArg (fun z => z.2.2.2.1) (Option.some.inj y2)
        subst e
        refine ⟨s2, y1, fun f hf => ?_⟩
        rw [y5 g hg f hf, z4 _ (by omega) (by omega)]
/-- the whole giving, on both sides -/
theorem pu_gives {c : bwCt} {v : Nat → Int32} (hc : bwCR c v) (s0 p : bwSn) (hist : bwH) (gr ll : Int32) (W0 L0 : Nat → Int32) :
    ∃ (r : Int32) (s : bwSn) (q : bwPt) (v' fav' : Nat → Int32),
      f_X4_give_L25 bw_F 0 c.1 c.2.1 c.2.2.1 c.2.2.2.1 c.2.2.2.2.1 c.2.2.2.2.2.1 c.2.2.2.2.2.2.1 c.2.2.2.2.2.2.2 s0.1 s0.2.1 s0.2.2.1 s0.2.2.2.1 s0.2.2.2.2.1 s0.2.2.2.2.2.1 s0.2.2.2.2.2.2.1 s0.2.2.2.2.2.2.2 p.1 p.2.1 p.2.2.1 p.2.2.2.1 p.2.2.2.2.1 p.2.2.2.2.2.1 p.2.2.2.2.2.2.1 p.2.2.2.2.2.2.2 hist 0 (0) 0 = some (r, 0, c.2.1 + 1, c.2.2.1 + r, fav', s.1, s.2.1, s.2.2.1, s.2.2.2.1, s.2.2.2.2.1, s.2.2.2.2.2.1, s.2.2.2.2.2.2.1, s.2.2.2.2.2.2.2, p.1, p.2.1, p.2.2.1, p.2.2.2.1, p.2.2.2.2.1, p.2.2.2.2.2.1, p.2.2.2.2.2.2.1, p.2.2.2.2.2.2.2, hist) ∧
      f_X5_gives gr ll v W0 L0 = some (r, q.1, q.2.1, v', q.2.2.1, q.2.2.2) ∧
      bwCR (0, c.2.1 + 1, c.2.2.1 + r, c.2.2.2.1, c.2.2.2.2.1, fav', c.2.2.2.2.2.2.1, c.2.2.2.2.2.2.2) v' ∧
      ∀ k', k' < 6 → ∀ g, g < 6 → ∀ s1 : bwSn, ∃ s2 : bwSn, f_X4_lookThroughEyesOf c.1 c.2.2.2.1 c.2.2.2.2.1 c.2.2.2.2.2.2.1 c.2.2.2.2.2.2.2 s1.1 s1.2.1 s1.2.2.1 s1.2.2.2.1 s1.2.2.2.2.1 s1.2.2.2.2.2.1 s1.2.2.2.2.2.2.1 s1.2.2.2.2.2.2.2 (nI k') = some s2 ∧
        f_X4_favourBehindSeen c.2.2.2.1 c.2.2.2.2.2.1 s2.2.2.2.2.2.1 s2.2.2.2.2.2.2.2 (nI k') (nI g) = some (v' (12 + (6 * k' + g))) := by
  obtain ⟨r, s, q, v', fav', z1, z2, z3, -, z5⟩ := pu_giveL p hist 6 0 bw_F bw_F 0 c s0 gr ll v W0 L0 (by omega) (by rw [pu_F]; omega) (by rw [pu_F]; omega) hc
  rw [nI_0] at z1 z2
  refine ⟨r, s, q, v', fav', z1, ?_, z3, fun k' h1 g hg s1 => ?_⟩
  · unfold f_X5_gives; exact z2
  · obtain ⟨s2, y1, y2⟩ := z5 k' (Nat.zero_le k') h1 g hg s1
    exact ⟨s2, y1, y2 _ (hc.2.2.2.2.2.1 _ (by omega)).symm⟩
theorem pu_giveM0 {hl gr ll : Int32} {v hist W L : Nat → Int32} {q : bwPt} (e : f_X5_canGive gr ll v W L = some (0, q)) : f_X5_give hl gr ll v hist W L = some (-1000005, hl, q.1, q.2.1, v, hist, q.2.2.1, q.2.2.2) := by
  unfold f_X5_give
  rw [e, Option.bind_some]
  exact if_pos rfl
theorem pu_giveM1 {hl gr ll r n hl' : Int32} {v hist W L hist' v' : Nat → Int32} {q q1 : bwPt} (d : ¬ r = 0) (e : f_X5_canGive gr ll v W L = some (r, q)) (a : f_X5_changes hl v hist = some (hl', hist')) (b : f_X5_gives q.1 q.2.1 v q.2.2.1 q.2.2.2 = some (n, q1.1, q1.2.1, v', q1.2.2.1, q1.2.2.2)) :
    f_X5_give hl gr ll v hist W L = some (n, hl', q1.1, q1.2.1, v', hist', q1.2.2.1, q1.2.2.2) := by
  unfold f_X5_give
  rw [e, Option.bind_some, if_neg d, a, Option.bind_some, b, Option.bind_some]
theorem pu_giveC0 {c : bwCt} {s0 p0 p : bwSn} {hist : bwH} (e : f_X4_canBeGiven c.1 c.2.2.2.1 c.2.2.2.2.2.2.1 c.2.2.2.2.2.2.2 p0.1 p0.2.1 p0.2.2.1 p0.2.2.2.1 p0.2.2.2.2.1 p0.2.2.2.2.2.1 p0.2.2.2.2.2.2.1 p0.2.2.2.2.2.2.2 = some (0, p)) :
    f_X4_give c.1 c.2.1 c.2.2.1 c.2.2.2.1 c.2.2.2.2.1 c.2.2.2.2.2.1 c.2.2.2.2.2.2.1 c.2.2.2.2.2.2.2 s0.1 s0.2.1 s0.2.2.1 s0.2.2.2.1 s0.2.2.2.2.1 s0.2.2.2.2.2.1 s0.2.2.2.2.2.2.1 s0.2.2.2.2.2.2.2 p0.1 p0.2.1 p0.2.2.1 p0.2.2.2.1 p0.2.2.2.2.1 p0.2.2.2.2.2.1 p0.2.2.2.2.2.2.1 p0.2.2.2.2.2.2.2 hist = some (-1000005, c.1, c.2.1, c.2.2.1, c.2.2.2.2.2.1, s0.1, s0.2.1, s0.2.2.1, s0.2.2.2.1, s0.2.2.2.2.1, s0.2.2.2.2.2.1, s0.2.2.2.2.2.2.1, s0.2.2.2.2.2.2.2, p.1, p.2.1, p.2.2.1, p.2.2.2.1, p.2.2.2.2.1, p.2.2.2.2.2.1, p.2.2.2.2.2.2.1, p.2.2.2.2.2.2.2, hist) := by
  unfold f_X4_give
  rw [e, Option.bind_some]
  exact if_pos rfl
theorem pu_giveC1 {c : bwCt} {s0 p0 p s : bwSn} {hist hist' : bwH} {r n : Int32} {fav' : Nat → Int32} (d : ¬ r = 0) (e : f_X4_canBeGiven c.1 c.2.2.2.1 c.2.2.2.2.2.2.1 c.2.2.2.2.2.2.2 p0.1 p0.2.1 p0.2.2.1 p0.2.2.2.1 p0.2.2.2.2.1 p0.2.2.2.2.2.1 p0.2.2.2.2.2.2.1 p0.2.2.2.2.2.2.2 = some (r, p)) (a : f_remC c hist = some hist')
    (b : f_X4_give_L25 bw_F 0 c.1 c.2.1 c.2.2.1 c.2.2.2.1 c.2.2.2.2.1 c.2.2.2.2.2.1 c.2.2.2.2.2.2.1 c.2.2.2.2.2.2.2 s0.1 s0.2.1 s0.2.2.1 s0.2.2.2.1 s0.2.2.2.2.1 s0.2.2.2.2.2.1 s0.2.2.2.2.2.2.1 s0.2.2.2.2.2.2.2 p.1 p.2.1 p.2.2.1 p.2.2.2.1 p.2.2.2.2.1 p.2.2.2.2.2.1 p.2.2.2.2.2.2.1 p.2.2.2.2.2.2.2 hist' 0 (0) 0 = some (n, 0, c.2.1 + 1, c.2.2.1 + n, fav', s.1, s.2.1, s.2.2.1, s.2.2.2.1, s.2.2.2.2.1, s.2.2.2.2.2.1, s.2.2.2.2.2.2.1, s.2.2.2.2.2.2.2, p.1, p.2.1, p.2.2.1, p.2.2.2.1, p.2.2.2.2.1, p.2.2.2.2.2.1, p.2.2.2.2.2.2.1, p.2.2.2.2.2.2.2, hist')) :
    f_X4_give c.1 c.2.1 c.2.2.1 c.2.2.2.1 c.2.2.2.2.1 c.2.2.2.2.2.1 c.2.2.2.2.2.2.1 c.2.2.2.2.2.2.2 s0.1 s0.2.1 s0.2.2.1 s0.2.2.2.1 s0.2.2.2.2.1 s0.2.2.2.2.2.1 s0.2.2.2.2.2.2.1 s0.2.2.2.2.2.2.2 p0.1 p0.2.1 p0.2.2.1 p0.2.2.2.1 p0.2.2.2.2.1 p0.2.2.2.2.2.1 p0.2.2.2.2.2.2.1 p0.2.2.2.2.2.2.2 hist = some (n, 0, c.2.1 + 1, c.2.2.1 + n, fav', s.1, s.2.1, s.2.2.1, s.2.2.2.1, s.2.2.2.2.1, s.2.2.2.2.2.1, s.2.2.2.2.2.2.1, s.2.2.2.2.2.2.2, p.1, p.2.1, p.2.2.1, p.2.2.2.1, p.2.2.2.2.1, p.2.2.2.2.2.1, p.2.2.2.2.2.2.1, p.2.2.2.2.2.2.2, hist') := by
  unfold f_remC at a
  unfold f_X4_give
  rw [e, Option.bind_some, if_neg d, a, Option.bind_some]
  exact b
theorem ok_give : bwO bwRel (fun x => x_give x) (fun m => m_give m) := by
  intro x m ⟨hc, hp, hs, hh⟩
  simp only [x_give, m_give]
  obtain ⟨r, p, q, e1, e2⟩ := pu_can hc x.2.2.2.1 m.2.1 m.2.2.1 m.2.2.2.2.2.2.2.2.2.2.2.1 m.2.2.2.2.2.2.2.2.2.2.2.2.1
  by_cases d : r = 0
  · subst d
    rw [pu_giveM0 e2, pu_giveC0 e1]
    simp only [Option.bind_some]
    exact bwO_fin rfl ⟨hc, hp, hs, hh⟩
  · obtain ⟨hs', hl', hist', f1, f2, f3⟩ := pu_remember hc hh
    obtain ⟨n, s, q1, v', fav', g1, g2, g3, -⟩ := pu_gives hc x.2.2.1 p hs' q.1 q.2.1 q.2.2.1 q.2.2.2
    rw [pu_giveM1 d e2 f2 g2, pu_giveC1 d e1 f1 g1]
    simp only [Option.bind_some]
    exact bwO_fin rfl ⟨g3, hp, hs, f3⟩
theorem pu_keepsW (v kept : Nat → Int32) : ∃ r, f_X5_keeps v kept = some r ∧ ∀ j, j < 120 → r j = v j := by
  obtain ⟨r, e1, e2, -⟩ := pu_keeps v 120 0 kept bw_F (by omega) (by rw [pu_F]; omega)
  exact ⟨r, e1, fun j hj => e2 j (Nat.zero_le j) hj⟩
theorem pu_backW (kept v : Nat → Int32) : ∃ r, f_X5_comesBack v kept = some r ∧ ∀ j, j < 120 → r j = kept j := by
  obtain ⟨r, e1, e2, -⟩ := pu_comesBack kept 120 0 v bw_F (by omega) (by rw [pu_F]; omega)
  exact ⟨r, e1, fun j hj => e2 j (Nat.zero_le j) hj⟩
theorem pu_ifM1 {gr ll r n : Int32} {v kept W L kept' v' v'' : Nat → Int32} {q q1 : bwPt} {k g : Nat} (hk : k < 6) (hg : g < 6) (d : ¬ r = 0) (e : f_X5_canGive gr ll v W L = some (r, q)) (a : f_X5_keeps v kept = some kept') (b : f_X5_gives q.1 q.2.1 v q.2.2.1 q.2.2.2 = some (n, q1.1, q1.2.1, v', q1.2.2.1, q1.2.2.2)) (z : f_X5_comesBack v' kept' = some v'') :
    f_X5_ifGiven gr ll v kept W L (nI k) (nI g) = some (v' (12 + (6 * k + g)), q1.1, q1.2.1, v'', kept', q1.2.2.1, q1.2.2.2) := by
  unfold f_X5_ifGiven
  have tk : (nI k).toInt = k := nI_toInt (by omega)
  have tg : (nI g).toInt = g := nI_toInt (by omega)
  rw [pu_courM, Option.bind_some, if_pos (show 0 ≤ (nI k).toInt ∧ (nI k).toInt ≤ 5 by omega), if_neg pu_one0, pu_courM, Option.bind_some, if_pos (show 0 ≤ (nI g).toInt ∧ (nI g).toInt ≤ 5 by omega), if_neg pu_one0, e, Option.bind_some, if_neg d, a, Option.bind_some, b, Option.bind_some, pu_atM, Option.bind_some, if_pos (pu_in (show 12 + 6 * k + g < 120 by omega) (by omega)), z, Option.bind_some, pu_cl (by omega), Nat.add_assoc]
theorem pu_ifM0 {gr ll : Int32} {v kept W L : Nat → Int32} {q : bwPt} {k g : Nat} (hk : k < 6) (hg : g < 6) (e : f_X5_canGive gr ll v W L = some (0, q)) :
    f_X5_ifGiven gr ll v kept W L (nI k) (nI g) = some (-1000005, q.1, q.2.1, v, kept, q.2.2.1, q.2.2.2) := by
  unfold f_X5_ifGiven
  have tk : (nI k).toInt = k := nI_toInt (by omega)
  have tg : (nI g).toInt = g := nI_toInt (by omega)
  rw [pu_courM, Option.bind_some, if_pos (show 0 ≤ (nI k).toInt ∧ (nI k).toInt ≤ 5 by omega), if_neg pu_one0, pu_courM, Option.bind_some, if_pos (show 0 ≤ (nI g).toInt ∧ (nI g).toInt ≤ 5 by omega), if_neg pu_one0, e, Option.bind_some]
  exact if_pos rfl
theorem pu_ifC1 {c : bwCt} {s0 p0 p s : bwSn} {r n : Int32} {k g : Nat} (hk : k < 6) (hg : g < 6) (d : ¬ r = 0) (e : f_X4_canBeGiven c.1 c.2.2.2.1 c.2.2.2.2.2.2.1 c.2.2.2.2.2.2.2 p0.1 p0.2.1 p0.2.2.1 p0.2.2.2.1 p0.2.2.2.2.1 p0.2.2.2.2.2.1 p0.2.2.2.2.2.2.1 p0.2.2.2.2.2.2.2 = some (r, p)) (a : f_X4_lookThroughEyesOf c.1 c.2.2.2.1 c.2.2.2.2.1 c.2.2.2.2.2.2.1 c.2.2.2.2.2.2.2 s0.1 s0.2.1 s0.2.2.1 s0.2.2.2.1 s0.2.2.2.2.1 s0.2.2.2.2.2.1 s0.2.2.2.2.2.2.1 s0.2.2.2.2.2.2.2 (nI k) = some s)
    (b : f_X4_favourBehindSeen c.2.2.2.1 c.2.2.2.2.2.1 s.2.2.2.2.2.1 s.2.2.2.2.2.2.2 (nI k) (nI g) = some n) :
    f_X4_ifGiven c.1 c.2.2.2.1 c.2.2.2.2.1 c.2.2.2.2.2.1 c.2.2.2.2.2.2.1 c.2.2.2.2.2.2.2 s0.1 s0.2.1 s0.2.2.1 s0.2.2.2.1 s0.2.2.2.2.1 s0.2.2.2.2.2.1 s0.2.2.2.2.2.2.1 s0.2.2.2.2.2.2.2 p0.1 p0.2.1 p0.2.2.1 p0.2.2.2.1 p0.2.2.2.2.1 p0.2.2.2.2.2.1 p0.2.2.2.2.2.2.1 p0.2.2.2.2.2.2.2 (nI k) (nI g) = some (n, s.1, s.2.1, s.2.2.1, s.2.2.2.1, s.2.2.2.2.1, s.2.2.2.2.2.1, s.2.2.2.2.2.2.1, s.2.2.2.2.2.2.2, p.1, p.2.1, p.2.2.1, p.2.2.2.1, p.2.2.2.2.1, p.2.2.2.2.2.1, p.2.2.2.2.2.2.1, p.2.2.2.2.2.2.2) := by
  unfold f_X4_ifGiven
  have tk : (nI k).toInt = k := nI_toInt (by omega)
  have tg : (nI g).toInt = g := nI_toInt (by omega)
  rw [pu_courC, Option.bind_some, if_pos (show 0 ≤ (nI k).toInt ∧ (nI k).toInt ≤ 5 by omega), if_neg pu_one0, pu_courC, Option.bind_some, if_pos (show 0 ≤ (nI g).toInt ∧ (nI g).toInt ≤ 5 by omega), if_neg pu_one0, e, Option.bind_some, if_neg d, a, Option.bind_some, b, Option.bind_some]
theorem pu_ifC0 {c : bwCt} {s0 p0 p : bwSn} {k g : Nat} (hk : k < 6) (hg : g < 6) (e : f_X4_canBeGiven c.1 c.2.2.2.1 c.2.2.2.2.2.2.1 c.2.2.2.2.2.2.2 p0.1 p0.2.1 p0.2.2.1 p0.2.2.2.1 p0.2.2.2.2.1 p0.2.2.2.2.2.1 p0.2.2.2.2.2.2.1 p0.2.2.2.2.2.2.2 = some (0, p)) :
    f_X4_ifGiven c.1 c.2.2.2.1 c.2.2.2.2.1 c.2.2.2.2.2.1 c.2.2.2.2.2.2.1 c.2.2.2.2.2.2.2 s0.1 s0.2.1 s0.2.2.1 s0.2.2.2.1 s0.2.2.2.2.1 s0.2.2.2.2.2.1 s0.2.2.2.2.2.2.1 s0.2.2.2.2.2.2.2 p0.1 p0.2.1 p0.2.2.1 p0.2.2.2.1 p0.2.2.2.2.1 p0.2.2.2.2.2.1 p0.2.2.2.2.2.2.1 p0.2.2.2.2.2.2.2 (nI k) (nI g) = some (-1000005, s0.1, s0.2.1, s0.2.2.1, s0.2.2.2.1, s0.2.2.2.2.1, s0.2.2.2.2.2.1, s0.2.2.2.2.2.2.1, s0.2.2.2.2.2.2.2, p.1, p.2.1, p.2.2.1, p.2.2.2.1, p.2.2.2.2.1, p.2.2.2.2.2.1, p.2.2.2.2.2.2.1, p.2.2.2.2.2.2.2) := by
  unfold f_X4_ifGiven
  have tk : (nI k).toInt = k := nI_toInt (by omega)
  have tg : (nI g).toInt = g := nI_toInt (by omega)
  rw [pu_courC, Option.bind_some, if_pos (show 0 ≤ (nI k).toInt ∧ (nI k).toInt ≤ 5 by omega), if_neg pu_one0, pu_courC, Option.bind_some, if_pos (show 0 ≤ (nI g).toInt ∧ (nI g).toInt ≤ 5 by omega), if_neg pu_one0, e, Option.bind_some]
  exact if_pos rfl
theorem pu_ifCx {c : bwCt} {s0 p0 : bwSn} {a b : Int32} (h : ¬ ((0 ≤ a.toInt ∧ a.toInt ≤ 5) ∧ (0 ≤ b.toInt ∧ b.toInt ≤ 5))) :
    f_X4_ifGiven c.1 c.2.2.2.1 c.2.2.2.2.1 c.2.2.2.2.2.1 c.2.2.2.2.2.2.1 c.2.2.2.2.2.2.2 s0.1 s0.2.1 s0.2.2.1 s0.2.2.2.1 s0.2.2.2.2.1 s0.2.2.2.2.2.1 s0.2.2.2.2.2.2.1 s0.2.2.2.2.2.2.2 p0.1 p0.2.1 p0.2.2.1 p0.2.2.2.1 p0.2.2.2.2.1 p0.2.2.2.2.2.1 p0.2.2.2.2.2.2.1 p0.2.2.2.2.2.2.2 a b = some (-1000001, s0.1, s0.2.1, s0.2.2.1, s0.2.2.2.1, s0.2.2.2.2.1, s0.2.2.2.2.2.1, s0.2.2.2.2.2.2.1, s0.2.2.2.2.2.2.2, p0.1, p0.2.1, p0.2.2.1, p0.2.2.2.1, p0.2.2.2.2.1, p0.2.2.2.2.2.1, p0.2.2.2.2.2.2.1, p0.2.2.2.2.2.2.2) := by
  unfold f_X4_ifGiven
  rw [pu_courC, Option.bind_some]
  by_cases c1 : 0 ≤ a.toInt ∧ a.toInt ≤ 5
  · rw [if_pos c1, if_neg pu_one0, pu_courC, Option.bind_some, if_neg (fun z => h ⟨c1, z⟩), if_pos rfl]
  · rw [if_neg c1, if_pos rfl]
theorem pu_ifMx {gr ll : Int32} {v kept W L : Nat → Int32} {a b : Int32} (h : ¬ ((0 ≤ a.toInt ∧ a.toInt ≤ 5) ∧ (0 ≤ b.toInt ∧ b.toInt ≤ 5))) :
    f_X5_ifGiven gr ll v kept W L a b = some (-1000001, gr, ll, v, kept, W, L) := by
  unfold f_X5_ifGiven
  rw [pu_courM, Option.bind_some]
  by_cases c1 : 0 ≤ a.toInt ∧ a.toInt ≤ 5
  · rw [if_pos c1, if_neg pu_one0, pu_courM, Option.bind_some, if_neg (fun z => h ⟨c1, z⟩), if_pos rfl]
  · rw [if_neg c1, if_pos rfl]
theorem ok_ifGiven (p0 p1 : Int32) : bwO bwRel (fun x => x_ifGiven x p0 p1) (fun m => m_ifGiven m p0 p1) := by
  intro x m ⟨hc, hp, hs, hh⟩
  simp only [x_ifGiven, m_ifGiven]
  by_cases c : (0 ≤ p0.toInt ∧ p0.toInt ≤ 5) ∧ (0 ≤ p1.toInt ∧ p1.toInt ≤ 5)
  · obtain ⟨k, hk, rfl⟩ := pu_toN (x := p0) (n := 6) (by omega) (by omega) (by omega)
    obtain ⟨g, hg, rfl⟩ := pu_toN (x := p1) (n := 6) (by omega) (by omega) (by omega)
    obtain ⟨r, p, q, e1, e2⟩ := pu_can hc x.2.2.2.1 m.2.1 m.2.2.1 m.2.2.2.2.2.2.2.2.2.2.2.1 m.2.2.2.2.2.2.2.2.2.2.2.2.1
    by_cases d : r = 0
    · subst d
      rw [pu_ifM0 hk hg e2, pu_ifC0 hk hg e1]
      simp only [Option.bind_some]
      exact bwO_fin rfl ⟨hc, hp, hs, hh⟩
    · obtain ⟨n, s, q1, v', fav', -, g2, -, g4⟩ := pu_gives hc x.2.2.1 p x.2.2.2.2.2.2 q.1 q.2.1 q.2.2.1 q.2.2.2
      obtain ⟨s2, y1, y2⟩ := g4 k hk g hg x.2.2.1
      obtain ⟨kept', a1, a2⟩ := pu_keepsW m.2.2.2.2.2.2.1 m.2.2.2.2.2.2.2.1
      obtain ⟨v'', b1, b2⟩ := pu_backW kept' v'
      rw [pu_ifM1 hk hg d e2 a1 g2 b1, pu_ifC1 hk hg d e1 y1 y2]
      simp only [Option.bind_some]
      exact bwO_fin rfl ⟨pu_CRv (fun j hj => (b2 j hj).trans (a2 j hj)) hc, hp, hs, hh⟩
  · rw [pu_ifCx c, pu_ifMx c]
    simp only [Option.bind_some]
    exact bwO_fin rfl ⟨hc, hp, hs, hh⟩
