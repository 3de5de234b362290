/-! PURE: the best bow -/
theorem pu_CRx {c : bwCt} {v v' : Nat → Int32} {nb : Nat} (hn : nb < 24) (hb : c.1 = nI nb) (h : bwCR c v) (hv : ∀ j, j < 120 → j ≠ 48 + nb → j ≠ 72 + nb → v' j = v j) : bwCR c v' := by
  obtain ⟨h1, h2, h3, h4, h5, h6, n2, h7, h8, h9⟩ := h
  have e : n2 = nb := by
    have z := h8.symm.trans hb
    exact (pu_eq (by omega) (by omega)).mp z
  subst e
  refine ⟨by rw [hv 3 (by omega) (by omega) (by omega)]; exact h1, by rw [hv 4 (by omega) (by omega) (by omega)]; exact h2, by rw [hv 5 (by omega) (by omega) (by omega)]; exact h3, fun j hj => by rw [hv j (by omega) (by omega) (by omega)]; exact h4 j hj, fun j hj => by rw [hv _ (by omega) (by omega) (by omega)]; exact h5 j hj, fun j hj => by rw [hv _ (by omega) (by omega) (by omega)]; exact h6 j hj, n2, h7, h8, fun j hj => ⟨by rw [hv _ (by omega) (by omega) (by omega)]; exact (h9 j hj).1, by rw [hv _ (by omega) (by omega) (by omega)]; exact (h9 j hj).2⟩⟩
theorem pu_bestL {nb : Nat} (hn : nb < 24) (c : bwCt) (hb : c.1 = nI nb) (p : bwSn) {v0 ts : Nat → Int32} (hv3 : v0 3 = nI nb) (hv0 : v0 0 = ts 0) (hvn : ∀ j, j < nb → v0 (48 + j) = c.2.2.2.2.2.2.1 j ∧ v0 (72 + j) = c.2.2.2.2.2.2.2 j) (tg tt : Int32) (te tf : Nat → Int32) :
    ∀ (d k fu fu' : Nat) (best cnt tb : Int32) (s0 : bwSn) (tn tp : Nat → Int32) (gr ll : Int32) (v W0 L0 : Nat → Int32), d + k = 6 → d < fu → d < fu' →
      (∀ j, j < 120 → j ≠ 48 + nb → j ≠ 72 + nb → v j = v0 j) → (∀ j, j < nb → tn j = c.2.2.2.2.2.2.1 j ∧ tp j = c.2.2.2.2.2.2.2 j) →
      ∃ (r : Int32) (s : bwSn) (q : bwPt) (v' : Nat → Int32) (tb' : Int32) (tn' tp' : Nat → Int32),
        f_X4_bestBow_L51 fu c.1 c.2.1 c.2.2.1 c.2.2.2.1 c.2.2.2.2.1 c.2.2.2.2.2.1 c.2.2.2.2.2.2.1 c.2.2.2.2.2.2.2 s0.1 s0.2.1 s0.2.2.1 s0.2.2.2.1 s0.2.2.2.2.1 s0.2.2.2.2.2.1 s0.2.2.2.2.2.2.1 s0.2.2.2.2.2.2.2 p.1 p.2.1 p.2.2.1 p.2.2.2.1 p.2.2.2.2.1 p.2.2.2.2.2.1 p.2.2.2.2.2.2.1 p.2.2.2.2.2.2.2 tb tg tt ts te tf tn tp cnt best (nI k) = some (r, s.1, s.2.1, s.2.2.1, s.2.2.2.1, s.2.2.2.2.1, s.2.2.2.2.2.1, s.2.2.2.2.2.2.1, s.2.2.2.2.2.2.2, p.1, p.2.1, p.2.2.1, p.2.2.2.1, p.2.2.2.2.1, p.2.2.2.2.2.1, p.2.2.2.2.2.2.1, p.2.2.2.2.2.2.2, tb', tg, tt, ts, te, tf, tn', tp') ∧
        f_X5_bestBow_L25 fu' gr ll v W0 L0 best cnt (nI k) = some (r, q.1, q.2.1, v', q.2.2.1, q.2.2.2) ∧ (∀ j, j < 120 → j ≠ 48 + nb → j ≠ 72 + nb → v' j = v0 j) := by
  intro d
  induction d with
  | zero =>
    intro k fu fu' best cnt tb s0 tn tp gr ll v W0 L0 h1 h2 h3 hv ht
    obtain ⟨fu, rfl⟩ : ∃ u, fu = u + 1 := ⟨fu - 1, by omega⟩
    obtain ⟨fu', rfl⟩ : ∃ u, fu' = u + 1 := ⟨fu' - 1, by omega⟩
    obtain rfl : k = 6 := by omega
    have e3 : v 3 = nI nb := by rw [hv 3 (by omega) (by omega) (by omega), hv3]
    rw [f_X4_bestBow_L51, f_X5_bestBow_L25, if_pos (show (6 : Int32) ≤ nI 6 by decide), if_pos (show (6 : Int32) ≤ nI 6 by decide)]
    simp only [if_pos (show bw_in 3 120 by decide), show Int32.toNatClampNeg 3 = 3 from rfl, e3]
    rw [show (48 : Int32) + nI nb = nI (48 + nb) from pu_add 48 nb, if_pos (pu_in (show 48 + nb < 120 by omega) (by omega)), pu_cl (by omega)]
    exact ⟨best, s0, (gr, ll, W0, L0), _, tb, tn, tp, rfl, rfl, fun j q1 q2 q3 => by rw [pk_un q2]; exact hv j q1 q2 q3⟩
  | succ d ih =>
    intro k fu fu' best cnt tb s0 tn tp gr ll v W0 L0 h1 h2 h3 hv ht
    obtain ⟨fu, rfl⟩ : ∃ u, fu = u + 1 := ⟨fu - 1, by omega⟩
    obtain ⟨fu', rfl⟩ : ∃ u, fu' = u + 1 := ⟨fu' - 1, by omega⟩
    have e3 : v 3 = nI nb := by rw [hv 3 (by omega) (by omega) (by omega), hv3]
    have hle : ¬ (6 : Int32) ≤ nI k := pu_ofn (n := 6) (by omega) (by omega)
    have e5 : f_X0_addBow c.1 tn tp (nI k) 0 = some (nI (nb + 1), upd tn nb (nI k), upd tp nb 0) := by rw [hb]; exact pu_addBow hn tn tp (nI k) 0
    rw [f_X4_bestBow_L51, f_X5_bestBow_L25, if_neg hle, if_neg hle, e5, Option.bind_some, pu_adds hn e3, Option.bind_some]
    obtain ⟨s, q, a1, a2, a3⟩ := pu_look (nb := nb + 1) (by omega) (st := ts) (num := upd tn nb (nI k)) (pau := upd tp nb 0) (v := upd (upd (upd v (48 + nb) (nI k)) (72 + nb) 0) 3 (nI (nb + 1))) 0 (by rw [pk_us]) (by rw [pk_un (by omega), pk_un (by omega), pk_un (by omega), hv 0 (by omega) (by omega) (by omega), hv0]) (fun j hj => by
      rcases Nat.lt_or_ge j nb with hj2 | hj2
      · refine ⟨?_, ?_⟩
        · rw [pk_un (by omega), pk_un (by omega), pk_un (by omega), pk_un (by omega), hv _ (by omega) (by omega) (by omega), (hvn j hj2).1, (ht j hj2).1]
        · rw [pk_un (by omega), pk_un (by omega), pk_un (by omega), pk_un (by omega), hv _ (by omega) (by omega) (by omega), (hvn j hj2).2, (ht j hj2).2]
      · obtain rfl : j = nb := by omega
        refine ⟨?_, ?_⟩
        · rw [pk_un (by omega), pk_un (by omega), pk_us, pk_us]
        · rw [pk_un (by omega), pk_us, pk_us]) s0 gr ll W0 L0
    have a4 := pu_sent a3 a2
    rw [a1, Option.bind_some, a4, Option.bind_some]
    simp only [if_pos (show bw_in 3 120 by decide), show Int32.toNatClampNeg 3 = 3 from rfl, pu_1]
    rw [pk_us]
    have hm : nI (nb + 1) - 1 = nI nb := nI_pred nb
    rw [hm]
    have hv2 : ∀ j, j < 120 → j ≠ 48 + nb → j ≠ 72 + nb → upd (upd (upd (upd v (48 + nb) (nI k)) (72 + nb) 0) 3 (nI (nb + 1))) 3 (nI nb) j = v0 j := by
      intro j q1 q2 q3
      by_cases e : j = 3
      · rw [e, pk_us, hv3]
      · rw [pk_un e, pk_un e, pk_un q3, pk_un q2, hv j q1 q2 q3]
    have ht2 : ∀ j, j < nb → upd tn nb (nI k) j = c.2.2.2.2.2.2.1 j ∧ upd tp nb 0 j = c.2.2.2.2.2.2.2 j := by
      intro j hj
      rw [pk_un (by omega), pk_un (by omega)]
      exact ht j hj
    by_cases e : s.2.2.2.2.2.1 ≤ cnt
    · rw [if_pos e, if_pos e, if_pos e]
      exact ih (k + 1) fu fu' best cnt _ s _ _ q.1 q.2.1 _ q.2.2.1 q.2.2.2 (by omega) (by omega) (by omega) hv2 ht2
    · rw [if_neg e, if_neg e, if_neg e]
      exact ih (k + 1) fu fu' (nI k) s.2.2.2.2.2.1 _ s _ _ q.1 q.2.1 _ q.2.2.1 q.2.2.2 (by omega) (by omega) (by omega) hv2 ht2
theorem pu_bestM0 {gr ll : Int32} {v W L : Nat → Int32} (h : v 3 = nI 24) : f_X5_bestBow gr ll v W L = some (-1000006, gr, ll, v, W, L) := by
  unfold f_X5_bestBow
  rw [if_pos (show bw_in 3 120 by decide)]
  exact if_pos (show v 3 = 24 from h)
theorem pu_bestM1 {gr ll n : Int32} {v W L : Nat → Int32} {q : bwPt} {nb : Nat} (hn : nb < 24) (h : v 3 = nI nb) (e : f_X5_sentences gr ll v W L 0 = some (n, q)) : f_X5_bestBow gr ll v W L = f_X5_bestBow_L25 bw_F q.1 q.2.1 v q.2.2.1 q.2.2.2 (-1000006) n 0 := by
  unfold f_X5_bestBow
  rw [if_pos (show bw_in 3 120 by decide), if_neg (show ¬ v (Int32.toNatClampNeg 3) = 24 from fun z => absurd ((pu_eq (a := nb) (b := 24) (by omega) (by omega)).mp (h.symm.trans z)) (by omega)), e, Option.bind_some]
theorem pu_bestC0 {c : bwCt} {s0 p0 t : bwSn} {tr : bwCt} (h : c.1 = nI 24) : f_X4_bestBow c.1 c.2.1 c.2.2.1 c.2.2.2.1 c.2.2.2.2.1 c.2.2.2.2.2.1 c.2.2.2.2.2.2.1 c.2.2.2.2.2.2.2 s0.1 s0.2.1 s0.2.2.1 s0.2.2.2.1 s0.2.2.2.2.1 s0.2.2.2.2.2.1 s0.2.2.2.2.2.2.1 s0.2.2.2.2.2.2.2 p0.1 p0.2.1 p0.2.2.1 p0.2.2.2.1 p0.2.2.2.2.1 p0.2.2.2.2.2.1 p0.2.2.2.2.2.2.1 p0.2.2.2.2.2.2.2 tr.1 tr.2.1 tr.2.2.1 tr.2.2.2.1 tr.2.2.2.2.1 tr.2.2.2.2.2.1 tr.2.2.2.2.2.2.1 tr.2.2.2.2.2.2.2 = some (-1000006, s0.1, s0.2.1, s0.2.2.1, s0.2.2.2.1, s0.2.2.2.2.1, s0.2.2.2.2.2.1, s0.2.2.2.2.2.2.1, s0.2.2.2.2.2.2.2, p0.1, p0.2.1, p0.2.2.1, p0.2.2.2.1, p0.2.2.2.2.1, p0.2.2.2.2.2.1, p0.2.2.2.2.2.2.1, p0.2.2.2.2.2.2.2, tr.1, tr.2.1, tr.2.2.1, tr.2.2.2.1, tr.2.2.2.2.1, tr.2.2.2.2.2.1, tr.2.2.2.2.2.2.1, tr.2.2.2.2.2.2.2) := by
  unfold f_X4_bestBow
  rw [h]
  exact if_neg (by decide)
theorem pu_bestC1 {c : bwCt} {s0 p0 p : bwSn} {tr tr' : bwCt} {nb : Nat} (hn : nb < 24) (h : c.1 = nI nb) (e : f_X3_look p0.1 p0.2.1 p0.2.2.1 p0.2.2.2.1 p0.2.2.2.2.1 p0.2.2.2.2.2.1 p0.2.2.2.2.2.2.1 p0.2.2.2.2.2.2.2 c.1 c.2.2.2.1 c.2.2.2.2.2.2.1 c.2.2.2.2.2.2.2 0 = some p) (a : bw_bec tr c = some tr') :
    f_X4_bestBow c.1 c.2.1 c.2.2.1 c.2.2.2.1 c.2.2.2.2.1 c.2.2.2.2.2.1 c.2.2.2.2.2.2.1 c.2.2.2.2.2.2.2 s0.1 s0.2.1 s0.2.2.1 s0.2.2.2.1 s0.2.2.2.2.1 s0.2.2.2.2.2.1 s0.2.2.2.2.2.2.1 s0.2.2.2.2.2.2.2 p0.1 p0.2.1 p0.2.2.1 p0.2.2.2.1 p0.2.2.2.2.1 p0.2.2.2.2.2.1 p0.2.2.2.2.2.2.1 p0.2.2.2.2.2.2.2 tr.1 tr.2.1 tr.2.2.1 tr.2.2.2.1 tr.2.2.2.2.1 tr.2.2.2.2.2.1 tr.2.2.2.2.2.2.1 tr.2.2.2.2.2.2.2 = f_X4_bestBow_L51 bw_F c.1 c.2.1 c.2.2.1 c.2.2.2.1 c.2.2.2.2.1 c.2.2.2.2.2.1 c.2.2.2.2.2.2.1 c.2.2.2.2.2.2.2 s0.1 s0.2.1 s0.2.2.1 s0.2.2.2.1 s0.2.2.2.2.1 s0.2.2.2.2.2.1 s0.2.2.2.2.2.2.1 s0.2.2.2.2.2.2.2 p.1 p.2.1 p.2.2.1 p.2.2.2.1 p.2.2.2.2.1 p.2.2.2.2.2.1 p.2.2.2.2.2.2.1 p.2.2.2.2.2.2.2 tr'.1 tr'.2.1 tr'.2.2.1 tr'.2.2.2.1 tr'.2.2.2.2.1 tr'.2.2.2.2.2.1 tr'.2.2.2.2.2.2.1 tr'.2.2.2.2.2.2.2 p.2.2.2.2.2.1 (-1000006) 0 := by
  unfold bw_bec at a
  unfold f_X4_bestBow
  rw [if_pos (show c.1 < 24 by rw [h]; exact (pu_lt (b := 24) (by omega) (by omega)).mpr hn), e, Option.bind_some, a, Option.bind_some]
theorem ok_bestBow : bwO bwRel (fun x => x_bestBow x) (fun m => m_bestBow m) := by
  intro x m ⟨hc, hp, hs, hh⟩
  simp only [x_bestBow, m_bestBow]
  obtain ⟨h1, h2, h3, h4, h5, h6, nb, h7, h8, h9⟩ := id hc
  by_cases d : nb = 24
  · subst d
    rw [pu_bestM0 (h1.trans h8), pu_bestC0 (t := x.2.2.1) h8]
    simp only [Option.bind_some]
    exact bwO_fin rfl ⟨hc, hp, hs, hh⟩
  · have hn : nb < 24 := by omega
    obtain ⟨p, q, e1, e2, e3, e4⟩ := pu_lookR hc 0 x.2.2.2.1 m.2.1 m.2.2.1 m.2.2.2.2.2.2.2.2.2.2.2.1 m.2.2.2.2.2.2.2.2.2.2.2.2.1
    obtain ⟨tr', a1, a2⟩ := pu_become x.2.2.2.2.1 x.1
    obtain ⟨t1, t2, t3, t4, t5, t6, t7, t8⟩ := a2
    obtain ⟨r, s, q', v', tb', tn', tp', z1, z2, z3⟩ := pu_bestL hn x.1 h8 p (v0 := m.2.2.2.2.2.2.1) (ts := tr'.2.2.2.1) (h1.trans h8) ((h4 0 (by omega)).trans (t4 0 (by omega)).symm) h9 tr'.2.1 tr'.2.2.1 tr'.2.2.2.2.1 tr'.2.2.2.2.2.1 6 0 bw_F bw_F (-1000006) p.2.2.2.2.2.1 tr'.1 x.2.2.1 tr'.2.2.2.2.2.2.1 tr'.2.2.2.2.2.2.2 q.1 q.2.1 m.2.2.2.2.2.2.1 q.2.2.1 q.2.2.2 (by omega) (by rw [pu_F]; omega) (by rw [pu_F]; omega) (fun j _ _ _ => rfl) (fun j hj => ⟨t7 j (by omega), t8 j (by omega)⟩)
    rw [nI_0] at z1 z2
    rw [pu_bestM1 hn (h1.trans h8) e4, z2, pu_bestC1 hn h8 e1 a1, z1]
    simp only [Option.bind_some]
    exact bwO_fin rfl ⟨pu_CRx hn h8 hc z3, hp, hs, hh⟩
