/-! PURE: the courtiers' eyes; what can be given; counts -/
theorem pu_m3 (t : Nat) : (3 : Int32) * nI t = nI (3 * t) := pu_mul 3 t
theorem pu_part0 {t : Nat} (L : Nat → Int32) (h : 3 * t < 24) : f_X3_part L (nI t) 0 = some (L (3 * t)) := pu_part (w := 0) L (by omega)
theorem pu_lookE {c : bwCt} {v : Nat → Int32} (hc : bwCR c v) {k : Nat} (hk : k < 6) (s0 : bwSn) (gr ll : Int32) (W0 L0 : Nat → Int32) :
    ∃ (s : bwSn) (q : bwPt), f_X4_lookThroughEyesOf c.1 c.2.2.2.1 c.2.2.2.2.1 c.2.2.2.2.2.2.1 c.2.2.2.2.2.2.2 s0.1 s0.2.1 s0.2.2.1 s0.2.2.2.1 s0.2.2.2.2.1 s0.2.2.2.2.2.1 s0.2.2.2.2.2.2.1 s0.2.2.2.2.2.2.2 (nI k) = some s ∧ bwSR s q ∧ f_X5_sentences gr ll v W0 L0 (v (6 + k)) = some (s.2.2.2.2.2.1, q) := by
  obtain ⟨s, q, e1, -, e3, e4⟩ := pu_lookR hc (v (6 + k)) s0 gr ll W0 L0
  refine ⟨s, q, ?_, e3, e4⟩
  unfold f_X4_lookThroughEyesOf
  rw [pu_at _ hk (by omega), Option.bind_some, ← hc.2.2.2.2.1 k hk, e1, Option.bind_some]
theorem pu_can {c : bwCt} {v : Nat → Int32} (hc : bwCR c v) (s0 : bwSn) (gr ll : Int32) (W0 L0 : Nat → Int32) :
    ∃ (r : Int32) (s : bwSn) (q : bwPt), f_X4_canBeGiven c.1 c.2.2.2.1 c.2.2.2.2.2.2.1 c.2.2.2.2.2.2.2 s0.1 s0.2.1 s0.2.2.1 s0.2.2.2.1 s0.2.2.2.2.1 s0.2.2.2.2.2.1 s0.2.2.2.2.2.2.1 s0.2.2.2.2.2.2.2 = some (r, s) ∧ f_X5_canGive gr ll v W0 L0 = some (r, q) := by
  obtain ⟨s, q, e1, -, e3, e4⟩ := pu_lookR hc 0 s0 gr ll W0 L0
  obtain ⟨T, t1, t2, t3, -, -⟩ := pu_SRn e3
  unfold f_X4_canBeGiven f_X5_canGive
  rw [e1, e4]
  simp only [Option.bind_some]
  have k : s.2.2.2.2.2.1 ≤ 0 ↔ T ≤ 0 := by rw [t2]; exact pu_le (b := 0) (by omega) (by omega)
  by_cases d : s.2.2.2.2.1 = 0
  · rw [if_pos d, if_neg (fun z => absurd (k.mp z) (by have := t3.mp d; omega))]
    exact ⟨1, s, q, rfl, rfl⟩
  · have hT0 : ¬ 0 < T := fun z => d (t3.mpr z)
    rw [if_neg d, if_pos (k.mpr (by omega))]
    exact ⟨0, s, q, rfl, rfl⟩
theorem pu_seenFor {T : Nat} (hT : T ≤ 8) {L L' : Nat → Int32} (hL : ∀ j, j < 3 * T → L j = L' j) (c G LL : Int32) (v W : Nat → Int32) :
    ∀ (d t fu fu' : Nat) (n : Int32), d + t = T → d < fu → d < fu' → ∃ r, f_X4_sentencesSeenFor_L4 fu (nI T) L c n (nI t) = some r ∧ f_X5_wouldTake_L28 fu' G LL v W L' c (nI T) n (nI t) = some (r, G, LL, W, L') := by
  intro d
  induction d with
  | zero =>
    intro t fu fu' n h1 h2 h3
    obtain ⟨fu, rfl⟩ : ∃ u, fu = u + 1 := ⟨fu - 1, by omega⟩
    obtain ⟨fu', rfl⟩ : ∃ u, fu' = u + 1 := ⟨fu' - 1, by omega⟩
    have hle : nI T ≤ nI t := (pu_le (by omega) (by omega)).mpr (by omega)
    rw [f_X4_sentencesSeenFor_L4, f_X5_wouldTake_L28, if_pos hle, if_pos hle]
    exact ⟨n, rfl, rfl⟩
  | succ d ih =>
    intro t fu fu' n h1 h2 h3
    obtain ⟨fu, rfl⟩ : ∃ u, fu = u + 1 := ⟨fu - 1, by omega⟩
    obtain ⟨fu', rfl⟩ : ∃ u, fu' = u + 1 := ⟨fu' - 1, by omega⟩
    have hle : ¬ nI T ≤ nI t := fun z => absurd ((pu_le (by omega) (by omega)).mp z) (by omega)
    rw [f_X4_sentencesSeenFor_L4, f_X5_wouldTake_L28, if_neg hle, if_neg hle, pu_part0 L (by omega), Option.bind_some, pu_m3, if_pos (pu_in (show 3 * t < 24 by omega) (by omega)), pu_cl (show 3 * t < 100000 by omega), hL (3 * t) (by omega), pu_1]
    by_cases e : L' (3 * t) = c
    · rw [if_pos e, if_pos e, Int32.add_zero]
      exact ih (t + 1) fu fu' n (by omega) (by omega) (by omega)
    · rw [if_neg e, if_neg e]
      exact ih (t + 1) fu fu' (n + 1) (by omega) (by omega) (by omega)
theorem pu_takenM0 {v : Nat → Int32} {k : Nat} {gr ll : Int32} {W0 L0 : Nat → Int32} {q : bwPt} (e2 : f_X5_canGive gr ll v W0 L0 = some (0, q)) : f_X5_wouldTake gr ll v W0 L0 (nI k) = some (0, q) := by
  unfold f_X5_wouldTake
  rw [e2, Option.bind_some]
  exact if_pos rfl
theorem pu_takenM1 {v : Nat → Int32} {k : Nat} (hk : k < 6) {gr ll r n r1 : Int32} {W0 L0 : Nat → Int32} {q q1 : bwPt} (d : ¬ r = 0) (e2 : f_X5_canGive gr ll v W0 L0 = some (r, q)) (a3 : f_X5_sentences q.1 q.2.1 v q.2.2.1 q.2.2.2 (v (6 + k)) = some (n, q1))
    (b2 : f_X5_wouldTake_L28 bw_F q1.1 q1.2.1 v q1.2.2.1 q1.2.2.2 (nI k) n 0 0 = some (r1, q1)) : f_X5_wouldTake gr ll v W0 L0 (nI k) = some (r1, q1) := by
  unfold f_X5_wouldTake
  rw [e2, Option.bind_some, if_neg d, show (6 : Int32) + nI k = nI (6 + k) from pu_add 6 k, if_pos (pu_in (show 6 + k < 120 by omega) (by omega)), pu_cl (by omega), a3, Option.bind_some]
  exact b2
theorem pu_takenC0 {c : bwCt} (s0 p0 : bwSn) {p : bwSn} {k : Int32} (e1 : f_X4_canBeGiven c.1 c.2.2.2.1 c.2.2.2.2.2.2.1 c.2.2.2.2.2.2.2 p0.1 p0.2.1 p0.2.2.1 p0.2.2.2.1 p0.2.2.2.2.1 p0.2.2.2.2.2.1 p0.2.2.2.2.2.2.1 p0.2.2.2.2.2.2.2 = some (0, p)) :
    f_X4_sentencesTakenIfGiven c.1 c.2.2.2.1 c.2.2.2.2.1 c.2.2.2.2.2.2.1 c.2.2.2.2.2.2.2 s0.1 s0.2.1 s0.2.2.1 s0.2.2.2.1 s0.2.2.2.2.1 s0.2.2.2.2.2.1 s0.2.2.2.2.2.2.1 s0.2.2.2.2.2.2.2 p0.1 p0.2.1 p0.2.2.1 p0.2.2.2.1 p0.2.2.2.2.1 p0.2.2.2.2.2.1 p0.2.2.2.2.2.2.1 p0.2.2.2.2.2.2.2 k = some (0, s0.1, s0.2.1, s0.2.2.1, s0.2.2.2.1, s0.2.2.2.2.1, s0.2.2.2.2.2.1, s0.2.2.2.2.2.2.1, s0.2.2.2.2.2.2.2, p) := by
  unfold f_X4_sentencesTakenIfGiven
  rw [e1, Option.bind_some]
  exact if_pos rfl
theorem pu_takenC1 {c : bwCt} (s0 p0 : bwSn) {s p : bwSn} {k r r1 : Int32} (d : ¬ r = 0) (e1 : f_X4_canBeGiven c.1 c.2.2.2.1 c.2.2.2.2.2.2.1 c.2.2.2.2.2.2.2 p0.1 p0.2.1 p0.2.2.1 p0.2.2.2.1 p0.2.2.2.2.1 p0.2.2.2.2.2.1 p0.2.2.2.2.2.2.1 p0.2.2.2.2.2.2.2 = some (r, p))
    (a1 : f_X4_lookThroughEyesOf c.1 c.2.2.2.1 c.2.2.2.2.1 c.2.2.2.2.2.2.1 c.2.2.2.2.2.2.2 s0.1 s0.2.1 s0.2.2.1 s0.2.2.2.1 s0.2.2.2.2.1 s0.2.2.2.2.2.1 s0.2.2.2.2.2.2.1 s0.2.2.2.2.2.2.2 k = some s) (b1 : f_X4_sentencesSeenFor s.2.2.2.2.2.1 s.2.2.2.2.2.2.2 k = some r1) :
    f_X4_sentencesTakenIfGiven c.1 c.2.2.2.1 c.2.2.2.2.1 c.2.2.2.2.2.2.1 c.2.2.2.2.2.2.2 s0.1 s0.2.1 s0.2.2.1 s0.2.2.2.1 s0.2.2.2.2.1 s0.2.2.2.2.2.1 s0.2.2.2.2.2.2.1 s0.2.2.2.2.2.2.2 p0.1 p0.2.1 p0.2.2.1 p0.2.2.2.1 p0.2.2.2.2.1 p0.2.2.2.2.2.1 p0.2.2.2.2.2.2.1 p0.2.2.2.2.2.2.2 k = some (r1, s.1, s.2.1, s.2.2.1, s.2.2.2.1, s.2.2.2.2.1, s.2.2.2.2.2.1, s.2.2.2.2.2.2.1, s.2.2.2.2.2.2.2, p) := by
  unfold f_X4_sentencesTakenIfGiven
  rw [e1, Option.bind_some, if_neg d, a1, Option.bind_some, b1, Option.bind_some]
theorem pu_taken {c : bwCt} {v : Nat → Int32} (hc : bwCR c v) {k : Nat} (hk : k < 6) (s0 p0 : bwSn) (gr ll : Int32) (W0 L0 : Nat → Int32) :
    ∃ (r : Int32) (s p : bwSn) (q : bwPt), f_X4_sentencesTakenIfGiven c.1 c.2.2.2.1 c.2.2.2.2.1 c.2.2.2.2.2.2.1 c.2.2.2.2.2.2.2 s0.1 s0.2.1 s0.2.2.1 s0.2.2.2.1 s0.2.2.2.2.1 s0.2.2.2.2.2.1 s0.2.2.2.2.2.2.1 s0.2.2.2.2.2.2.2 p0.1 p0.2.1 p0.2.2.1 p0.2.2.2.1 p0.2.2.2.2.1 p0.2.2.2.2.2.1 p0.2.2.2.2.2.2.1 p0.2.2.2.2.2.2.2 (nI k) = some (r, s.1, s.2.1, s.2.2.1, s.2.2.2.1, s.2.2.2.2.1, s.2.2.2.2.2.1, s.2.2.2.2.2.2.1, s.2.2.2.2.2.2.2, p) ∧ f_X5_wouldTake gr ll v W0 L0 (nI k) = some (r, q) := by
  obtain ⟨r, p, q, e1, e2⟩ := pu_can hc p0 gr ll W0 L0
  by_cases d : r = 0
  · subst d
    exact ⟨0, s0, p, q, pu_takenC0 s0 p0 e1, pu_takenM0 e2⟩
  · obtain ⟨s, q1, a1, a2, a3⟩ := pu_lookE hc hk s0 q.1 q.2.1 q.2.2.1 q.2.2.2
    obtain ⟨T, t1, t2, -, t4, -⟩ := pu_SRn a2
    obtain ⟨r1, b1, b2⟩ := pu_seenFor t1 t4 (nI k) q1.1 q1.2.1 v q1.2.2.1 T 0 bw_F bw_F 0 (by omega) (by rw [pu_F]; omega) (by rw [pu_F]; omega)
    rw [← t2] at b1 b2
    rw [nI_0] at b1 b2
    refine ⟨r1, s, p, q1, pu_takenC1 s0 p0 d e1 a1 ?_, pu_takenM1 hk d e2 a3 ?_⟩
    · unfold f_X4_sentencesSeenFor
      rw [b1]
    · rw [b2]
theorem pu_seenCopy {n : Nat} (hn : n ≤ 24) (G LL : Int32) (v W L : Nat → Int32) (x1 x2 : Int32) (hx : 3 * x2 = nI n) :
    ∀ (d k fu : Nat) (seen : Nat → Int32), d + k = n → d < fu → ∃ seen', f_X5_seesOthers_L8 fu G LL v W L seen x1 x2 (nI k) = f_X5_seesOthers_L8 (fu - d) G LL v W L seen' x1 x2 (nI n) ∧ (∀ j, k ≤ j → j < n → seen' j = L j) ∧ ∀ j, j < k → seen' j = seen j := by
  intro d
  induction d with
  | zero =>
    intro k fu seen h1 h2
    obtain rfl : k = n := by omega
    exact ⟨seen, rfl, fun j _ _ => by omega, fun j _ => rfl⟩
  | succ d ih =>
    intro k fu seen h1 h2
    obtain ⟨fu, rfl⟩ : ∃ u, fu = u + 1 := ⟨fu - 1, by omega⟩
    rw [f_X5_seesOthers_L8, hx, if_neg (fun z => absurd ((pu_le (by omega) (by omega)).mp z) (by omega)), if_pos (pu_in (show k < 24 by omega) (by omega)), if_pos (pu_in (show k < 24 by omega) (by omega)), pu_cl (by omega), pu_1]
    obtain ⟨seen', a1, a2, a3⟩ := ih (k + 1) fu (upd seen k (L k)) (by omega) (by omega)
    refine ⟨seen', ?_, fun j q1 q2 => ?_, fun j q1 => ?_⟩
    · rw [show fu + 1 - (d + 1) = fu - d by omega]; exact a1
    · rcases Nat.lt_or_ge k j with q3 | q3
      · exact a2 j q3 q2
      · have q4 : j = k := by omega
        subst q4
        rw [a3 _ (by omega), pk_us]
    · rw [a3 j (by omega), pk_un (by omega)]
theorem pu_flag {n : Nat} (hn : n ≤ 24) (G LL : Int32) (v W L seen : Nat → Int32) (x1 x2 : Int32) (hx : 3 * x2 = nI n) {k : Nat} (hk : k ≤ n) (fu : Nat) :
    f_X5_seesOthers_L51 (fu + 1) G LL v W L seen x1 x2 1 (nI k) = some (1, G, LL, W, L, seen) := by
  rw [f_X5_seesOthers_L51, hx, if_pos (show bw_nb 1 from Or.inr rfl), if_neg pu_one0]
  by_cases c : nI n ≤ nI k
  · rw [if_pos c]
  · rw [if_neg c]
theorem pu_same {n : Nat} (hn : n ≤ 24) {L1 L1' L0 seen : Nat → Int32} (h1 : ∀ j, j < n → L1 j = L1' j) (h0 : ∀ j, j < n → L0 j = seen j) (G LL : Int32) (v W : Nat → Int32) (x1 x2 : Int32) (hx : 3 * x2 = nI n) :
    ∀ (d k fu fu' : Nat), d + k = n → d < fu → d + 1 < fu' → ∃ r r', (r = 0 ∧ r' = 1 ∨ r = 1 ∧ r' = 0) ∧ f_X3_saysTheSameAs_L15 fu x2 L1 x2 L0 (nI k) = some r ∧ f_X5_seesOthers_L51 fu' G LL v W L1' seen x1 x2 0 (nI k) = some (r', G, LL, W, L1', seen) := by
  intro d
  induction d with
  | zero =>
    intro k fu fu' g1 g2 g3
    obtain ⟨fu, rfl⟩ : ∃ u, fu = u + 1 := ⟨fu - 1, by omega⟩
    obtain ⟨fu', rfl⟩ : ∃ u, fu' = u + 1 := ⟨fu' - 1, by omega⟩
    have hle : nI n ≤ nI k := (pu_le (by omega) (by omega)).mpr (by omega)
    rw [f_X3_saysTheSameAs_L15, f_X5_seesOthers_L51, hx, if_pos hle, if_pos hle, if_pos (show bw_nb 0 from Or.inl rfl)]
    exact ⟨1, 0, Or.inr ⟨rfl, rfl⟩, rfl, rfl⟩
  | succ d ih =>
    intro k fu fu' g1 g2 g3
    obtain ⟨fu, rfl⟩ : ∃ u, fu = u + 1 := ⟨fu - 1, by omega⟩
    obtain ⟨fu', rfl⟩ : ∃ u, fu' = u + 1 + 1 := ⟨fu' - 2, by omega⟩
    have hle : ¬ nI n ≤ nI k := fun z => absurd ((pu_le (by omega) (by omega)).mp z) (by omega)
    have hin := pu_in (show k < 24 by omega) (show 24 ≤ 1000 by omega)
    rw [f_X3_saysTheSameAs_L15, f_X5_seesOthers_L51, hx, if_neg hle, if_neg hle, pu_at L1 (show k < 24 by omega) (by omega), pu_at L0 (show k < 24 by omega) (by omega), if_pos (rfl : (0 : Int32) = 0), if_pos hin, if_pos hin, pu_cl (by omega), h1 k (by omega), h0 k (by omega), pu_1]
    simp only [Option.bind_some]
    by_cases e : L1' k = seen k
    · rw [if_pos e, if_pos e.symm]
      exact ih (k + 1) fu (fu' + 1) (by omega) (by omega) (by omega)
    · rw [if_neg e, if_neg (fun z => e z.symm), pu_flag hn G LL v W L1' seen x1 x2 hx (by omega)]
      exact ⟨0, 1, Or.inl ⟨rfl, rfl⟩, rfl, rfl⟩
/-- the plain sight, wherever the model looks again -/
def bwPl (v : Nat → Int32) (p : bwSn) : Prop := ∀ (gr ll : Int32) (W0 L0 : Nat → Int32), ∃ q : bwPt, bwSR p q ∧ f_X5_sentences gr ll v W0 L0 0 = some (p.2.2.2.2.2.1, q)
theorem pu_plain {c : bwCt} {v : Nat → Int32} (hc : bwCR c v) (p0 : bwSn) : ∃ p : bwSn, f_X3_look p0.1 p0.2.1 p0.2.2.1 p0.2.2.2.1 p0.2.2.2.2.1 p0.2.2.2.2.2.1 p0.2.2.2.2.2.2.1 p0.2.2.2.2.2.2.2 c.1 c.2.2.2.1 c.2.2.2.2.2.2.1 c.2.2.2.2.2.2.2 0 = some p ∧ bwPl v p := by
  obtain ⟨p, q, e1, -, e3, e4⟩ := pu_lookR hc 0 p0 0 0 (fun _ => 0) (fun _ => 0)
  refine ⟨p, e1, fun gr ll W0 L0 => ?_⟩
  obtain ⟨p', q', f1, -, f3, f4⟩ := pu_lookR hc 0 p0 gr ll W0 L0
  rw [e1] at f1
  obtain rfl := Option.some.inj f1
  exact ⟨q', f3, f4⟩
theorem pu_seesOthers {c : bwCt} {v : Nat → Int32} (hc : bwCR c v) {p : bwSn} (hp : bwPl v p) {k : Nat} (hk : k < 6) (s0 : bwSn) (gr ll : Int32) (W0 L0 seen : Nat → Int32) :
    ∃ (r r' : Int32) (s : bwSn) (q : bwPt) (seen' : Nat → Int32), (r = 0 ∧ r' = 1 ∨ r = 1 ∧ r' = 0) ∧ f_X4_lookThroughEyesOf c.1 c.2.2.2.1 c.2.2.2.2.1 c.2.2.2.2.2.2.1 c.2.2.2.2.2.2.2 s0.1 s0.2.1 s0.2.2.1 s0.2.2.2.1 s0.2.2.2.2.1 s0.2.2.2.2.2.1 s0.2.2.2.2.2.2.1 s0.2.2.2.2.2.2.2 (nI k) = some s ∧
      f_X3_saysTheSameAs s.2.2.2.2.2.1 s.2.2.2.2.2.2.2 p.2.2.2.2.2.1 p.2.2.2.2.2.2.2 = some r ∧ f_X5_seesOthers gr ll v W0 L0 seen (v (6 + k)) = some (r', q.1, q.2.1, q.2.2.1, q.2.2.2, seen') := by
  obtain ⟨q0, a1, a2⟩ := hp gr ll W0 L0
  obtain ⟨s, q, b1, b2, b3⟩ := pu_lookE hc hk s0 q0.1 q0.2.1 q0.2.2.1 q0.2.2.2
  obtain ⟨T0, t1, t2, -, t4, -⟩ := pu_SRn a1
  obtain ⟨T1, u1, u2, -, u4, -⟩ := pu_SRn b2
  unfold f_X5_seesOthers f_X3_saysTheSameAs
  rw [a2, Option.bind_some]
  have hx : 3 * p.2.2.2.2.2.1 = nI (3 * T0) := by rw [t2, pu_m3]
  obtain ⟨seen', c1, c2, -⟩ := pu_seenCopy (n := 3 * T0) (by omega) q0.1 q0.2.1 v q0.2.2.1 q0.2.2.2 (v (6 + k)) p.2.2.2.2.2.1 hx (3 * T0) 0 bw_F seen (by omega) (by rw [pu_F]; omega)
  rw [show f_X5_seesOthers_L8 bw_F q0.1 q0.2.1 v q0.2.2.1 q0.2.2.2 seen (v (6 + k)) p.2.2.2.2.2.1 0 = _ from c1]
  obtain ⟨fu, hfu⟩ : ∃ u, bw_F - 3 * T0 = u + 1 := ⟨bw_F - 3 * T0 - 1, by rw [pu_F]; omega⟩
  rw [hfu, f_X5_seesOthers_L8, hx, if_pos (show nI (3 * T0) ≤ nI (3 * T0) from (pu_le (by omega) (by omega)).mpr (Nat.le_refl _)), b3]
  simp only [Option.bind_some]
  by_cases e : s.2.2.2.2.2.1 = p.2.2.2.2.2.1
  · have hTT : T1 = T0 := by
      have z := e
      rw [u2, t2] at z
      exact (pu_eq (by omega) (by omega)).mp z
    subst hTT
    obtain ⟨r, r', g1, g2, g3⟩ := pu_same (n := 3 * T1) (by omega) u4 (fun j hj => (t4 j hj).trans (c2 j (Nat.zero_le j) hj).symm) q.1 q.2.1 v q.2.2.1 (v (6 + k)) p.2.2.2.2.2.1 hx (3 * T1) 0 bw_F bw_F (by omega) (by rw [pu_F]; omega) (by rw [pu_F]; omega)
    refine ⟨r, r', s, q, seen', g1, b1, ?_, ?_⟩
    · rw [if_pos e, e]; exact g2
    · rw [if_pos e]; exact g3
  · refine ⟨0, 1, s, q, seen', Or.inl ⟨rfl, rfl⟩, b1, if_neg e, ?_⟩
    rw [if_neg e]
    exact pu_flag (n := 3 * T0) (by omega) q.1 q.2.1 v q.2.2.1 q.2.2.2 seen' (v (6 + k)) p.2.2.2.2.2.1 hx (k := 0) (by omega) 4999
theorem pu_misledL {c : bwCt} {v : Nat → Int32} (hc : bwCR c v) {p : bwSn} (hp : bwPl v p) : ∀ (d k fu fu' : Nat) (n : Int32) (s0 : bwSn) (gr ll : Int32) (W0 L0 seen : Nat → Int32), d + k = 6 → d < fu → d < fu' →
    ∃ (r : Int32) (s : bwSn) (q : bwPt) (seen' : Nat → Int32), f_X4_courtiersMisled_L16 fu c.1 c.2.2.2.1 c.2.2.2.2.1 c.2.2.2.2.2.2.1 c.2.2.2.2.2.2.2 s0.1 s0.2.1 s0.2.2.1 s0.2.2.2.1 s0.2.2.2.2.1 s0.2.2.2.2.2.1 s0.2.2.2.2.2.2.1 s0.2.2.2.2.2.2.2 p.1 p.2.1 p.2.2.1 p.2.2.2.1 p.2.2.2.2.1 p.2.2.2.2.2.1 p.2.2.2.2.2.2.1 p.2.2.2.2.2.2.2 n (nI k) = some (r, s.1, s.2.1, s.2.2.1, s.2.2.2.1, s.2.2.2.2.1, s.2.2.2.2.2.1, s.2.2.2.2.2.2.1, s.2.2.2.2.2.2.2, p) ∧
      f_X5_othersSeen_L4 fu' gr ll v W0 L0 seen n (nI k) = some (r, q.1, q.2.1, q.2.2.1, q.2.2.2, seen') := by
  intro d
  induction d with
  | zero =>
    intro k fu fu' n s0 gr ll W0 L0 seen h1 h2 h3
    obtain ⟨fu, rfl⟩ : ∃ u, fu = u + 1 := ⟨fu - 1, by omega⟩
    obtain ⟨fu', rfl⟩ : ∃ u, fu' = u + 1 := ⟨fu' - 1, by omega⟩
    obtain rfl : k = 6 := by omega
    rw [f_X4_courtiersMisled_L16, f_X5_othersSeen_L4, if_pos (show (6 : Int32) ≤ nI 6 by decide), if_pos (show (6 : Int32) ≤ nI 6 by decide)]
    exact ⟨n, s0, (gr, ll, W0, L0), seen, rfl, rfl⟩
  | succ d ih =>
    intro k fu fu' n s0 gr ll W0 L0 seen h1 h2 h3
    obtain ⟨fu, rfl⟩ : ∃ u, fu = u + 1 := ⟨fu - 1, by omega⟩
    obtain ⟨fu', rfl⟩ : ∃ u, fu' = u + 1 := ⟨fu' - 1, by omega⟩
    have hk : k < 6 := by omega
    have hle : ¬ (6 : Int32) ≤ nI k := pu_ofn (n := 6) hk (by omega)
    obtain ⟨r, r', s, q, seen', g1, g2, g3, g4⟩ := pu_seesOthers hc hp hk s0 gr ll W0 L0 seen
    rw [f_X4_courtiersMisled_L16, f_X5_othersSeen_L4, if_neg hle, if_neg hle, g2, show (6 : Int32) + nI k = nI (6 + k) from pu_add 6 k, if_pos (pu_in (show 6 + k < 120 by omega) (by omega)), pu_cl (by omega), g4]
    simp only [Option.bind_some]
    rw [g3, pu_1]
    simp only [Option.bind_some]
    rcases g1 with ⟨rfl, rfl⟩ | ⟨rfl, rfl⟩
    · rw [if_pos (rfl : (0 : Int32) = 0), if_neg pu_one0]
      exact ih (k + 1) fu fu' (n + 1) s q.1 q.2.1 q.2.2.1 q.2.2.2 seen' (by omega) (by omega) (by omega)
    · rw [if_pos (rfl : (0 : Int32) = 0), if_neg pu_one0, Int32.add_zero]
      exact ih (k + 1) fu fu' n s q.1 q.2.1 q.2.2.1 q.2.2.2 seen' (by omega) (by omega) (by omega)
theorem pu_misled {c : bwCt} {v : Nat → Int32} (hc : bwCR c v) (s0 p0 : bwSn) (gr ll : Int32) (W0 L0 seen : Nat → Int32) :
    ∃ (r : Int32) (s p : bwSn) (q : bwPt) (seen' : Nat → Int32), f_X4_courtiersMisled c.1 c.2.2.2.1 c.2.2.2.2.1 c.2.2.2.2.2.2.1 c.2.2.2.2.2.2.2 s0.1 s0.2.1 s0.2.2.1 s0.2.2.2.1 s0.2.2.2.2.1 s0.2.2.2.2.2.1 s0.2.2.2.2.2.2.1 s0.2.2.2.2.2.2.2 p0.1 p0.2.1 p0.2.2.1 p0.2.2.2.1 p0.2.2.2.2.1 p0.2.2.2.2.2.1 p0.2.2.2.2.2.2.1 p0.2.2.2.2.2.2.2 = some (r, s.1, s.2.1, s.2.2.1, s.2.2.2.1, s.2.2.2.2.1, s.2.2.2.2.2.1, s.2.2.2.2.2.2.1, s.2.2.2.2.2.2.2, p) ∧
      f_X5_othersSeen gr ll v W0 L0 seen = some (r, q.1, q.2.1, q.2.2.1, q.2.2.2, seen') := by
  obtain ⟨p, e1, e2⟩ := pu_plain hc p0
  unfold f_X4_courtiersMisled f_X5_othersSeen
  rw [e1, Option.bind_some]
  obtain ⟨r, s, q, seen', a1, a2⟩ := pu_misledL hc e2 6 0 bw_F bw_F 0 s0 gr ll W0 L0 seen (by omega) (by rw [pu_F]; omega) (by rw [pu_F]; omega)
  exact ⟨r, s, p, q, seen', a1, a2⟩
theorem ok_count (p0 : Int32) : bwO bwRel (fun x => x_count x p0) (fun m => m_count m p0) := by
  intro x m ⟨hc, hp, hs, hh⟩
  simp only [x_count, m_count]
  unfold f_X4_count f_X5_count
  by_cases c6 : p0 = 6
  · subst c6
    obtain ⟨r, s, p, q, seen', e1, e2⟩ := pu_misled hc x.2.2.1 x.2.2.2.1 m.2.1 m.2.2.1 m.2.2.2.2.2.2.2.2.2.2.2.1 m.2.2.2.2.2.2.2.2.2.2.2.2.1 m.2.2.2.2.2.2.2.2.2.2.2.2.2.1
    simp only [show ¬ (6 : Int32) = 0 by decide, show ¬ (6 : Int32) = 1 by decide, show ¬ (6 : Int32) = 2 by decide, show ¬ (6 : Int32) = 3 by decide, show ¬ (6 : Int32) = 4 by decide, show ¬ (6 : Int32) = 5 by decide, if_true, if_false]
    rw [e1, e2]
    simp only [Option.bind_some]
    exact bwO_fin rfl ⟨hc, hp, hs, hh⟩
  by_cases c7 : p0 = 7
  · subst c7
    obtain ⟨r, e1, e2⟩ := pu_ofA hc
    simp only [show ¬ (7 : Int32) = 0 by decide, show ¬ (7 : Int32) = 1 by decide, show ¬ (7 : Int32) = 2 by decide, show ¬ (7 : Int32) = 3 by decide, show ¬ (7 : Int32) = 4 by decide, show ¬ (7 : Int32) = 5 by decide, show ¬ (7 : Int32) = 6 by decide, if_true, if_false]
    rw [e1, e2]
    simp only [Option.bind_some]
    exact bwO_fin rfl ⟨hc, hp, hs, hh⟩
  by_cases c8 : p0 = 8
  · subst c8
    simp only [show ¬ (8 : Int32) = 0 by decide, show ¬ (8 : Int32) = 1 by decide, show ¬ (8 : Int32) = 2 by decide, show ¬ (8 : Int32) = 3 by decide, show ¬ (8 : Int32) = 4 by decide, show ¬ (8 : Int32) = 5 by decide, show ¬ (8 : Int32) = 6 by decide, show ¬ (8 : Int32) = 7 by decide, if_true, if_false, Option.bind_some]
    obtain ⟨n, hn, b1, b2, b3⟩ := id hp
    exact bwO_fin (b1.trans b2.symm) ⟨hc, hp, hs, hh⟩
  by_cases c9 : p0 = 9
  · subst c9
    simp only [show ¬ (9 : Int32) = 0 by decide, show ¬ (9 : Int32) = 1 by decide, show ¬ (9 : Int32) = 2 by decide, show ¬ (9 : Int32) = 3 by decide, show ¬ (9 : Int32) = 4 by decide, show ¬ (9 : Int32) = 5 by decide, show ¬ (9 : Int32) = 6 by decide, show ¬ (9 : Int32) = 7 by decide, show ¬ (9 : Int32) = 8 by decide, if_true, if_false, Option.bind_some]
    obtain ⟨h, n, b1, b2, b3, b4, b5, b6⟩ := id hh
    exact bwO_fin (b4.trans b5.symm) ⟨hc, hp, hs, hh⟩
  rw [pu_inI, show (0 : Int64).toInt = 0 from rfl, show (5 : Int64).toInt = 5 from rfl]
  simp only [if_neg c6, if_neg c7, if_neg c8, if_neg c9, Option.bind_some]
  obtain ⟨a1, a2, a3, a4, -, -, -⟩ := id hc
  by_cases d : 0 ≤ p0.toInt ∧ p0.toInt ≤ 5
  · obtain ⟨k, hk, rfl⟩ := pu_toN (x := p0) (n := 6) (by omega) (by omega) (by omega)
    simp only [if_pos d, if_neg pu_one0, if_pos (pu_in (show k < 120 by omega) (show 120 ≤ 1000 by omega))]
    simp only [pu_cl (show k < 100000 by omega)]
    have h : k = 0 ∨ k = 1 ∨ k = 2 ∨ k = 3 ∨ k = 4 ∨ k = 5 := by omega
    rcases h with rfl | rfl | rfl | rfl | rfl | rfl
    · simp only [show nI 0 = 0 from rfl, if_true, if_pos (show bw_in 0 3 from pu_in (k := 0) (by omega) (by omega)), Option.bind_some]
      exact bwO_fin (a4 0 (by omega)).symm ⟨hc, hp, hs, hh⟩
    · simp only [show nI 1 = 1 from rfl, show ¬ (1 : Int32) = 0 by decide, if_true, if_false, if_pos (show bw_in 1 3 from pu_in (k := 1) (by omega) (by omega)), Option.bind_some]
      exact bwO_fin (a4 1 (by omega)).symm ⟨hc, hp, hs, hh⟩
    · simp only [show nI 2 = 2 from rfl, show ¬ (2 : Int32) = 0 by decide, show ¬ (2 : Int32) = 1 by decide, if_true, if_false, if_pos (show bw_in 2 3 from pu_in (k := 2) (by omega) (by omega)), Option.bind_some]
      exact bwO_fin (a4 2 (by omega)).symm ⟨hc, hp, hs, hh⟩
    · simp only [show nI 3 = 3 from rfl, show ¬ (3 : Int32) = 0 by decide, show ¬ (3 : Int32) = 1 by decide, show ¬ (3 : Int32) = 2 by decide, if_true, if_false, Option.bind_some]
      exact bwO_fin a1.symm ⟨hc, hp, hs, hh⟩
    · simp only [show nI 4 = 4 from rfl, show ¬ (4 : Int32) = 0 by decide, show ¬ (4 : Int32) = 1 by decide, show ¬ (4 : Int32) = 2 by decide, show ¬ (4 : Int32) = 3 by decide, if_true, if_false, Option.bind_some]
      exact bwO_fin a2.symm ⟨hc, hp, hs, hh⟩
    · simp only [show nI 5 = 5 from rfl, show ¬ (5 : Int32) = 0 by decide, show ¬ (5 : Int32) = 1 by decide, show ¬ (5 : Int32) = 2 by decide, show ¬ (5 : Int32) = 3 by decide, show ¬ (5 : Int32) = 4 by decide, if_true, if_false, Option.bind_some]
      exact bwO_fin a3.symm ⟨hc, hp, hs, hh⟩
  · have n0 : ¬ p0 = 0 := fun z => d (by rw [z]; decide)
    have n1 : ¬ p0 = 1 := fun z => d (by rw [z]; decide)
    have n2 : ¬ p0 = 2 := fun z => d (by rw [z]; decide)
    have n3 : ¬ p0 = 3 := fun z => d (by rw [z]; decide)
    have n4 : ¬ p0 = 4 := fun z => d (by rw [z]; decide)
    have n5 : ¬ p0 = 5 := fun z => d (by rw [z]; decide)
    simp only [if_neg d, if_neg n0, if_neg n1, if_neg n2, if_neg n3, if_neg n4, if_neg n5, if_true, Option.bind_some]
    exact bwO_fin rfl ⟨hc, hp, hs, hh⟩
theorem ok_courtier (p0 p1 : Int32) : bwO bwRel (fun x => x_courtier x p0 p1) (fun m => m_courtier m p0 p1) := by
  intro x m ⟨hc, hp, hs, hh⟩
  simp only [x_courtier, m_courtier]
  unfold f_X4_courtier f_X5_courtier
  rw [pu_courM, pu_courC]
  simp only [Option.bind_some]
  by_cases d : 0 ≤ p0.toInt ∧ p0.toInt ≤ 5
  · obtain ⟨k, hk, rfl⟩ := pu_toN (x := p0) (n := 6) (by omega) (by omega) (by omega)
    simp only [if_pos d, if_neg pu_one0]
    by_cases c0 : p1 = 0
    · simp only [if_pos c0]
      rw [show (6 : Int32) + nI k = nI (6 + k) from pu_add 6 k]
      simp only [if_pos (pu_in (show k < 6 by omega) (show 6 ≤ 1000 by omega)), if_pos (pu_in (show 6 + k < 120 by omega) (show 120 ≤ 1000 by omega))]
      rw [pu_cl (show k < 100000 by omega), pu_cl (show 6 + k < 100000 by omega)]
      simp only [Option.bind_some]
      exact bwO_fin (hc.2.2.2.2.1 k hk).symm ⟨hc, hp, hs, hh⟩
    by_cases c1 : p1 = 1
    · obtain ⟨r, e1, e2⟩ := pu_forG hc hk
      simp only [if_neg c0, if_pos c1]
      rw [e1, e2]
      simp only [Option.bind_some]
      exact bwO_fin rfl ⟨hc, hp, hs, hh⟩
    by_cases c2 : p1 = 2
    · obtain ⟨r, e1, e2⟩ := pu_ofC hc hk
      simp only [if_neg c0, if_neg c1, if_pos c2]
      rw [e1, e2]
      simp only [Option.bind_some]
      exact bwO_fin rfl ⟨hc, hp, hs, hh⟩
    by_cases c3 : p1 = 3
    · obtain ⟨r, s, p, q, e1, e2⟩ := pu_taken hc hk x.2.2.1 x.2.2.2.1 m.2.1 m.2.2.1 m.2.2.2.2.2.2.2.2.2.2.2.1 m.2.2.2.2.2.2.2.2.2.2.2.2.1
      simp only [if_neg c0, if_neg c1, if_neg c2, if_pos c3]
      rw [e1, e2]
      simp only [Option.bind_some]
      exact bwO_fin rfl ⟨hc, hp, hs, hh⟩
    simp only [if_neg c0, if_neg c1, if_neg c2, if_neg c3, Option.bind_some]
    exact bwO_fin rfl ⟨hc, hp, hs, hh⟩
  · simp only [if_neg d, if_true, Option.bind_some]
    exact bwO_fin rfl ⟨hc, hp, hs, hh⟩
