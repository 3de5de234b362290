/-! PURE: what a court's speech is to some eyes: the class's look and the model's parts agree -/
abbrev bwPt : Type := Int32 × Int32 × (Nat → Int32) × (Nat → Int32)
def bwSR (s : bwSn) (q : bwPt) : Prop := ∃ G F T : Nat, G ≤ 24 ∧ s.1 = nI G ∧ q.1 = nI G ∧ (∀ j, j < G → s.2.2.2.2.2.2.1 j = q.2.2.1 j) ∧ s.2.2.1 = nI F ∧ f_X5_flourishes q.1 q.2.2.1 = some (nI F) ∧
  f_X5_reason q.1 q.2.1 q.2.2.1 q.2.2.2 = some s.2.2.2.2.1 ∧ (¬ s.2.2.2.2.1 = 0 → s.2.2.2.2.2.1 = 0) ∧
  (s.2.2.2.2.1 = 0 → 0 < T ∧ T ≤ 8 ∧ q.2.1 = nI (3 * T) ∧ s.2.2.2.2.2.1 = nI T ∧ (∀ j, j < 3 * T → s.2.2.2.2.2.2.2 j = q.2.2.2 j) ∧ ∀ u, u < T → bwOrd s.2.2.2.2.2.2.2 u ∧ s.2.2.2.2.2.2.2 (3 * u) ≠ s.2.2.2.2.2.2.2 (3 * u + 2))
theorem pu_look {nb : Nat} (hn : nb ≤ 24) {st num pau v : Nat → Int32} (e : Int32) (hv3 : v 3 = nI nb) (hv0 : v 0 = st 0) (hv : ∀ j, j < nb → v (48 + j) = num j ∧ v (72 + j) = pau j) (s0 : bwSn) (gr ll : Int32) (W0 L0 : Nat → Int32) :
    ∃ (s : bwSn) (q : bwPt), f_X3_look s0.1 s0.2.1 s0.2.2.1 s0.2.2.2.1 s0.2.2.2.2.1 s0.2.2.2.2.2.1 s0.2.2.2.2.2.2.1 s0.2.2.2.2.2.2.2 (nI nb) st num pau e = some s ∧ f_X5_parts gr ll v W0 L0 e = some q ∧ bwSR s q := by
  unfold f_X3_look f_X3_findGroups f_X5_parts
  obtain ⟨G, W, W', y2, y3, g1, g2, g3, -, g4, g5⟩ := pu_groups (L := L0) hn hv3 hv0 hv (e := e) nb 0 0 0 bw_F bw_F s0.2.2.2.2.2.2.1 W0 0 0 ll (by omega) (by rw [pu_F]; omega) (by rw [pu_F]; omega) (Nat.le_refl 0) (Nat.le_refl 0) (fun _ => rfl) (fun j h => absurd h (Nat.not_lt_zero j))
  rw [show (f_X3_findGroups_L13 bw_F 0 s0.2.2.2.2.2.2.1 (nI nb) st num pau e 0 0 0) = some (nI G, W) from g4, show f_X5_parts_L12 bw_F 0 ll v W0 L0 e 0 0 0 = _ from g5]
  simp only [Option.bind_some]
  unfold f_X3_leaveOutFlourishes
  obtain ⟨K, F, N, L1, L1', h1, h2, h3, h4, h5, h6⟩ := pu_leave (g := G) (by omega) (v := v) (x1 := e) (x2 := y2) (x3 := y3) g2 G 0 0 0 0 bw_F bw_F s0.2.2.2.2.2.2.2 L0 (by omega) (by rw [pu_F]; omega) (by rw [pu_F]; omega) rfl rfl rfl (fun _ j h => absurd h (Nat.not_lt_zero j))
  rw [show f_X3_leaveOutFlourishes_L17 bw_F (nI G) 0 0 0 W s0.2.2.2.2.2.2.2 0 = _ from h5, show f_X5_parts_L130 bw_F (nI G) 0 v W' L0 e y2 y3 0 = _ from h6]
  simp only [Option.bind_some]
  -- the counts on the model's side
  have cong : ∀ n, n ≤ G → bwNo W n = bwNo W' n ∧ bwFl W n = bwFl W' n := by
    intro n
    induction n with
    | zero => intro _; exact ⟨rfl, rfl⟩
    | succ n ih =>
      intro hn2
      obtain ⟨i1, i2⟩ := ih (by omega)
      rw [bwNo, bwNo, bwFl, bwFl, i1, i2, g2 n (by omega)]
      exact ⟨rfl, rfl⟩
  obtain ⟨k1, k2⟩ := cong G (Nat.le_refl G)
  have hfl : f_X5_flourishes (nI G) W' = some (nI F) := by
    have z := pu_flourCount (g := G) (by omega) (W := W') G 0 bw_F (by omega) (by rw [pu_F]; omega)
    rw [h3, k2]
    exact z
  have htl : f_X5_isTooLong (nI G) W' = some (if N = 0 then 0 else 1) := by
    have z := pu_tooLong (g := G) (by omega) (W := W') G 0 bw_F (by omega) (by rw [pu_F]; omega)
    rw [← k1, ← h2] at z
    exact z
  -- the reason
  have hr : ∃ (r : Int32) (T : Nat), f_X3_findReason (nI G) (nI K) (nI N) L1 = some r ∧ f_X5_reason (nI G) (nI (K + N)) W' L1' = some r ∧ (r = 0 → N = 0 ∧ K = 3 * T ∧ 0 < T ∧ T ≤ 8 ∧ ∀ u, u < T → bwOrd L1 u ∧ L1 (3 * u) ≠ L1 (3 * u + 2)) := by
    unfold f_X3_findReason f_X5_reason
    by_cases c1 : G = 0
    · rw [if_pos (by rw [c1]; rfl), if_pos (by rw [c1]; rfl)]
      exact ⟨1, 0, rfl, rfl, fun q => absurd q (by decide)⟩
    have c1' : ¬ nI G = 0 := fun q => c1 ((pu_eq (b := 0) (by omega) (by omega)).mp q)
    rw [if_neg c1', if_neg c1', htl]
    simp only [Option.bind_some]
    by_cases c2 : N = 0
    · rw [if_pos (show nI N ≤ 0 by rw [c2]; decide), if_pos ((pu_nI10 N).mpr c2)]
      subst c2
      rw [Nat.add_zero]
      by_cases c3 : K = 0
      · rw [if_pos (by rw [c3]; rfl), if_pos (by rw [c3]; rfl)]
        exact ⟨3, 0, rfl, rfl, fun q => absurd q (by decide)⟩
      have c3' : ¬ nI K = 0 := fun q => c3 ((pu_eq (b := 0) (by omega) (by omega)).mp q)
      rw [if_neg c3', if_neg c3']
      have hrem : nI K - nI K / 3 * 3 = nI (K % 3) := pk_rem (a := K) (d := 3) (by omega) (by omega) (by omega)
      rw [hrem]
      by_cases c4 : K % 3 = 0
      · rw [if_pos (by rw [c4]; rfl), if_pos (by rw [c4]; rfl)]
        obtain ⟨T, rfl⟩ : ∃ T, K = 3 * T := ⟨K / 3, by omega⟩
        obtain ⟨r, a1, a2, a3⟩ := pu_reasonL (T := T) (by omega) (G := nI G) (G' := nI G) (LG := nI 0) (W := W') (h4 rfl) T 0 bw_F bw_F false (by omega) (by rw [pu_F]; omega) (by rw [pu_F]; omega)
        exact ⟨r, T, a1, a2, fun q => ⟨rfl, rfl, by omega, by omega, fun u hu => (a3 q).2 u (Nat.zero_le u) hu⟩⟩
      · have c4' : ¬ nI (K % 3) = 0 := fun q => c4 ((pu_eq (b := 0) (by omega) (by omega)).mp q)
        rw [if_neg c4', if_neg c4']
        exact ⟨3, 0, rfl, rfl, fun q => absurd q (by decide)⟩
    · rw [if_neg (show ¬ nI N ≤ 0 from fun q => c2 (Nat.le_zero.mp ((pu_le (b := 0) (by omega) (by omega)).mp q))), if_neg (fun q => c2 ((pu_nI10 N).mp q))]
      exact ⟨2, 0, rfl, rfl, fun q => absurd q (by decide)⟩
  obtain ⟨r, T, r1, r2, r3⟩ := hr
  rw [r1]
  simp only [Option.bind_some]
  by_cases c : r = 0
  · rw [if_pos c]
    obtain ⟨z1, z2, z3, z4, z5⟩ := r3 c
    refine ⟨_, _, rfl, rfl, G, F, T, by omega, rfl, rfl, g2, rfl, hfl, r2, fun q => absurd c q, fun _ => ⟨z3, z4, by rw [z1, z2]; rfl, ?_, fun j hj => h4 z1 j (by omega), z5⟩⟩
    show nI K / 3 = nI T
    rw [z2, show (3 : Int32) = nI 3 from rfl, pk_div (by omega) (by omega) (by omega)]
    exact congrArg nI (by omega)
  · rw [if_neg c]
    exact ⟨_, _, rfl, rfl, G, F, T, by omega, rfl, rfl, g2, rfl, hfl, r2, fun _ => rfl, fun q => absurd q c⟩
theorem pu_sent {s : bwSn} {q : bwPt} (h : bwSR s q) {v W0 L0 : Nat → Int32} {gr ll e : Int32} (hp : f_X5_parts gr ll v W0 L0 e = some q) : f_X5_sentences gr ll v W0 L0 e = some (s.2.2.2.2.2.1, q) := by
  obtain ⟨G, F, T, -, -, -, -, -, -, h7, h8, h9⟩ := h
  unfold f_X5_sentences
  rw [hp]
  simp only [Option.bind_some]
  rw [h7]
  simp only [Option.bind_some]
  by_cases c : s.2.2.2.2.1 = 0
  · obtain ⟨z1, z2, z3, z4, -⟩ := h9 c
    rw [if_pos c, z3, z4, show (3 : Int32) = nI 3 from rfl, pk_div (by omega) (by omega) (by omega), show 3 * T / 3 = T by omega]
    rw [← z3]
  · rw [if_neg c, h8 c]
