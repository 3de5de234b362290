/-! PURE: the speech as it is seen: the class's groups and the model's parts, in step -/
def bwWd (n : Nat) (c : Int32) : Int32 := if n = 1 then c else if n = 2 then 6 + c else if n = 3 then 42 + c else -1000006
def bwSeenN (e x : Int32) : Int32 := if e = 1 then (if x ≤ 3 then x else x - 2) else x
abbrev bwEnds (brk e p : Int32) (last : Prop) : Prop := last ∨ brk ≤ p ∨ (e = 2 ∧ ¬ p ≤ 0)
theorem pu_i34 (x : Int32) : x < 4 ↔ x ≤ 3 := by
  rw [Int32.lt_iff_toInt_lt, Int32.le_iff_toInt_le, show (4 : Int32).toInt = 4 from rfl, show (3 : Int32).toInt = 3 from rfl]; omega
theorem pu_i01 (x : Int32) : x < 1 ↔ x ≤ 0 := by
  rw [Int32.lt_iff_toInt_lt, Int32.le_iff_toInt_le, show (1 : Int32).toInt = 1 from rfl, show (0 : Int32).toInt = 0 from rfl]; omega
theorem pu_seenNumber (x e : Int32) : f_X3_seenNumber x e = some (bwSeenN e x) := by
  unfold f_X3_seenNumber f_X4_bowNumber bwSeenN
  show (if x < 4 then _ else _) = _
  by_cases h : x < 4
  · rw [if_pos h, if_pos ((pu_i34 x).mp h)]; by_cases h2 : e = 1 <;> simp [h2]
  · rw [if_neg h, if_neg (fun q => h ((pu_i34 x).mpr q))]; by_cases h2 : e = 1 <;> simp [h2]
theorem pu_wordOf {n : Nat} (hn : n < 1000) (c : Int32) : f_X3_wordOf (nI n) c = some (bwWd n c) := by
  unfold f_X3_wordOf bwWd
  rw [show (1 : Int32) = nI 1 from rfl, show (2 : Int32) = nI 2 from rfl, show (3 : Int32) = nI 3 from rfl]
  by_cases h1 : n = 1
  · subst h1; rfl
  rw [if_neg (fun q => h1 ((pu_eq (by omega) (by omega)).mp q)), if_neg h1]
  by_cases h2 : n = 2
  · subst h2; rfl
  rw [if_neg (fun q => h2 ((pu_eq (by omega) (by omega)).mp q)), if_neg h2]
  by_cases h3 : n = 3
  · subst h3; rfl
  rw [if_neg (fun q => h3 ((pu_eq (by omega) (by omega)).mp q)), if_neg h3]
theorem pu_addGroup {G : Nat} (hG : G < 24) (W : Nat → Int32) (w : Int32) : f_X3_addGroup (nI G) W w = some (nI (G + 1), upd W G w) := by
  unfold f_X3_addGroup
  rw [if_neg (pu_neg (by omega)), if_neg (show ¬ (24 : Int32) ≤ nI G from pu_ofn (n := 24) hG (by omega)), if_pos (pu_in hG (by omega)), pu_cl (by omega), pu_1]
theorem pu_seenAsBreak (p e brk : Int32) : ∃ r, f_X3_seenAsBreak p e brk = some r ∧ (r = 0 ↔ ¬ (brk ≤ p ∨ (e = 2 ∧ ¬ p ≤ 0))) := by
  unfold f_X3_seenAsBreak
  by_cases h1 : brk ≤ p
  · rw [if_pos h1]; exact ⟨1, rfl, by simp [h1]⟩
  rw [if_neg h1]
  by_cases h2 : e = 2
  · rw [if_pos h2]
    by_cases h3 : p < 1
    · rw [if_pos h3]; exact ⟨0, rfl, by simp [h1, h2, (pu_i01 p).mp h3]⟩
    · rw [if_neg h3]; exact ⟨1, rfl, fun q => absurd q (by decide), fun q => absurd (Or.inr ⟨h2, fun q2 => h3 ((pu_i01 p).mpr q2)⟩) q⟩
  · rw [if_neg h2]; exact ⟨0, rfl, by simp [h1, h2]⟩
theorem pu_lastI {k nb : Nat} (hk : k < nb) (hn : nb ≤ 24) : nI k = nI nb - 1 ↔ k + 1 = nb := by
  obtain ⟨m, rfl⟩ : ∃ m, nb = m + 1 := ⟨nb - 1, by omega⟩
  rw [nI_pred, pu_eq (by omega) (by omega)]; omega
/-- one turn of the class's loop -/
theorem pu_fgStep {fu G nb len k : Nat} {W num pau st : Nat → Int32} {e dig : Int32} (hk : k < nb) (hn : nb ≤ 24) (hG : G ≤ k) (hl : len ≤ k) :
    f_X3_findGroups_L13 (fu + 1) (nI G) W (nI nb) st num pau e (nI len) dig (nI k) =
      (if bwEnds (st 0) e (pau k) (k + 1 = nb) then f_X3_findGroups_L13 fu (nI (G + 1)) (upd W G (bwWd (len + 1) (6 * dig + bwSeenN e (num k)))) (nI nb) st num pau e (nI 0) 0 (nI (k + 1))
      else f_X3_findGroups_L13 fu (nI G) W (nI nb) st num pau e (nI (len + 1)) (6 * dig + bwSeenN e (num k)) (nI (k + 1))) := by
  rw [f_X3_findGroups_L13, if_neg (fun q => absurd ((pu_le (by omega) (by omega)).mp q) (by omega))]
  unfold f_X0_bowAt
  rw [pu_at num (show k < 24 by omega) (by omega)]
  simp only [Option.bind_some]
  rw [pu_seenNumber]
  simp only [Option.bind_some]
  rw [pu_1 len, pu_1 k, pu_wordOf (by omega)]
  simp only [Option.bind_some]
  rw [pu_addGroup (by omega)]
  simp only [Option.bind_some]
  rw [pu_at pau (show k < 24 by omega) (by omega)]
  simp only [Option.bind_some]
  rw [if_pos (show bw_in 0 3 by decide), show st (Int32.toNatClampNeg 0) = st 0 from rfl]
  obtain ⟨r, e1, e2⟩ := pu_seenAsBreak (pau k) e (st 0)
  rw [e1]
  simp only [Option.bind_some]
  by_cases h1 : k + 1 = nb
  · rw [if_pos ((pu_lastI hk hn).mpr h1), if_pos (Or.inl h1)]; rfl
  · rw [if_neg (fun q => h1 ((pu_lastI hk hn).mp q))]
    by_cases h2 : st 0 ≤ pau k ∨ (e = 2 ∧ ¬ pau k ≤ 0)
    · rw [if_neg (fun q => (e2.mp q) h2), if_pos (Or.inr h2)]; rfl
    · rw [if_pos (e2.mpr h2), if_neg (fun q => q.elim h1 h2)]
theorem pu_signSeen {v : Nat → Int32} {k : Nat} (hk : k < 24) (e : Int32) : f_X5_signSeen v (nI k) e = some (bwSeenN e (v (48 + k))) := by
  unfold f_X5_signSeen bwSeenN
  rw [show (48 : Int32) + nI k = nI (48 + k) from pu_add 48 k, if_pos (pu_in (by omega) (by omega)), pu_cl (by omega)]
  by_cases h1 : e = 1
  · rw [if_pos h1, if_pos h1]; by_cases h2 : v (48 + k) ≤ 3
    · rw [if_pos h2, if_pos h2]
    · rw [if_neg h2, if_neg h2]
  · rw [if_neg h1, if_neg h1]
theorem pu_endsSeen {v : Nat → Int32} {k nb : Nat} (hk : k < nb) (hn : nb ≤ 24) (hv : v 3 = nI nb) (e : Int32) : ∃ r, f_X5_endsSeen v (nI k) e = some r ∧ (r = 0 ↔ ¬ bwEnds (v 0) e (v (72 + k)) (k + 1 = nb)) := by
  unfold f_X5_endsSeen bwEnds
  rw [show (72 : Int32) + nI k = nI (72 + k) from pu_add 72 k, if_pos (pu_in (by omega) (by omega)), pu_cl (by omega), if_pos (show bw_in 3 120 by decide), show v (Int32.toNatClampNeg 3) = v 3 from rfl, hv, if_pos (show bw_in 0 120 by decide), show v (Int32.toNatClampNeg 0) = v 0 from rfl]
  by_cases h1 : k + 1 = nb
  · rw [if_pos ((pu_lastI hk hn).mpr h1)]; exact ⟨1, rfl, by simp [h1]⟩
  rw [if_neg (fun q => h1 ((pu_lastI hk hn).mp q))]
  by_cases h2 : v 0 ≤ v (72 + k)
  · rw [if_pos h2]; exact ⟨1, rfl, by simp [h2]⟩
  rw [if_neg h2]
  by_cases h3 : e = 2
  · rw [if_pos h3]
    by_cases h4 : v (72 + k) ≤ 0
    · rw [if_pos h4]; exact ⟨0, rfl, by simp [h1, h2, h4]⟩
    · rw [if_neg h4]; exact ⟨1, rfl, by simp [h3, h4]⟩
  · rw [if_neg h3]; exact ⟨0, rfl, by simp [h1, h2, h3]⟩
/-- one turn of the model's loop -/
theorem pu_paStep {fu G nb len k : Nat} {LL : Int32} {W v L : Nat → Int32} {e code : Int32} (hk : k < nb) (hn : nb ≤ 24) (hv : v 3 = nI nb) (hG : G ≤ k) (hl : len ≤ k) :
    ∃ c2 : Int32, (len + 1 ≤ 3 → c2 = 6 * code + bwSeenN e (v (48 + k))) ∧ f_X5_parts_L12 (fu + 1) (nI G) LL v W L e (nI len) code (nI k) =
      (if bwEnds (v 0) e (v (72 + k)) (k + 1 = nb) then f_X5_parts_L12 fu (nI (G + 1)) LL v (upd W G (bwWd (len + 1) c2)) L e (nI 0) 0 (nI (k + 1))
      else f_X5_parts_L12 fu (nI G) LL v W L e (nI (len + 1)) c2 (nI (k + 1))) := by
  rw [f_X5_parts_L12, if_pos (show bw_in 3 120 by decide), show v (Int32.toNatClampNeg 3) = v 3 from rfl, hv, if_neg (fun q => absurd ((pu_le (by omega) (by omega)).mp q) (by omega))]
  rw [pu_1 len, pu_1 k, pu_1 G, pu_signSeen (by omega)]
  simp only [if_pos (pu_in (show G < 24 by omega) (show 24 ≤ 1000 by omega))]
  rw [pu_cl (show G < 100000 by omega)]
  obtain ⟨r, e1, e2⟩ := pu_endsSeen hk hn hv e
  rw [e1]
  simp only [Option.bind_some]
  have k1 : nI (len + 1) = 1 ↔ len + 1 = 1 := pu_eq (b := 1) (by omega) (by omega)
  have k2 : nI (len + 1) = 2 ↔ len + 1 = 2 := pu_eq (b := 2) (by omega) (by omega)
  have k3 : nI (len + 1) = 3 ↔ len + 1 = 3 := pu_eq (b := 3) (by omega) (by omega)
  have k4 : nI (len + 1) ≤ 3 ↔ len + 1 ≤ 3 := pu_le (b := 3) (by omega) (by omega)
  by_cases h3 : len + 1 ≤ 3
  · refine ⟨6 * code + bwSeenN e (v (48 + k)), fun _ => rfl, ?_⟩
    rw [if_pos (k4.mpr h3)]
    by_cases he : bwEnds (v 0) e (v (72 + k)) (k + 1 = nb)
    · rw [if_neg (fun q => (e2.mp q) he), if_pos he]
      unfold bwWd
      by_cases g1 : len + 1 = 1
      · rw [if_pos (k1.mpr g1), if_pos g1]; rfl
      rw [if_neg (fun q => g1 (k1.mp q)), if_neg g1]
      by_cases g2 : len + 1 = 2
      · rw [if_pos (k2.mpr g2), if_pos g2]; rfl
      rw [if_neg (fun q => g2 (k2.mp q)), if_neg g2]
      have g3 : len + 1 = 3 := by omega
      rw [if_pos (k3.mpr g3), if_pos g3]; rfl
    · rw [if_pos (e2.mpr he), if_neg he]
  · refine ⟨0, fun q => absurd q h3, ?_⟩
    rw [if_neg (fun q => h3 (k4.mp q))]
    by_cases he : bwEnds (v 0) e (v (72 + k)) (k + 1 = nb)
    · rw [if_neg (fun q => (e2.mp q) he), if_pos he]
      unfold bwWd
      rw [if_neg (fun q => absurd (k1.mp q) (by omega)), if_neg (fun q => absurd (k2.mp q) (by omega)), if_neg (fun q => absurd (k3.mp q) (by omega)), if_neg (show ¬ len + 1 = 1 by omega), if_neg (show ¬ len + 1 = 2 by omega), if_neg (show ¬ len + 1 = 3 by omega)]; rfl
    · rw [if_pos (e2.mpr he), if_neg he]
/-- the two loops, in step -/
theorem pu_groups {nb : Nat} (hn : nb ≤ 24) {st num pau v L : Nat → Int32} {e : Int32} (hv3 : v 3 = nI nb) (hv0 : v 0 = st 0) (hv : ∀ j, j < nb → v (48 + j) = num j ∧ v (72 + j) = pau j) :
    ∀ (d k G len fu fu' : Nat) (W W' : Nat → Int32) (dig code LL : Int32), d + k = nb → d < fu → d < fu' → G ≤ k → len ≤ k → (len < 3 → dig = code) → (∀ j, j < G → W j = W' j) →
    ∃ (G1 : Nat) (W1 W1' : Nat → Int32) (y2 y3 : Int32), G1 ≤ nb ∧ (∀ j, j < G1 → W1 j = W1' j) ∧ (0 < nb → k < nb → 0 < G1) ∧ (G ≤ G1) ∧
      f_X3_findGroups_L13 fu (nI G) W (nI nb) st num pau e (nI len) dig (nI k) = some (nI G1, W1) ∧
      f_X5_parts_L12 fu' (nI G) LL v W' L e (nI len) code (nI k) = f_X5_parts_L130 bw_F (nI G1) 0 v W1' L e y2 y3 0 := by
  intro d
  induction d with
  | zero =>
    intro k G len fu fu' W W' dig code LL h1 h2 h3 h4 h5 h6 h7
    obtain ⟨fu, rfl⟩ : ∃ u, fu = u + 1 := ⟨fu - 1, by omega⟩
    obtain ⟨fu', rfl⟩ : ∃ u, fu' = u + 1 := ⟨fu' - 1, by omega⟩
    refine ⟨G, W, W', nI len, code, by omega, h7, fun _ q => by omega, Nat.le_refl G, ?_, ?_⟩
    · rw [f_X3_findGroups_L13, if_pos ((pu_le (by omega) (by omega)).mpr (by omega))]
    · rw [f_X5_parts_L12, if_pos (show bw_in 3 120 by decide), show v (Int32.toNatClampNeg 3) = v 3 from rfl, hv3, if_pos ((pu_le (by omega) (by omega)).mpr (by omega))]
  | succ d ih =>
    intro k G len fu fu' W W' dig code LL h1 h2 h3 h4 h5 h6 h7
    obtain ⟨fu, rfl⟩ : ∃ u, fu = u + 1 := ⟨fu - 1, by omega⟩
    obtain ⟨fu', rfl⟩ : ∃ u, fu' = u + 1 := ⟨fu' - 1, by omega⟩
    have hk : k < nb := by omega
    obtain ⟨c2, hc2, e1⟩ := pu_paStep (fu := fu') (LL := LL) (W := W') (L := L) (e := e) (code := code) hk hn hv3 h4 h5
    rw [pu_fgStep hk hn h4 h5, e1, hv0, (hv k hk).2]
    by_cases he : bwEnds (st 0) e (pau k) (k + 1 = nb)
    · rw [if_pos he, if_pos he]
      have hw : bwWd (len + 1) (6 * dig + bwSeenN e (num k)) = bwWd (len + 1) c2 := by
        by_cases g : len + 1 ≤ 3
        · rw [hc2 g, h6 (by omega), (hv k hk).1]
        · unfold bwWd
          rw [if_neg (by omega), if_neg (by omega), if_neg (by omega), if_neg (by omega), if_neg (by omega), if_neg (by omega)]
      rw [hw]
      obtain ⟨G1, W1, W1', y2, y3, a1, a2, a3, a4, a5, a6⟩ := ih (k + 1) (G + 1) 0 fu fu' (upd W G (bwWd (len + 1) c2)) (upd W' G (bwWd (len + 1) c2)) 0 0 LL (by omega) (by omega) (by omega) (by omega) (by omega) (fun _ => rfl) (fun j hj => by
        rw [pu_upd, pu_upd]
        by_cases q : j = G
        · rw [if_pos q, if_pos q]
        · rw [if_neg q, if_neg q]; exact h7 j (by omega))
      exact ⟨G1, W1, W1', y2, y3, a1, a2, fun _ _ => by omega, by omega, a5, a6⟩
    · rw [if_neg he, if_neg he]
      have hlast : ¬ k + 1 = nb := fun q => he (Or.inl q)
      obtain ⟨G1, W1, W1', y2, y3, a1, a2, a3, a4, a5, a6⟩ := ih (k + 1) G (len + 1) fu fu' W W' (6 * dig + bwSeenN e (num k)) c2 LL (by omega) (by omega) (by omega) (by omega) (by omega) (fun q => by rw [hc2 (by omega), h6 (by omega), (hv k hk).1]) h7
      exact ⟨G1, W1, W1', y2, y3, a1, a2, fun q _ => a3 q (by omega), a4, a5, a6⟩
