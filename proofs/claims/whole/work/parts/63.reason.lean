/-! PURE: the reason, on both sides -/
theorem pu_cmpLt (x y : Int64) : lg_cmp x y < 0 ↔ x.toInt < y.toInt := by
  unfold lg_cmp
  by_cases h : x > y
  · rw [if_pos h]
    have h2 : y.toInt < x.toInt := Int64.lt_iff_toInt_lt.mp h
    exact ⟨fun q => absurd q (by decide), fun q => by omega⟩
  · rw [if_neg h]
    have h2 : ¬ y.toInt < x.toInt := fun q => h (Int64.lt_iff_toInt_lt.mpr q)
    by_cases h3 : x = y
    · rw [if_pos h3]; subst h3; exact ⟨fun q => absurd q (by decide), fun q => by omega⟩
    · rw [if_neg h3]
      have h4 : x.toInt ≠ y.toInt := fun q => h3 (Int64.toInt_inj.mp q)
      exact ⟨fun _ => by omega, fun _ => by decide⟩
theorem pu_cmpGt (x y : Int64) : 0 < lg_cmp x y ↔ y.toInt < x.toInt := by
  unfold lg_cmp
  by_cases h : x > y
  · rw [if_pos h]
    have h2 : y.toInt < x.toInt := Int64.lt_iff_toInt_lt.mp h
    exact ⟨fun _ => h2, fun _ => by decide⟩
  · rw [if_neg h]
    have h2 : ¬ y.toInt < x.toInt := fun q => h (Int64.lt_iff_toInt_lt.mpr q)
    by_cases h3 : x = y
    · rw [if_pos h3]; exact ⟨fun q => absurd q (by decide), fun q => absurd q h2⟩
    · rw [if_neg h3]; exact ⟨fun q => absurd q (by decide), fun q => absurd q h2⟩
theorem pu_inM (x y z : Int64) : f_X5_in x y z = some (if y.toInt ≤ x.toInt ∧ x.toInt ≤ z.toInt then 1 else 0) := by
  unfold f_X5_in
  by_cases h1 : x.toInt < y.toInt
  · rw [if_pos ((pu_cmpLt x y).mpr h1), if_neg (by omega)]
  · rw [if_neg (fun q => h1 ((pu_cmpLt x y).mp q))]
    by_cases h2 : z.toInt < x.toInt
    · rw [if_pos ((pu_cmpGt x z).mpr h2), if_neg (by omega)]
    · rw [if_neg (fun q => h2 ((pu_cmpGt x z).mp q)), if_pos (by omega)]
theorem pu_inI (x : Int32) (y z : Int64) : f_X5_in (x.toInt64) y z = some (if y.toInt ≤ x.toInt ∧ x.toInt ≤ z.toInt then 1 else 0) := by
  rw [pu_inM, Int32.toInt_toInt64]
theorem pu_nb (c : Prop) [Decidable c] : bw_nb (if c then (1 : Int32) else 0) := by
  by_cases h : c
  · rw [if_pos h]; exact Or.inr rfl
  · rw [if_neg h]; exact Or.inl rfl
theorem pu_c10 (c : Prop) [Decidable c] : (if c then (1 : Int32) else 0) = 0 ↔ ¬ c := by by_cases h : c <;> simp [h]
theorem pu_courM (x : Int32) : f_X5_isCourtier x = some (if 0 ≤ x.toInt ∧ x.toInt ≤ 5 then 1 else 0) := by
  unfold f_X5_isCourtier
  rw [show ((((x : Int32).toInt64))) = x.toInt64 from rfl, pu_inI]
  simp only [Option.bind_some]
  exact if_pos (pu_nb _)
theorem pu_deedM (x : Int32) : f_X5_isDeed x = some (if 6 ≤ x.toInt ∧ x.toInt ≤ 41 then 1 else 0) := by
  unfold f_X5_isDeed
  rw [pu_inI]
  simp only [Option.bind_some]
  exact if_pos (pu_nb _)
theorem pu_eyesM (x : Int32) : f_X5_areEyes x = some (if 0 ≤ x.toInt ∧ x.toInt ≤ 2 then 1 else 0) := by
  unfold f_X5_areEyes
  rw [pu_inI]
  simp only [Option.bind_some]
  exact if_pos (pu_nb _)
theorem pu_right {t : Nat} (L : Nat → Int32) (h : 3 * t + 2 < 24) : ∃ r, f_X5_isRightThree L (nI (3 * t)) = some r ∧ (r = 0 ↔ ¬ bwOrd L t) := by
  unfold f_X5_isRightThree bwOrd
  rw [show nI (3 * t) + 1 = nI (3 * t + 1) from pu_add _ 1, show nI (3 * t) + 2 = nI (3 * t + 2) from pu_add _ 2]
  simp only [if_pos (pu_in (show 3 * t < 24 by omega) (show 24 ≤ 1000 by omega)), if_pos (pu_in (show 3 * t + 1 < 24 by omega) (show 24 ≤ 1000 by omega)), if_pos (pu_in h (show 24 ≤ 1000 by omega)), pu_cl (show 3 * t < 100000 by omega), pu_cl (show 3 * t + 1 < 100000 by omega), pu_cl (show 3 * t + 2 < 100000 by omega), pu_courM, pu_deedM, Option.bind_some]
  by_cases c1 : 0 ≤ (L (3 * t)).toInt ∧ (L (3 * t)).toInt ≤ 5
  · rw [if_pos c1, if_neg (by decide)]
    by_cases c2 : 6 ≤ (L (3 * t + 1)).toInt ∧ (L (3 * t + 1)).toInt ≤ 41
    · rw [if_pos c2, if_neg (by decide)]
      by_cases c3 : 0 ≤ (L (3 * t + 2)).toInt ∧ (L (3 * t + 2)).toInt ≤ 5
      · rw [if_pos c3, if_neg (by decide)]
        exact ⟨1, rfl, fun q => absurd q (by decide), fun q => absurd (by omega) q⟩
      · rw [if_neg c3, if_pos rfl]
        exact ⟨0, rfl, fun _ q => c3 (by omega), fun _ => rfl⟩
    · rw [if_neg c2, if_pos rfl]
      exact ⟨0, rfl, fun _ q => c2 (by omega), fun _ => rfl⟩
  · rw [if_neg c1, if_pos rfl]
    exact ⟨0, rfl, fun _ q => c1 (by omega), fun _ => rfl⟩
theorem pu_wrong {T : Nat} (hT : T ≤ 8) {G : Int32} {W L : Nat → Int32} : ∀ (d t fu : Nat) (x2 : Int32), d + t = T → d < fu → f_X5_reason_L42 fu G (nI (3 * T)) W L 1 x2 (nI (3 * t)) = some 4 := by
  intro d
  induction d with
  | zero =>
    intro t fu x2 h1 h2
    obtain ⟨fu, rfl⟩ : ∃ u, fu = u + 1 := ⟨fu - 1, by omega⟩
    rw [f_X5_reason_L42, if_pos ((pu_le (by omega) (by omega)).mpr (by omega)), if_neg (by decide)]
  | succ d ih =>
    intro t fu x2 h1 h2
    obtain ⟨fu, rfl⟩ : ∃ u, fu = u + 1 := ⟨fu - 1, by omega⟩
    rw [f_X5_reason_L42, if_neg (fun q => absurd ((pu_le (by omega) (by omega)).mp q) (by omega)), if_neg (by decide)]
    rw [show nI (3 * t) + 2 = nI (3 * t + 2) from pu_add _ 2, show nI (3 * t) + 3 = nI (3 * (t + 1)) from (pu_add _ 3).trans (congrArg nI (by omega))]
    simp only [if_pos (pu_in (show 3 * t < 24 by omega) (show 24 ≤ 1000 by omega)), if_pos (pu_in (show 3 * t + 2 < 24 by omega) (show 24 ≤ 1000 by omega))]
    have e := fun y => ih (t + 1) fu y (by omega) (by omega)
    by_cases c1 : x2 = 0
    · rw [if_pos c1]
      by_cases c2 : L (nI (3 * t)).toNatClampNeg = L (nI (3 * t + 2)).toNatClampNeg
      · rw [if_pos c2]; exact e 1
      · rw [if_neg c2]; exact e 0
    · rw [if_neg c1]; exact e 1
theorem pu_reasonL {T : Nat} (hT : T ≤ 8) {G G' LG : Int32} {W L L' : Nat → Int32} (hL : ∀ j, j < 3 * T → L j = L' j) :
    ∀ (d t fu fu' : Nat) (b : Bool), d + t = T → d < fu → d < fu' →
    ∃ r : Int32, f_X3_findReason_L40 fu G (nI (3 * T)) LG L (if b then 1 else 0) (nI t) = some r ∧ f_X5_reason_L42 fu' G' (nI (3 * T)) W L' 0 (if b then 1 else 0) (nI (3 * t)) = some r ∧
      (r = 0 → b = false ∧ ∀ u, t ≤ u → u < T → bwOrd L u ∧ L (3 * u) ≠ L (3 * u + 2)) := by
  have hdiv : nI (3 * T) / 3 = nI T := by
    rw [show (3 : Int32) = nI 3 from rfl, pk_div (by omega) (by omega) (by omega)]
    exact congrArg nI (by omega)
  intro d
  induction d with
  | zero =>
    intro t fu fu' b h1 h2 h3
    obtain ⟨fu, rfl⟩ : ∃ u, fu = u + 1 := ⟨fu - 1, by omega⟩
    obtain ⟨fu', rfl⟩ : ∃ u, fu' = u + 1 := ⟨fu' - 1, by omega⟩
    rw [f_X3_findReason_L40, hdiv, if_pos ((pu_le (by omega) (by omega)).mpr (by omega)), f_X5_reason_L42, if_pos ((pu_le (by omega) (by omega)).mpr (by omega)), if_pos rfl]
    cases b
    · exact ⟨0, rfl, rfl, fun _ => ⟨rfl, fun u q1 q2 => by omega⟩⟩
    · exact ⟨5, rfl, rfl, fun q => absurd q (by decide)⟩
  | succ d ih =>
    intro t fu fu' b h1 h2 h3
    obtain ⟨fu, rfl⟩ : ∃ u, fu = u + 1 := ⟨fu - 1, by omega⟩
    obtain ⟨fu', rfl⟩ : ∃ u, fu' = u + 1 := ⟨fu' - 1, by omega⟩
    rw [f_X3_findReason_L40, hdiv, if_neg (fun q => absurd ((pu_le (by omega) (by omega)).mp q) (by omega)), f_X5_reason_L42, if_neg (fun q => absurd ((pu_le (by omega) (by omega)).mp q) (by omega)), if_pos rfl]
    obtain ⟨r1, e1, e2⟩ := pu_inOrder (t := t) L (by omega)
    obtain ⟨r2, e3, e4⟩ := pu_right (t := t) L' (by omega)
    have hord : bwOrd L t ↔ bwOrd L' t := by unfold bwOrd; rw [hL (3 * t) (by omega), hL (3 * t + 1) (by omega), hL (3 * t + 2) (by omega)]
    rw [e1, e3, show f_X3_part L (nI t) 0 = some (L (3 * t)) from pu_part (w := 0) L (by omega), show f_X3_part L (nI t) 2 = some (L (3 * t + 2)) from pu_part (w := 2) L (by omega)]
    simp only [Option.bind_some]
    rw [show nI (3 * t) + 2 = nI (3 * t + 2) from pu_add _ 2, show nI (3 * t) + 3 = nI (3 * (t + 1)) from (pu_add _ 3).trans (congrArg nI (by omega)), pu_1]
    simp only [if_pos (pu_in (show 3 * t < 24 by omega) (show 24 ≤ 1000 by omega)), if_pos (pu_in (show 3 * t + 2 < 24 by omega) (show 24 ≤ 1000 by omega))]
    rw [pu_cl (show 3 * t < 100000 by omega), pu_cl (show 3 * t + 2 < 100000 by omega), ← hL (3 * t) (by omega), ← hL (3 * t + 2) (by omega)]
    by_cases c1 : bwOrd L t
    · rw [if_neg (fun q => (e2.mp q) c1), if_neg (fun q => (e4.mp q) (hord.mp c1))]
      by_cases c2 : L (3 * t) = L (3 * t + 2)
      · obtain ⟨r, a1, a2, a3⟩ := ih (t + 1) fu fu' true (by omega) (by omega) (by omega)
        refine ⟨r, ?_, ?_, fun q => absurd (a3 q).1 (by decide)⟩
        · rw [if_pos c2]; cases b <;> exact a1
        · cases b
          · rw [if_pos (by rfl), if_pos c2]; exact a2
          · rw [if_neg (by decide)]; exact a2
      · rw [if_neg c2]
        obtain ⟨r, a1, a2, a3⟩ := ih (t + 1) fu fu' b (by omega) (by omega) (by omega)
        refine ⟨r, ?_, ?_, fun q => ⟨(a3 q).1, fun u q1 q2 => ?_⟩⟩
        · cases b <;> exact a1
        · cases b
          · rw [if_pos (by rfl), if_neg c2]; exact a2
          · rw [if_neg (by decide)]; exact a2
        · rcases Nat.lt_or_ge t u with q3 | q3
          · exact (a3 q).2 u q3 q2
          · have q4 : u = t := by omega
            subst q4
            exact ⟨c1, c2⟩
    · rw [if_pos (e2.mpr c1), if_pos (e4.mpr (fun q => c1 (hord.mpr q)))]
      refine ⟨4, rfl, ?_, fun q => absurd q (by decide)⟩
      have e := fun y => pu_wrong hT (G := G') (W := W) (L := L') d (t + 1) fu' y (by omega) (by omega)
      cases b
      · rw [if_pos (by rfl)]
        by_cases c2 : L (3 * t) = L (3 * t + 2)
        · rw [if_pos c2]; exact e 1
        · rw [if_neg c2]; exact e 0
      · rw [if_neg (by decide)]; exact e 1
