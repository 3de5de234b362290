/-! PURE: what is taken; give; ifGiven -/
def bwClM (x : Int32) : Int32 := if x ≤ 99 then (if -99 ≤ x then x else -99) else 99
theorem pu_clamp (x : Int32) : (if (-99 : Int32) < (if x < 99 then x else 99) then (if x < 99 then x else 99) else -99) = bwClM x := by
  have k1 : x < 99 ↔ x.toInt < 99 := pu_ltC
  have k2 : x ≤ 99 ↔ x.toInt ≤ 99 := pu_leC
  have k3 : (-99 : Int32) ≤ x ↔ -99 ≤ x.toInt := pu_leC
  have k4 : (-99 : Int32) < x ↔ -99 < x.toInt := pu_ltC
  unfold bwClM
  by_cases a : x < 99
  · rw [if_pos a, if_pos (k2.mpr (by have := k1.mp a; omega))]
    by_cases b : (-99 : Int32) < x
    · rw [if_pos b, if_pos (k3.mpr (by have := k4.mp b; omega))]
    · rw [if_neg b]
      by_cases d : (-99 : Int32) ≤ x
      · rw [if_pos d]
        have e1 := k3.mp d
        have e2 : ¬ -99 < x.toInt := fun z => b (k4.mpr z)
        exact Int32.toInt_inj.mp (by show (-99 : Int) = x.toInt; omega)
      · rw [if_neg d]
  · rw [if_neg a, if_pos (show (-99 : Int32) < 99 by decide)]
    by_cases d : x ≤ 99
    · have e1 := k2.mp d
      have e2 : ¬ x.toInt < 99 := fun z => a (k1.mpr z)
      rw [if_pos d, if_pos (k3.mpr (by omega))]
      exact Int32.toInt_inj.mp (by show (99 : Int) = x.toInt; omega)
    · rw [if_neg d]
def bwGn (a b : Int32) (L : Nat → Int32) (c : Int32) (t : Nat) : Int32 :=
  if L (3 * t + 2) = c then 2 * (if L (3 * t + 1) - L (3 * t + 1) / 2 * 2 = 0 then a else -b) else (if L (3 * t + 1) - L (3 * t + 1) / 2 * 2 = 0 then a else -b)
theorem pu_part2 {t : Nat} (L : Nat → Int32) (h : 3 * t + 2 < 24) : f_X3_part L (nI t) 2 = some (L (3 * t + 2)) := pu_part (w := 2) L h
theorem pu_gain {st L : Nat → Int32} {t : Nat} (h : 3 * t + 2 < 24) (c : Int32) : f_X4_gain st L c (nI t) = some (bwGn (st 1) (st 2) L c t) := by
  unfold f_X4_gain bwGn
  rw [pu_kind L (by omega), Option.bind_some, pu_part2 L h]
  by_cases k : L (3 * t + 1) - L (3 * t + 1) / 2 * 2 = 0
  · rw [if_pos k, if_neg pu_one0, if_pos k, if_pos (show bw_in 1 3 by decide)]
    simp only [Option.bind_some]
    by_cases e : L (3 * t + 2) = c
    · rw [if_pos e, if_pos e]; rfl
    · rw [if_neg e, if_neg e]; rfl
  · rw [if_neg k, if_pos (rfl : (0 : Int32) = 0), if_neg k, if_pos (show bw_in 2 3 by decide)]
    simp only [Option.bind_some]
    by_cases e : L (3 * t + 2) = c
    · rw [if_pos e, if_pos e]; rfl
    · rw [if_neg e, if_neg e]; rfl
theorem pu_atM (a b : Nat) : f_X5_at (nI a) (nI b) = some (nI (12 + 6 * a + b)) := by
  unfold f_X5_at
  rw [show (6 : Int32) * nI a = nI (6 * a) from pu_mul 6 a, pu_12, pu_add]
theorem pu_takes {v L : Nat → Int32} {c a t : Nat} (hc : c < 6) (ha : a < 6) : f_X5_takes v (nI c) (nI a) (L (3 * t + 1)) (L (3 * t + 2)) = some (upd v (12 + 6 * c + a) (bwClM (v (12 + 6 * c + a) + bwGn (v 1) (v 2) L (nI c) t))) := by
  unfold f_X5_takes bwGn bwClM
  rw [pu_atM]
  have hin := pu_in (show 12 + 6 * c + a < 120 by omega) (show 120 ≤ 1000 by omega)
  have hcl := pu_cl (show 12 + 6 * c + a < 100000 by omega)
  have hee : (nI c = L (3 * t + 2)) ↔ (L (3 * t + 2) = nI c) := eq_comm
  simp only [Option.bind_some, if_pos hin, hcl, if_pos (show bw_in 1 120 by decide), if_pos (show bw_in 2 120 by decide), show Int32.toNatClampNeg 1 = 1 from rfl, show Int32.toNatClampNeg 2 = 2 from rfl]
  by_cases k : L (3 * t + 1) - L (3 * t + 1) / 2 * 2 = 0
  · simp only [if_pos k]
    by_cases e : L (3 * t + 2) = nI c
    · simp only [if_pos e, if_pos e.symm]
      split
      · split <;> rfl
      · rfl
    · simp only [if_neg e, if_neg (fun z => e (hee.mp z))]
      split
      · split <;> rfl
      · rfl
  · simp only [if_neg k]
    by_cases e : L (3 * t + 2) = nI c
    · simp only [if_pos e, if_pos e.symm]
      split
      · split <;> rfl
      · rfl
    · simp only [if_neg e, if_neg (fun z => e (hee.mp z))]
      split
      · split <;> rfl
      · rfl
theorem pu_takesL {T : Nat} (hT : T ≤ 8) {L L' : Nat → Int32} (hL : ∀ j, j < 3 * T → L j = L' j) (hO : ∀ u, u < T → bwOrd L u ∧ L (3 * u) ≠ L (3 * u + 2)) {c : Nat} (hc : c < 6) {st : Nat → Int32} (G LL : Int32) (W : Nat → Int32) :
    ∀ (d t fu fu' : Nat) (v : Nat → Int32) (n : Int32), d + t = T → d < fu → d < fu' → v 1 = st 1 → v 2 = st 2 →
      ∃ (r : Int32) (v' : Nat → Int32), f_X5_takesAll_L19 fu G LL v W L' (nI c) (nI T) n (nI t) = some (r, G, LL, v', W, L') ∧ f_X4_sentencesSeenFor_L4 fu' (nI T) L (nI c) n (nI t) = some r ∧
        (∀ j, (j < 12 + 6 * c ∨ 12 + 6 * c + 6 ≤ j) → v' j = v j) ∧ v' (12 + 6 * c + c) = v (12 + 6 * c + c) ∧
        ∀ g, g < 6 → g ≠ c → ∀ (f : Nat → Int32) (fw : Nat), d < fw → f_X4_favourBehindSeen_L26 fw st f (nI T) L (nI c) (nI g) (v (12 + 6 * c + g)) (nI t) = some (v' (12 + 6 * c + g)) := by
  intro d
  induction d with
  | zero =>
    intro t fu fu' v n h1 h2 h3 hv1 hv2
    obtain ⟨fu, rfl⟩ : ∃ u, fu = u + 1 := ⟨fu - 1, by omega⟩
    obtain ⟨fu', rfl⟩ : ∃ u, fu' = u + 1 := ⟨fu' - 1, by omega⟩
    have hle : nI T ≤ nI t := (pu_le (by omega) (by omega)).mpr (by omega)
    rw [f_X5_takesAll_L19, f_X4_sentencesSeenFor_L4, if_pos hle, if_pos hle]
    refine ⟨n, v, rfl, rfl, fun j _ => rfl, rfl, fun g h4 h5 f fw h6 => ?_⟩
    obtain ⟨fw, rfl⟩ : ∃ u, fw = u + 1 := ⟨fw - 1, by omega⟩
    rw [f_X4_favourBehindSeen_L26, if_pos hle]
  | succ d ih =>
    intro t fu fu' v n h1 h2 h3 hv1 hv2
    obtain ⟨fu, rfl⟩ : ∃ u, fu = u + 1 := ⟨fu - 1, by omega⟩
    obtain ⟨fu', rfl⟩ : ∃ u, fu' = u + 1 := ⟨fu' - 1, by omega⟩
    have hle : ¬ nI T ≤ nI t := fun z => absurd ((pu_le (by omega) (by omega)).mp z) (by omega)
    obtain ⟨o1, -⟩ := hO t (by omega)
    obtain ⟨a, ha, ea⟩ := pu_toN (x := L (3 * t)) (n := 6) o1.1.1 o1.1.2 (by omega)
    have ea' : L' (3 * t) = nI a := by rw [← hL (3 * t) (by omega), ea]
    have e1 : (3 : Int32) * nI t + 1 = nI (3 * t + 1) := by rw [pu_m3, pu_1]
    have e2 : (3 : Int32) * nI t + 2 = nI (3 * t + 2) := by rw [pu_m3]; exact pu_add (3 * t) 2
    have hp0 : f_X3_part L (nI t) 0 = some (nI a) := by rw [pu_part0 L (by omega), ea]
    rw [f_X5_takesAll_L19, f_X4_sentencesSeenFor_L4, if_neg hle, if_neg hle, hp0, Option.bind_some, e1, e2, pu_m3, if_pos (pu_in (show 3 * t < 24 by omega) (by omega)), if_pos (pu_in (show 3 * t < 24 by omega) (by omega)), if_pos (pu_in (show 3 * t + 1 < 24 by omega) (by omega)), if_pos (pu_in (show 3 * t + 2 < 24 by omega) (by omega)), pu_cl (show 3 * t < 100000 by omega), pu_cl (show 3 * t + 1 < 100000 by omega), pu_cl (show 3 * t + 2 < 100000 by omega), ea', pu_1]
    by_cases e : a = c
    · have ee : nI a = nI c := by rw [e]
      rw [if_pos ee, if_pos ee]
      obtain ⟨r, v', z1, z2, z3, z4, z5⟩ := ih (t + 1) fu fu' v n (by omega) (by omega) (by omega) hv1 hv2
      refine ⟨r, v', z1, z2, z3, z4, fun g h4 h5 f fw h6 => ?_⟩
      obtain ⟨fw, rfl⟩ : ∃ u, fw = u + 1 := ⟨fw - 1, by omega⟩
      rw [f_X4_favourBehindSeen_L26, if_neg hle, hp0, Option.bind_some, if_neg (fun z => h5 (by have := (pu_eq (by omega) (by omega)).mp z; omega)), pu_1]
      exact z5 g h4 h5 f fw (by omega)
    · have ee : ¬ nI a = nI c := fun z => e ((pu_eq (by omega) (by omega)).mp z)
      rw [if_neg ee, if_neg ee, pu_takes (L := L') (t := t) hc ha, Option.bind_some]
      obtain ⟨r, v', z1, z2, z3, z4, z5⟩ := ih (t + 1) fu fu' (upd v (12 + 6 * c + a) (bwClM (v (12 + 6 * c + a) + bwGn (v 1) (v 2) L' (nI c) t))) (n + 1) (by omega) (by omega) (by omega) (by rw [pk_un (by omega), hv1]) (by rw [pk_un (by omega), hv2])
      refine ⟨r, v', z1, z2, fun j hj => ?_, ?_, fun g h4 h5 f fw h6 => ?_⟩
      · rw [z3 j hj, pk_un (by omega)]
      · rw [z4, pk_un (by omega)]
      · obtain ⟨fw, rfl⟩ : ∃ u, fw = u + 1 := ⟨fw - 1, by omega⟩
        have z := z5 g h4 h5 f fw (by omega)
        rw [f_X4_favourBehindSeen_L26, if_neg hle, hp0, Option.bind_some, pu_1]
        by_cases ag : a = g
        · subst ag
          rw [pk_us] at z
          rw [if_pos rfl, pu_gain (show 3 * t + 2 < 24 by omega), Option.bind_some, pu_clamp, ← z, ← hv1, ← hv2]
          unfold bwGn
          rw [hL (3 * t + 1) (by omega), hL (3 * t + 2) (by omega)]
        · rw [pk_un (by omega)] at z
          rw [if_neg (fun y => ag ((pu_eq (by omega) (by omega)).mp y))]
          exact z
/-- what one courtier takes -/
theorem pu_takesAll {c : bwCt} {v : Nat → Int32} (hc : bwCR c v) {k : Nat} (hk : k < 6) (s0 : bwSn) (gr ll : Int32) (W0 L0 : Nat → Int32) :
    ∃ (r : Int32) (s : bwSn) (q : bwPt) (v' : Nat → Int32), f_X4_lookThroughEyesOf c.1 c.2.2.2.1 c.2.2.2.2.1 c.2.2.2.2.2.2.1 c.2.2.2.2.2.2.2 s0.1 s0.2.1 s0.2.2.1 s0.2.2.2.1 s0.2.2.2.2.1 s0.2.2.2.2.2.1 s0.2.2.2.2.2.2.1 s0.2.2.2.2.2.2.2 (nI k) = some s ∧
      f_X5_takesAll gr ll v W0 L0 (nI k) = some (r, q.1, q.2.1, v', q.2.2.1, q.2.2.2) ∧ f_X4_sentencesSeenFor s.2.2.2.2.2.1 s.2.2.2.2.2.2.2 (nI k) = some r ∧
      (∀ j, (j < 12 + 6 * k ∨ 12 + 6 * k + 6 ≤ j) → v' j = v j) ∧
      ∀ g, g < 6 → ∀ f : Nat → Int32, f (6 * k + g) = v (12 + (6 * k + g)) → f_X4_favourBehindSeen c.2.2.2.1 f s.2.2.2.2.2.1 s.2.2.2.2.2.2.2 (nI k) (nI g) = some (v' (12 + (6 * k + g))) := by
  obtain ⟨s, q, a1, a2, a3⟩ := pu_lookE hc hk s0 gr ll W0 L0
  obtain ⟨T, t1, t2, -, t4, t5⟩ := pu_SRn a2
  obtain ⟨r, v', z1, z2, z3, z4, z5⟩ := pu_takesL t1 t4 t5 hk (st := c.2.2.2.1) q.1 q.2.1 q.2.2.1 T 0 bw_F bw_F v 0 (by omega) (by rw [pu_F]; omega) (by rw [pu_F]; omega) (hc.2.2.2.1 1 (by omega)) (hc.2.2.2.1 2 (by omega))
  rw [← t2, nI_0] at z1 z2
  refine ⟨r, s, q, v', a1, ?_, ?_, z3, fun g hg f hf => ?_⟩
  · unfold f_X5_takesAll
    rw [show (6 : Int32) + nI k = nI (6 + k) from pu_add 6 k, if_pos (pu_in (show 6 + k < 120 by omega) (by omega)), pu_cl (by omega), a3, Option.bind_some]
    exact z1
  · unfold f_X4_sentencesSeenFor
    exact z2
  · unfold f_X4_favourBehindSeen
    rw [pu_favIx, Option.bind_some, pu_at f (show 6 * k + g < 36 by omega) (by omega), Option.bind_some, hf]
    by_cases e : g = k
    · subst e
      rw [if_pos rfl, show 12 + (6 * g + g) = 12 + 6 * g + g by omega, z4]
    · rw [if_neg (fun z => e ((pu_eq (by omega) (by omega)).mp z).symm), show 12 + (6 * k + g) = 12 + 6 * k + g by omega]
      have z := z5 g hg e f bw_F (by rw [pu_F]; omega)
      rw [← t2, nI_0] at z
      exact z
