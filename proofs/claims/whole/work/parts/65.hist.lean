/-! PURE: the history: a ring of courts on one side, a shifted row on the other; slots -/
def bwHR (hs : bwH) (hl : Int32) (hist : Nat → Int32) : Prop := ∃ h n : Nat, h ≤ 6 ∧ n < 6 ∧ hs.1 = nI n ∧ hs.2.1 = nI h ∧ hl = nI h ∧ ∀ i, i < h → ∃ c, hs.2.2 ((n + 6 - h + i) % 6) = some c ∧ bwCR c (fun k => hist (120 * i + k))
def bwSL (f : Nat → Option bwCt) (slots isSaved : Nat → Int32) : Prop := ∀ s, s < 2 → (isSaved s = 0 ↔ f s = none) ∧ ∀ c, f s = some c → bwCR c (fun k => slots (120 * s + k))
def bwPR (pd : Int32 × (Nat → Int32)) (tl : Int32) (text : Nat → Int32) : Prop := ∃ n : Nat, n ≤ 60 ∧ pd.1 = nI n ∧ tl = nI n ∧ ∀ j, j < n → pd.2 j = text j ∧ 33 ≤ (text j).toInt ∧ (text j).toInt ≤ 126
def bwRel (x : bwX) (m : bwMd) : Prop := bwCR x.1 m.2.2.2.2.2.2.1 ∧ bwPR x.2.1 m.2.2.2.1 m.2.2.2.2.2.2.2.2.2.2.2.2.2.2.1 ∧ bwSL x.2.2.2.2.2.1 m.2.2.2.2.2.2.2.2.2.1 m.2.2.2.2.2.2.2.2.2.2.1 ∧ bwHR x.2.2.2.2.2.2 m.1 m.2.2.2.2.2.2.2.2.1
def bwO (R : bwX → bwMd → Prop) (fx : bwX → Option (Int32 × bwX)) (fm : bwMd → Option (Int32 × bwMd)) : Prop := ∀ x m, R x m → ∃ (r : Int32) (x1 : bwX) (m1 : bwMd), fx x = some (r, x1) ∧ fm m = some (r, m1) ∧ R x1 m1
theorem bwO_fin {R : bwX → bwMd → Prop} {a b : Int32} {x1 : bwX} {m1 : bwMd} (h : a = b) (hR : R x1 m1) : ∃ (r : Int32) (x2 : bwX) (m2 : bwMd), some (a, x1) = some (r, x2) ∧ some (b, m1) = some (r, m2) ∧ R x2 m2 := ⟨a, x1, m1, rfl, by rw [h], hR⟩
theorem pu_CRv {c : bwCt} {v v' : Nat → Int32} (hv : ∀ j, j < 120 → v' j = v j) (h : bwCR c v) : bwCR c v' :=
  pu_CRs ⟨rfl, rfl, rfl, fun _ _ => rfl, fun _ _ => rfl, fun _ _ => rfl, fun _ _ => rfl, fun _ _ => rfl⟩ hv h
theorem pu_ix (h k : Nat) : (120 : Int32) * nI h + nI k = nI (120 * h + k) := by
  rw [show (120 : Int32) = nI 120 from rfl, pu_mul, pu_add]
theorem pu_chCopy {h : Nat} (hh : h < 6) (all : Nat → Int32) : ∀ (d k : Nat) (hist : Nat → Int32) (fu : Nat), d + k = 120 → d < fu →
    ∃ hist', f_X5_changes_L51 fu (nI h) all hist (nI k) = some (nI (h + 1), hist') ∧ (∀ j, k ≤ j → j < 120 → hist' (120 * h + j) = all j) ∧ ∀ j, (j < 120 * h + k ∨ 120 * h + 120 ≤ j) → hist' j = hist j := by
  intro d
  induction d with
  | zero =>
    intro k hist fu h1 h2
    obtain ⟨fu, rfl⟩ : ∃ u, fu = u + 1 := ⟨fu - 1, by omega⟩
    rw [f_X5_changes_L51, if_pos (show (120 : Int32) ≤ nI k from (pu_le (a := 120) (by omega) (by omega)).mpr (by omega)), pu_1]
    exact ⟨hist, rfl, fun j _ _ => by omega, fun j _ => rfl⟩
  | succ d ih =>
    intro k hist fu h1 h2
    obtain ⟨fu, rfl⟩ : ∃ u, fu = u + 1 := ⟨fu - 1, by omega⟩
    rw [f_X5_changes_L51, if_neg (show ¬ (120 : Int32) ≤ nI k from pu_ofn (n := 120) (by omega) (by omega)), pu_ix]
    simp only [if_pos (pu_in (show k < 120 by omega) (show 120 ≤ 1000 by omega)), if_pos (pu_in (show 120 * h + k < 720 by omega) (show 720 ≤ 1000 by omega))]
    rw [pu_cl (show 120 * h + k < 100000 by omega), pu_cl (show k < 100000 by omega), pu_1]
    obtain ⟨hist', e1, e2, e3⟩ := ih (k + 1) (upd hist (120 * h + k) (all k)) fu (by omega) (by omega)
    refine ⟨hist', e1, fun j q1 q2 => ?_, fun j q1 => ?_⟩
    · rcases Nat.lt_or_ge k j with q3 | q3
      · exact e2 j q3 q2
      · have q4 : j = k := by omega
        subst q4
        rw [e3 _ (Or.inl (by omega)), pk_us]
    · rw [e3 j (by omega), pk_un (by omega)]
theorem pu_chShift (hl : Int32) (all : Nat → Int32) : ∀ (d k : Nat) (hist : Nat → Int32) (fu : Nat), d + k = 600 → d < fu →
    ∃ hist1, f_X5_changes_L11 fu hl all hist (nI k) = f_X5_changes_L51 bw_F (hl - 1) all hist1 0 ∧ (∀ j, k ≤ j → j < 600 → hist1 j = hist (j + 120)) ∧ ∀ j, j < k → hist1 j = hist j := by
  intro d
  induction d with
  | zero =>
    intro k hist fu h1 h2
    obtain ⟨fu, rfl⟩ : ∃ u, fu = u + 1 := ⟨fu - 1, by omega⟩
    rw [f_X5_changes_L11, if_pos (show (600 : Int32) ≤ nI k from (pu_le (a := 600) (by omega) (by omega)).mpr (by omega))]
    exact ⟨hist, rfl, fun j _ _ => by omega, fun j _ => rfl⟩
  | succ d ih =>
    intro k hist fu h1 h2
    obtain ⟨fu, rfl⟩ : ∃ u, fu = u + 1 := ⟨fu - 1, by omega⟩
    rw [f_X5_changes_L11, if_neg (show ¬ (600 : Int32) ≤ nI k from pu_ofn (n := 600) (by omega) (by omega)), show nI k + 120 = nI (k + 120) from pu_add k 120]
    simp only [if_pos (pu_in (show k < 720 by omega) (show 720 ≤ 1000 by omega)), if_pos (pu_in (show k + 120 < 720 by omega) (show 720 ≤ 1000 by omega))]
    rw [pu_cl (show k + 120 < 100000 by omega), pu_cl (show k < 100000 by omega), pu_1]
    obtain ⟨hist1, e1, e2, e3⟩ := ih (k + 1) (upd hist k (hist (k + 120))) fu (by omega) (by omega)
    refine ⟨hist1, e1, fun j q1 q2 => ?_, fun j q1 => ?_⟩
    · rcases Nat.lt_or_ge k j with q3 | q3
      · rw [e2 j q3 q2, pk_un (by omega)]
      · have q4 : j = k := by omega
        subst q4
        rw [e3 _ (by omega), pk_us]
    · rw [e3 j (by omega), pk_un (by omega)]
theorem pu_changes {h : Nat} (hh : h ≤ 6) (all hist : Nat → Int32) : ∃ hist', f_X5_changes (nI h) all hist = some (nI (if h = 6 then 6 else h + 1), hist') ∧
    (∀ j, j < 120 → hist' (120 * (if h = 6 then 5 else h) + j) = all j) ∧ ∀ i, i < (if h = 6 then 5 else h) → ∀ j, j < 120 → hist' (120 * i + j) = hist (120 * (if h = 6 then i + 1 else i) + j) := by
  unfold f_X5_changes
  by_cases c : h = 6
  · subst c
    rw [if_pos (show nI 6 = 6 from rfl)]
    obtain ⟨hist1, e1, e2, -⟩ := pu_chShift (nI 6) all 600 0 hist bw_F (by omega) (by rw [pu_F]; omega)
    rw [show f_X5_changes_L11 bw_F (nI 6) all hist 0 = _ from e1, show nI 6 - 1 = nI 5 from nI_pred 5]
    obtain ⟨hist', a1, a2, a3⟩ := pu_chCopy (h := 5) (by omega) all 120 0 hist1 bw_F (by omega) (by rw [pu_F]; omega)
    refine ⟨hist', a1, fun j hj => a2 j (Nat.zero_le j) hj, fun i hi j hj => ?_⟩
    rw [if_pos rfl] at hi ⊢
    rw [a3 _ (Or.inl (by omega)), e2 _ (Nat.zero_le _) (by omega)]
    exact congrArg hist (by omega)
  · rw [if_neg (show ¬ nI h = 6 from fun q => c ((pu_eq (b := 6) (by omega) (by omega)).mp q))]
    simp only [if_neg c]
    obtain ⟨hist', a1, a2, a3⟩ := pu_chCopy (h := h) (by omega) all 120 0 hist bw_F (by omega) (by rw [pu_F]; omega)
    exact ⟨hist', a1, fun j hj => a2 j (Nat.zero_le j) hj, fun i hi j hj => a3 _ (Or.inl (by omega))⟩
theorem pu_vaup {α : Type} (f : Nat → α) (k : Nat) (v : α) (j : Nat) : va_up f k v j = if j = k then v else f j := rfl
theorem pu_remember {c : bwCt} {hs : bwH} {hl : Int32} {all hist : Nat → Int32} (hc : bwCR c all) (hr : bwHR hs hl hist) :
    ∃ (hs' : bwH) (hl' : Int32) (hist' : Nat → Int32), f_remC c hs = some hs' ∧ f_X5_changes hl all hist = some (hl', hist') ∧ bwHR hs' hl' hist' := by
  obtain ⟨h, n, a1, a2, a3, a4, a5, a6⟩ := hr
  obtain ⟨hist', b1, b2, b3⟩ := pu_changes a1 all hist
  unfold f_remC f_X1_remember
  rw [a3, a4, a5, if_neg (pu_neg (by omega)), if_pos (show nI n < 6 from (pu_lt (b := 6) (by omega) (by omega)).mpr a2), pu_cl (by omega)]
  obtain ⟨q, e1, e2⟩ := pu_become ((hs.2.2 n).getD bw_c0) c
  rw [show bw_bec ((hs.2.2 n).getD bw_c0) (c.1, c.2.1, c.2.2.1, c.2.2.2.1, c.2.2.2.2.1, c.2.2.2.2.2.1, c.2.2.2.2.2.2.1, c.2.2.2.2.2.2.2) = some q from e1]
  simp only [Option.bind_some]
  have hn : nI n + 1 - (nI n + 1) / 6 * 6 = nI ((n + 1) % 6) := by
    rw [pu_1]
    exact pk_rem (a := n + 1) (d := 6) (by omega) (by omega) (by omega)
  have hz : (if (6 : Int32) < nI h + 1 then (6 : Int32) else nI h + 1) = nI (if h = 6 then 6 else h + 1) := by
    rw [pu_1]
    have k1 : (6 : Int32) < nI (h + 1) ↔ 6 < h + 1 := pu_lt (a := 6) (by omega) (by omega)
    by_cases c : h = 6
    · rw [if_pos (k1.mpr (by omega)), if_pos c]; rfl
    · rw [if_neg (fun q => absurd (k1.mp q) (by omega)), if_neg c]
  rw [hn, hz]
  refine ⟨_, _, hist', rfl, b1, (if h = 6 then 6 else h + 1), (n + 1) % 6, ?_, Nat.mod_lt _ (by omega), rfl, rfl, rfl, fun i hi => ?_⟩
  · by_cases c : h = 6
    · rw [if_pos c]; omega
    · rw [if_neg c]; omega
  · show ∃ c1, va_up hs.2.2 n (some q) _ = some c1 ∧ _
    by_cases c : h = 6
    · rw [if_pos c] at hi
      simp only [if_pos c] at b2 b3 ⊢
      by_cases hi5 : i = 5
      · subst hi5
        rw [pu_vaup, if_pos (by omega)]
        exact ⟨q, rfl, pu_CRs e2 b2 hc⟩
      · rw [pu_vaup, if_neg (by omega)]
        obtain ⟨c1, g1, g2⟩ := a6 (i + 1) (by omega)
        refine ⟨c1, ?_, pu_CRv (b3 i (by omega)) g2⟩
        rw [← g1]
        exact congrArg hs.2.2 (by omega)
    · rw [if_neg c] at hi
      simp only [if_neg c] at b2 b3 ⊢
      by_cases hih : i = h
      · subst hih
        rw [pu_vaup, if_pos (by omega)]
        exact ⟨q, rfl, pu_CRs e2 b2 hc⟩
      · rw [pu_vaup, if_neg (by omega)]
        obtain ⟨c1, g1, g2⟩ := a6 i (by omega)
        refine ⟨c1, ?_, pu_CRv (b3 i (by omega)) g2⟩
        rw [← g1]
        exact congrArg hs.2.2 (by omega)
