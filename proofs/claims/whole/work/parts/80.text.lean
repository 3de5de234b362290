/-! PURE: how a text is read, one bow at a time -/
theorem pu_chIn {len : Nat} {ch te : Nat → Int32} (hl : len ≤ 60) (ht : ∀ j, j < len → ch j = te j ∧ 33 ≤ (te j).toInt ∧ (te j).toInt ≤ 126) {j : Nat} (hj : j < len) : f_X2_characterAt (nI len) ch (nI j) = some (te j) := by
  obtain ⟨e1, e2, e3⟩ := ht j hj
  obtain ⟨k, hk, ek⟩ := pu_toN (x := te j) (n := 256) (by omega) (by omega) (by omega)
  have hnc : bw_nc (te j) := by
    show vp_nar .char (te j) = te j
    rw [ek]; exact pu_nar k hk
  unfold f_X2_characterAt
  rw [if_neg (pu_neg (by omega)), if_neg (fun z => absurd ((pu_le (by omega) (by omega)).mp z) (by omega)), if_neg (show ¬ (60 : Int32) ≤ nI j from pu_ofn (n := 60) (by omega) (by omega)), if_pos (pu_in (show j < 60 by omega) (by omega)), pu_cl (by omega), e1, if_pos hnc]
theorem pu_chOut {len : Nat} {ch : Nat → Int32} (hl : len ≤ 60) {j : Nat} (hj : len ≤ j) (hj2 : j < 1000) : f_X2_characterAt (nI len) ch (nI j) = some 0 := by
  unfold f_X2_characterAt
  rw [if_neg (pu_neg (by omega)), if_pos ((pu_le (by omega) (by omega)).mpr hj)]
theorem pu_hereY {len : Nat} (hl : len ≤ 60) {te : Nat → Int32} {i : Nat} {a b : Int32} (hi : i < len) (h1 : a.toInt ≤ (te i).toInt) (h2 : (te i).toInt ≤ b.toInt) : f_X5_isHere (nI len) (nI i) te a b = some 1 := by
  unfold f_X5_isHere
  rw [if_neg (fun z => absurd ((pu_le (by omega) (by omega)).mp z) (by omega)), if_pos (pu_in (show i < 60 by omega) (by omega)), pu_cl (by omega), pu_inM, Int32.toInt_toInt64, Int32.toInt_toInt64, Int32.toInt_toInt64, if_pos ⟨h1, h2⟩, Option.bind_some, if_neg pu_one0]
theorem pu_hereN {len : Nat} (hl : len ≤ 60) {te : Nat → Int32} {i : Nat} {a b : Int32} (hi2 : i < 1000) (h : ¬ (i < len ∧ a.toInt ≤ (te i).toInt ∧ (te i).toInt ≤ b.toInt)) : f_X5_isHere (nI len) (nI i) te a b = some 0 := by
  unfold f_X5_isHere
  by_cases hi : i < len
  · rw [if_neg (fun z => absurd ((pu_le (by omega) (by omega)).mp z) (by omega)), if_pos (pu_in (show i < 60 by omega) (by omega)), pu_cl (by omega), pu_inM, Int32.toInt_toInt64, Int32.toInt_toInt64, Int32.toInt_toInt64, if_neg (fun z => h ⟨hi, z⟩), Option.bind_some, if_pos rfl]
  · rw [if_pos ((pu_le (by omega) (by omega)).mpr (by omega))]
theorem pu_oneY {len : Nat} (hl : len ≤ 60) {te : Nat → Int32} {i : Nat} {a : Int32} (hi : i < len) (h : te i = a) : f_X5_takesOne (nI len) (nI i) te a = some (1, nI (i + 1)) := by
  unfold f_X5_takesOne
  rw [pu_hereY hl hi (by rw [h]; exact Int.le_refl _) (by rw [h]; exact Int.le_refl _), Option.bind_some, if_neg pu_one0, if_pos (show bw_nb 1 from Or.inr rfl), pu_1]
theorem pu_oneN {len : Nat} (hl : len ≤ 60) {te : Nat → Int32} {i : Nat} {a : Int32} (hi2 : i < 1000) (h : ¬ (i < len ∧ te i = a)) : f_X5_takesOne (nI len) (nI i) te a = some (0, nI i) := by
  unfold f_X5_takesOne
  rw [pu_hereN hl hi2 (fun z => h ⟨z.1, Int32.toInt_inj.mp (by omega)⟩), Option.bind_some, if_pos rfl, if_pos (show bw_nb 0 from Or.inl rfl), Int32.add_zero]
theorem pu_rb0 {len i κ : Nat} (hl : len ≤ 60) {te signs pauses : Nat → Int32} (hi2 : i < 1000) (h : ¬ (i < len ∧ (49 : Int32).toInt ≤ (te i).toInt ∧ (te i).toInt ≤ (51 : Int32).toInt)) : f_X5_readsBow (nI len) (nI i) (nI κ) te signs pauses = some (0, nI i, nI κ, signs, pauses) := by
  unfold f_X5_readsBow
  rw [pu_hereN hl hi2 h, Option.bind_some, if_pos rfl]
theorem pu_rbF {len i κ : Nat} (hl : len ≤ 60) {te signs pauses : Nat → Int32} (hi : i < len) (hk : κ < 30) (h1 : (49 : Int32).toInt ≤ (te i).toInt) (h2 : (te i).toInt ≤ (51 : Int32).toInt) (h3 : ¬ (i + 1 < len ∧ te (i + 1) = 114)) (h4 : ¬ (i + 1 < len ∧ te (i + 1) = 108)) : f_X5_readsBow (nI len) (nI i) (nI κ) te signs pauses = some (0, nI (i + 1), nI κ, upd signs κ (2 * (te i - 49)), upd pauses κ 0) := by
  have b60 := pu_in (show i < 60 by omega) (show 60 ≤ 1000 by omega)
  have b30 := pu_in hk (show 30 ≤ 1000 by omega)
  unfold f_X5_readsBow
  rw [pu_hereY hl hi h1 h2, Option.bind_some, if_neg pu_one0]
  simp only [if_pos b60, if_pos b30, pu_1, pu_cl (show i < 100000 by omega), pu_cl (show κ < 100000 by omega)]
  rw [pu_oneN hl (by omega) h3]
  simp only [Option.bind_some, if_true]
  rw [pu_oneN hl (by omega) h4]
  simp only [Option.bind_some, if_true]
theorem pu_rbR1 {len i κ : Nat} (hl : len ≤ 60) {te signs pauses : Nat → Int32} (hi : i < len) (hk : κ < 30) (h1 : (49 : Int32).toInt ≤ (te i).toInt) (h2 : (te i).toInt ≤ (51 : Int32).toInt) (h5 : i + 1 < len) (h3 : te (i + 1) = 114) (h6 : ¬ (i + 2 < len ∧ te (i + 2) = 46)) : f_X5_readsBow (nI len) (nI i) (nI κ) te signs pauses = some (1, nI (i + 2), nI (κ + 1), upd (upd signs κ (2 * (te i - 49))) κ ((upd signs κ (2 * (te i - 49))) κ + 1), upd pauses κ 0) := by
  have b60 := pu_in (show i < 60 by omega) (show 60 ≤ 1000 by omega)
  have b30 := pu_in hk (show 30 ≤ 1000 by omega)
  unfold f_X5_readsBow
  rw [pu_hereY hl hi h1 h2, Option.bind_some, if_neg pu_one0]
  simp only [if_pos b60, if_pos b30, pu_1, pu_cl (show i < 100000 by omega), pu_cl (show κ < 100000 by omega)]
  rw [pu_oneY hl h5 h3]
  simp only [Option.bind_some, if_neg pu_one0]
  rw [pu_oneN hl (show i + 2 < 1000 by omega) h6]
  simp only [Option.bind_some, if_true]
theorem pu_rbR2 {len i κ : Nat} (hl : len ≤ 60) {te signs pauses : Nat → Int32} (hi : i < len) (hk : κ < 30) (h1 : (49 : Int32).toInt ≤ (te i).toInt) (h2 : (te i).toInt ≤ (51 : Int32).toInt) (h5 : i + 1 < len) (h3 : te (i + 1) = 114) (h6 : i + 2 < len) (h7 : te (i + 2) = 46) (h8 : ¬ (i + 3 < len ∧ (48 : Int32).toInt ≤ (te (i + 3)).toInt ∧ (te (i + 3)).toInt ≤ (57 : Int32).toInt)) : f_X5_readsBow (nI len) (nI i) (nI κ) te signs pauses = some (0, nI (i + 3), nI κ, upd (upd signs κ (2 * (te i - 49))) κ ((upd signs κ (2 * (te i - 49))) κ + 1), upd pauses κ 0) := by
  have b60 := pu_in (show i < 60 by omega) (show 60 ≤ 1000 by omega)
  have b30 := pu_in hk (show 30 ≤ 1000 by omega)
  unfold f_X5_readsBow
  rw [pu_hereY hl hi h1 h2, Option.bind_some, if_neg pu_one0]
  simp only [if_pos b60, if_pos b30, pu_1, pu_cl (show i < 100000 by omega), pu_cl (show κ < 100000 by omega)]
  rw [pu_oneY hl h5 h3]
  simp only [Option.bind_some, if_neg pu_one0]
  rw [pu_oneY hl h6 h7]
  simp only [Option.bind_some, if_neg pu_one0]
  rw [pu_hereN hl (show i + 3 < 1000 by omega) h8]
  simp only [Option.bind_some, if_true]
theorem pu_rbR3 {len i κ : Nat} (hl : len ≤ 60) {te signs pauses : Nat → Int32} (hi : i < len) (hk : κ < 30) (h1 : (49 : Int32).toInt ≤ (te i).toInt) (h2 : (te i).toInt ≤ (51 : Int32).toInt) (h5 : i + 1 < len) (h3 : te (i + 1) = 114) (h6 : i + 2 < len) (h7 : te (i + 2) = 46) (h8 : i + 3 < len) (h9 : (48 : Int32).toInt ≤ (te (i + 3)).toInt) (h10 : (te (i + 3)).toInt ≤ (57 : Int32).toInt) : f_X5_readsBow (nI len) (nI i) (nI κ) te signs pauses = some (1, nI (i + 4), nI (κ + 1), upd (upd signs κ (2 * (te i - 49))) κ ((upd signs κ (2 * (te i - 49))) κ + 1), upd (upd pauses κ 0) κ (te (i + 3) - 48)) := by
  have b60 := pu_in (show i < 60 by omega) (show 60 ≤ 1000 by omega)
  have b30 := pu_in hk (show 30 ≤ 1000 by omega)
  unfold f_X5_readsBow
  rw [pu_hereY hl hi h1 h2, Option.bind_some, if_neg pu_one0]
  simp only [if_pos b60, if_pos b30, pu_1, pu_cl (show i < 100000 by omega), pu_cl (show κ < 100000 by omega)]
  rw [pu_oneY hl h5 h3]
  simp only [Option.bind_some, if_neg pu_one0]
  rw [pu_oneY hl h6 h7]
  simp only [Option.bind_some, if_neg pu_one0]
  rw [pu_hereY hl h8 h9 h10]
  simp only [Option.bind_some, if_neg pu_one0, if_pos (pu_in (show i + 2 + 1 < 60 by omega) (show 60 ≤ 1000 by omega)), pu_cl (show i + 2 + 1 < 100000 by omega), pu_1]
theorem pu_rbL1 {len i κ : Nat} (hl : len ≤ 60) {te signs pauses : Nat → Int32} (hi : i < len) (hk : κ < 30) (h1 : (49 : Int32).toInt ≤ (te i).toInt) (h2 : (te i).toInt ≤ (51 : Int32).toInt) (h5 : i + 1 < len) (h3 : te (i + 1) = 108) (h6 : ¬ (i + 2 < len ∧ te (i + 2) = 46)) : f_X5_readsBow (nI len) (nI i) (nI κ) te signs pauses = some (1, nI (i + 2), nI (κ + 1), upd signs κ (2 * (te i - 49)), upd pauses κ 0) := by
  have b60 := pu_in (show i < 60 by omega) (show 60 ≤ 1000 by omega)
  have b30 := pu_in hk (show 30 ≤ 1000 by omega)
  unfold f_X5_readsBow
  rw [pu_hereY hl hi h1 h2, Option.bind_some, if_neg pu_one0]
  simp only [if_pos b60, if_pos b30, pu_1, pu_cl (show i < 100000 by omega), pu_cl (show κ < 100000 by omega)]
  rw [pu_oneN hl (by omega) (fun z => by rw [h3] at z; exact absurd z.2 (by decide))]
  simp only [Option.bind_some, if_true]
  rw [pu_oneY hl h5 h3]
  simp only [Option.bind_some, if_neg pu_one0]
  rw [pu_oneN hl (show i + 2 < 1000 by omega) h6]
  simp only [Option.bind_some, if_true]
theorem pu_rbL2 {len i κ : Nat} (hl : len ≤ 60) {te signs pauses : Nat → Int32} (hi : i < len) (hk : κ < 30) (h1 : (49 : Int32).toInt ≤ (te i).toInt) (h2 : (te i).toInt ≤ (51 : Int32).toInt) (h5 : i + 1 < len) (h3 : te (i + 1) = 108) (h6 : i + 2 < len) (h7 : te (i + 2) = 46) (h8 : ¬ (i + 3 < len ∧ (48 : Int32).toInt ≤ (te (i + 3)).toInt ∧ (te (i + 3)).toInt ≤ (57 : Int32).toInt)) : f_X5_readsBow (nI len) (nI i) (nI κ) te signs pauses = some (0, nI (i + 3), nI κ, upd signs κ (2 * (te i - 49)), upd pauses κ 0) := by
  have b60 := pu_in (show i < 60 by omega) (show 60 ≤ 1000 by omega)
  have b30 := pu_in hk (show 30 ≤ 1000 by omega)
  unfold f_X5_readsBow
  rw [pu_hereY hl hi h1 h2, Option.bind_some, if_neg pu_one0]
  simp only [if_pos b60, if_pos b30, pu_1, pu_cl (show i < 100000 by omega), pu_cl (show κ < 100000 by omega)]
  rw [pu_oneN hl (by omega) (fun z => by rw [h3] at z; exact absurd z.2 (by decide))]
  simp only [Option.bind_some, if_true]
  rw [pu_oneY hl h5 h3]
  simp only [Option.bind_some, if_neg pu_one0]
  rw [pu_oneY hl h6 h7]
  simp only [Option.bind_some, if_neg pu_one0]
  rw [pu_hereN hl (show i + 3 < 1000 by omega) h8]
  simp only [Option.bind_some, if_true]
theorem pu_rbL3 {len i κ : Nat} (hl : len ≤ 60) {te signs pauses : Nat → Int32} (hi : i < len) (hk : κ < 30) (h1 : (49 : Int32).toInt ≤ (te i).toInt) (h2 : (te i).toInt ≤ (51 : Int32).toInt) (h5 : i + 1 < len) (h3 : te (i + 1) = 108) (h6 : i + 2 < len) (h7 : te (i + 2) = 46) (h8 : i + 3 < len) (h9 : (48 : Int32).toInt ≤ (te (i + 3)).toInt) (h10 : (te (i + 3)).toInt ≤ (57 : Int32).toInt) : f_X5_readsBow (nI len) (nI i) (nI κ) te signs pauses = some (1, nI (i + 4), nI (κ + 1), upd signs κ (2 * (te i - 49)), upd (upd pauses κ 0) κ (te (i + 3) - 48)) := by
  have b60 := pu_in (show i < 60 by omega) (show 60 ≤ 1000 by omega)
  have b30 := pu_in hk (show 30 ≤ 1000 by omega)
  unfold f_X5_readsBow
  rw [pu_hereY hl hi h1 h2, Option.bind_some, if_neg pu_one0]
  simp only [if_pos b60, if_pos b30, pu_1, pu_cl (show i < 100000 by omega), pu_cl (show κ < 100000 by omega)]
  rw [pu_oneN hl (by omega) (fun z => by rw [h3] at z; exact absurd z.2 (by decide))]
  simp only [Option.bind_some, if_true]
  rw [pu_oneY hl h5 h3]
  simp only [Option.bind_some, if_neg pu_one0]
  rw [pu_oneY hl h6 h7]
  simp only [Option.bind_some, if_neg pu_one0]
  rw [pu_hereY hl h8 h9 h10]
  simp only [Option.bind_some, if_neg pu_one0, if_pos (pu_in (show i + 2 + 1 < 60 by omega) (show 60 ≤ 1000 by omega)), pu_cl (show i + 2 + 1 < 100000 by omega), pu_1]
theorem pu_pbA {σ c : Int32} (hσ : σ = 0 ∨ σ = 4 ∨ (σ = 2 ∧ c ≠ 46)) : f_X2_placeBehind σ c = some (if (49 : Int32).toInt ≤ c.toInt ∧ c.toInt ≤ (51 : Int32).toInt then 1 else 5) := by
  have k1 : c < 49 ↔ c.toInt < (49 : Int32).toInt := pu_ltC
  have k2 : 51 < c ↔ (51 : Int32).toInt < c.toInt := pu_ltC
  unfold f_X2_placeBehind
  rcases hσ with rfl | rfl | ⟨rfl, h⟩
  · simp only [show ¬ (0 : Int32) = 1 by decide, show ¬ (0 : Int32) = 2 by decide, show ¬ (0 : Int32) = 3 by decide, if_false]
    by_cases a : c < 49
    · rw [if_pos a, if_neg (fun z => by have := k1.mp a; omega)]
    · rw [if_neg a]
      by_cases b : 51 < c
      · rw [if_pos b, if_neg (fun z => by have := k2.mp b; omega)]
      · have a' : ¬ c.toInt < (49 : Int32).toInt := fun z => a (k1.mpr z)
        have b' : ¬ (51 : Int32).toInt < c.toInt := fun z => b (k2.mpr z)
        rw [if_neg b, if_pos ⟨by omega, by omega⟩]
  · simp only [show ¬ (4 : Int32) = 1 by decide, show ¬ (4 : Int32) = 2 by decide, show ¬ (4 : Int32) = 3 by decide, if_false]
    by_cases a : c < 49
    · rw [if_pos a, if_neg (fun z => by have := k1.mp a; omega)]
    · rw [if_neg a]
      by_cases b : 51 < c
      · rw [if_pos b, if_neg (fun z => by have := k2.mp b; omega)]
      · have a' : ¬ c.toInt < (49 : Int32).toInt := fun z => a (k1.mpr z)
        have b' : ¬ (51 : Int32).toInt < c.toInt := fun z => b (k2.mpr z)
        rw [if_neg b, if_pos ⟨by omega, by omega⟩]
  · simp only [show ¬ (2 : Int32) = 1 by decide, if_true, if_false, if_neg h]
    by_cases a : c < 49
    · rw [if_pos a, if_neg (fun z => by have := k1.mp a; omega)]
    · rw [if_neg a]
      by_cases b : 51 < c
      · rw [if_pos b, if_neg (fun z => by have := k2.mp b; omega)]
      · have a' : ¬ c.toInt < (49 : Int32).toInt := fun z => a (k1.mpr z)
        have b' : ¬ (51 : Int32).toInt < c.toInt := fun z => b (k2.mpr z)
        rw [if_neg b, if_pos ⟨by omega, by omega⟩]
theorem pu_pb1 {c : Int32} : f_X2_placeBehind 1 c = some (if c = 108 ∨ c = 114 then 2 else 5) := by
  unfold f_X2_placeBehind
  simp only [if_true]
  have e : (if c = 108 then some (2 : Int32) else (if c = 114 then some 2 else some 5)) = some (if c = 108 ∨ c = 114 then 2 else 5) := by
    by_cases a : c = 108
    · rw [if_pos a, if_pos (Or.inl a)]
    · rw [if_neg a]
      by_cases b : c = 114
      · rw [if_pos b, if_pos (Or.inr b)]
      · rw [if_neg b, if_neg (fun z => z.elim a b)]
  rw [e]
  by_cases a : c < 49
  · rw [if_pos a]
  · rw [if_neg a]
    by_cases b : 51 < c
    · rw [if_pos b]
    · rw [if_neg b]
theorem pu_pb2 : f_X2_placeBehind 2 46 = some 3 := by decide
theorem pu_pb3 {c : Int32} : f_X2_placeBehind 3 c = some (if (48 : Int32).toInt ≤ c.toInt ∧ c.toInt ≤ (57 : Int32).toInt then 4 else 5) := by
  have k1 : c < 48 ↔ c.toInt < (48 : Int32).toInt := pu_ltC
  have k2 : 57 < c ↔ (57 : Int32).toInt < c.toInt := pu_ltC
  unfold f_X2_placeBehind
  simp only [show ¬ (3 : Int32) = 1 by decide, show ¬ (3 : Int32) = 2 by decide, if_true, if_false]
  have e : (if c < 48 then some (5 : Int32) else (if 57 < c then some 5 else some 4)) = some (if (48 : Int32).toInt ≤ c.toInt ∧ c.toInt ≤ (57 : Int32).toInt then 4 else 5) := by
    by_cases a : c < 48
    · rw [if_pos a, if_neg (fun z => by have := k1.mp a; omega)]
    · rw [if_neg a]
      by_cases b : 57 < c
      · rw [if_pos b, if_neg (fun z => by have := k2.mp b; omega)]
      · have a' : ¬ c.toInt < (48 : Int32).toInt := fun z => a (k1.mpr z)
        have b' : ¬ (57 : Int32).toInt < c.toInt := fun z => b (k2.mpr z)
        rw [if_neg b, if_pos ⟨by omega, by omega⟩]
  rw [e]
  by_cases a : c < 49
  · rw [if_pos a]
  · rw [if_neg a]
    by_cases b : 51 < c
    · rw [if_pos b]
    · rw [if_neg b]
theorem pu_ffS {len : Nat} {ch te : Nat → Int32} (hl : len ≤ 60) (ht : ∀ j, j < len → ch j = te j ∧ 33 ≤ (te j).toInt ∧ (te j).toInt ≤ 126) {i : Nat} (hi : i < len) {σ τ : Int32} (hp : f_X2_placeBehind σ (te i) = some τ) (fu : Nat) :
    f_X2_firstFault_L4 (fu + 1) (nI len) ch σ (nI i) = (if τ = 5 then some (nI i) else f_X2_firstFault_L4 fu (nI len) ch τ (nI (i + 1))) := by
  rw [f_X2_firstFault_L4, if_neg (fun z => absurd ((pu_le (by omega) (by omega)).mp z) (by omega)), pu_chIn hl ht hi, Option.bind_some, hp, Option.bind_some, pu_1]
theorem pu_ffE {len : Nat} {ch : Nat → Int32} (hl : len ≤ 60) {σ : Int32} (h2 : ¬ σ = 2) (h4 : ¬ σ = 4) (fu : Nat) : f_X2_firstFault_L4 (fu + 1) (nI len) ch σ (nI len) = some (nI len) := by
  rw [f_X2_firstFault_L4, if_pos ((pu_le (by omega) (by omega)).mpr (Nat.le_refl _)), if_neg h2, if_neg h4]
theorem pu_btS {len : Nat} {ch te : Nat → Int32} (hl : len ≤ 60) (ht : ∀ j, j < len → ch j = te j ∧ 33 ≤ (te j).toInt ∧ (te j).toInt ≤ 126) {i : Nat} (hi : i < len) (n : Int32) (fu : Nat) :
    f_X2_bowsInText_L4 (fu + 1) (nI len) ch n (nI i) = (if te i = 108 ∨ te i = 114 then f_X2_bowsInText_L4 fu (nI len) ch (n + 1) (nI (i + 1)) else f_X2_bowsInText_L4 fu (nI len) ch n (nI (i + 1))) := by
  rw [f_X2_bowsInText_L4, if_neg (fun z => absurd ((pu_le (by omega) (by omega)).mp z) (by omega)), pu_chIn hl ht hi, Option.bind_some, Option.bind_some, pu_1]
  by_cases a : te i = 108
  · rw [if_pos a, if_pos (Or.inl a)]
  · rw [if_neg a]
    by_cases b : te i = 114
    · rw [if_pos b, if_pos (Or.inr b)]
    · rw [if_neg b, if_neg (fun z => z.elim a b)]
