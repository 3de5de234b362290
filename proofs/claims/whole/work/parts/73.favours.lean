/-! PURE: sums of favours; the darling -/
def bwSum (g : Nat → Int32) : Nat → Int32
  | 0 => 0
  | n + 1 => bwSum g n + g n
theorem pu_favM {v : Nat → Int32} {x1 x2 : Int32} {g : Nat → Int32} (hg : ∀ k, k < 36 → ∀ (fu : Nat) (s : Int32), f_X5_favours_L5 (fu + 1) v x1 x2 s (nI k) = f_X5_favours_L5 fu v x1 x2 (s + g k) (nI (k + 1))) :
    f_X5_favours v x1 x2 = some (bwSum g 36) := by
  have key : ∀ (d k fu : Nat), d + k = 36 → d < fu → f_X5_favours_L5 fu v x1 x2 (bwSum g k) (nI k) = some (bwSum g 36) := by
    intro d
    induction d with
    | zero =>
      intro k fu h1 h2
      obtain ⟨fu, rfl⟩ : ∃ u, fu = u + 1 := ⟨fu - 1, by omega⟩
      obtain rfl : k = 36 := by omega
      rw [f_X5_favours_L5, if_pos (show (36 : Int32) ≤ nI 36 by decide)]
    | succ d ih =>
      intro k fu h1 h2
      obtain ⟨fu, rfl⟩ : ∃ u, fu = u + 1 := ⟨fu - 1, by omega⟩
      rw [hg k (by omega)]
      exact ih (k + 1) fu (by omega) (by omega)
  unfold f_X5_favours
  exact key 36 0 bw_F (by omega) (by rw [pu_F]; omega)
theorem pu_12 (k : Nat) : (12 : Int32) + nI k = nI (12 + k) := pu_add 12 k
theorem pu_d6 {k : Nat} (h : k < 36) : nI k / 6 = nI (k / 6) := pk_div (a := k) (d := 6) (by omega) (by omega) (by omega)
theorem pu_r6 {k : Nat} (h : k < 36) : nI k - nI k / 6 * 6 = nI (k % 6) := pk_rem (a := k) (d := 6) (by omega) (by omega) (by omega)
theorem pu_favAll (v : Nat → Int32) : f_X5_favours v (-1) (-1) = some (bwSum (fun k => v (12 + k)) 36) := by
  refine pu_favM (fun k hk fu s => ?_)
  rw [f_X5_favours_L5, if_neg (show ¬ (36 : Int32) ≤ nI k from pu_ofn (n := 36) hk (by omega)), if_pos (show (-1 : Int32) < 0 by decide), if_pos (show (-1 : Int32) < 0 by decide), pu_12, if_pos (pu_in (show 12 + k < 120 by omega) (by omega)), pu_cl (by omega), pu_1]
theorem pu_favG (v : Nat → Int32) {c : Nat} (hc : c < 6) : f_X5_favours v (nI c) (-1) = some (bwSum (fun k => if k % 6 = c then v (12 + k) else 0) 36) := by
  refine pu_favM (fun k hk fu s => ?_)
  rw [f_X5_favours_L5, if_neg (show ¬ (36 : Int32) ≤ nI k from pu_ofn (n := 36) hk (by omega)), if_neg (pu_neg (by omega)), pu_r6 hk, pu_1]
  by_cases d : k % 6 = c
  · rw [if_pos (show nI (k % 6) = nI c by rw [d]), if_pos (show (-1 : Int32) < 0 by decide), pu_12, if_pos (pu_in (show 12 + k < 120 by omega) (by omega)), pu_cl (by omega)]
    simp only [if_pos d]
  · rw [if_neg (show ¬ nI (k % 6) = nI c from fun q => d ((pu_eq (by omega) (by omega)).mp q))]
    simp only [if_neg d]
theorem pu_favC (v : Nat → Int32) {c : Nat} (hc : c < 6) : f_X5_favours v (-1) (nI c) = some (bwSum (fun k => if k / 6 = c then v (12 + k) else 0) 36) := by
  refine pu_favM (fun k hk fu s => ?_)
  rw [f_X5_favours_L5, if_neg (show ¬ (36 : Int32) ≤ nI k from pu_ofn (n := 36) hk (by omega)), if_pos (show (-1 : Int32) < 0 by decide), if_neg (pu_neg (by omega)), pu_d6 hk, pu_1]
  by_cases d : k / 6 = c
  · rw [if_pos (show nI (k / 6) = nI c by rw [d]), pu_12, if_pos (pu_in (show 12 + k < 120 by omega) (by omega)), pu_cl (by omega)]
    simp only [if_pos d]
  · rw [if_neg (show ¬ nI (k / 6) = nI c from fun q => d ((pu_eq (by omega) (by omega)).mp q))]
    simp only [if_neg d]
theorem pu_favIx (a b : Nat) : f_X4_favourIndex (nI a) (nI b) = some (nI (6 * a + b)) := by
  unfold f_X4_favourIndex
  rw [show (6 : Int32) * nI a = nI (6 * a) from pu_mul 6 a, pu_add]
theorem pu_ofGiver (f : Nat → Int32) {c : Nat} (hc : c < 6) : f_X4_favoursForGiver f (nI c) = some (bwSum (fun k => f (6 * k + c)) 6) := by
  have key : ∀ (d k fu : Nat), d + k = 6 → d < fu → f_X4_favoursForGiver_L4 fu f (nI c) (bwSum (fun k => f (6 * k + c)) k) (nI k) = some (bwSum (fun k => f (6 * k + c)) 6) := by
    intro d
    induction d with
    | zero =>
      intro k fu h1 h2
      obtain ⟨fu, rfl⟩ : ∃ u, fu = u + 1 := ⟨fu - 1, by omega⟩
      obtain rfl : k = 6 := by omega
      rw [f_X4_favoursForGiver_L4, if_pos (show (6 : Int32) ≤ nI 6 by decide)]
    | succ d ih =>
      intro k fu h1 h2
      obtain ⟨fu, rfl⟩ : ∃ u, fu = u + 1 := ⟨fu - 1, by omega⟩
      rw [f_X4_favoursForGiver_L4, if_neg (show ¬ (6 : Int32) ≤ nI k from pu_ofn (n := 6) (by omega) (by omega)), pu_favIx, Option.bind_some, pu_at f (show 6 * k + c < 36 by omega) (by omega), Option.bind_some, pu_1]
      exact ih (k + 1) fu (by omega) (by omega)
  unfold f_X4_favoursForGiver
  exact key 6 0 bw_F (by omega) (by rw [pu_F]; omega)
theorem pu_ofCourt (f : Nat → Int32) {c : Nat} (hc : c < 6) : f_X4_favoursOfCourtier f (nI c) = some (bwSum (fun k => f (6 * c + k)) 6) := by
  have key : ∀ (d k fu : Nat), d + k = 6 → d < fu → f_X4_favoursOfCourtier_L4 fu f (nI c) (bwSum (fun k => f (6 * c + k)) k) (nI k) = some (bwSum (fun k => f (6 * c + k)) 6) := by
    intro d
    induction d with
    | zero =>
      intro k fu h1 h2
      obtain ⟨fu, rfl⟩ : ∃ u, fu = u + 1 := ⟨fu - 1, by omega⟩
      obtain rfl : k = 6 := by omega
      rw [f_X4_favoursOfCourtier_L4, if_pos (show (6 : Int32) ≤ nI 6 by decide)]
    | succ d ih =>
      intro k fu h1 h2
      obtain ⟨fu, rfl⟩ : ∃ u, fu = u + 1 := ⟨fu - 1, by omega⟩
      rw [f_X4_favoursOfCourtier_L4, if_neg (show ¬ (6 : Int32) ≤ nI k from pu_ofn (n := 6) (by omega) (by omega)), pu_favIx, Option.bind_some, pu_at f (show 6 * c + k < 36 by omega) (by omega), Option.bind_some, pu_1]
      exact ih (k + 1) fu (by omega) (by omega)
  unfold f_X4_favoursOfCourtier
  exact key 6 0 bw_F (by omega) (by rw [pu_F]; omega)
theorem pu_ofAll (f : Nat → Int32) : f_X4_sumOfAllFavours f = some (bwSum (fun c => bwSum (fun k => f (6 * c + k)) 6) 6) := by
  have key : ∀ (d k fu : Nat), d + k = 6 → d < fu → f_X4_sumOfAllFavours_L4 fu f (bwSum (fun c => bwSum (fun k => f (6 * c + k)) 6) k) (nI k) = some (bwSum (fun c => bwSum (fun k => f (6 * c + k)) 6) 6) := by
    intro d
    induction d with
    | zero =>
      intro k fu h1 h2
      obtain ⟨fu, rfl⟩ : ∃ u, fu = u + 1 := ⟨fu - 1, by omega⟩
      obtain rfl : k = 6 := by omega
      rw [f_X4_sumOfAllFavours_L4, if_pos (show (6 : Int32) ≤ nI 6 by decide)]
    | succ d ih =>
      intro k fu h1 h2
      obtain ⟨fu, rfl⟩ : ∃ u, fu = u + 1 := ⟨fu - 1, by omega⟩
      rw [f_X4_sumOfAllFavours_L4, if_neg (show ¬ (6 : Int32) ≤ nI k from pu_ofn (n := 6) (by omega) (by omega)), pu_ofCourt f (show k < 6 by omega), Option.bind_some, pu_1]
      exact ih (k + 1) fu (by omega) (by omega)
  unfold f_X4_sumOfAllFavours
  exact key 6 0 bw_F (by omega) (by rw [pu_F]; omega)
theorem pu_sumC {g g' : Nat → Int32} {n : Nat} (h : ∀ k, k < n → g k = g' k) : bwSum g n = bwSum g' n := by
  induction n with
  | zero => rfl
  | succ n ih => rw [bwSum, bwSum, ih (fun k hk => h k (by omega)), h n (by omega)]
theorem pu_sumA (f : Nat → Int32) : bwSum (fun c => bwSum (fun k => f (6 * c + k)) 6) 6 = bwSum f 36 := by
  simp only [bwSum, Int32.zero_add, Nat.reduceMul, Nat.reduceAdd, Int32.add_assoc]
theorem pu_sumG (f : Nat → Int32) {c : Nat} (hc : c < 6) : bwSum (fun k => f (6 * k + c)) 6 = bwSum (fun k => if k % 6 = c then f k else 0) 36 := by
  have h : c = 0 ∨ c = 1 ∨ c = 2 ∨ c = 3 ∨ c = 4 ∨ c = 5 := by omega
  rcases h with rfl | rfl | rfl | rfl | rfl | rfl <;> simp [bwSum, Int32.zero_add, Int32.add_zero]
theorem pu_sumT (f : Nat → Int32) {c : Nat} (hc : c < 6) : bwSum (fun k => f (6 * c + k)) 6 = bwSum (fun k => if k / 6 = c then f k else 0) 36 := by
  have h : c = 0 ∨ c = 1 ∨ c = 2 ∨ c = 3 ∨ c = 4 ∨ c = 5 := by omega
  rcases h with rfl | rfl | rfl | rfl | rfl | rfl <;> simp [bwSum, Int32.zero_add, Int32.add_zero]
theorem pu_forG {c : bwCt} {v : Nat → Int32} (h : bwCR c v) {k : Nat} (hk : k < 6) : ∃ r, f_X4_favoursForGiver c.2.2.2.2.2.1 (nI k) = some r ∧ f_X5_favours v (nI k) (-1) = some r := by
  obtain ⟨-, -, -, -, -, h6, -⟩ := h
  refine ⟨_, pu_ofGiver _ hk, ?_⟩
  rw [pu_favG v hk, pu_sumG _ hk]
  exact congrArg some (pu_sumC (fun j hj => by rw [h6 j hj]))
theorem pu_ofC {c : bwCt} {v : Nat → Int32} (h : bwCR c v) {k : Nat} (hk : k < 6) : ∃ r, f_X4_favoursOfCourtier c.2.2.2.2.2.1 (nI k) = some r ∧ f_X5_favours v (-1) (nI k) = some r := by
  obtain ⟨-, -, -, -, -, h6, -⟩ := h
  refine ⟨_, pu_ofCourt _ hk, ?_⟩
  rw [pu_favC v hk, pu_sumT _ hk]
  exact congrArg some (pu_sumC (fun j hj => by rw [h6 j hj]))
theorem pu_ofA {c : bwCt} {v : Nat → Int32} (h : bwCR c v) : ∃ r, f_X4_sumOfAllFavours c.2.2.2.2.2.1 = some r ∧ f_X5_favours v (-1) (-1) = some r := by
  obtain ⟨-, -, -, -, -, h6, -⟩ := h
  refine ⟨_, pu_ofAll _, ?_⟩
  rw [pu_favAll v, pu_sumA]
  exact congrArg some (pu_sumC (fun j hj => by rw [h6 j hj]))
theorem pu_darL {c : bwCt} {v : Nat → Int32} (h : bwCR c v) : ∀ (d k b fu fu' : Nat), d + k = 6 → b < 6 → d < fu → d < fu' → ∃ r, f_X4_darling_L4 fu c.2.2.2.2.2.1 (nI b) (nI k) = some r ∧ f_X5_darling_L4 fu' v (nI b) (nI k) = some r := by
  intro d
  induction d with
  | zero =>
    intro k b fu fu' h1 hb h2 h3
    obtain ⟨fu, rfl⟩ : ∃ u, fu = u + 1 := ⟨fu - 1, by omega⟩
    obtain ⟨fu', rfl⟩ : ∃ u, fu' = u + 1 := ⟨fu' - 1, by omega⟩
    obtain rfl : k = 6 := by omega
    rw [f_X4_darling_L4, f_X5_darling_L4, if_pos (show (6 : Int32) ≤ nI 6 by decide), if_pos (show (6 : Int32) ≤ nI 6 by decide)]
    exact ⟨_, rfl, rfl⟩
  | succ d ih =>
    intro k b fu fu' h1 hb h2 h3
    obtain ⟨fu, rfl⟩ : ∃ u, fu = u + 1 := ⟨fu - 1, by omega⟩
    obtain ⟨fu', rfl⟩ : ∃ u, fu' = u + 1 := ⟨fu' - 1, by omega⟩
    obtain ⟨r1, a1, a2⟩ := pu_forG h (show k < 6 by omega)
    obtain ⟨r2, a3, a4⟩ := pu_forG h hb
    rw [f_X4_darling_L4, f_X5_darling_L4, if_neg (show ¬ (6 : Int32) ≤ nI k from pu_ofn (n := 6) (by omega) (by omega)), if_neg (show ¬ (6 : Int32) ≤ nI k from pu_ofn (n := 6) (by omega) (by omega)), a1, a2, a3, a4]
    simp only [Option.bind_some]
    rw [pu_1]
    by_cases e : r1 ≤ r2
    · rw [if_pos e, if_pos e]
      exact ih (k + 1) b fu fu' (by omega) hb (by omega) (by omega)
    · rw [if_neg e, if_neg e]
      exact ih (k + 1) k fu fu' (by omega) (by omega) (by omega) (by omega)
theorem ok_darling : bwO bwRel (fun x => x_darling x) (fun m => m_darling m) := by
  intro x m ⟨hc, hp, hs, hh⟩
  simp only [x_darling, m_darling]
  unfold f_X5_darling f_X4_darling
  obtain ⟨r, e1, e2⟩ := pu_darL hc 5 1 0 bw_F bw_F (by omega) (by omega) (by rw [pu_F]; omega) (by rw [pu_F]; omega)
  rw [show f_X4_darling_L4 bw_F x.1.2.2.2.2.2.1 0 1 = some r from e1, show f_X5_darling_L4 bw_F m.2.2.2.2.2.2.1 0 1 = some r from e2]
  simp only [Option.bind_some]
  exact bwO_fin rfl ⟨hc, hp, hs, hh⟩
