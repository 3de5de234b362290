/-! PURE: fault and read -/
theorem pu_s48 (c : Int32) : c - 48 - 1 = c - 49 := by
  rw [Int32.sub_eq_add_neg, Int32.sub_eq_add_neg, Int32.sub_eq_add_neg, Int32.add_assoc]; rfl
theorem pu_bn1 (c : Int32) : f_X4_bowNumber (c - 48) 1 = some (2 * (c - 49) + 1) := by
  unfold f_X4_bowNumber
  rw [pu_s48]
theorem pu_bn0 (c : Int32) : f_X4_bowNumber (c - 48) 0 = some (2 * (c - 49)) := by
  unfold f_X4_bowNumber
  rw [pu_s48, Int32.add_zero]
theorem pu_abR1 {len i : Nat} {ch te : Nat → Int32} (hl : len ≤ 60) (ht : ∀ j, j < len → ch j = te j ∧ 33 ≤ (te j).toInt ∧ (te j).toInt ≤ 126) (hi : i < len) (h5 : i + 1 < len) (h3 : te (i + 1) = 114) (h6 : ¬ (i + 2 < len ∧ te (i + 2) = 46)) (fu : Nat) (b : Int32) (nu pa : Nat → Int32) :
    f_X2_addBowsTo_L2 (fu + 1) (nI len) ch b nu pa (nI i) = (f_X0_addBow b nu pa (2 * (te i - 49) + 1) 0).bind fun q => f_X2_addBowsTo_L2 fu (nI len) ch q.1 q.2.1 q.2.2 (nI (i + 2)) := by
  have e1 : nI i + 1 = nI (i + 1) := pu_1 i
  have e2 : nI i + 2 = nI (i + 2) := pu_add i 2
  have e3 : nI (i + 2) + 1 = nI (i + 3) := pu_1 (i + 2)
  have e4 : nI (i + 2) + 2 = nI (i + 4) := pu_add (i + 2) 2
  rw [f_X2_addBowsTo_L2, if_neg (fun z => absurd ((pu_le (by omega) (by omega)).mp z) (by omega))]
  simp only [e1, e2, e3, e4]
  rw [pu_chIn hl ht hi, Option.bind_some, pu_chIn hl ht h5, Option.bind_some, if_pos h3]
  have d2 : ∃ x, f_X2_characterAt (nI len) ch (nI (i + 2)) = some x ∧ x ≠ 46 := by
    by_cases q : i + 2 < len
    · exact ⟨te (i + 2), pu_chIn hl ht q, fun z => h6 ⟨q, z⟩⟩
    · exact ⟨0, pu_chOut hl (by omega) (by omega), by decide⟩
  obtain ⟨x, d3, d4⟩ := d2
  rw [d3, Option.bind_some, if_neg d4, pu_bn1, Option.bind_some]
theorem pu_abR3 {len i : Nat} {ch te : Nat → Int32} (hl : len ≤ 60) (ht : ∀ j, j < len → ch j = te j ∧ 33 ≤ (te j).toInt ∧ (te j).toInt ≤ 126) (hi : i < len) (h5 : i + 1 < len) (h3 : te (i + 1) = 114) (h6 : i + 2 < len) (h7 : te (i + 2) = 46) (h8 : i + 3 < len) (fu : Nat) (b : Int32) (nu pa : Nat → Int32) :
    f_X2_addBowsTo_L2 (fu + 1) (nI len) ch b nu pa (nI i) = (f_X0_addBow b nu pa (2 * (te i - 49) + 1) (te (i + 3) - 48)).bind fun q => f_X2_addBowsTo_L2 fu (nI len) ch q.1 q.2.1 q.2.2 (nI (i + 4)) := by
  have e1 : nI i + 1 = nI (i + 1) := pu_1 i
  have e2 : nI i + 2 = nI (i + 2) := pu_add i 2
  have e3 : nI (i + 2) + 1 = nI (i + 3) := pu_1 (i + 2)
  have e4 : nI (i + 2) + 2 = nI (i + 4) := pu_add (i + 2) 2
  rw [f_X2_addBowsTo_L2, if_neg (fun z => absurd ((pu_le (by omega) (by omega)).mp z) (by omega))]
  simp only [e1, e2, e3, e4]
  rw [pu_chIn hl ht hi, Option.bind_some, pu_chIn hl ht h5, Option.bind_some, if_pos h3]
  rw [pu_chIn hl ht h6, Option.bind_some, if_pos h7, pu_chIn hl ht h8, Option.bind_some, pu_bn1, Option.bind_some]
theorem pu_abL1 {len i : Nat} {ch te : Nat → Int32} (hl : len ≤ 60) (ht : ∀ j, j < len → ch j = te j ∧ 33 ≤ (te j).toInt ∧ (te j).toInt ≤ 126) (hi : i < len) (h5 : i + 1 < len) (h3 : te (i + 1) = 108) (h6 : ¬ (i + 2 < len ∧ te (i + 2) = 46)) (fu : Nat) (b : Int32) (nu pa : Nat → Int32) :
    f_X2_addBowsTo_L2 (fu + 1) (nI len) ch b nu pa (nI i) = (f_X0_addBow b nu pa (2 * (te i - 49)) 0).bind fun q => f_X2_addBowsTo_L2 fu (nI len) ch q.1 q.2.1 q.2.2 (nI (i + 2)) := by
  have e1 : nI i + 1 = nI (i + 1) := pu_1 i
  have e2 : nI i + 2 = nI (i + 2) := pu_add i 2
  have e3 : nI (i + 2) + 1 = nI (i + 3) := pu_1 (i + 2)
  have e4 : nI (i + 2) + 2 = nI (i + 4) := pu_add (i + 2) 2
  rw [f_X2_addBowsTo_L2, if_neg (fun z => absurd ((pu_le (by omega) (by omega)).mp z) (by omega))]
  simp only [e1, e2, e3, e4]
  rw [pu_chIn hl ht hi, Option.bind_some, pu_chIn hl ht h5, Option.bind_some, if_neg (show ¬ te (i + 1) = 114 by rw [h3]; decide)]
  have d2 : ∃ x, f_X2_characterAt (nI len) ch (nI (i + 2)) = some x ∧ x ≠ 46 := by
    by_cases q : i + 2 < len
    · exact ⟨te (i + 2), pu_chIn hl ht q, fun z => h6 ⟨q, z⟩⟩
    · exact ⟨0, pu_chOut hl (by omega) (by omega), by decide⟩
  obtain ⟨x, d3, d4⟩ := d2
  rw [d3, Option.bind_some, if_neg d4, pu_bn0, Option.bind_some]
theorem pu_abL3 {len i : Nat} {ch te : Nat → Int32} (hl : len ≤ 60) (ht : ∀ j, j < len → ch j = te j ∧ 33 ≤ (te j).toInt ∧ (te j).toInt ≤ 126) (hi : i < len) (h5 : i + 1 < len) (h3 : te (i + 1) = 108) (h6 : i + 2 < len) (h7 : te (i + 2) = 46) (h8 : i + 3 < len) (fu : Nat) (b : Int32) (nu pa : Nat → Int32) :
    f_X2_addBowsTo_L2 (fu + 1) (nI len) ch b nu pa (nI i) = (f_X0_addBow b nu pa (2 * (te i - 49)) (te (i + 3) - 48)).bind fun q => f_X2_addBowsTo_L2 fu (nI len) ch q.1 q.2.1 q.2.2 (nI (i + 4)) := by
  have e1 : nI i + 1 = nI (i + 1) := pu_1 i
  have e2 : nI i + 2 = nI (i + 2) := pu_add i 2
  have e3 : nI (i + 2) + 1 = nI (i + 3) := pu_1 (i + 2)
  have e4 : nI (i + 2) + 2 = nI (i + 4) := pu_add (i + 2) 2
  rw [f_X2_addBowsTo_L2, if_neg (fun z => absurd ((pu_le (by omega) (by omega)).mp z) (by omega))]
  simp only [e1, e2, e3, e4]
  rw [pu_chIn hl ht hi, Option.bind_some, pu_chIn hl ht h5, Option.bind_some, if_neg (show ¬ te (i + 1) = 114 by rw [h3]; decide)]
  rw [pu_chIn hl ht h6, Option.bind_some, if_pos h7, pu_chIn hl ht h8, Option.bind_some, pu_bn0, Option.bind_some]
theorem pu_bow1 {len i κ : Nat} {ch te : Nat → Int32} (hl : len ≤ 60) (ht : ∀ j, j < len → ch j = te j ∧ 33 ≤ (te j).toInt ∧ (te j).toInt ≤ 126) (hi : i ≤ len) (hk : i < len → κ < 30) {σ : Int32} (hσ : σ = 0 ∨ (i < len ∧ (σ = 4 ∨ (σ = 2 ∧ te i ≠ 46)))) (signs pauses : Nat → Int32) :
    (∃ (t : Nat) (S P : Nat → Int32), t ≤ len ∧ f_X5_readsBow (nI len) (nI i) (nI κ) te signs pauses = some (0, nI t, nI κ, S, P) ∧ (∀ j, j < κ → S j = signs j ∧ P j = pauses j) ∧ ∀ fu, f_X2_firstFault_L4 (fu + 5) (nI len) ch σ (nI i) = some (nI t)) ∨
    (∃ (i' : Nat) (σ' : Int32) (S P : Nat → Int32), i + 2 ≤ i' ∧ i' ≤ len ∧ f_X5_readsBow (nI len) (nI i) (nI κ) te signs pauses = some (1, nI i', nI (κ + 1), S, P) ∧ (∀ j, j < κ → S j = signs j ∧ P j = pauses j) ∧ (σ' = 4 ∨ (σ' = 2 ∧ ¬ (i' < len ∧ te i' = 46))) ∧
      (∀ fu, f_X2_firstFault_L4 (fu + (i' - i)) (nI len) ch σ (nI i) = f_X2_firstFault_L4 fu (nI len) ch σ' (nI i')) ∧
      (∀ (fu : Nat) (n : Int32), f_X2_bowsInText_L4 (fu + (i' - i)) (nI len) ch n (nI i) = f_X2_bowsInText_L4 fu (nI len) ch (n + 1) (nI i')) ∧
      ∀ (fu : Nat) (b : Int32) (nu pa : Nat → Int32), f_X2_addBowsTo_L2 (fu + 1) (nI len) ch b nu pa (nI i) = (f_X0_addBow b nu pa (S κ) (P κ)).bind fun q => f_X2_addBowsTo_L2 fu (nI len) ch q.1 q.2.1 q.2.2 (nI i')) := by
  have t49 : (49 : Int32).toInt = 49 := rfl
  have t51 : (51 : Int32).toInt = 51 := rfl
  have t48 : (48 : Int32).toInt = 48 := rfl
  have t57 : (57 : Int32).toInt = 57 := rfl
  by_cases hd : i < len ∧ (49 : Int32).toInt ≤ (te i).toInt ∧ (te i).toInt ≤ (51 : Int32).toInt
  · obtain ⟨h0, h1, h2⟩ := hd
    have hpA : f_X2_placeBehind σ (te i) = some 1 := by
      rw [pu_pbA (by rcases hσ with h | ⟨_, h | h⟩; exact Or.inl h; exact Or.inr (Or.inl h); exact Or.inr (Or.inr h)), if_pos ⟨h1, h2⟩]
    have f1 : ∀ fu, f_X2_firstFault_L4 (fu + 1) (nI len) ch σ (nI i) = f_X2_firstFault_L4 fu (nI len) ch 1 (nI (i + 1)) := fun fu => by
      rw [pu_ffS hl ht h0 hpA, if_neg (by decide)]
    have n1 : ¬ (te i = 108 ∨ te i = 114) := by
      rintro (z | z)
      · rw [z] at h2; exact absurd h2 (by decide)
      · rw [z] at h2; exact absurd h2 (by decide)
    have b1 : ∀ (fu : Nat) (n : Int32), f_X2_bowsInText_L4 (fu + 1) (nI len) ch n (nI i) = f_X2_bowsInText_L4 fu (nI len) ch n (nI (i + 1)) := fun fu n => by
      rw [pu_btS hl ht h0, if_neg n1]
    have hSlt : ∀ j, j < κ → (upd signs κ (2 * (te i - 49))) j = signs j ∧ (upd pauses κ 0) j = pauses j := fun j hj => ⟨pk_un (by omega), pk_un (by omega)⟩
    have hSlt1 : ∀ j, j < κ → (upd (upd signs κ (2 * (te i - 49))) κ ((upd signs κ (2 * (te i - 49))) κ + 1)) j = signs j ∧ (upd pauses κ 0) j = pauses j := fun j hj => ⟨by rw [pk_un (by omega), pk_un (by omega)], pk_un (by omega)⟩
    by_cases hcR : i + 1 < len ∧ te (i + 1) = 114
    · obtain ⟨h5, h3⟩ := hcR
      have f2 : ∀ fu, f_X2_firstFault_L4 (fu + 2) (nI len) ch σ (nI i) = f_X2_firstFault_L4 fu (nI len) ch 2 (nI (i + 2)) := fun fu => by
        rw [show fu + 2 = fu + 1 + 1 from rfl, f1, pu_ffS hl ht h5 pu_pb1, if_pos (Or.inr h3), if_neg (by decide)]
      have b2 : ∀ (fu : Nat) (n : Int32), f_X2_bowsInText_L4 (fu + 2) (nI len) ch n (nI i) = f_X2_bowsInText_L4 fu (nI len) ch (n + 1) (nI (i + 2)) := fun fu n => by
        rw [show fu + 2 = fu + 1 + 1 from rfl, b1, pu_btS hl ht h5, if_pos (Or.inr h3)]
      have vS : (upd (upd signs κ (2 * (te i - 49))) κ ((upd signs κ (2 * (te i - 49))) κ + 1)) κ = (2 * (te i - 49) + 1) := by rw [pk_us, pk_us]
      by_cases hdot : i + 2 < len ∧ te (i + 2) = 46
      · obtain ⟨h6, h7⟩ := hdot
        have f3 : ∀ fu, f_X2_firstFault_L4 (fu + 3) (nI len) ch σ (nI i) = f_X2_firstFault_L4 fu (nI len) ch 3 (nI (i + 3)) := fun fu => by
          rw [show fu + 3 = fu + 1 + 2 from rfl, f2, pu_ffS hl ht h6 (by rw [h7]; exact pu_pb2), if_neg (by decide)]
        have b3 : ∀ (fu : Nat) (n : Int32), f_X2_bowsInText_L4 (fu + 3) (nI len) ch n (nI i) = f_X2_bowsInText_L4 fu (nI len) ch (n + 1) (nI (i + 3)) := fun fu n => by
          rw [show fu + 3 = fu + 1 + 2 from rfl, b2, pu_btS hl ht h6, if_neg (by rw [h7]; decide)]
        by_cases hp : i + 3 < len ∧ (48 : Int32).toInt ≤ (te (i + 3)).toInt ∧ (te (i + 3)).toInt ≤ (57 : Int32).toInt
        · obtain ⟨h8, h9, h10⟩ := hp
          have n4 : ¬ (te (i + 3) = 108 ∨ te (i + 3) = 114) := by
            rintro (z | z)
            · rw [z] at h10; exact absurd h10 (by decide)
            · rw [z] at h10; exact absurd h10 (by decide)
          refine Or.inr ⟨i + 4, 4, _, _, by omega, by omega, pu_rbR3 hl h0 (hk h0) h1 h2 h5 h3 h6 h7 h8 h9 h10, fun j hj => ⟨(hSlt1 j hj).1, by rw [pk_un (by omega)]; exact (hSlt1 j hj).2⟩, Or.inl rfl, fun fu => ?_, fun fu n => ?_, fun fu b nu pa => ?_⟩
          · rw [show fu + (i + 4 - i) = fu + 1 + 3 by omega, f3, pu_ffS hl ht h8 pu_pb3, if_pos (show (48 : Int32).toInt ≤ (te (i + 3)).toInt ∧ (te (i + 3)).toInt ≤ (57 : Int32).toInt from ⟨h9, h10⟩), if_neg (by decide)]
          · rw [show fu + (i + 4 - i) = fu + 1 + 3 by omega, b3, pu_btS hl ht h8, if_neg n4]
          · rw [vS, pk_us]
            exact pu_abR3 hl ht h0 h5 h3 h6 h7 h8 fu b nu pa
        · refine Or.inl ⟨i + 3, _, _, by omega, pu_rbR2 hl h0 (hk h0) h1 h2 h5 h3 h6 h7 hp, hSlt1, fun fu => ?_⟩
          rw [show fu + 5 = fu + 1 + 1 + 3 from rfl, f3]
          by_cases h8 : i + 3 < len
          · rw [pu_ffS hl ht h8 pu_pb3, if_neg (show ¬ ((48 : Int32).toInt ≤ (te (i + 3)).toInt ∧ (te (i + 3)).toInt ≤ (57 : Int32).toInt) from fun z => hp ⟨h8, z⟩), if_pos rfl]
          · rw [show i + 3 = len by omega, pu_ffE hl (by decide) (by decide)]
      · refine Or.inr ⟨i + 2, 2, _, _, by omega, by omega, pu_rbR1 hl h0 (hk h0) h1 h2 h5 h3 hdot, hSlt1, Or.inr ⟨rfl, hdot⟩, fun fu => ?_, fun fu n => ?_, fun fu b nu pa => ?_⟩
        · rw [show fu + (i + 2 - i) = fu + 2 by omega, f2]
        · rw [show fu + (i + 2 - i) = fu + 2 by omega, b2]
        · rw [vS, pk_us]
          exact pu_abR1 hl ht h0 h5 h3 hdot fu b nu pa
    by_cases hcL : i + 1 < len ∧ te (i + 1) = 108
    · obtain ⟨h5, h3⟩ := hcL
      have f2 : ∀ fu, f_X2_firstFault_L4 (fu + 2) (nI len) ch σ (nI i) = f_X2_firstFault_L4 fu (nI len) ch 2 (nI (i + 2)) := fun fu => by
        rw [show fu + 2 = fu + 1 + 1 from rfl, f1, pu_ffS hl ht h5 pu_pb1, if_pos (Or.inl h3), if_neg (by decide)]
      have b2 : ∀ (fu : Nat) (n : Int32), f_X2_bowsInText_L4 (fu + 2) (nI len) ch n (nI i) = f_X2_bowsInText_L4 fu (nI len) ch (n + 1) (nI (i + 2)) := fun fu n => by
        rw [show fu + 2 = fu + 1 + 1 from rfl, b1, pu_btS hl ht h5, if_pos (Or.inl h3)]
      have vS : (upd signs κ (2 * (te i - 49))) κ = (2 * (te i - 49)) := by rw [pk_us]
      by_cases hdot : i + 2 < len ∧ te (i + 2) = 46
      · obtain ⟨h6, h7⟩ := hdot
        have f3 : ∀ fu, f_X2_firstFault_L4 (fu + 3) (nI len) ch σ (nI i) = f_X2_firstFault_L4 fu (nI len) ch 3 (nI (i + 3)) := fun fu => by
          rw [show fu + 3 = fu + 1 + 2 from rfl, f2, pu_ffS hl ht h6 (by rw [h7]; exact pu_pb2), if_neg (by decide)]
        have b3 : ∀ (fu : Nat) (n : Int32), f_X2_bowsInText_L4 (fu + 3) (nI len) ch n (nI i) = f_X2_bowsInText_L4 fu (nI len) ch (n + 1) (nI (i + 3)) := fun fu n => by
          rw [show fu + 3 = fu + 1 + 2 from rfl, b2, pu_btS hl ht h6, if_neg (by rw [h7]; decide)]
        by_cases hp : i + 3 < len ∧ (48 : Int32).toInt ≤ (te (i + 3)).toInt ∧ (te (i + 3)).toInt ≤ (57 : Int32).toInt
        · obtain ⟨h8, h9, h10⟩ := hp
          have n4 : ¬ (te (i + 3) = 108 ∨ te (i + 3) = 114) := by
            rintro (z | z)
            · rw [z] at h10; exact absurd h10 (by decide)
            · rw [z] at h10; exact absurd h10 (by decide)
          refine Or.inr ⟨i + 4, 4, _, _, by omega, by omega, pu_rbL3 hl h0 (hk h0) h1 h2 h5 h3 h6 h7 h8 h9 h10, fun j hj => ⟨(hSlt j hj).1, by rw [pk_un (by omega)]; exact (hSlt j hj).2⟩, Or.inl rfl, fun fu => ?_, fun fu n => ?_, fun fu b nu pa => ?_⟩
          · rw [show fu + (i + 4 - i) = fu + 1 + 3 by omega, f3, pu_ffS hl ht h8 pu_pb3, if_pos (show (48 : Int32).toInt ≤ (te (i + 3)).toInt ∧ (te (i + 3)).toInt ≤ (57 : Int32).toInt from ⟨h9, h10⟩), if_neg (by decide)]
          · rw [show fu + (i + 4 - i) = fu + 1 + 3 by omega, b3, pu_btS hl ht h8, if_neg n4]
          · rw [vS, pk_us]
            exact pu_abL3 hl ht h0 h5 h3 h6 h7 h8 fu b nu pa
        · refine Or.inl ⟨i + 3, _, _, by omega, pu_rbL2 hl h0 (hk h0) h1 h2 h5 h3 h6 h7 hp, hSlt, fun fu => ?_⟩
          rw [show fu + 5 = fu + 1 + 1 + 3 from rfl, f3]
          by_cases h8 : i + 3 < len
          · rw [pu_ffS hl ht h8 pu_pb3, if_neg (show ¬ ((48 : Int32).toInt ≤ (te (i + 3)).toInt ∧ (te (i + 3)).toInt ≤ (57 : Int32).toInt) from fun z => hp ⟨h8, z⟩), if_pos rfl]
          · rw [show i + 3 = len by omega, pu_ffE hl (by decide) (by decide)]
      · refine Or.inr ⟨i + 2, 2, _, _, by omega, by omega, pu_rbL1 hl h0 (hk h0) h1 h2 h5 h3 hdot, hSlt, Or.inr ⟨rfl, hdot⟩, fun fu => ?_, fun fu n => ?_, fun fu b nu pa => ?_⟩
        · rw [show fu + (i + 2 - i) = fu + 2 by omega, f2]
        · rw [show fu + (i + 2 - i) = fu + 2 by omega, b2]
        · rw [vS, pk_us]
          exact pu_abL1 hl ht h0 h5 h3 hdot fu b nu pa
    refine Or.inl ⟨i + 1, _, _, by omega, pu_rbF hl h0 (hk h0) h1 h2 hcR hcL, hSlt, fun fu => ?_⟩
    rw [show fu + 5 = fu + 3 + 1 + 1 from rfl, f1]
    by_cases h5 : i + 1 < len
    · rw [pu_ffS hl ht h5 pu_pb1, if_neg (show ¬ (te (i + 1) = 108 ∨ te (i + 1) = 114) from fun z => z.elim (fun y => hcL ⟨h5, y⟩) (fun y => hcR ⟨h5, y⟩)), if_pos rfl]
    · rw [show i + 1 = len by omega, pu_ffE hl (by decide) (by decide)]
  · refine Or.inl ⟨i, _, _, hi, pu_rb0 hl (by omega) hd, fun j _ => ⟨rfl, rfl⟩, fun fu => ?_⟩
    by_cases h0 : i < len
    · have hpA : f_X2_placeBehind σ (te i) = some 5 := by
        rw [pu_pbA (by rcases hσ with h | ⟨_, h | h⟩; exact Or.inl h; exact Or.inr (Or.inl h); exact Or.inr (Or.inr h)), if_neg (fun z => hd ⟨h0, z⟩)]
      rw [show fu + 5 = fu + 4 + 1 from rfl, pu_ffS hl ht h0 hpA, if_pos rfl]
    · have e0 : σ = 0 := by
        rcases hσ with h | ⟨h, _⟩
        · exact h
        · exact absurd h h0
      rw [e0, show i = len by omega, show fu + 5 = fu + 4 + 1 from rfl, pu_ffE hl (by decide) (by decide)]
