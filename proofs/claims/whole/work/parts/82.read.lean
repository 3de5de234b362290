/-! PURE: fault, read -/
theorem pu_noFault {t : Nat} (h : t ≤ 60) : ¬ nI t = -1000006 := fun z => by
  have e : (nI t).toInt = (-1000006 : Int32).toInt := by rw [z]
  rw [nI_toInt (by omega), show (-1000006 : Int32).toInt = -1000006 from rfl] at e
  omega
theorem pu_parse {len : Nat} {ch te : Nat → Int32} (hl : len ≤ 60) (ht : ∀ j, j < len → ch j = te j ∧ 33 ≤ (te j).toInt ∧ (te j).toInt ≤ 126) :
    ∀ (d i κ fu fu' : Nat) (σ : Int32) (signs pauses : Nat → Int32), len - i ≤ d → i ≤ len → 2 * κ ≤ i → d + 5 ≤ fu → d + 2 ≤ fu' → (σ = 0 ∨ (i < len ∧ (σ = 4 ∨ (σ = 2 ∧ te i ≠ 46)))) →
      ∃ (R spot' κ' : Int32) (S P : Nat → Int32), f_X2_firstFault_L4 fu (nI len) ch σ (nI i) = some R ∧ f_X5_fault_L12 fu' (nI len) (nI i) (nI κ) te signs pauses 1 = some (R, spot', κ', S, P) ∧ (∀ j, j < κ → S j = signs j ∧ P j = pauses j) ∧
        (R = -1000006 → ∃ e : Nat, κ' = nI (κ + e) ∧ κ + e ≤ 30 ∧ (∀ (fu2 : Nat) (n : Int32), d + 1 ≤ fu2 → f_X2_bowsInText_L4 fu2 (nI len) ch n (nI i) = some (n + nI e)) ∧
          ∀ (fu3 nb : Nat) (nu pa : Nat → Int32), d + 1 ≤ fu3 → nb + e ≤ 24 → ∃ nu' pa' : Nat → Int32, f_X2_addBowsTo_L2 fu3 (nI len) ch (nI nb) nu pa (nI i) = some (nI (nb + e), nu', pa') ∧ (∀ j, j < nb → nu' j = nu j ∧ pa' j = pa j) ∧ ∀ j, j < e → nu' (nb + j) = S (κ + j) ∧ pa' (nb + j) = P (κ + j)) := by
  intro d
  induction d using Nat.strongRecOn with
  | ind d ih =>
    intro i κ fu fu' σ signs pauses h1 h2 h3 h4 h5 hσ
    obtain ⟨fu, rfl⟩ : ∃ u, fu = u + 5 := ⟨fu - 5, by omega⟩
    obtain ⟨fu', rfl⟩ : ∃ u, fu' = u + 1 := ⟨fu' - 1, by omega⟩
    rw [f_X5_fault_L12, if_neg pu_one0]
    rcases pu_bow1 (κ := κ) hl ht h2 (fun q => by omega) hσ signs pauses with ⟨t, S, P, a1, a2, a3, a4⟩ | ⟨i', σ', S, P, a1, a2, a3, a4, a5, a6, a7, a8⟩
    · rw [a2, Option.bind_some, if_pos rfl]
      exact ⟨nI t, _, _, S, P, a4 fu, rfl, a3, fun z => absurd z (pu_noFault (by omega))⟩
    · rw [a3, Option.bind_some, if_neg pu_one0]
      by_cases he : i' = len
      · subst he
        have hle : nI i' ≤ nI i' := (pu_le (by omega) (by omega)).mpr (Nat.le_refl _)
        obtain ⟨fu', rfl⟩ : ∃ u, fu' = u + 1 := ⟨fu' - 1, by omega⟩
        obtain ⟨w, hw⟩ : ∃ w, fu + 5 = w + 1 + (i' - i) := ⟨fu + 5 - 1 - (i' - i), by omega⟩
        have hσ2 : f_X2_firstFault_L4 (w + 1) (nI i') ch σ' (nI i') = some (-1000006) := by
          rw [f_X2_firstFault_L4, if_pos hle]
          rcases a5 with z | ⟨z, _⟩
          · rw [z, if_neg (by decide), if_pos rfl]
          · rw [z, if_pos rfl]
        refine ⟨-1000006, nI i', nI (κ + 1), S, P, ?_, ?_, a4, fun _ => ⟨1, rfl, by omega, fun fu2 n q => ?_, fun fu3 nb nu pa q q2 => ?_⟩⟩
        · rw [hw, a6, hσ2]
        · rw [if_pos hle, f_X5_fault_L12, if_pos rfl]
        · obtain ⟨w2, hw2⟩ : ∃ w2, fu2 = w2 + 1 + (i' - i) := ⟨fu2 - 1 - (i' - i), by omega⟩
          rw [hw2, a7, f_X2_bowsInText_L4, if_pos hle]
          rfl
        · obtain ⟨w3, rfl⟩ : ∃ w3, fu3 = w3 + 1 + 1 := ⟨fu3 - 2, by omega⟩
          rw [a8, pu_addBow (show nb < 24 by omega), Option.bind_some, f_X2_addBowsTo_L2, if_pos hle]
          refine ⟨_, _, rfl, fun j hj => ⟨pk_un (by omega), pk_un (by omega)⟩, fun j hj => ?_⟩
          obtain rfl : j = 0 := by omega
          exact ⟨pk_us, pk_us⟩
      · have hlt : i' < len := by omega
        have hle : ¬ nI len ≤ nI i' := fun z => absurd ((pu_le (by omega) (by omega)).mp z) (by omega)
        have hσ2 : σ' = 0 ∨ (i' < len ∧ (σ' = 4 ∨ (σ' = 2 ∧ te i' ≠ 46))) := by
          refine Or.inr ⟨hlt, ?_⟩
          rcases a5 with z | ⟨z, z2⟩
          · exact Or.inl z
          · exact Or.inr ⟨z, fun y => z2 ⟨hlt, y⟩⟩
        obtain ⟨w, hw⟩ : ∃ w, fu + 5 = w + (i' - i) := ⟨fu + 5 - (i' - i), by omega⟩
        obtain ⟨R, spot', κ', S', P', b1, b2, b3, b4⟩ := ih (len - i') (by omega) i' (κ + 1) w fu' σ' S P (Nat.le_refl _) a2 (by omega) (by omega) (by omega) hσ2
        refine ⟨R, spot', κ', S', P', ?_, ?_, fun j hj => ⟨((b3 j (by omega)).1).trans (a4 j hj).1, ((b3 j (by omega)).2).trans (a4 j hj).2⟩, fun z => ?_⟩
        · rw [hw, a6, b1]
        · rw [if_neg hle]
          exact b2
        · obtain ⟨e, c1, c2, c3, c4⟩ := b4 z
          refine ⟨e + 1, by rw [c1]; exact congrArg nI (by omega), by omega, fun fu2 n q => ?_, fun fu3 nb nu pa q q2 => ?_⟩
          · obtain ⟨w2, hw2⟩ : ∃ w2, fu2 = w2 + (i' - i) := ⟨fu2 - (i' - i), by omega⟩
            rw [hw2, a7, c3 w2 (n + 1) (by omega), Int32.add_assoc, show (1 : Int32) + nI e = nI (1 + e) from pu_add 1 e, Nat.add_comm 1 e]
          · obtain ⟨w3, rfl⟩ : ∃ w3, fu3 = w3 + 1 := ⟨fu3 - 1, by omega⟩
            rw [a8, pu_addBow (show nb < 24 by omega), Option.bind_some]
            obtain ⟨nu', pa', g1, g2, g3⟩ := c4 w3 (nb + 1) (upd nu nb (S κ)) (upd pa nb (P κ)) (by omega) (by omega)
            refine ⟨nu', pa', ?_, fun j hj => ?_, fun j hj => ?_⟩
            · rw [show nb + (e + 1) = nb + 1 + e by omega]
              exact g1
            · obtain ⟨y1, y2⟩ := g2 j (by omega)
              rw [pk_un (by omega)] at y1 y2
              exact ⟨y1, y2⟩
            · rcases Nat.eq_zero_or_pos j with hz | hz
              · subst hz
                obtain ⟨y1, y2⟩ := g2 nb (by omega)
                rw [pk_us] at y1 y2
                obtain ⟨x1, x2⟩ := b3 κ (by omega)
                exact ⟨y1.trans x1.symm, y2.trans x2.symm⟩
              · obtain ⟨y1, y2⟩ := g3 (j - 1) (by omega)
                rw [show nb + 1 + (j - 1) = nb + j by omega, show κ + 1 + (j - 1) = κ + j by omega] at y1 y2
                exact ⟨y1, y2⟩
theorem ok_fault : bwO bwRel (fun x => x_fault x) (fun m => m_fault m) := by
  intro x m ⟨hc, hp, hs, hh⟩
  simp only [x_fault, m_fault]
  obtain ⟨len, b1, b2, b3, b4⟩ := id hp
  obtain ⟨R, spot', κ', S, P, e1, e2, -, -⟩ := pu_parse b1 b4 len 0 0 bw_F bw_F 0 m.2.2.2.2.2.2.2.2.2.2.2.2.2.2.2.1 m.2.2.2.2.2.2.2.2.2.2.2.2.2.2.2.2 (by omega) (Nat.zero_le _) (by omega) (by rw [pu_F]; omega) (by rw [pu_F]; omega) (Or.inl rfl)
  rw [nI_0, ← b2] at e1
  rw [nI_0, ← b3] at e2
  unfold f_X5_fault f_X4_fault f_X2_firstFault
  rw [e1, e2]
  simp only [Option.bind_some]
  exact bwO_fin rfl ⟨hc, hp, hs, hh⟩
theorem pu_readL {te hist : Nat → Int32} {hl tl spot : Int32} {S P : Nat → Int32} {e nb : Nat} (he : nb + e ≤ 24) :
    ∀ (d k fu : Nat) (c : bwCt) (v : Nat → Int32), d + k = e → d < fu → bwCR c v → c.1 = nI (nb + k) →
      ∃ (v' nu pa : Nat → Int32), f_X5_read_L37 fu hl tl spot (nI e) v hist te S P (nI k) = some (nI (nb + e), hl, 0, spot, nI e, v', hist, S, P) ∧ bwCR (nI (nb + e), c.2.1, c.2.2.1, c.2.2.2.1, c.2.2.2.2.1, c.2.2.2.2.2.1, nu, pa) v' ∧
        (∀ j, j < nb + k → nu j = c.2.2.2.2.2.2.1 j ∧ pa j = c.2.2.2.2.2.2.2 j) ∧ ∀ j, k ≤ j → j < e → nu (nb + j) = S j ∧ pa (nb + j) = P j := by
  intro d
  induction d with
  | zero =>
    intro k fu c v h1 h2 hc hb
    obtain ⟨fu, rfl⟩ : ∃ u, fu = u + 1 := ⟨fu - 1, by omega⟩
    obtain rfl : k = e := by omega
    have h3 : v (Int32.toNatClampNeg 3) = nI (nb + k) := hc.1.trans hb
    rw [f_X5_read_L37, if_pos ((pu_le (by omega) (by omega)).mpr (Nat.le_refl _)), if_pos (show bw_in 3 120 by decide), h3]
    rw [← hb]
    exact ⟨v, _, _, rfl, hc, fun j _ => ⟨rfl, rfl⟩, fun j q1 q2 => by omega⟩
  | succ d ih =>
    intro k fu c v h1 h2 hc hb
    obtain ⟨fu, rfl⟩ : ∃ u, fu = u + 1 := ⟨fu - 1, by omega⟩
    have h3 : v 3 = nI (nb + k) := hc.1.trans hb
    have b30 := pu_in (show k < 30 by omega) (show 30 ≤ 1000 by omega)
    rw [f_X5_read_L37, if_neg (fun z => absurd ((pu_le (by omega) (by omega)).mp z) (by omega)), if_pos b30, if_pos b30, pu_cl (by omega), pu_adds (show nb + k < 24 by omega) h3, Option.bind_some, pu_1]
    obtain ⟨v', nu, pa, a1, a2, a3, a4⟩ := ih (k + 1) fu _ _ (by omega) (by omega) (pu_CRadd hc (show nb + k < 24 by omega) hb (S k) (P k)) rfl
    refine ⟨v', nu, pa, a1, a2, fun j hj => ?_, fun j q1 q2 => ?_⟩
    · obtain ⟨y1, y2⟩ := a3 j (by omega)
      exact ⟨y1.trans (pk_un (by omega)), y2.trans (pk_un (by omega))⟩
    · rcases Nat.lt_or_ge k j with q3 | q3
      · exact a4 j q3 q2
      · obtain rfl : j = k := by omega
        obtain ⟨y1, y2⟩ := a3 (nb + j) (by omega)
        exact ⟨y1.trans pk_us, y2.trans pk_us⟩
theorem pu_CRnum {c : bwCt} {v : Nat → Int32} {n : Nat} (hn : n ≤ 24) (hb : c.1 = nI n) (h : bwCR c v) {nu pa : Nat → Int32} (hq : ∀ j, j < n → nu j = c.2.2.2.2.2.2.1 j ∧ pa j = c.2.2.2.2.2.2.2 j) : bwCR (c.1, c.2.1, c.2.2.1, c.2.2.2.1, c.2.2.2.2.1, c.2.2.2.2.2.1, nu, pa) v := by
  obtain ⟨h1, h2, h3, h4, h5, h6, nb, h7, h8, h9⟩ := h
  have e : nb = n := (pu_eq (by omega) (by omega)).mp (h8.symm.trans hb)
  subst e
  exact ⟨h1, h2, h3, h4, h5, h6, nb, h7, h8, fun j hj => ⟨(h9 j hj).1.trans (hq j hj).1.symm, (h9 j hj).2.trans (hq j hj).2.symm⟩⟩
theorem pu_readMx {hl tl spot read R s1 k1 : Int32} {v hist te si pz S P : Nat → Int32} (h : f_X5_fault tl spot read te si pz = some (R, s1, k1, S, P)) (hR : ¬ R = -1000006) :
    f_X5_read hl tl spot read v hist te si pz = some (-1000003, hl, tl, s1, k1, v, hist, S, P) := by
  unfold f_X5_read
  rw [h, Option.bind_some, if_neg hR]
theorem pu_readM0 {hl tl spot read s1 k1 : Int32} {v hist te si pz S P : Nat → Int32} (h : f_X5_fault tl spot read te si pz = some (-1000006, s1, k1, S, P)) (hq : ¬ v 3 + k1 ≤ 24) :
    f_X5_read hl tl spot read v hist te si pz = some (-1000004, hl, tl, s1, k1, v, hist, S, P) := by
  unfold f_X5_read
  rw [h, Option.bind_some, if_pos rfl, if_pos (show bw_in 3 120 by decide)]
  exact if_neg hq
theorem pu_readM1 {hl tl spot read s1 k1 hl' : Int32} {v hist te si pz S P hist' : Nat → Int32} (h : f_X5_fault tl spot read te si pz = some (-1000006, s1, k1, S, P)) (hq : v 3 + k1 ≤ 24) (e : f_X5_changes hl v hist = some (hl', hist')) :
    f_X5_read hl tl spot read v hist te si pz = f_X5_read_L37 bw_F hl' tl s1 k1 v hist' te S P 0 := by
  unfold f_X5_read
  rw [h, Option.bind_some, if_pos rfl, if_pos (show bw_in 3 120 by decide)]
  refine (if_pos hq).trans ?_
  rw [e, Option.bind_some]
theorem pu_readCx {c : bwCt} {len R : Int32} {ch : Nat → Int32} {hs : bwH} (h : f_X2_firstFault len ch = some R) (hR : ¬ R = -1000006) :
    f_X4_read c.1 c.2.1 c.2.2.1 c.2.2.2.1 c.2.2.2.2.1 c.2.2.2.2.2.1 c.2.2.2.2.2.2.1 c.2.2.2.2.2.2.2 len ch hs = some (-1000003, c.1, c.2.2.2.2.2.2.1, c.2.2.2.2.2.2.2, len, hs) := by
  unfold f_X4_read
  rw [h, Option.bind_some, if_neg hR]
theorem pu_readC0 {c : bwCt} {len n : Int32} {ch : Nat → Int32} {hs : bwH} (h : f_X2_firstFault len ch = some (-1000006)) (h2 : f_X2_bowsInText len ch = some n) (hq : ¬ c.1 + n ≤ 24) :
    f_X4_read c.1 c.2.1 c.2.2.1 c.2.2.2.1 c.2.2.2.2.1 c.2.2.2.2.2.1 c.2.2.2.2.2.2.1 c.2.2.2.2.2.2.2 len ch hs = some (-1000004, c.1, c.2.2.2.2.2.2.1, c.2.2.2.2.2.2.2, len, hs) := by
  unfold f_X4_read
  rw [h, Option.bind_some, if_pos rfl, h2, Option.bind_some, if_neg hq]
theorem pu_readC1 {c : bwCt} {len n b : Int32} {ch nu pa : Nat → Int32} {hs hs' : bwH} (h : f_X2_firstFault len ch = some (-1000006)) (h2 : f_X2_bowsInText len ch = some n) (hq : c.1 + n ≤ 24) (e : f_remC c hs = some hs') (a : f_X2_addBowsTo len ch c.1 c.2.2.2.2.2.2.1 c.2.2.2.2.2.2.2 = some (b, nu, pa)) :
    f_X4_read c.1 c.2.1 c.2.2.1 c.2.2.2.1 c.2.2.2.2.1 c.2.2.2.2.2.1 c.2.2.2.2.2.2.1 c.2.2.2.2.2.2.2 len ch hs = some (b, b, nu, pa, 0, hs') := by
  unfold f_remC at e
  unfold f_X4_read
  rw [h, Option.bind_some, if_pos rfl, h2, Option.bind_some, if_pos hq, e, Option.bind_some, a, Option.bind_some]
theorem ok_read : bwO bwRel (fun x => x_read x) (fun m => m_read m) := by
  intro x m ⟨hc, hp, hs, hh⟩
  simp only [x_read, m_read]
  obtain ⟨len, b1, b2, b3, b4⟩ := id hp
  obtain ⟨R, spot', κ', S, P, e1, e2, -, e4⟩ := pu_parse b1 b4 len 0 0 bw_F bw_F 0 m.2.2.2.2.2.2.2.2.2.2.2.2.2.2.2.1 m.2.2.2.2.2.2.2.2.2.2.2.2.2.2.2.2 (by omega) (Nat.zero_le _) (by omega) (by rw [pu_F]; omega) (by rw [pu_F]; omega) (Or.inl rfl)
  rw [nI_0, ← b2] at e1
  rw [nI_0, ← b3] at e2
  have k1 : f_X2_firstFault x.2.1.1 x.2.1.2 = some R := e1
  have k2 : f_X5_fault m.2.2.2.1 m.2.2.2.2.1 m.2.2.2.2.2.1 m.2.2.2.2.2.2.2.2.2.2.2.2.2.2.1 m.2.2.2.2.2.2.2.2.2.2.2.2.2.2.2.1 m.2.2.2.2.2.2.2.2.2.2.2.2.2.2.2.2 = some (R, spot', κ', S, P) := e2
  by_cases hR : R = -1000006
  · obtain ⟨e, c1, c2, c3, c4⟩ := e4 hR
    subst hR
    rw [Nat.zero_add] at c1 c2
    obtain ⟨nb, hn, hb⟩ : ∃ nb : Nat, nb ≤ 24 ∧ x.1.1 = nI nb := by
      obtain ⟨-, -, -, -, -, -, nb, q1, q2, -⟩ := id hc
      exact ⟨nb, q1, q2⟩
    have h3 : m.2.2.2.2.2.2.1 3 = nI nb := hc.1.trans hb
    have k3 : f_X2_bowsInText x.2.1.1 x.2.1.2 = some (nI e) := by
      have z := c3 bw_F 0 (by rw [pu_F]; omega)
      rw [nI_0, ← b2, Int32.zero_add] at z
      exact z
    have kk : nI nb + nI e ≤ 24 ↔ nb + e ≤ 24 := by rw [pu_add]; exact pu_le (b := 24) (by omega) (by omega)
    by_cases hq : nb + e ≤ 24
    · obtain ⟨hs', hl', hist', f1, f2, f3⟩ := pu_remember hc hh
      obtain ⟨nu', pa', g1, g2, g3⟩ := c4 bw_F nb x.1.2.2.2.2.2.2.1 x.1.2.2.2.2.2.2.2 (by rw [pu_F]; omega) hq
      rw [nI_0, ← b2, ← hb] at g1
      have k4 : f_X2_addBowsTo x.2.1.1 x.2.1.2 x.1.1 x.1.2.2.2.2.2.2.1 x.1.2.2.2.2.2.2.2 = some (nI (nb + e), nu', pa') := g1
      obtain ⟨v', nu, pa, r1, r2, r3, r4⟩ := pu_readL (te := m.2.2.2.2.2.2.2.2.2.2.2.2.2.2.1) (hist := hist') (hl := hl') (tl := m.2.2.2.1) (spot := spot') (S := S) (P := P) hq e 0 bw_F x.1 m.2.2.2.2.2.2.1 (by omega) (by rw [pu_F]; omega) hc hb
      rw [nI_0, ← c1] at r1
      rw [pu_readM1 k2 (by rw [h3, c1]; exact kk.mpr hq) f2, r1, pu_readC1 k1 k3 (by rw [hb]; exact kk.mpr hq) f1 k4]
      simp only [Option.bind_some]
      refine bwO_fin rfl ⟨?_, ⟨0, by omega, rfl, rfl, fun j hj => absurd hj (Nat.not_lt_zero j)⟩, hs, f3⟩
      refine pu_CRnum (n := nb + e) hq rfl r2 (fun j hj => ?_)
      rcases Nat.lt_or_ge j nb with q | q
      · obtain ⟨y1, y2⟩ := g2 j q
        obtain ⟨y3, y4⟩ := r3 j (by omega)
        exact ⟨y1.trans y3.symm, y2.trans y4.symm⟩
      · obtain ⟨y1, y2⟩ := g3 (j - nb) (by omega)
        obtain ⟨y3, y4⟩ := r4 (j - nb) (Nat.zero_le _) (by omega)
        rw [show nb + (j - nb) = j by omega, Nat.zero_add] at y1 y2
        rw [show nb + (j - nb) = j by omega] at y3 y4
        exact ⟨y1.trans y3.symm, y2.trans y4.symm⟩
    · rw [pu_readM0 k2 (by rw [h3, c1]; exact fun z => hq (kk.mp z)), pu_readC0 k1 k3 (by rw [hb]; exact fun z => hq (kk.mp z))]
      simp only [Option.bind_some]
      exact bwO_fin rfl ⟨hc, hp, hs, hh⟩
  · rw [pu_readMx k2 hR, pu_readCx k1 hR]
    simp only [Option.bind_some]
    exact bwO_fin rfl ⟨hc, hp, hs, hh⟩
