def bw_tc (ah aC aP aH aS aSe aPl aT : Nat) : Nat × va_E := (ah, .inr (4, [.ref aC, .ref aP, .ref aH, .ref aS, .ref aSe, .ref aPl, .ref aT]))
def f_saveC (c : bwCt) (f : Nat → Option bwCt) (p0 : Int32) : Option (Int32 × (Nat → Option bwCt)) := (f_X4_isSlot p0).bind fun q => if q = 0 then some (-1000002, f) else if bw_in p0 2 then (bw_bec ((f (Int32.toNatClampNeg p0)).getD bw_c0) c).bind fun r => some (c.1, va_up f (Int32.toNatClampNeg p0) (some r)) else none
def f_restoreC (c : bwCt) (f : Nat → Option bwCt) (hs : bwH) (p0 : Int32) : Option (Int32 × bwCt × bwH) := (f_X4_isSlot p0).bind fun q => if q = 0 then some (-1000002, c, hs) else if bw_in p0 2 then
    (match f (Int32.toNatClampNeg p0) with
    | none => some (-1000005, c, hs)
    | some d => (f_remC c hs).bind fun h1 => (bw_bec c d).bind fun c1 => some (c1.1, c1, h1))
  else none
theorem ar_X4_save : yX4_save.cls ≠ "java/lang/invoke/MethodHandle" ∧ yX4_save.cls ≠ "java/lang/invoke/VarHandle" ∧ (parseMethodDescriptor yX4_save.desc).map (fun d => d.parameters.length) = some 1 := ⟨by decide, by decide, by decide +kernel⟩
set_option maxHeartbeats 4000000 in
set_option maxRecDepth 100000 in
theorem s_saveC (l : Launch) (g : bwG) (ah aP aH aS aSe aPl aT : Nat) (a : Nat → Nat) (td : bwHA) (c : bwCt) (f : Nat → Option bwCt) (p0 : Int32) (res : Int32 × (Nat → Option bwCt)) (hf : f_saveC c f p0 = some res) : bwS l g yX4_save cX4_save 2 (some .int) ({ frames := 3, cells := 6, slots := 101, locals := 65 } : Room) [.ref ah, .int p0] (bw_tc ah (a 0) aP aH aS aSe aPl aT :: (bw_cw g a c ++ bw_sw g aS td f)) (fun r w => r = some (.int res.1) ∧ ∃ td1 : bwHA, w = bw_tc ah (a 0) aP aH aS aSe aPl aT :: (bw_cw g a c ++ bw_sw g aS td1 res.2)) := by
  refine bwS_of (by decide) (Nat.le_of_ble_eq_true rfl) ?_
  unfold f_saveC at hf
  show bwR l g cX4_save 2 RX4 "save" (some .int) ({ frames := 3, cells := 6, slots := 101, locals := 65 } : Room) bwT (bwZ g (fun r w => r = some (.int res.1) ∧ ∃ td1 : bwHA, w = bw_tc ah (a 0) aP aH aS aSe aPl aT :: (bw_cw g a c ++ bw_sw g aS td1 res.2)) 6 101) 0 [(0, .ref ah), (1, .int p0)] [] (bw_tc ah (a 0) aP aH aS aSe aPl aT :: (bw_cw g a c ++ bw_sw g aS td f)) 0 0
  obtain ⟨q, hb, hf⟩ := bw_bind hf
  refine bw_iload_n 1 dX4_save_0 rfl rfl ?_
  refine bw_callS [.int p0] [] (bw_tc ah (a 0) aP aH aS aSe aPl aT :: (bw_cw g a c ++ bw_sw g aS td f)) (wc := []) (s_X4_isSlot l g p0 q hb) rfl co_X4_isSlot ini_X4 ml_X4_192 st_X4_isSlot ar_X4_isSlot ⟨Nat.le_of_ble_eq_true rfl, Nat.le_of_ble_eq_true rfl⟩ ⟨Nat.le_of_ble_eq_true rfl, Nat.le_of_ble_eq_true rfl⟩ (List.Perm.refl _) (Nat.le_of_ble_eq_true rfl) dX4_save_1 (fun r w1 hq => ?_)
  obtain ⟨rfl, rfl⟩ := hq
  refine bw_ws (List.append_nil _) ?_
  refine bw_st (st1 := [.int q]) rfl ?_
  refine bw_if_ne 10 dX4_save_4 (by decide) (fun c_1 => ?_) (fun c_1 => ?_)
  · have hf := bw_neg c_1 hf
    obtain ⟨hin, hf⟩ := bw_chk hf
    have hk := bw_inlt hin
    obtain ⟨q, hb, hf⟩ := bw_bind hf
    refine bw_aload_n 0 dX4_save_10 rfl rfl ?_
    refine bw_gf bkX4 0 3 (by decide) fl_X4_30 rfl rfl dX4_save_11 ?_
    refine bw_iload_n 1 dX4_save_14 rfl rfl ?_
    refine bw_aload_n 0 dX4_save_15 rfl rfl ?_
    refine bw_gf bkX4 0 0 (by decide) fl_X4_10 rfl rfl dX4_save_16 ?_
    refine bw_aload_n 0 dX4_save_19 rfl rfl ?_
    refine bw_gf bkX4 0 3 (by decide) fl_X4_30 rfl rfl dX4_save_20 ?_
    refine bw_iload_n 1 dX4_save_23 rfl rfl ?_
    refine bw_aald 7 rfl hin dX4_save_24 ?_
    have key : ∀ (b : Nat → Nat), bwR l g cX4_save 2 RX4 "save" (some .int) ({ frames := 3, cells := 6, slots := 101, locals := 65 } : Room) bwT (bwZ g (fun r w => r = some (.int res.1) ∧ ∃ td1 : bwHA, w = bw_tc ah (a 0) aP aH aS aSe aPl aT :: (bw_cw g a c ++ bw_sw g aS td1 res.2)) 6 101) 28 [(0, .ref ah), (1, .int p0)] [.ref (b 0), .int p0, .ref aS] ([bw_tc ah (a 0) aP aH aS aSe aPl aT, (aS, .inl (g.2.2.2, 2, .inr (.inr (.inr (.inr (bw_sf td f))))))] ++ (bw_rx g p0.toNatClampNeg td f 2 ++ (bw_cw g a c ++ bw_cw g b q))) 6 101 := by
      intro b
      refine bw_perm (ws1 := [bw_tc ah (a 0) aP aH aS aSe aPl aT, (aS, .inl (g.2.2.2, 2, .inr (.inr (.inr (.inr (bw_sf td f))))))] ++ (bw_cw g b q ++ (bw_cw g a c ++ bw_rx g p0.toNatClampNeg td f 2))) (List.Perm.append_left _ (bw_blk [bw_cw g b q, bw_cw g a c, bw_rx g p0.toNatClampNeg td f 2] [bw_rx g p0.toNatClampNeg td f 2, bw_cw g a c, bw_cw g b q] (bw_pick1 3 [2, 1, 0] rfl rfl (by decide)) (by simp only [List.flatten_cons, List.flatten_nil, List.append_nil]) (by simp only [List.flatten_cons, List.flatten_nil, List.append_nil]))) ?_
      refine bw_aast 1 2 (bw_tc ah (a 0) aP aH aS aSe aPl aT :: (aS, .inl (g.2.2.2, 2, .inr (.inr (.inr (.inr (va_up (bw_sf td f) p0.toNatClampNeg (some (b 0)))))))) :: (bw_cw g b q ++ (bw_cw g a c ++ bw_rx g p0.toNatClampNeg td f 2))) rfl rfl hin rfl dX4_save_28 ?_
      rw [bw_up_sf td f p0.toNatClampNeg b q]
      cases Option.some.inj hf
      refine bw_perm (ws1 := bw_tc ah (a 0) aP aH aS aSe aPl aT :: (bw_cw g a c ++ bw_sw g aS (va_up td p0.toNatClampNeg b) (va_up f p0.toNatClampNeg (some q)))) ?_ ?_
      · refine List.Perm.cons _ ((List.Perm.append_left _ (List.Perm.cons _ (bw_up_rw g hk td f b q).symm)).trans ?_)
        exact bw_blk [bw_cw g a c, [(aS, .inl (g.2.2.2, 2, .inr (.inr (.inr (.inr (bw_sf (va_up td p0.toNatClampNeg b) (va_up f p0.toNatClampNeg (some q))))))))], bw_cw g b q, bw_rx g p0.toNatClampNeg td f 2] [[(aS, .inl (g.2.2.2, 2, .inr (.inr (.inr (.inr (bw_sf (va_up td p0.toNatClampNeg b) (va_up f p0.toNatClampNeg (some q))))))))], bw_cw g b q, bw_cw g a c, bw_rx g p0.toNatClampNeg td f 2] (bw_pick1 4 [2, 0, 1, 3] rfl rfl (by decide)) (by simp only [List.flatten_cons, List.flatten_nil, List.append_nil, List.cons_append, List.nil_append]) (by simp only [List.flatten_cons, List.flatten_nil, List.append_nil, List.cons_append, List.nil_append])
      refine bw_aload_n 0 dX4_save_29 rfl rfl ?_
      refine bw_gf bkX4 0 0 (by decide) fl_X4_10 rfl rfl dX4_save_30 ?_
      refine bw_gf bkX0 1 5 (by decide) fl_X4_67 rfl rfl dX4_save_33 ?_
      exact bw_ret rfl rfl (Nat.le_of_ble_eq_true rfl) (Nat.le_of_ble_eq_true rfl) dX4_save_36 ⟨rfl, va_up td p0.toNatClampNeg b, rfl⟩
    cases hfk : f p0.toNatClampNeg with
    | none =>
      rw [hfk] at hb
      refine bw_st (st1 := [.null, .ref (a 0), .int p0, .ref aS]) (by show va_rf ((f p0.toNatClampNeg).map _) :: _ = _; rw [hfk]; rfl) ?_
      refine bw_callS [.ref (a 0), .null] [.int p0, .ref aS] ([bw_tc ah (a 0) aP aH aS aSe aPl aT, (aS, .inl (g.2.2.2, 2, .inr (.inr (.inr (.inr (bw_sf td f))))))] ++ bw_rx g p0.toNatClampNeg td f 2) (s_X4_copyOf0 l g a c q hb) rfl co_X4_copyOf ini_X4 ml_X4_195 st_X4_copyOf ar_X4_copyOf ⟨Nat.le_of_ble_eq_true rfl, Nat.le_of_ble_eq_true rfl⟩ ⟨Nat.le_of_ble_eq_true rfl, Nat.le_of_ble_eq_true rfl⟩ ?_ (Nat.le_of_ble_eq_true rfl) dX4_save_25 (fun r w1 hq => ?_)
      · have h1 := bw_split g p0.toNatClampNeg td f 2 hk
        rw [hfk] at h1
        refine List.Perm.trans ?_ (List.Perm.cons _ (List.Perm.append_left _ (List.Perm.cons _ h1)))
        exact bw_blk [bw_cw g a c, [bw_tc ah (a 0) aP aH aS aSe aPl aT], [(aS, .inl (g.2.2.2, 2, .inr (.inr (.inr (.inr (bw_sf td f))))))], bw_rx g p0.toNatClampNeg td f 2] [[bw_tc ah (a 0) aP aH aS aSe aPl aT], bw_cw g a c, [(aS, .inl (g.2.2.2, 2, .inr (.inr (.inr (.inr (bw_sf td f))))))], bw_rx g p0.toNatClampNeg td f 2] (bw_pick1 4 [1, 0, 2, 3] rfl rfl (by decide)) (by simp only [List.flatten_cons, List.flatten_nil, List.append_nil, List.cons_append, List.nil_append]; rfl) (by simp only [List.flatten_cons, List.flatten_nil, List.append_nil, List.append_assoc, List.cons_append, List.nil_append])
      obtain ⟨b, rfl, rfl⟩ := hq
      refine bw_ws (List.append_assoc _ _ _) ?_
      exact key b
    | some d0 =>
      rw [hfk] at hb
      refine bw_st (st1 := [.ref (td p0.toNatClampNeg 0), .ref (a 0), .int p0, .ref aS]) (by show va_rf ((f p0.toNatClampNeg).map _) :: _ = _; rw [hfk]; rfl) ?_
      refine bw_callS [.ref (a 0), .ref (td p0.toNatClampNeg 0)] [.int p0, .ref aS] ([bw_tc ah (a 0) aP aH aS aSe aPl aT, (aS, .inl (g.2.2.2, 2, .inr (.inr (.inr (.inr (bw_sf td f))))))] ++ bw_rx g p0.toNatClampNeg td f 2) (s_X4_copyOf1 l g a (td p0.toNatClampNeg) c d0 q hb) rfl co_X4_copyOf ini_X4 ml_X4_195 st_X4_copyOf ar_X4_copyOf ⟨Nat.le_of_ble_eq_true rfl, Nat.le_of_ble_eq_true rfl⟩ ⟨Nat.le_of_ble_eq_true rfl, Nat.le_of_ble_eq_true rfl⟩ ?_ (Nat.le_of_ble_eq_true rfl) dX4_save_25 (fun r w1 hq => ?_)
      · have h1 := bw_split g p0.toNatClampNeg td f 2 hk
        rw [hfk] at h1
        refine List.Perm.trans ?_ (List.Perm.cons _ (List.Perm.append_left _ (List.Perm.cons _ h1)))
        exact bw_blk [bw_cw g a c, bw_cw g (td p0.toNatClampNeg) d0, [bw_tc ah (a 0) aP aH aS aSe aPl aT], [(aS, .inl (g.2.2.2, 2, .inr (.inr (.inr (.inr (bw_sf td f))))))], bw_rx g p0.toNatClampNeg td f 2] [[bw_tc ah (a 0) aP aH aS aSe aPl aT], bw_cw g a c, [(aS, .inl (g.2.2.2, 2, .inr (.inr (.inr (.inr (bw_sf td f))))))], bw_cw g (td p0.toNatClampNeg) d0, bw_rx g p0.toNatClampNeg td f 2] (bw_pick1 5 [1, 3, 0, 2, 4] rfl rfl (by decide)) (by simp only [List.flatten_cons, List.flatten_nil, List.append_nil, List.cons_append, List.nil_append]; rfl) (by simp only [List.flatten_cons, List.flatten_nil, List.append_nil, List.append_assoc, List.cons_append, List.nil_append])
      obtain ⟨rfl, rfl⟩ := hq
      refine bw_ws (List.append_assoc _ _ _) ?_
      exact key (td p0.toNatClampNeg)
  · have hf := bw_pos c_1 hf
    cases Option.some.inj hf
    refine bw_ldc ct_X4_47 dX4_save_7 ?_
    exact bw_ret rfl rfl (Nat.le_of_ble_eq_true rfl) (Nat.le_of_ble_eq_true rfl) dX4_save_9 ⟨rfl, td, rfl⟩
theorem ar_X4_restore : yX4_restore.cls ≠ "java/lang/invoke/MethodHandle" ∧ yX4_restore.cls ≠ "java/lang/invoke/VarHandle" ∧ (parseMethodDescriptor yX4_restore.desc).map (fun d => d.parameters.length) = some 1 := ⟨by decide, by decide, by decide +kernel⟩
set_option maxHeartbeats 4000000 in
set_option maxRecDepth 100000 in
theorem s_restoreC (l : Launch) (g : bwG) (ah aP aH aS aSe aPl aT aHs : Nat) (a : Nat → Nat) (td th : bwHA) (c : bwCt) (f : Nat → Option bwCt) (hs : bwH) (p0 : Int32) (res : Int32 × bwCt × bwH) (hf : f_restoreC c f hs p0 = some res) : bwS l g yX4_restore cX4_restore 3 (some .int) ({ frames := 4, cells := 6, slots := 101, locals := 86 } : Room) [.ref ah, .int p0] (bw_tc ah (a 0) aP aH aS aSe aPl aT :: (bw_cw g a c ++ (bw_sw g aS td f ++ bw_hw g aH aHs th hs))) (fun r w => r = some (.int res.1) ∧ ∃ th1 : bwHA, w = bw_tc ah (a 0) aP aH aS aSe aPl aT :: (bw_cw g a res.2.1 ++ (bw_sw g aS td f ++ bw_hw g aH aHs th1 res.2.2))) := by
  refine bwS_of (by decide) (Nat.le_of_ble_eq_true rfl) ?_
  unfold f_restoreC at hf
  show bwR l g cX4_restore 3 RX4 "restore" (some .int) ({ frames := 4, cells := 6, slots := 101, locals := 86 } : Room) bwT (bwZ g (fun r w => r = some (.int res.1) ∧ ∃ th1 : bwHA, w = bw_tc ah (a 0) aP aH aS aSe aPl aT :: (bw_cw g a res.2.1 ++ (bw_sw g aS td f ++ bw_hw g aH aHs th1 res.2.2))) 6 101) 0 [(0, .ref ah), (1, .int p0)] [] (bw_tc ah (a 0) aP aH aS aSe aPl aT :: (bw_cw g a c ++ (bw_sw g aS td f ++ bw_hw g aH aHs th hs))) 0 0
  obtain ⟨q, hb, hf⟩ := bw_bind hf
  refine bw_iload_n 1 dX4_restore_0 rfl rfl ?_
  refine bw_callS [.int p0] [] (bw_tc ah (a 0) aP aH aS aSe aPl aT :: (bw_cw g a c ++ (bw_sw g aS td f ++ bw_hw g aH aHs th hs))) (wc := []) (s_X4_isSlot l g p0 q hb) rfl co_X4_isSlot ini_X4 ml_X4_192 st_X4_isSlot ar_X4_isSlot ⟨Nat.le_of_ble_eq_true rfl, Nat.le_of_ble_eq_true rfl⟩ ⟨Nat.le_of_ble_eq_true rfl, Nat.le_of_ble_eq_true rfl⟩ (List.Perm.refl _) (Nat.le_of_ble_eq_true rfl) dX4_restore_1 (fun r w1 hq => ?_)
  obtain ⟨rfl, rfl⟩ := hq
  refine bw_ws (List.append_nil _) ?_
  refine bw_st (st1 := [.int q]) rfl ?_
  refine bw_if_ne 10 dX4_restore_4 (by decide) (fun c_1 => ?_) (fun c_1 => ?_)
  · have hf := bw_neg c_1 hf
    obtain ⟨hin, hf⟩ := bw_chk hf
    have hk := bw_inlt hin
    refine bw_aload_n 0 dX4_restore_10 rfl rfl ?_
    refine bw_gf bkX4 0 3 (by decide) fl_X4_30 rfl rfl dX4_restore_11 ?_
    refine bw_iload_n 1 dX4_restore_14 rfl rfl ?_
    refine bw_aald 7 rfl hin dX4_restore_15 ?_
    cases hfk : f p0.toNatClampNeg with
    | none =>
      rw [hfk] at hf
      cases Option.some.inj hf
      refine bw_st (st1 := [.null]) (by show va_rf ((f p0.toNatClampNeg).map _) :: _ = _; rw [hfk]; rfl) ?_
      refine bw_astore_nN [(2, .null), (0, .ref ah), (1, .int p0)] dX4_restore_16 rfl (by decide) rfl ?_
      refine bw_aload_nN 0 dX4_restore_17 rfl rfl ?_
      refine bw_ifnonnullN dX4_restore_18 ?_
      refine bw_ldc ct_X4_80 dX4_restore_21 ?_
      exact bw_ret rfl rfl (Nat.le_of_ble_eq_true rfl) (Nat.le_of_ble_eq_true rfl) dX4_restore_23 ⟨rfl, th, rfl⟩
    | some d0 =>
      rw [hfk] at hf
      obtain ⟨h1, hr, hf⟩ := bw_bind hf
      obtain ⟨c1, hb2, hf⟩ := bw_bind hf
      cases Option.some.inj hf
      refine bw_st (st1 := [.ref (td p0.toNatClampNeg 0)]) (by show va_rf ((f p0.toNatClampNeg).map _) :: _ = _; rw [hfk]; rfl) ?_
      refine bw_astore_n [(2, .ref (td p0.toNatClampNeg 0)), (0, .ref ah), (1, .int p0)] dX4_restore_16 rfl (by decide) rfl ?_
      refine bw_aload_n 0 dX4_restore_17 rfl rfl ?_
      refine bw_ifnonnull 24 dX4_restore_18 (by decide) ?_
      refine bw_aload_n 1 dX4_restore_24 rfl rfl ?_
      refine bw_gf bkX4 0 2 (by decide) fl_X4_26 rfl rfl dX4_restore_25 ?_
      refine bw_aload_n 1 dX4_restore_28 rfl rfl ?_
      refine bw_gf bkX4 0 0 (by decide) fl_X4_10 rfl rfl dX4_restore_29 ?_
      refine bw_callV [.ref (a 0)] [] (bw_tc ah (a 0) aP aH aS aSe aPl aT :: bw_sw g aS td f) 6 1 (s_remC l g a aH aHs th c hs h1 hr) rfl co_X1_remember ini_X1 ml_X4_48 im_X1_remember se_X1_remember ar_X1_remember ⟨Nat.le_of_ble_eq_true rfl, Nat.le_of_ble_eq_true rfl⟩ ⟨Nat.le_of_ble_eq_true rfl, Nat.le_of_ble_eq_true rfl⟩ rfl rfl ?_ (Nat.le_of_ble_eq_true rfl) dX4_restore_32 (fun r w1 hq => ?_)
      · exact bw_blk [bw_cw g a c, bw_hw g aH aHs th hs, [bw_tc ah (a 0) aP aH aS aSe aPl aT], bw_sw g aS td f] [[bw_tc ah (a 0) aP aH aS aSe aPl aT], bw_cw g a c, bw_sw g aS td f, bw_hw g aH aHs th hs] (bw_pick1 4 [1, 3, 0, 2] rfl rfl (by decide)) (by simp only [List.flatten_cons, List.flatten_nil, List.append_nil, List.append_assoc, List.cons_append, List.nil_append]) (by simp only [List.flatten_cons, List.flatten_nil, List.append_nil, List.append_assoc, List.cons_append, List.nil_append])
      obtain ⟨rfl, th1, rfl⟩ := hq
      have hsp := bw_split g p0.toNatClampNeg td f 2 hk
      rw [hfk] at hsp
      refine bw_perm (ws1 := bw_tc ah (a 0) aP aH aS aSe aPl aT :: (bw_cw g a c ++ (bw_cw g (td p0.toNatClampNeg) d0 ++ ((aS, .inl (g.2.2.2, 2, .inr (.inr (.inr (.inr (bw_sf td f)))))) :: (bw_rx g p0.toNatClampNeg td f 2 ++ bw_hw g aH aHs th1 h1))))) ?_ ?_
      · refine List.Perm.trans ?_ (List.Perm.append_right _ (List.Perm.cons _ (List.Perm.cons _ hsp)))
        exact bw_blk [[bw_tc ah (a 0) aP aH aS aSe aPl aT], bw_cw g a c, bw_cw g (td p0.toNatClampNeg) d0, [(aS, .inl (g.2.2.2, 2, .inr (.inr (.inr (.inr (bw_sf td f))))))], bw_rx g p0.toNatClampNeg td f 2, bw_hw g aH aHs th1 h1] [[bw_tc ah (a 0) aP aH aS aSe aPl aT], [(aS, .inl (g.2.2.2, 2, .inr (.inr (.inr (.inr (bw_sf td f))))))], bw_cw g (td p0.toNatClampNeg) d0, bw_rx g p0.toNatClampNeg td f 2, bw_cw g a c, bw_hw g aH aHs th1 h1] (bw_pick1 6 [0, 4, 2, 1, 3, 5] rfl rfl (by decide)) (by simp only [List.flatten_cons, List.flatten_nil, List.append_nil, List.append_assoc, List.cons_append, List.nil_append]; rfl) (by simp only [List.flatten_cons, List.flatten_nil, List.append_nil, List.append_assoc, List.cons_append, List.nil_append])
      refine bw_st (st1 := []) rfl ?_
      refine bw_aload_n 1 dX4_restore_35 rfl rfl ?_
      refine bw_gf bkX4 0 0 (by decide) fl_X4_10 rfl rfl dX4_restore_36 ?_
      refine bw_aload_n 0 dX4_restore_39 rfl rfl ?_
      refine bw_callV [.ref (td p0.toNatClampNeg 0)] [] (bw_tc ah (a 0) aP aH aS aSe aPl aT :: ((aS, .inl (g.2.2.2, 2, .inr (.inr (.inr (.inr (bw_sf td f)))))) :: (bw_rx g p0.toNatClampNeg td f 2 ++ bw_hw g aH aHs th1 h1))) 0 0 (wc := bw_cw g a c ++ bw_cw g (td p0.toNatClampNeg) d0) (s_X0_become l g (a 0) (a 1) (a 2) (a 3) (a 4) (a 5) ((td p0.toNatClampNeg) 0) ((td p0.toNatClampNeg) 1) ((td p0.toNatClampNeg) 2) ((td p0.toNatClampNeg) 3) ((td p0.toNatClampNeg) 4) ((td p0.toNatClampNeg) 5) c.1 c.2.1 c.2.2.1 c.2.2.2.1 c.2.2.2.2.1 c.2.2.2.2.2.1 c.2.2.2.2.2.2.1 c.2.2.2.2.2.2.2 d0.1 d0.2.1 d0.2.2.1 d0.2.2.2.1 d0.2.2.2.2.1 d0.2.2.2.2.2.1 d0.2.2.2.2.2.2.1 d0.2.2.2.2.2.2.2 c1 hb2) rfl co_X0_become ini_X0 ml_X4_173 im_X0_become se_X0_become ar_X0_become ⟨Nat.le_of_ble_eq_true rfl, Nat.le_of_ble_eq_true rfl⟩ ⟨Nat.le_of_ble_eq_true rfl, Nat.le_of_ble_eq_true rfl⟩ rfl rfl ?_ (Nat.le_of_ble_eq_true rfl) dX4_restore_40 (fun r w1 hq => ?_)
      · exact bw_blk [bw_cw g a c, bw_cw g (td p0.toNatClampNeg) d0, [bw_tc ah (a 0) aP aH aS aSe aPl aT], [(aS, .inl (g.2.2.2, 2, .inr (.inr (.inr (.inr (bw_sf td f))))))], bw_rx g p0.toNatClampNeg td f 2, bw_hw g aH aHs th1 h1] [[bw_tc ah (a 0) aP aH aS aSe aPl aT], bw_cw g a c, bw_cw g (td p0.toNatClampNeg) d0, [(aS, .inl (g.2.2.2, 2, .inr (.inr (.inr (.inr (bw_sf td f))))))], bw_rx g p0.toNatClampNeg td f 2, bw_hw g aH aHs th1 h1] (bw_pick1 6 [1, 2, 0, 3, 4, 5] rfl rfl (by decide)) (by simp only [List.flatten_cons, List.flatten_nil, List.append_nil, List.append_assoc, List.cons_append, List.nil_append]) (by simp only [List.flatten_cons, List.flatten_nil, List.append_nil, List.append_assoc, List.cons_append, List.nil_append])
      obtain ⟨rfl, rfl⟩ := hq
      refine bw_perm (ws1 := bw_tc ah (a 0) aP aH aS aSe aPl aT :: (bw_cw g a c1 ++ (bw_sw g aS td f ++ bw_hw g aH aHs th1 h1))) ?_ ?_
      · refine List.Perm.trans (List.Perm.cons _ (List.Perm.append_left _ (List.Perm.append_right _ (List.Perm.cons _ hsp.symm)))) ?_
        show _root_.List.Perm _ ((bw_tc ah (a 0) aP aH aS aSe aPl aT :: ((aS, .inl (g.2.2.2, 2, .inr (.inr (.inr (.inr (bw_sf td f)))))) :: (bw_rx g p0.toNatClampNeg td f 2 ++ bw_hw g aH aHs th1 h1))) ++ (bw_cw g a c1 ++ bw_cw g (td p0.toNatClampNeg) d0))
        exact bw_blk [[bw_tc ah (a 0) aP aH aS aSe aPl aT], bw_cw g a c1, [(aS, .inl (g.2.2.2, 2, .inr (.inr (.inr (.inr (bw_sf td f))))))], bw_cw g (td p0.toNatClampNeg) d0, bw_rx g p0.toNatClampNeg td f 2, bw_hw g aH aHs th1 h1] [[bw_tc ah (a 0) aP aH aS aSe aPl aT], [(aS, .inl (g.2.2.2, 2, .inr (.inr (.inr (.inr (bw_sf td f))))))], bw_rx g p0.toNatClampNeg td f 2, bw_hw g aH aHs th1 h1, bw_cw g a c1, bw_cw g (td p0.toNatClampNeg) d0] (bw_pick1 6 [0, 4, 1, 5, 2, 3] rfl rfl (by decide)) (by simp only [List.flatten_cons, List.flatten_nil, List.append_nil, List.append_assoc, List.cons_append, List.nil_append]) (by simp only [List.flatten_cons, List.flatten_nil, List.append_nil, List.append_assoc, List.cons_append, List.nil_append]; rfl)
      refine bw_st (st1 := []) rfl ?_
      refine bw_aload_n 1 dX4_restore_43 rfl rfl ?_
      refine bw_gf bkX4 0 0 (by decide) fl_X4_10 rfl rfl dX4_restore_44 ?_
      refine bw_gf bkX0 1 5 (by decide) fl_X4_67 rfl rfl dX4_restore_47 ?_
      exact bw_ret rfl rfl (Nat.le_of_ble_eq_true rfl) (Nat.le_of_ble_eq_true rfl) dX4_restore_50 ⟨rfl, th1, rfl⟩
  · have hf := bw_pos c_1 hf
    cases Option.some.inj hf
    refine bw_ldc ct_X4_47 dX4_restore_7 ?_
    exact bw_ret rfl rfl (Nat.le_of_ble_eq_true rfl) (Nat.le_of_ble_eq_true rfl) dX4_restore_9 ⟨rfl, th, rfl⟩
