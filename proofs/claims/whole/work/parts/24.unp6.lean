/-! ===== Unpacker.unpack ===== -/
section UNP6
variable {l : Launch} {D : va_G} {dA : Bool → ClassId}
theorem unpR_bl (f : Nat → Int32) (E wa : Nat) : ∀ (q k : Nat) (bs : List Int32) (co cp bl : Nat) (ls : l3), bl ≤ (unpR f E wa q k bs co cp bl ls).2.1 ∧ (unpR f E wa q k bs co cp bl ls).2.1 ≤ bl + q
  | 0, k, bs, co, cp, bl, ls => ⟨Nat.le_refl _, Nat.le_refl _⟩
  | q + 1, k, bs, co, cp, bl, ls => by
    rw [unpR]
    split
    · exact ⟨Nat.le_refl _, Nat.le_add_right _ _⟩
    · split
      · have := unpR_bl f E wa q (blkR f E wa k bs co cp).1.2.1 (blkR f E wa k bs co cp).1.2.2.1 (blkR f E wa k bs co cp).1.2.2.2.1 (blkR f E wa k bs co cp).1.2.2.2.2 (bl + 1) (blkR f E wa k bs co cp).2
        exact ⟨by omega, by omega⟩
      · exact ⟨Nat.le_succ _, by show bl + 1 ≤ _; omega⟩
set_option maxHeartbeats 4000000 in
set_option maxRecDepth 100000 in
theorem t_X8_unpack (d n0 : Nat) {h : am_H} {wa0 : Nat} (hu : h 30 = some (unO wa0)) {u0 v0 : Int32} (hs : h 31 = some (.inr (2, [am_r 1, .inl u0, .inl v0]))) {c : Nat} {f : Nat → Int32} (hr : h 1 = some (rwO 2 c)) (hta : h 2 = some (.inl (false, 4000, f))) (hc4 : c ≤ 4000) {bs0 : List Int32} (hp : rws h 3 4 12000 bs0) {op : Bool} {bl0 co0 cp0 bi0 : Nat} (hac : h 5 = some (acO op bl0 co0 cp0 bi0)) (hT : tsh h 6 19) (hC : tsh h 14 510) (hP : tsh h 22 14) {ls : l3} (hl1 : lnA h 7 19 ls.1) (hl2 : lnA h 15 510 ls.2.1) (hl3 : lnA h 23 14 ls.2.2) {n wa : Nat} (hn : n ≤ c) (hwa : wa ≤ 8000) (hd : 6 ≤ d) : am_Ct l D dA m_X8_unpack d 0 0 n0 [am_r 30, .inl (nI n), .inl (nI wa)] h (am_qi fun x h' => x = nI (unpR f (8 * n) wa wa 0 [] 0 0 0 ls).1.1 ∧ am_fr h h' (30 :: frU) ∧ h' 30 = some (unO wa) ∧ h' 31 = some (bsO 1 (8 * n) (unpR f (8 * n) wa wa 0 [] 0 0 0 ls).1.2.1) ∧ (unpR f (8 * n) wa wa 0 [] 0 0 0 ls).1.2.1 ≤ 8 * n ∧ rws h' 3 4 12000 (unpR f (8 * n) wa wa 0 [] 0 0 0 ls).1.2.2.1 ∧ (unpR f (8 * n) wa wa 0 [] 0 0 0 ls).1.2.2.1.length ≤ wa ∧ h' 5 = some (acO true (unpR f (8 * n) wa wa 0 [] 0 0 0 ls).2.1 (unpR f (8 * n) wa wa 0 [] 0 0 0 ls).1.2.2.2.1 (unpR f (8 * n) wa wa 0 [] 0 0 0 ls).1.2.2.2.2 (unpR f (8 * n) wa wa 0 [] 0 0 0 ls).1.2.1) ∧ (tsh h' 6 19 ∧ tsh h' 14 510 ∧ tsh h' 22 14) ∧ lnA h' 7 19 (unpR f (8 * n) wa wa 0 [] 0 0 0 ls).2.2.1 ∧ lnA h' 15 510 (unpR f (8 * n) wa wa 0 [] 0 0 0 ls).2.2.2.1 ∧ lnA h' 23 14 (unpR f (8 * n) wa wa 0 [] 0 0 0 ls).2.2.2.2) := by
  refine am_Ci (by decide +kernel) rfl rfl ?_
  refine am_aload_n dX8_unpack_0 rfl rfl ?_
  refine am_get f_X8_14 dX8_unpack_1 rfl hu rfl ?_
  refine am_iload_n dX8_unpack_4 rfl rfl ?_
  refine am_vv (t_X2_open (d - 1) _ (E := 0) (k := 0) hs hr (by decide) (by omega) hn (by omega)) k_X2_open l_X8_48 dX8_unpack_5 rfl rfl rfl rfl hs (by omega) (Nat.le_refl _) (Nat.le_refl _) (fun h1 hx => ?_)
  have f1 : am_fr h h1 [31] := by rw [hx]; exact am_fr.rf.set (by simp)
  have s1 : h1 31 = some (bsO 1 (8 * n) 0) := by rw [hx]; exact am_set_eq
  have hu1 := (f1 30 (by simp)).trans hu
  have hp1 := hp.at (h' := h1) (f1 3 (by simp)) (f1 4 (by simp))
  have p3 := hp1.choose_spec.1
  clear hx
  refine am_aload_n dX8_unpack_8 rfl rfl ?_
  refine am_get f_X8_20 dX8_unpack_9 rfl hu1 rfl ?_
  refine am_vv (t_empty (d - 1) _ hp1 (by decide)) k_X3_empty l_X8_52 dX8_unpack_12 rfl rfl rfl rfl p3 (by omega) (Nat.le_refl _) (Nat.le_refl _) (fun h2 hx => ?_)
  obtain ⟨f2, p2⟩ := hx
  have s2 := (f2 31 (by simp)).trans s1
  have hu2 := (f2 30 (by simp)).trans hu1
  have a2 := (f2 5 (by simp)).trans ((f1 5 (by simp)).trans hac)
  refine am_aload_n dX8_unpack_15 rfl rfl ?_
  refine am_get f_X8_24 dX8_unpack_16 rfl hu2 rfl ?_
  refine am_vv (t_X0_open (d - 1) _ a2) k_X0_open l_X8_57 dX8_unpack_19 rfl rfl rfl rfl a2 (by omega) (Nat.le_refl _) (Nat.le_refl _) (fun h3 hx => ?_)
  have f3 : am_fr h2 h3 [5] := by rw [hx]; exact am_fr.rf.set (by simp)
  have a3 : h3 5 = some (acO true 0 0 0 0) := by rw [hx]; exact am_set_eq
  have s3 := (f3 31 (by simp)).trans s2
  have hu3 := (f3 30 (by simp)).trans hu2
  have p3 := p2.at (h' := h3) (f3 3 (by simp)) (f3 4 (by simp))
  clear hx
  refine am_aload_n dX8_unpack_22 rfl rfl ?_
  refine am_iload_n dX8_unpack_23 rfl rfl ?_
  refine am_put f_X8_44 dX8_unpack_24 rfl hu3 (am_fit_i _) rfl ?_
  obtain ⟨h4, e4⟩ : ∃ h4, h4 = am_set h3 30 (.inr (8, ([am_r 31, am_r 3, am_r 5, am_r 6, am_r 14, am_r 22, .inl (nI wa0)] : List am_V).set 6 (.inl (nI wa)))) := ⟨_, rfl⟩
  rw [← e4]
  have f4 : am_fr h3 h4 [30] := by rw [e4]; exact am_fr.rf.set (by simp)
  have hu4 : h4 30 = some (unO wa) := by rw [e4]; exact am_set_eq
  have F4 : am_fr h h4 (30 :: frU) := fun j hj => by
    have h9 : j ≠ 30 ∧ j ∉ frU := by simpa only [List.mem_cons, not_or] using hj
    have := frU_not h9.2
    rw [f4 j (by simp; omega), f3 j (by simp; omega), f2 j (by simp; omega), f1 j (by simp; omega)]
  have B4 : bhd h4 h4 (8 * n) wa true 0 0 (0, 0, [], 0, 0) ls := by
    have e : ∀ j, 6 ≤ j → j ≤ 29 → h4 j = h j := fun j a b => by rw [f4 j (by simp; omega), f3 j (by simp; omega), f2 j (by simp; omega), f1 j (by simp; omega)]
    exact ⟨am_fr.rf, (f4 31 (by simp)).trans s3, Nat.zero_le _, p3.at (f4 3 (by simp)) (f4 4 (by simp)), Nat.zero_le _, (f4 5 (by simp)).trans a3, ⟨hT.at (fun j a b => e j (by omega) (by omega)), hC.at (fun j a b => e j (by omega) (by omega)), hP.at (fun j a b => e j (by omega) (by omega))⟩, hl1.at (e _ (by omega) (by omega)), hl2.at (e _ (by omega) (by omega)), hl3.at (e _ (by omega) (by omega))⟩
  have hr4 : h4 1 = some (rwO 2 c) := (F4 1 (by decide)).trans hr
  have hta4 : h4 2 = some (.inl (false, 4000, f)) := (F4 2 (by decide)).trans hta
  refine am_iconst (v := nI 0) dX8_unpack_27 rfl (by decide +kernel) ?_
  refine am_istore_n dX8_unpack_28 rfl rfl ?_
  refine am_iconst (v := nI 0) dX8_unpack_29 rfl (by decide +kernel) ?_
  refine am_istore dX8_unpack_30 rfl rfl ?_
  have done : ∀ (fl : Nat) (x4 : am_V) (H : am_H) (r : (Nat × Nat × List Int32 × Nat × Nat) × Nat × l3), r = (unpR f (8 * n) wa wa 0 [] 0 0 0 ls) → fl = r.1.1 → bhd h4 H (8 * n) wa true r.2.1 0 r.1 r.2.2 → am_At l D dA m_X8_unpack d 0 0 0 0 n0 none (am_qi fun x h' => x = nI (unpR f (8 * n) wa wa 0 [] 0 0 0 ls).1.1 ∧ am_fr h h' (30 :: frU) ∧ h' 30 = some (unO wa) ∧ h' 31 = some (bsO 1 (8 * n) (unpR f (8 * n) wa wa 0 [] 0 0 0 ls).1.2.1) ∧ (unpR f (8 * n) wa wa 0 [] 0 0 0 ls).1.2.1 ≤ 8 * n ∧ rws h' 3 4 12000 (unpR f (8 * n) wa wa 0 [] 0 0 0 ls).1.2.2.1 ∧ (unpR f (8 * n) wa wa 0 [] 0 0 0 ls).1.2.2.1.length ≤ wa ∧ h' 5 = some (acO true (unpR f (8 * n) wa wa 0 [] 0 0 0 ls).2.1 (unpR f (8 * n) wa wa 0 [] 0 0 0 ls).1.2.2.2.1 (unpR f (8 * n) wa wa 0 [] 0 0 0 ls).1.2.2.2.2 (unpR f (8 * n) wa wa 0 [] 0 0 0 ls).1.2.1) ∧ (tsh h' 6 19 ∧ tsh h' 14 510 ∧ tsh h' 22 14) ∧ lnA h' 7 19 (unpR f (8 * n) wa wa 0 [] 0 0 0 ls).2.2.1 ∧ lnA h' 15 510 (unpR f (8 * n) wa wa 0 [] 0 0 0 ls).2.2.2.1 ∧ lnA h' 23 14 (unpR f (8 * n) wa wa 0 [] 0 0 0 ls).2.2.2.2) 0 0 60 [some (am_r 30), some (.inl (nI n)), some (.inl (nI wa)), some (.inl (nI fl)), some x4] [] H := by
    intro fl x4 H r hr hfl hb
    obtain ⟨g1, g2, g3, g4, g5, g6, g7, g8, g9, g10⟩ := hb
    have huH := (g1 30 (by decide)).trans hu4
    refine am_aload_n dX8_unpack_60 rfl rfl ?_
    refine am_get f_X8_24 dX8_unpack_61 rfl huH rfl ?_
    refine am_aload_n dX8_unpack_64 rfl rfl ?_
    refine am_get f_X8_14 dX8_unpack_65 rfl huH rfl ?_
    refine am_vi (t_X2_taken (d - 1) _ g2) k_X2_taken l_X8_67 dX8_unpack_68 rfl rfl rfl rfl g2 (by omega) (Nat.le_refl _) (Nat.le_refl _) (fun x h1 hx => ?_)
    obtain ⟨rfl, hh⟩ := hx
    obtain rfl := hh.symm
    refine am_vv (t_X0_close (d - 1) _ g6 r.1.2.1) k_X0_close l_X8_70 dX8_unpack_71 rfl rfl rfl rfl g6 (by omega) (Nat.le_refl _) (Nat.le_refl _) (fun h6 hx => ?_)
    have f6 : am_fr H h6 [5] := by rw [hx]; exact am_fr.rf.set (by simp)
    have a6 : h6 5 = some (acO true r.2.1 r.1.2.2.2.1 r.1.2.2.2.2 r.1.2.1) := by rw [hx]; exact am_set_eq
    refine am_iload_n dX8_unpack_74 rfl rfl ?_
    exact am_ri dX8_unpack_75 rfl rfl rfl (by
      rw [← hr]
      refine ⟨by rw [hfl], fun j hj => ?_, (f6 30 (by simp)).trans huH, (f6 31 (by simp)).trans g2, g3, g4.at (f6 3 (by simp)) (f6 4 (by simp)), g5, a6, ⟨g7.1.at (fun j a b => f6 j (by simp; omega)), g7.2.1.at (fun j a b => f6 j (by simp; omega)), g7.2.2.at (fun j a b => f6 j (by simp; omega))⟩, g8.at (f6 7 (by simp)), g9.at (f6 15 (by simp)), g10.at (f6 23 (by simp))⟩
      have h9 : j ≠ 30 ∧ j ∉ frU := by simpa only [List.mem_cons, not_or] using hj
      have := frU_not h9.2
      rw [f6 j (by simp; omega), g1 j h9.2]
      exact F4 j hj)
  have fault : ∀ (b fl : Nat) (H : am_H) (r : (Nat × Nat × List Int32 × Nat × Nat) × Nat × l3), 0 < fl → fl < 7 → b ≤ wa → r = (unpR f (8 * n) wa wa 0 [] 0 0 0 ls) → fl = r.1.1 → bhd h4 H (8 * n) wa true r.2.1 0 r.1 r.2.2 → am_At l D dA m_X8_unpack d 0 0 0 0 n0 none (am_qi fun x h' => x = nI (unpR f (8 * n) wa wa 0 [] 0 0 0 ls).1.1 ∧ am_fr h h' (30 :: frU) ∧ h' 30 = some (unO wa) ∧ h' 31 = some (bsO 1 (8 * n) (unpR f (8 * n) wa wa 0 [] 0 0 0 ls).1.2.1) ∧ (unpR f (8 * n) wa wa 0 [] 0 0 0 ls).1.2.1 ≤ 8 * n ∧ rws h' 3 4 12000 (unpR f (8 * n) wa wa 0 [] 0 0 0 ls).1.2.2.1 ∧ (unpR f (8 * n) wa wa 0 [] 0 0 0 ls).1.2.2.1.length ≤ wa ∧ h' 5 = some (acO true (unpR f (8 * n) wa wa 0 [] 0 0 0 ls).2.1 (unpR f (8 * n) wa wa 0 [] 0 0 0 ls).1.2.2.2.1 (unpR f (8 * n) wa wa 0 [] 0 0 0 ls).1.2.2.2.2 (unpR f (8 * n) wa wa 0 [] 0 0 0 ls).1.2.1) ∧ (tsh h' 6 19 ∧ tsh h' 14 510 ∧ tsh h' 22 14) ∧ lnA h' 7 19 (unpR f (8 * n) wa wa 0 [] 0 0 0 ls).2.2.1 ∧ lnA h' 15 510 (unpR f (8 * n) wa wa 0 [] 0 0 0 ls).2.2.2.1 ∧ lnA h' 23 14 (unpR f (8 * n) wa wa 0 [] 0 0 0 ls).2.2.2.2) 0 0 32 [some (am_r 30), some (.inl (nI n)), some (.inl (nI wa)), some (.inl (nI fl)), some (.inl (nI b))] [] H := by
    intro b fl H r h0 h7 hb hr hfl hbh
    refine am_iload dX8_unpack_32 rfl rfl ?_
    refine am_iload_n dX8_unpack_34 rfl rfl ?_
    refine am_ncmp_ge 60 dX8_unpack_35 rfl rfl (by omega) (by omega) (fun hc => ?_) (fun hc => ?_)
    · exact done fl _ H r hr hfl hbh
    · refine am_iload_n dX8_unpack_38 rfl rfl ?_
      refine am_nif_ne 60 dX8_unpack_39 rfl rfl (by omega) (fun hc => ?_) (fun hc => ?_)
      · exact done fl _ H r hr hfl hbh
      · omega
  have loop : ∀ (q b k' : Nat) (bs' : List Int32) (co' cp' bl' : Nat) (ls' : l3) (H : am_H), unpR f (8 * n) wa q k' bs' co' cp' bl' ls' = (unpR f (8 * n) wa wa 0 [] 0 0 0 ls) → b + q = wa → bhd h4 H (8 * n) wa true bl' 0 (0, k', bs', co', cp') ls' → am_At l D dA m_X8_unpack d 0 0 0 0 n0 none (am_qi fun x h' => x = nI (unpR f (8 * n) wa wa 0 [] 0 0 0 ls).1.1 ∧ am_fr h h' (30 :: frU) ∧ h' 30 = some (unO wa) ∧ h' 31 = some (bsO 1 (8 * n) (unpR f (8 * n) wa wa 0 [] 0 0 0 ls).1.2.1) ∧ (unpR f (8 * n) wa wa 0 [] 0 0 0 ls).1.2.1 ≤ 8 * n ∧ rws h' 3 4 12000 (unpR f (8 * n) wa wa 0 [] 0 0 0 ls).1.2.2.1 ∧ (unpR f (8 * n) wa wa 0 [] 0 0 0 ls).1.2.2.1.length ≤ wa ∧ h' 5 = some (acO true (unpR f (8 * n) wa wa 0 [] 0 0 0 ls).2.1 (unpR f (8 * n) wa wa 0 [] 0 0 0 ls).1.2.2.2.1 (unpR f (8 * n) wa wa 0 [] 0 0 0 ls).1.2.2.2.2 (unpR f (8 * n) wa wa 0 [] 0 0 0 ls).1.2.1) ∧ (tsh h' 6 19 ∧ tsh h' 14 510 ∧ tsh h' 22 14) ∧ lnA h' 7 19 (unpR f (8 * n) wa wa 0 [] 0 0 0 ls).2.2.1 ∧ lnA h' 15 510 (unpR f (8 * n) wa wa 0 [] 0 0 0 ls).2.2.2.1 ∧ lnA h' 23 14 (unpR f (8 * n) wa wa 0 [] 0 0 0 ls).2.2.2.2) 0 0 32 [some (am_r 30), some (.inl (nI n)), some (.inl (nI wa)), some (.inl (nI 0)), some (.inl (nI b))] [] H := by
    intro q
    induction q with
    | zero =>
      intro b k' bs' co' cp' bl' ls' H hR hq hb
      have hR : ((0, k', bs', co', cp'), bl', ls') = (unpR f (8 * n) wa wa 0 [] 0 0 0 ls) := hR
      refine am_iload dX8_unpack_32 rfl rfl ?_
      refine am_iload_n dX8_unpack_34 rfl rfl ?_
      refine am_ncmp_ge 60 dX8_unpack_35 rfl rfl (by omega) (by omega) (fun hc => ?_) (fun hc => ?_)
      · exact done 0 _ H _ hR rfl hb
      · omega
    | succ q ih =>
      intro b k' bs' co' cp' bl' ls' H hR hq hb
      rw [unpR] at hR
      obtain ⟨g1, g2, g3, g4, g5, g6, g7, g8, g9, g10⟩ := id hb
      dsimp only at g2 g3 g4 g5 g6
      have huH := (g1 30 (by decide)).trans hu4
      have hrH := (g1 1 (by decide)).trans hr4
      have htaH := (g1 2 (by decide)).trans hta4
      refine am_iload dX8_unpack_32 rfl rfl ?_
      refine am_iload_n dX8_unpack_34 rfl rfl ?_
      refine am_ncmp_ge 60 dX8_unpack_35 rfl rfl (by omega) (by omega) (fun hc => ?_) (fun hc => ?_)
      · omega
      · refine am_iload_n dX8_unpack_38 rfl rfl ?_
        refine am_nif_ne 60 dX8_unpack_39 rfl rfl (by omega) (fun hcz => ?_) (fun hcz => ?_)
        · omega
        · refine am_aload_n dX8_unpack_42 rfl rfl ?_
          refine am_vi (t_X8_wantsMore (d - 1) _ huH g4 (by omega) (by omega) (by omega)) k_X8_wantsMore l_X8_59 dX8_unpack_43 rfl rfl rfl rfl huH (by omega) (Nat.le_refl _) (Nat.le_refl _) (fun x h6 hx => ?_)
          obtain ⟨rfl, hh⟩ := hx
          obtain rfl := hh.symm
          refine am_bif_eq 60 dX8_unpack_46 rfl rfl (fun hcw => ?_) (fun hcw => ?_)
          · have hcw : wa ≤ bs'.length := by simpa using hcw
            rw [if_pos hcw] at hR
            exact done 0 _ H _ hR rfl hb
          · have hcw : bs'.length < wa := by simpa using hcw
            rw [if_neg (by omega)] at hR
            refine am_aload_n dX8_unpack_49 rfl rfl ?_
            refine am_vi (t_X8_unpackBlock (d - 1) _ huH g4 g6 g2 hrH htaH (by omega) g3 g7.1 g7.2.1 g7.2.2 hwa hcw (by omega)) k_X8_unpackBlock l_X8_63 dX8_unpack_50 rfl rfl rfl rfl huH (by omega) (Nat.le_refl _) (Nat.le_refl _) (fun x h6 hx => ?_)
            obtain ⟨⟨⟨fl, kk, bb, cc, pp⟩, lsB⟩, eB⟩ : ∃ p, p = blkR f (8 * n) wa k' bs' co' cp' := ⟨_, rfl⟩
            rw [← eB] at hx hR
            dsimp only at hx hR
            obtain ⟨rfl, h7, hb6⟩ := hx
            have hb6' : bhd h4 h6 (8 * n) wa true (bl' + 1) 0 (fl, kk, bb, cc, pp) lsB := ⟨g1.tr hb6.1 (fun j hj => hj), hb6.2⟩
            refine am_istore_n dX8_unpack_53 rfl rfl ?_
            refine am_iinc (n := 1) dX8_unpack_54 rfl rfl (nI_1 b) ?_
            refine am_goto 32 dX8_unpack_57 rfl rfl ?_
            by_cases hf : fl = 0
            · subst hf
              rw [if_pos rfl] at hR
              exact ih (b + 1) kk bb cc pp (bl' + 1) lsB h6 hR (by omega) hb6'
            · rw [if_neg hf] at hR
              exact fault (b + 1) fl h6 _ (by omega) h7 (by omega) hR rfl hb6'
  exact loop wa 0 0 [] 0 0 0 ls h4 rfl (by omega) B4
end UNP6
