/-! ===== the reference: a block ===== -/
section MOD12D
variable {l : Launch} {D : va_G} {dA : Bool → ClassId}
set_option maxHeartbeats 4000000 in
set_option maxRecDepth 100000 in
theorem t_X10_block (d n0 : Nat) {h : am_H} {ct : Nat} {to : Bool} {bl co cp en fa tc : Nat} {s : List Int32 × Nat} {gl gc ga : Nat → Int32} (X : bwH h h ct to bl co cp en fa tc s gl gc ga) {cs : List (Nat × Nat)} {fr : Nat} {fc fd : Nat → Int32} (h52 : h 52 = some (.inl (false, 4000, fc))) (h53 : h 53 = some (.inl (false, 4000, fd))) (hcs : ∀ i x, cs[i]? = some x → fc (fr + i) = nI x.1 ∧ fd (fr + i) = nI x.2) (hfr : fr + cs.length ≤ 4000) (hcl : cs.length ≤ 400) (gm : ∀ x ∈ cs, x.1 < 510 ∧ x.2 ≤ 4000 ∧ (256 ≤ x.1 → 0 < x.2) ∧ (0 < x.2 → 256 ≤ x.1)) (hbits : (bwR cs s).2 + 400 ≤ 96000) (hd : 4 ≤ d) : am_Ct l D dA m_X10_block d 0 0 n0 [am_r 46, .inl (nI fr), .inl (nI cs.length)] h (am_qv fun h' => ∃ tc' gl' gc' ga', bwH h h' ct to (bl + 1) (co + cs.length) (cp + (pds cs).length) en fa tc' (bwR cs s) gl' gc' ga' ∧ lnM gl' (hlen 19 (bwT cs), hlen 510 (bwC cs), hlen 14 (bwP cs))) := by
  refine am_Cv (by decide +kernel) rfl rfl ?_
  obtain ⟨w1, w2, w3, w4, w5, w6⟩ := bw_ok (cs := cs) hcl (fun x hx => (gm x hx).1)
  have lC := hlen_le (m := 510) (w := bwC cs) (by omega) w1
  have lP := hlen_le (m := 14) (w := bwP cs) (by omega) w2
  have lT := hlen_le (m := 19) (w := bwT cs) (by omega) w3
  refine am_aload_n dX10_block_0 rfl rfl ?_
  refine am_vv (t_X10_clearTrees (d - 1) _ X.2.1.2.1 X.2.2.1 X.2.2.2.2.1) k_X10_clearTrees l_X10_76 dX10_block_1 rfl rfl rfl rfl X.2.1.2.1 (by omega) (Nat.le_refl _) (Nat.le_refl _) (fun h1 hx => ?_)
  obtain ⟨gl1, ga1, e1, z1, z2⟩ := hx
  have X1 : bwH h h1 ct to bl co cp en fa tc s gl1 gc ga1 := by
    obtain ⟨x1, x2, x3, x4, x5, ⟨x6, x7, x8⟩, x9, x10, x11⟩ := id X
    rw [e1]
    refine X.mg ((am_fr.rf.set (by simp)).set (by simp)) ((am_set_ne (by omega)).trans am_set_eq) ((am_set_ne (by omega)).trans ((am_set_ne (by omega)).trans x4)) am_set_eq (x6.at ((am_set_ne (by omega)).trans (am_set_ne (by omega)))) (x7.at ((am_set_ne (by omega)).trans (am_set_ne (by omega)))) (by rw [am_set_ne (by omega), am_set_ne (by omega)]; exact x8)
  clear e1
  refine am_aload_n dX10_block_4 rfl rfl ?_
  refine am_dup dX10_block_5 rfl ?_
  refine am_get f_X10_61 dX10_block_6 rfl X1.2.1.2.1 rfl ?_
  refine am_iconst (v := nI 1) dX10_block_9 rfl (by decide +kernel) ?_
  refine am_iadd dX10_block_10 rfl ?_
  rw [nI_add]
  refine am_put f_X10_61 dX10_block_11 rfl X1.2.1.2.1 (am_fit_i _) rfl ?_
  refine am_aload_n dX10_block_14 rfl rfl ?_
  have X2 := X1.gv (H' := am_set h1 46 (mO ct s.1.length to (bl + 1) co cp s.2 en fa tc)) (bl' := bl + 1) (co' := co) (cp' := cp) (en' := en) (fa' := fa) (tc' := tc) (s' := s) ⟨am_fr.rf.set (by simp), am_set_eq, X1.2.1.2.2.1.at (am_set_ne (by omega)), X.2.1.2.2.2⟩
  obtain ⟨H2, eH2⟩ : ∃ H2, H2 = am_set h1 46 (mO ct s.1.length to (bl + 1) co cp s.2 en fa tc) := ⟨_, rfl⟩
  refine am_eq rfl rfl rfl eH2.symm ?_
  rw [← eH2] at X2
  clear eH2
  refine am_vv (t_X10_clearTimes (d - 1) _ X2.2.1.2.1 X2.2.2.2.2.2.2.1) k_X10_clearTimes l_X10_130 dX10_block_15 rfl rfl rfl rfl X2.2.1.2.1 (by omega) (Nat.le_refl _) (Nat.le_refl _) (fun h3 hx => ?_)
  obtain ⟨g7, rfl, z7⟩ := hx
  have X3 := X2.ti g7
  refine am_iload_n dX10_block_18 rfl rfl ?_
  refine am_istore_n dX10_block_19 rfl rfl ?_
  have st2 : ∀ (H : am_H) (gl2 gc2 ga2 : Nat → Int32) (x4 : Option am_V), bwH h H ct to (bl + 1) co cp en fa tc s gl2 gc2 ga2 → nmA H 57 600 600 (fun _ => 0) → mrd gl2 gc2 ga2 1 (hal 510 (bwC cs)) (hlen 510 (bwC cs)) → (∀ s, s < 19 → gl2 s = nI 0) → (∀ s, s < 14 → gl2 (1200 + s) = nI 0) → ga2 0 = -1 → ga2 2 = -1 → am_At l D dA m_X10_block d 0 0 0 0 n0 none (am_qv fun h' => ∃ tc' gl' gc' ga', bwH h h' ct to (bl + 1) (co + cs.length) (cp + (pds cs).length) en fa tc' (bwR cs s) gl' gc' ga' ∧ lnM gl' (hlen 19 (bwT cs), hlen 510 (bwC cs), hlen 14 (bwP cs))) 0 0 59 [some (am_r 46), some (.inl (nI fr)), some (.inl (nI cs.length)), some (.inl (nI fr)), x4] [] H := by
    intro H gl2 gc2 ga2 x4 Z N0 mC zT zP aT aP
    have loop : ∀ (r : List (Nat × Nat)) (i : Nat) (H : am_H), cs.drop i = r → i ≤ cs.length → bwH h H ct to (bl + 1) co cp en fa tc s gl2 gc2 ga2 → nmA H 57 600 600 (cno (pds (cs.take i))) → am_At l D dA m_X10_block d 0 0 0 0 n0 none (am_qv fun h' => ∃ tc' gl' gc' ga', bwH h h' ct to (bl + 1) (co + cs.length) (cp + (pds cs).length) en fa tc' (bwR cs s) gl' gc' ga' ∧ lnM gl' (hlen 19 (bwT cs), hlen 510 (bwC cs), hlen 14 (bwP cs))) 0 0 59 [some (am_r 46), some (.inl (nI fr)), some (.inl (nI cs.length)), some (.inl (nI (fr + i))), x4] [] H := by
      intro r
      induction r with
      | nil =>
        intro i H hr hi V NV
        have hil : cs.length ≤ i := by
          have := congrArg List.length hr
          rw [List.length_drop] at this
          have e0 : ([] : List (Nat × Nat)).length = 0 := rfl
          omega
        obtain rfl : i = cs.length := by omega
        rw [List.take_length] at NV
        refine am_iload_n dX10_block_59 rfl rfl ?_
        refine am_iload_n dX10_block_60 rfl rfl ?_
        refine am_iload_n dX10_block_61 rfl rfl ?_
        refine am_iadd dX10_block_62 rfl ?_
        rw [nI_add]
        refine am_ncmp_ge 99 dX10_block_63 rfl rfl (by omega) (by omega) (fun hc => ?_) (fun hc => ?_)
        · refine am_aload_n dX10_block_99 rfl rfl ?_
          refine am_iconst (v := nI 2) dX10_block_100 rfl (by decide +kernel) ?_
          refine am_vv (t_X10_merge (d - 1) _ V.2.1.2.1 (t := 2) (by omega) V.2.2.1 V.2.2.2.1 V.2.2.2.2.1 V.2.2.2.2.2.1.1 V.2.2.2.2.2.1.2.1 V.2.2.2.2.2.1.2.2 (w := bwP cs) NV (fun v hv => zP v hv) aP w2 (by omega)) k_X10_merge l_X10_142 dX10_block_101 rfl rfl rfl rfl V.2.1.2.1 (by omega) (Nat.le_refl _) (Nat.le_refl _) (fun h6 hx => ?_)
          obtain ⟨gl4, gc4, ga4, f6, a1, a2, a3, G4, A4, mP, a4, a5, a6⟩ := hx
          have hs1 : sym 1 = 510 := rfl
          exact blk_3 d n0 h52 h53 hcs hfr hcl gm hbits hd (V.mg f6 a1 a2 a3 a4 a5 a6) (mC.at (fun v hv => (G4 _ (fun z hz => by omega)).1) (fun v hv => (G4 _ (fun z hz => by omega)).2) (A4 1 (by omega))) mP (fun v hv => ((G4 v (fun z hz => by omega)).1).trans (zT v hv)) ((A4 0 (by omega)).trans aT)
        · omega
      | cons x r ih =>
        intro i H hr hi V NV
        have hx0 : cs[i]? = some x := by
          have := congrArg (fun z => z[0]?) hr
          simpa using this
        have hil : i < cs.length := (List.getElem?_eq_some_iff.mp hx0).1
        have hxm := gm x (List.mem_of_getElem? hx0)
        have hr2 : cs.drop (i + 1) = r := by
          rw [← List.tail_drop, hr]
          rfl
        obtain ⟨y1, y2⟩ := hcs i x hx0
        have et := take_1 hx0
        obtain ⟨g7, v7, n7⟩ := NV
        refine am_iload_n dX10_block_59 rfl rfl ?_
        refine am_iload_n dX10_block_60 rfl rfl ?_
        refine am_iload_n dX10_block_61 rfl rfl ?_
        refine am_iadd dX10_block_62 rfl ?_
        rw [nI_add]
        refine am_ncmp_ge 99 dX10_block_63 rfl rfl (by omega) (by omega) (fun hc => ?_) (fun hc => ?_)
        · omega
        · refine am_aload_n dX10_block_66 rfl rfl ?_
          refine am_get f_X10_28 dX10_block_67 rfl V.2.1.2.1 rfl ?_
          refine am_iload_n dX10_block_70 rfl rfl ?_
          refine am_iald dX10_block_71 rfl ((V.1 53 (by simp [frW])).trans h53) (by omega) (by omega) ?_
          rw [y2]
          refine am_nif_le 93 dX10_block_72 rfl rfl (by omega) (fun hdz => ?_) (fun hdz => ?_)
          · refine am_iinc (n := 1) dX10_block_93 rfl rfl (nI_1 (fr + i)) ?_
            refine am_goto 59 dX10_block_96 rfl rfl ?_
            exact ih (i + 1) H hr2 (by omega) V (by rw [et, pds_snoc, if_neg (by omega), List.append_nil]; exact ⟨g7, v7, n7⟩)
          · refine am_aload_n dX10_block_75 rfl rfl ?_
            refine am_get f_X10_41 dX10_block_76 rfl V.2.1.2.1 rfl ?_
            refine am_aload_n dX10_block_79 rfl rfl ?_
            refine am_get f_X10_28 dX10_block_80 rfl V.2.1.2.1 rfl ?_
            refine am_iload_n dX10_block_83 rfl rfl ?_
            refine am_iald dX10_block_84 rfl ((V.1 53 (by simp [frW])).trans h53) (by omega) (by omega) ?_
            rw [y2]
            refine am_si (t_X10_rank (d - 1) _ (dd := x.2) (by omega) (by omega)) k_X10_rank l_X10_145 dX10_block_85 rfl rfl rfl rfl (by omega) (Nat.le_refl _) (Nat.le_refl _) (fun z h7 hx => ?_)
            obtain ⟨rfl, hh⟩ := hx
            obtain rfl := hh.symm
            have hrk := rk_lt x.2
            refine am_dup2 dX10_block_88 rfl ?_
            refine am_iald dX10_block_89 rfl v7 (by omega) (by omega) ?_
            rw [n7 _ (by omega)]
            refine am_iconst (v := nI 1) dX10_block_90 rfl (by decide +kernel) ?_
            refine am_iadd dX10_block_91 rfl ?_
            rw [nI_add]
            refine am_iast dX10_block_92 rfl v7 (by omega) (by omega) ?_
            refine am_iinc (n := 1) dX10_block_93 rfl rfl (nI_1 (fr + i)) ?_
            refine am_goto 59 dX10_block_96 rfl rfl ?_
            refine ih (i + 1) _ hr2 (by omega) (V.ti _) ?_
            rw [et, pds_snoc, if_pos hdz, cno_upd]
            refine ⟨_, am_set_eq, fun j hj => ?_⟩
            by_cases z : j = rk x.2
            · rw [z, upd_eq, updN_eq]
            · rw [upd_ne z, updN_ne z]; exact n7 j hj
    exact loop cs 0 H rfl (Nat.zero_le _) Z N0
  have st1 : ∀ (r : List (Nat × Nat)) (i : Nat) (H : am_H) (x4 : Option am_V), cs.drop i = r → i ≤ cs.length → bwH h H ct to (bl + 1) co cp en fa tc s gl1 gc ga1 → nmA H 57 600 600 (cno ((cs.take i).map Prod.fst)) → am_At l D dA m_X10_block d 0 0 0 0 n0 none (am_qv fun h' => ∃ tc' gl' gc' ga', bwH h h' ct to (bl + 1) (co + cs.length) (cp + (pds cs).length) en fa tc' (bwR cs s) gl' gc' ga' ∧ lnM gl' (hlen 19 (bwT cs), hlen 510 (bwC cs), hlen 14 (bwP cs))) 0 0 20 [some (am_r 46), some (.inl (nI fr)), some (.inl (nI cs.length)), some (.inl (nI (fr + i))), x4] [] H := by
    intro r
    induction r with
    | nil =>
      intro i H x4 hr hi V NV
      have hil : cs.length ≤ i := by
        have := congrArg List.length hr
        rw [List.length_drop] at this
        have e0 : ([] : List (Nat × Nat)).length = 0 := rfl
        omega
      obtain rfl : i = cs.length := by omega
      rw [List.take_length] at NV
      have hs1 : sym 1 = 510 := rfl
      refine am_iload_n dX10_block_20 rfl rfl ?_
      refine am_iload_n dX10_block_21 rfl rfl ?_
      refine am_iload_n dX10_block_22 rfl rfl ?_
      refine am_iadd dX10_block_23 rfl ?_
      rw [nI_add]
      refine am_ncmp_ge 48 dX10_block_24 rfl rfl (by omega) (by omega) (fun hc => ?_) (fun hc => ?_)
      · refine am_aload_n dX10_block_48 rfl rfl ?_
        refine am_iconst (v := nI 1) dX10_block_49 rfl (by decide +kernel) ?_
        refine am_vv (t_X10_merge (d - 1) _ V.2.1.2.1 (t := 1) (by omega) V.2.2.1 V.2.2.2.1 V.2.2.2.2.1 V.2.2.2.2.2.1.1 V.2.2.2.2.2.1.2.1 V.2.2.2.2.2.1.2.2 (w := bwC cs) NV (fun v hv => z1 _ (by omega)) (z2 1 (by omega)) w1 (by omega)) k_X10_merge l_X10_142 dX10_block_50 rfl rfl rfl rfl V.2.1.2.1 (by omega) (Nat.le_refl _) (Nat.le_refl _) (fun h6 hx => ?_)
        obtain ⟨gl4, gc4, ga4, f6, a1, a2, a3, G4, A4, mC, a4, a5, a6⟩ := hx
        have V1 := V.mg f6 a1 a2 a3 a4 a5 a6
        refine am_aload_n dX10_block_53 rfl rfl ?_
        refine am_vv (t_X10_clearTimes (d - 1) _ V1.2.1.2.1 V1.2.2.2.2.2.2.1) k_X10_clearTimes l_X10_130 dX10_block_54 rfl rfl rfl rfl V1.2.1.2.1 (by omega) (Nat.le_refl _) (Nat.le_refl _) (fun h7 hx => ?_)
        obtain ⟨g8, rfl, z8⟩ := hx
        refine am_iload_n dX10_block_57 rfl rfl ?_
        refine am_istore_n dX10_block_58 rfl rfl ?_
        exact st2 _ gl4 gc4 ga4 _ (V1.ti g8) ⟨g8, am_set_eq, fun j hj => z8 j hj⟩ mC (fun v hv => ((G4 v (fun z hz => by omega)).1).trans (z1 v (by omega))) (fun v hv => ((G4 (1200 + v) (fun z hz => by omega)).1).trans (z1 _ (by omega))) ((A4 0 (by omega)).trans (z2 0 (by omega))) ((A4 2 (by omega)).trans (z2 2 (by omega)))
      · omega
    | cons x r ih =>
      intro i H x4 hr hi V NV
      have hx0 : cs[i]? = some x := by
        have := congrArg (fun z => z[0]?) hr
        simpa using this
      have hil : i < cs.length := (List.getElem?_eq_some_iff.mp hx0).1
      have hxm := gm x (List.mem_of_getElem? hx0)
      have hr2 : cs.drop (i + 1) = r := by
        rw [← List.tail_drop, hr]
        rfl
      obtain ⟨y1, y2⟩ := hcs i x hx0
      have et := take_1 hx0
      obtain ⟨g8, v7, n7⟩ := NV
      refine am_iload_n dX10_block_20 rfl rfl ?_
      refine am_iload_n dX10_block_21 rfl rfl ?_
      refine am_iload_n dX10_block_22 rfl rfl ?_
      refine am_iadd dX10_block_23 rfl ?_
      rw [nI_add]
      refine am_ncmp_ge 48 dX10_block_24 rfl rfl (by omega) (by omega) (fun hc => ?_) (fun hc => ?_)
      · omega
      · refine am_aload_n dX10_block_27 rfl rfl ?_
        refine am_get f_X10_41 dX10_block_28 rfl V.2.1.2.1 rfl ?_
        refine am_aload_n dX10_block_31 rfl rfl ?_
        refine am_get f_X10_25 dX10_block_32 rfl V.2.1.2.1 rfl ?_
        refine am_iload_n dX10_block_35 rfl rfl ?_
        refine am_iald dX10_block_36 rfl ((V.1 52 (by simp [frW])).trans h52) (by omega) (by omega) ?_
        rw [y1]
        refine am_dup2 dX10_block_37 rfl ?_
        refine am_iald dX10_block_38 rfl v7 (by omega) (by omega) ?_
        rw [n7 _ (by omega)]
        refine am_iconst (v := nI 1) dX10_block_39 rfl (by decide +kernel) ?_
        refine am_iadd dX10_block_40 rfl ?_
        rw [nI_add]
        refine am_iast dX10_block_41 rfl v7 (by omega) (by omega) ?_
        refine am_iinc (n := 1) dX10_block_42 rfl rfl (nI_1 (fr + i)) ?_
        refine am_goto 20 dX10_block_45 rfl rfl ?_
        refine ih (i + 1) _ _ hr2 (by omega) (V.ti _) ?_
        rw [et, List.map_append]
        show nmA _ 57 600 600 (cno ((cs.take i).map Prod.fst ++ [x.1]))
        rw [cno_upd]
        refine ⟨_, am_set_eq, fun j hj => ?_⟩
        by_cases z : j = x.1
        · rw [z, upd_eq, updN_eq]
        · rw [upd_ne z, updN_ne z]; exact n7 j hj
  exact st1 cs 0 _ _ rfl (Nat.zero_le _) X3 ⟨g7, am_set_eq, fun j hj => z7 j hj⟩
end MOD12D
