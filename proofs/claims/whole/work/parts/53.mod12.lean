/-! ===== the reference: a block ===== -/
section MOD12
variable {l : Launch} {D : va_G} {dA : Bool → ClassId}
abbrev frW : List Nat := [46, 48, 49, 50, 51, 54, 55, 56, 57, 58, 59]
/-- the cells that writing a block changes -/
def bwH (h H : am_H) (ct : Nat) (to : Bool) (bl co cp en fa tc : Nat) (s : List Int32 × Nat) (gl gc ga : Nat → Int32) : Prop := am_fr h H frW ∧ gvH H H ct to bl co cp en fa tc s ∧ H 49 = some (.inl (false, 1800, gl)) ∧ H 50 = some (.inl (false, 1800, gc)) ∧ H 51 = some (.inl (false, 3, ga)) ∧ (ars H 54 1200 ∧ ars H 55 1200 ∧ ∃ f, H 56 = some (.inl (true, 1200, f))) ∧ ars H 57 600 ∧ ars H 58 1200 ∧ ars H 59 1200
theorem bwH.gv {h H H' : am_H} {ct : Nat} {to : Bool} {bl co cp en fa tc bl' co' cp' en' fa' tc' : Nat} {s s' : List Int32 × Nat} {gl gc ga : Nat → Int32} (x : bwH h H ct to bl co cp en fa tc s gl gc ga) (y : gvH H H' ct to bl' co' cp' en' fa' tc' s') : bwH h H' ct to bl' co' cp' en' fa' tc' s' gl gc ga := by
  obtain ⟨x1, x2, x3, x4, x5, ⟨x6, x7, x8⟩, x9, x10, x11⟩ := x
  exact ⟨x1.tr y.1 (by simp [frW]), y.rf, (y.1 49 (by simp)).trans x3, (y.1 50 (by simp)).trans x4, (y.1 51 (by simp)).trans x5, ⟨x6.at (y.1 54 (by simp)), x7.at (y.1 55 (by simp)), by rw [y.1 56 (by simp)]; exact x8⟩, x9.at (y.1 57 (by simp)), x10.at (y.1 58 (by simp)), x11.at (y.1 59 (by simp))⟩
theorem bwH.ti {h H : am_H} {ct : Nat} {to : Bool} {bl co cp en fa tc : Nat} {s : List Int32 × Nat} {gl gc ga : Nat → Int32} (x : bwH h H ct to bl co cp en fa tc s gl gc ga) (g : Nat → Int32) : bwH h (am_set H 57 (.inl (false, 600, g))) ct to bl co cp en fa tc s gl gc ga := by
  obtain ⟨x1, x2, x3, x4, x5, ⟨x6, x7, x8⟩, x9, x10, x11⟩ := x
  exact ⟨x1.set (by simp [frW]), ⟨am_fr.rf, (am_set_ne (by omega)).trans x2.2.1, x2.2.2.1.at (am_set_ne (by omega)), x2.2.2.2⟩, (am_set_ne (by omega)).trans x3, (am_set_ne (by omega)).trans x4, (am_set_ne (by omega)).trans x5, ⟨x6.at (am_set_ne (by omega)), x7.at (am_set_ne (by omega)), by rw [am_set_ne (by omega)]; exact x8⟩, ⟨g, am_set_eq⟩, x10.at (am_set_ne (by omega)), x11.at (am_set_ne (by omega))⟩
theorem bwH.mg {h H H' : am_H} {ct : Nat} {to : Bool} {bl co cp en fa tc : Nat} {s : List Int32 × Nat} {gl gc ga gl' gc' ga' : Nat → Int32} (x : bwH h H ct to bl co cp en fa tc s gl gc ga) (y : am_fr H H' [49, 50, 51, 54, 55, 56]) (y1 : H' 49 = some (.inl (false, 1800, gl'))) (y2 : H' 50 = some (.inl (false, 1800, gc'))) (y3 : H' 51 = some (.inl (false, 3, ga'))) (y4 : ars H' 54 1200) (y5 : ars H' 55 1200) (y6 : ∃ f, H' 56 = some (.inl (true, 1200, f))) : bwH h H' ct to bl co cp en fa tc s gl' gc' ga' := by
  obtain ⟨x1, x2, x3, x4, x5, ⟨x6, x7, x8⟩, x9, x10, x11⟩ := x
  exact ⟨x1.tr y (by simp [frW]), ⟨am_fr.rf, (y 46 (by simp)).trans x2.2.1, x2.2.2.1.at (y 48 (by simp)), x2.2.2.2⟩, y1, y2, y3, ⟨y4, y5, y6⟩, x9.at (y 57 (by simp)), x10.at (y 58 (by simp)), x11.at (y 59 (by simp))⟩
theorem pds_snoc (l : List (Nat × Nat)) (x : Nat × Nat) : pds (l ++ [x]) = pds l ++ (if 0 < x.2 then [rk x.2] else []) := by
  unfold pds
  rw [List.filter_append, List.map_append]
  congr 1
  by_cases g : 0 < x.2
  · rw [if_pos g, List.filter_cons_of_pos (by simpa using g)]
    rfl
  · rw [if_neg g, List.filter_cons_of_neg (by simpa using g)]
    rfl
theorem take_1 {l : List (Nat × Nat)} {i : Nat} {x : Nat × Nat} (h : l[i]? = some x) : l.take (i + 1) = l.take i ++ [x] := by
  rw [List.take_succ, h]
  rfl
theorem srtS_z : ∀ i, (srtS (fun _ => 0) i).2 = 0
  | 0 => rfl
  | i + 1 => by rw [srtS, if_neg (Nat.lt_irrefl 0)]; exact srtS_z i
theorem hal_z (m : Nat) : hal m (fun _ => 0) = nI 0 ∧ ∀ y, hlen m (fun _ => 0) y = 0 := by
  refine ⟨?_, fun y => ?_⟩
  · unfold hal
    rw [srtS_z, if_neg (by omega), if_pos rfl]
  · unfold hlen
    rw [srtS_z, if_neg (by omega)]
theorem cdR_all (lenC : Nat → Nat) (alC : Int32) (lenP : Nat → Nat) (alP : Int32) (l : List (Nat × Nat)) (s : List Int32 × Nat) : s.2 ≤ (cdR lenC alC lenP alP l s).2 := by
  have := cdR_mono lenC alC lenP alP l s
  omega
set_option maxHeartbeats 4000000 in
set_option maxRecDepth 100000 in
theorem t_X10_block (d n0 : Nat) {h : am_H} {ct : Nat} {to : Bool} {bl co cp en fa tc : Nat} {s : List Int32 × Nat} {gl gc ga : Nat → Int32} (X : bwH h h ct to bl co cp en fa tc s gl gc ga) {cs : List (Nat × Nat)} {fr : Nat} {fc fd : Nat → Int32} (h52 : h 52 = some (.inl (false, 4000, fc))) (h53 : h 53 = some (.inl (false, 4000, fd))) (hcs : ∀ i x, cs[i]? = some x → fc (fr + i) = nI x.1 ∧ fd (fr + i) = nI x.2) (hfr : fr + cs.length ≤ 4000) (hcl : cs.length ≤ 400) (gm : ∀ x ∈ cs, x.1 < 510 ∧ x.2 ≤ 4000 ∧ (256 ≤ x.1 → 0 < x.2) ∧ (0 < x.2 → 256 ≤ x.1)) (hbits : (bwR cs s).2 + 400 ≤ 96000) (hd : 4 ≤ d) : am_Ct l D dA m_X10_block d 0 0 n0 [am_r 46, .inl (nI fr), .inl (nI cs.length)] h (am_qv fun h' => ∃ tc' gl' gc' ga', bwH h h' ct to (bl + 1) (co + cs.length) (cp + (pds cs).length) en fa tc' (bwR cs s) gl' gc' ga' ∧ lnM gl' (hlen 19 (bwT cs), hlen 510 (bwC cs), hlen 14 (bwP cs))) := by
  refine am_Cv (by decide +kernel) rfl rfl ?_
  obtain ⟨w1, w2, w3, w4, w5, w6⟩ := bw_ok (cs := cs) hcl (fun x hx => (gm x hx).1)
  have lC := hlen_le (m := 510) (w := bwC cs) (by omega) w1
  have lP := hlen_le (m := 14) (w := bwP cs) (by omega) w2
  have lT := hlen_le (m := 19) (w := bwT cs) (by omega) w3
  refine am_aload_n dX10_block_0 rfl rfl ?_
  refine am_vv (t_X10_clearTrees (d - 1) _ X.2.1.2.1 X.2.2.1 X.2.2.2.2.1) k_X10_clearTrees l_X10_76 dX10_block_1 rfl rfl rfl rfl X.2.1.2.1 (by omega) (Nat.le_refl _) (Nat.le_refl _) (fun h1 hx => ?_)
  obtain ⟨gl1, ga1, e1, z1, z2⟩ := hx
  have X1 : bwH h h1 ct to bl co cp en fa tc s gl1 gc ga1 := by
    obtain ⟨x1, x2, x3, x4, x5, ⟨x6, x7, x8⟩, x9, x10, x11⟩ := id X
    rw [e1]
    refine X.mg ((am_fr.rf.set (by simp)).set (by simp)) ((am_set_ne (by omega)).trans am_set_eq) ((am_set_ne (by omega)).trans ((am_set_ne (by omega)).trans x4)) am_set_eq (x6.at ((am_set_ne (by omega)).trans (am_set_ne (by omega)))) (x7.at ((am_set_ne (by omega)).trans (am_set_ne (by omega)))) (by rw [am_set_ne (by omega), am_set_ne (by omega)]; exact x8)
  clear e1
  refine am_aload_n dX10_block_4 rfl rfl ?_
  refine am_dup dX10_block_5 rfl ?_
  refine am_get f_X10_61 dX10_block_6 rfl X1.2.1.2.1 rfl ?_
  refine am_iconst (v := nI 1) dX10_block_9 rfl (by decide +kernel) ?_
  refine am_iadd dX10_block_10 rfl ?_
  rw [nI_add]
  refine am_put f_X10_61 dX10_block_11 rfl X1.2.1.2.1 (am_fit_i _) rfl ?_
  refine am_aload_n dX10_block_14 rfl rfl ?_
  have X2 := X1.gv (H' := am_set h1 46 (mO ct s.1.length to (bl + 1) co cp s.2 en fa tc)) (bl' := bl + 1) (co' := co) (cp' := cp) (en' := en) (fa' := fa) (tc' := tc) (s' := s) ⟨am_fr.rf.set (by simp), am_set_eq, X1.2.1.2.2.1.at (am_set_ne (by omega)), X.2.1.2.2.2⟩
  obtain ⟨H2, eH2⟩ : ∃ H2, H2 = am_set h1 46 (mO ct s.1.length to (bl + 1) co cp s.2 en fa tc) := ⟨_, rfl⟩
  refine am_eq rfl rfl rfl eH2.symm ?_
  rw [← eH2] at X2
  clear eH2
  refine am_vv (t_X10_clearTimes (d - 1) _ X2.2.1.2.1 X2.2.2.2.2.2.2.1) k_X10_clearTimes l_X10_130 dX10_block_15 rfl rfl rfl rfl X2.2.1.2.1 (by omega) (Nat.le_refl _) (Nat.le_refl _) (fun h3 hx => ?_)
  obtain ⟨g7, rfl, z7⟩ := hx
  have X3 := X2.ti g7
  refine am_iload_n dX10_block_18 rfl rfl ?_
  refine am_istore_n dX10_block_19 rfl rfl ?_
  have st3 : ∀ (H : am_H) (gl2 gc2 ga2 : Nat → Int32) (x3 x4 : Option am_V), bwH h H ct to (bl + 1) co cp en fa tc s gl2 gc2 ga2 → mrd gl2 gc2 ga2 1 (hal 510 (bwC cs)) (hlen 510 (bwC cs)) → mrd gl2 gc2 ga2 2 (hal 14 (bwP cs)) (hlen 14 (bwP cs)) → (∀ s, s < 19 → gl2 s = nI 0) → ga2 0 = -1 → am_At l D dA m_X10_block d 0 0 0 0 n0 none (am_qv fun h' => ∃ tc' gl' gc' ga', bwH h h' ct to (bl + 1) (co + cs.length) (cp + (pds cs).length) en fa tc' (bwR cs s) gl' gc' ga' ∧ lnM gl' (hlen 19 (bwT cs), hlen 510 (bwC cs), hlen 14 (bwP cs))) 0 0 104 [some (am_r 46), some (.inl (nI fr)), some (.inl (nI cs.length)), x3, x4] [] H := by
    intro H gl2 gc2 ga2 x3 x4 Z mC mP zT aT
    have hs0 : sym 0 = 19 := rfl
    have hs1 : sym 1 = 510 := rfl
    have hs2 : sym 2 = 14 := rfl
    have eb : bwR cs s = cdR (hlen 510 (bwC cs)) (hal 510 (bwC cs)) (hlen 14 (bwP cs)) (hal 14 (bwP cs)) cs (tTr (hlen 14 (bwP cs)) (hal 14 (bwP cs)) 14 4 false (tCr (hlen 510 (bwC cs)) (hal 510 (bwC cs)) (hlen 19 (bwT cs)) (hal 19 (bwT cs)) (btl cs) (tTr (hlen 19 (bwT cs)) (hal 19 (bwT cs)) 19 5 true (gvR cs.length 16 s)))) := rfl
    have m1 := gvR_2 cs.length 16 s
    have m2 := tTr_mono (hlen 19 (bwT cs)) (hal 19 (bwT cs)) 19 5 true (gvR cs.length 16 s) (fun y => by have := lT y; omega)
    obtain ⟨sA, eA⟩ : ∃ sA, sA = tTr (hlen 19 (bwT cs)) (hal 19 (bwT cs)) 19 5 true (gvR cs.length 16 s) := ⟨_, rfl⟩
    rw [← eA] at eb m2
    have m3 := tCr_mono (hlen 510 (bwC cs)) (hal 510 (bwC cs)) (hlen 19 (bwT cs)) (hal 19 (bwT cs)) (btl cs) sA
    obtain ⟨sB, eB⟩ : ∃ sB, sB = tCr (hlen 510 (bwC cs)) (hal 510 (bwC cs)) (hlen 19 (bwT cs)) (hal 19 (bwT cs)) (btl cs) sA := ⟨_, rfl⟩
    rw [← eB] at eb m3
    have m4 := tTr_mono (hlen 14 (bwP cs)) (hal 14 (bwP cs)) 14 4 false sB (fun y => by have := lP y; omega)
    obtain ⟨sC, eC⟩ : ∃ sC, sC = tTr (hlen 14 (bwP cs)) (hal 14 (bwP cs)) 14 4 false sB := ⟨_, rfl⟩
    rw [← eC] at eb m4
    have m5 := cdR_all (hlen 510 (bwC cs)) (hal 510 (bwC cs)) (hlen 14 (bwP cs)) (hal 14 (bwP cs)) cs sC
    rw [← eb] at m5
    have st4 : ∀ (H : am_H) (tc3 : Nat) (gl3 gc3 ga3 : Nat → Int32) (x3 x4 : Option am_V), bwH h H ct to (bl + 1) co cp en fa tc3 sB gl3 gc3 ga3 → mrd gl3 gc3 ga3 1 (hal 510 (bwC cs)) (hlen 510 (bwC cs)) → mrd gl3 gc3 ga3 2 (hal 14 (bwP cs)) (hlen 14 (bwP cs)) → lnM gl3 (hlen 19 (bwT cs), hlen 510 (bwC cs), hlen 14 (bwP cs)) → am_At l D dA m_X10_block d 0 0 0 0 n0 none (am_qv fun h' => ∃ tc' gl' gc' ga', bwH h h' ct to (bl + 1) (co + cs.length) (cp + (pds cs).length) en fa tc' (bwR cs s) gl' gc' ga' ∧ lnM gl' (hlen 19 (bwT cs), hlen 510 (bwC cs), hlen 14 (bwP cs))) 0 0 249 [some (am_r 46), some (.inl (nI fr)), some (.inl (nI cs.length)), x3, x4] [] H := by
      intro H tc3 gl3 gc3 ga3 x3 x4 Z mC mP hln
      refine am_aload_n dX10_block_249 rfl rfl ?_
      refine am_iconst (v := nI 2) dX10_block_250 rfl (by decide +kernel) ?_
      refine am_iconst (v := nI 4) dX10_block_251 rfl (by decide +kernel) ?_
      refine am_vv (t_X10_giveSmall (d - 1) _ Z.2.1 (t := 2) (nb := 4) (gp := false) (by omega) (by omega) (by omega) (by decide) Z.2.2.1 Z.2.2.2.2.1 mP (by omega) (by omega)) k_X10_giveSmall l_X10_148 dX10_block_252 rfl rfl rfl rfl Z.2.1.2.1 (by omega) (Nat.le_refl _) (Nat.le_refl _) (fun h4 Y => ?_)
      have Y : gvH H h4 ct to (bl + 1) co cp en fa tc3 sC := by rw [eC]; exact Y
      have Z1 := Z.gv Y
      refine am_iload_n dX10_block_255 rfl rfl ?_
      refine am_istore_n dX10_block_256 rfl rfl ?_
      have loop : ∀ (r : List (Nat × Nat)) (i : Nat) (s' : List Int32 × Nat) (H : am_H) (x4 : Option am_V), cs.drop i = r → i ≤ cs.length → cdR (hlen 510 (bwC cs)) (hal 510 (bwC cs)) (hlen 14 (bwP cs)) (hal 14 (bwP cs)) r s' = bwR cs s → bwH h H ct to (bl + 1) (co + i) (cp + (pds (cs.take i)).length) en fa tc3 s' gl3 gc3 ga3 → am_At l D dA m_X10_block d 0 0 0 0 n0 none (am_qv fun h' => ∃ tc' gl' gc' ga', bwH h h' ct to (bl + 1) (co + cs.length) (cp + (pds cs).length) en fa tc' (bwR cs s) gl' gc' ga' ∧ lnM gl' (hlen 19 (bwT cs), hlen 510 (bwC cs), hlen 14 (bwP cs))) 0 0 257 [some (am_r 46), some (.inl (nI fr)), some (.inl (nI cs.length)), some (.inl (nI (fr + i))), x4] [] H := by
        intro r
        induction r with
        | nil =>
          intro i s' H x4 hr hi hR V
          have hR : s' = _ := hR
          have hil : cs.length ≤ i := by
            have := congrArg List.length hr
            rw [List.length_drop] at this
            have e0 : ([] : List (Nat × Nat)).length = 0 := rfl
            omega
          obtain rfl : i = cs.length := by omega
          rw [List.take_length] at V
          rw [hR] at V
          refine am_iload_n dX10_block_257 rfl rfl ?_
          refine am_iload_n dX10_block_258 rfl rfl ?_
          refine am_iload_n dX10_block_259 rfl rfl ?_
          refine am_iadd dX10_block_260 rfl ?_
          rw [nI_add]
          refine am_ncmp_ge 369 dX10_block_261 rfl rfl (by omega) (by omega) (fun hc => ?_) (fun hc => ?_)
          · exact am_rv dX10_block_369 rfl rfl rfl ⟨tc3, gl3, gc3, ga3, V, hln⟩
          · omega
        | cons x r ih =>
          intro i s' H x4 hr hi hR V
          have hx0 : cs[i]? = some x := by
            have := congrArg (fun z => z[0]?) hr
            simpa using this
          have hil : i < cs.length := (List.getElem?_eq_some_iff.mp hx0).1
          have hxm := gm x (List.mem_of_getElem? hx0)
          have hr2 : cs.drop (i + 1) = r := by
            rw [← List.tail_drop, hr]
            rfl
          obtain ⟨y1, y2⟩ := hcs i x hx0
          have hc0 : hal 510 (bwC cs) = -1 → 0 < hlen 510 (bwC cs) x.1 := fun z => (hlen_pos (by omega) (by omega) z hxm.1 (cno_pos (List.mem_map_of_mem (List.mem_of_getElem? hx0)))).2
          have hR : cdR (hlen 510 (bwC cs)) (hal 510 (bwC cs)) (hlen 14 (bwP cs)) (hal 14 (bwP cs)) r (if 256 ≤ x.1 then pdR (hlen 14 (bwP cs)) (hal 14 (bwP cs)) x.2 (gsR (hlen 510 (bwC cs)) 510 (hal 510 (bwC cs)) x.1 s') else gsR (hlen 510 (bwC cs)) 510 (hal 510 (bwC cs)) x.1 s') = _ := hR
          have hmn := cdR_all (hlen 510 (bwC cs)) (hal 510 (bwC cs)) (hlen 14 (bwP cs)) (hal 14 (bwP cs)) r (if 256 ≤ x.1 then pdR (hlen 14 (bwP cs)) (hal 14 (bwP cs)) x.2 (gsR (hlen 510 (bwC cs)) 510 (hal 510 (bwC cs)) x.1 s') else gsR (hlen 510 (bwC cs)) 510 (hal 510 (bwC cs)) x.1 s')
          rw [hR] at hmn
          have g2 := gsR_2 (hlen 510 (bwC cs)) 510 (hal 510 (bwC cs)) x.1 s'
          have g3 : (gsR (hlen 510 (bwC cs)) 510 (hal 510 (bwC cs)) x.1 s').2 ≤ (if 256 ≤ x.1 then pdR (hlen 14 (bwP cs)) (hal 14 (bwP cs)) x.2 (gsR (hlen 510 (bwC cs)) 510 (hal 510 (bwC cs)) x.1 s') else gsR (hlen 510 (bwC cs)) 510 (hal 510 (bwC cs)) x.1 s').2 := by
            split
            · rw [pdR_2]; omega
            · exact Nat.le_refl _
          have et := take_1 hx0
          refine am_iload_n dX10_block_257 rfl rfl ?_
          refine am_iload_n dX10_block_258 rfl rfl ?_
          refine am_iload_n dX10_block_259 rfl rfl ?_
          refine am_iadd dX10_block_260 rfl ?_
          rw [nI_add]
          refine am_ncmp_ge 369 dX10_block_261 rfl rfl (by omega) (by omega) (fun hc => ?_) (fun hc => ?_)
          · omega
          · refine am_aload_n dX10_block_264 rfl rfl ?_
            refine am_iconst (v := nI 1) dX10_block_265 rfl (by decide +kernel) ?_
            refine am_aload_n dX10_block_266 rfl rfl ?_
            refine am_get f_X10_25 dX10_block_267 rfl V.2.1.2.1 rfl ?_
            refine am_iload_n dX10_block_270 rfl rfl ?_
            refine am_iald dX10_block_271 rfl ((V.1 52 (by simp [frW])).trans h52) (by omega) (by omega) ?_
            rw [y1]
            refine am_vv (t_X10_giveSymbol (d - 1) _ V.2.1 (t := 1) (by omega) V.2.2.1 V.2.2.2.2.1 mC V.2.2.2.1 hxm.1 hc0 (by omega) (by omega)) k_X10_giveSymbol l_X10_154 dX10_block_272 rfl rfl rfl rfl V.2.1.2.1 (by omega) (Nat.le_refl _) (Nat.le_refl _) (fun h5 Y => ?_)
            have V1 := V.gv Y
            obtain ⟨s1, es1⟩ : ∃ s1, s1 = gsR (hlen 510 (bwC cs)) 510 (hal 510 (bwC cs)) x.1 s' := ⟨_, rfl⟩
            rw [← es1] at hR hmn g2 g3
            have V1 : bwH h h5 ct to (bl + 1) (co + i) (cp + (pds (cs.take i)).length) en fa tc3 s1 gl3 gc3 ga3 := by rw [es1]; exact V1
            refine am_aload_n dX10_block_275 rfl rfl ?_
            refine am_dup dX10_block_276 rfl ?_
            refine am_get f_X10_64 dX10_block_277 rfl V1.2.1.2.1 rfl ?_
            refine am_iconst (v := nI 1) dX10_block_280 rfl (by decide +kernel) ?_
            refine am_iadd dX10_block_281 rfl ?_
            rw [nI_add]
            refine am_put f_X10_64 dX10_block_282 rfl V1.2.1.2.1 (am_fit_i _) rfl ?_
            have V2 := V1.gv (H' := am_set h5 46 (mO ct s1.1.length to (bl + 1) (co + i + 1) (cp + (pds (cs.take i)).length) s1.2 en fa tc3)) (bl' := bl + 1) (co' := co + i + 1) (cp' := cp + (pds (cs.take i)).length) (en' := en) (fa' := fa) (tc' := tc3) (s' := s1) ⟨am_fr.rf.set (by simp), am_set_eq, V1.2.1.2.2.1.at (am_set_ne (by omega)), V1.2.1.2.2.2⟩
            obtain ⟨H6, eH6⟩ : ∃ H6, H6 = am_set h5 46 (mO ct s1.1.length to (bl + 1) (co + i + 1) (cp + (pds (cs.take i)).length) s1.2 en fa tc3) := ⟨_, rfl⟩
            refine am_eq rfl rfl rfl eH6.symm ?_
            rw [← eH6] at V2
            clear eH6
            refine am_aload_n dX10_block_285 rfl rfl ?_
            refine am_get f_X10_28 dX10_block_286 rfl V2.2.1.2.1 rfl ?_
            refine am_iload_n dX10_block_289 rfl rfl ?_
            refine am_iald dX10_block_290 rfl ((V2.1 53 (by simp [frW])).trans h53) (by omega) (by omega) ?_
            rw [y2]
            refine am_nif_le 363 dX10_block_291 rfl rfl (by omega) (fun hdz => ?_) (fun hdz => ?_)
            · rw [if_neg (fun q => by have := hxm.2.2.1 q; omega)] at hR
              have epd : pds (cs.take (i + 1)) = pds (cs.take i) := by rw [et, pds_snoc, if_neg (by omega), List.append_nil]
              refine am_iinc (n := 1) dX10_block_363 rfl rfl (nI_1 (fr + i)) ?_
              refine am_goto 257 dX10_block_366 rfl rfl ?_
              exact ih (i + 1) s1 H6 _ hr2 (by omega) hR (by rw [epd]; exact V2)
            · rw [if_pos (hxm.2.2.2 hdz)] at hR hmn
              have epd : (pds (cs.take (i + 1))).length = (pds (cs.take i)).length + 1 := by rw [et, pds_snoc, if_pos hdz, List.length_append]; rfl
              have hrk := rk_lt x.2
              have hp0 : hal 14 (bwP cs) = -1 → 0 < hlen 14 (bwP cs) (rk x.2) := fun z => (hlen_pos (by omega) (by omega) z hrk (cno_pos (pds_mem (List.mem_of_getElem? hx0) hdz))).2
              have rs := rk_spec (dd := x.2) (by omega)
              refine am_aload_n dX10_block_294 rfl rfl ?_
              refine am_dup dX10_block_295 rfl ?_
              refine am_get f_X10_67 dX10_block_296 rfl V2.2.1.2.1 rfl ?_
              refine am_iconst (v := nI 1) dX10_block_299 rfl (by decide +kernel) ?_
              refine am_iadd dX10_block_300 rfl ?_
              rw [nI_add]
              refine am_put f_X10_67 dX10_block_301 rfl V2.2.1.2.1 (am_fit_i _) rfl ?_
              have V3 := V2.gv (H' := am_set H6 46 (mO ct s1.1.length to (bl + 1) (co + i + 1) (cp + (pds (cs.take i)).length + 1) s1.2 en fa tc3)) (bl' := bl + 1) (co' := co + i + 1) (cp' := cp + (pds (cs.take i)).length + 1) (en' := en) (fa' := fa) (tc' := tc3) (s' := s1) ⟨am_fr.rf.set (by simp), am_set_eq, V2.2.1.2.2.1.at (am_set_ne (by omega)), V2.2.1.2.2.2⟩
              obtain ⟨H7, eH7⟩ : ∃ H7, H7 = am_set H6 46 (mO ct s1.1.length to (bl + 1) (co + i + 1) (cp + (pds (cs.take i)).length + 1) s1.2 en fa tc3) := ⟨_, rfl⟩
              refine am_eq rfl rfl rfl eH7.symm ?_
              rw [← eH7] at V3
              clear eH7
              refine am_aload_n dX10_block_304 rfl rfl ?_
              refine am_get f_X10_28 dX10_block_305 rfl V3.2.1.2.1 rfl ?_
              refine am_iload_n dX10_block_308 rfl rfl ?_
              refine am_iald dX10_block_309 rfl ((V3.1 53 (by simp [frW])).trans h53) (by omega) (by omega) ?_
              rw [y2]
              refine am_si (t_X10_rank (d - 1) _ (dd := x.2) (by omega) (by omega)) k_X10_rank l_X10_145 dX10_block_310 rfl rfl rfl rfl (by omega) (Nat.le_refl _) (Nat.le_refl _) (fun z h7 hx => ?_)
              obtain ⟨rfl, hh⟩ := hx
              obtain rfl := hh.symm
              refine am_istore dX10_block_313 rfl rfl ?_
              refine am_aload_n dX10_block_315 rfl rfl ?_
              refine am_iconst (v := nI 2) dX10_block_316 rfl (by decide +kernel) ?_
              refine am_iload dX10_block_317 rfl rfl ?_
              refine am_vv (t_X10_giveSymbol (d - 1) _ V3.2.1 (t := 2) (by omega) V3.2.2.1 V3.2.2.2.2.1 mP V3.2.2.2.1 hrk hp0 (by omega) (by omega)) k_X10_giveSymbol l_X10_154 dX10_block_319 rfl rfl rfl rfl V3.2.1.2.1 (by omega) (Nat.le_refl _) (Nat.le_refl _) (fun h8 Y2 => ?_)
              have V4 := V3.gv Y2
              have g5 := gsR_2 (hlen 14 (bwP cs)) 14 (hal 14 (bwP cs)) (rk x.2) s1
              have g6 := pdR_2 (hlen 14 (bwP cs)) (hal 14 (bwP cs)) x.2 s1
              have fin : ∀ (H9 : am_H) (x4 : Option am_V), gvH h8 H9 ct to (bl + 1) (co + i + 1) (cp + (pds (cs.take i)).length + 1) en fa tc3 (pdR (hlen 14 (bwP cs)) (hal 14 (bwP cs)) x.2 s1) → am_At l D dA m_X10_block d 0 0 0 0 n0 none (am_qv fun h' => ∃ tc' gl' gc' ga', bwH h h' ct to (bl + 1) (co + cs.length) (cp + (pds cs).length) en fa tc' (bwR cs s) gl' gc' ga' ∧ lnM gl' (hlen 19 (bwT cs), hlen 510 (bwC cs), hlen 14 (bwP cs))) 0 0 257 [some (am_r 46), some (.inl (nI fr)), some (.inl (nI cs.length)), some (.inl (nI (fr + (i + 1)))), x4] [] H9 := fun H9 x4 Y9 => ih (i + 1) _ H9 x4 hr2 (by omega) hR (by rw [epd]; exact V4.gv Y9)
              refine am_aload_n dX10_block_322 rfl rfl ?_
              refine am_iload dX10_block_323 rfl rfl ?_
              refine am_nif_ne 332 dX10_block_325 rfl rfl (by omega) (fun hp1 => ?_) (fun hp1 => ?_)
              · have hp2 : 2 ^ (rk x.2 - 1) < x.2 := rs.2 hp1
                have epr : pdR (hlen 14 (bwP cs)) (hal 14 (bwP cs)) x.2 s1 = gvR (x.2 - 1 - 2 ^ (rk x.2 - 1)) (rk x.2 - 1) (gsR (hlen 14 (bwP cs)) 14 (hal 14 (bwP cs)) (rk x.2) s1) := by unfold pdR; rw [if_neg (by omega)]
                refine am_aload_n dX10_block_332 rfl rfl ?_
                refine am_get f_X10_28 dX10_block_333 rfl V4.2.1.2.1 rfl ?_
                refine am_iload_n dX10_block_336 rfl rfl ?_
                refine am_iald dX10_block_337 rfl ((V4.1 53 (by simp [frW])).trans h53) (by omega) (by omega) ?_
                rw [y2]
                refine am_iconst (v := nI 1) dX10_block_338 rfl (by decide +kernel) ?_
                refine am_isub dX10_block_339 rfl ?_
                rw [pk_sub (by omega)]
                refine am_iconst (v := nI 1) dX10_block_340 rfl (by decide +kernel) ?_
                refine am_iload dX10_block_341 rfl rfl ?_
                refine am_iconst (v := nI 1) dX10_block_343 rfl (by decide +kernel) ?_
                refine am_isub dX10_block_344 rfl ?_
                rw [pk_sub (by omega)]
                refine am_ishl dX10_block_345 rfl ?_
                rw [am_m31 (by omega), pk_shlN (n := 1) (nI (rk x.2 - 1)) (rk x.2 - 1) (am_smod (by omega)) (by omega), Nat.one_mul]
                refine am_isub dX10_block_346 rfl ?_
                rw [pk_sub (by omega)]
                refine am_iload dX10_block_347 rfl rfl ?_
                refine am_nif_ne 356 dX10_block_349 rfl rfl (by omega) (fun hp3 => ?_) (fun hp3 => ?_)
                · refine am_iload dX10_block_356 rfl rfl ?_
                  refine am_iconst (v := nI 1) dX10_block_358 rfl (by decide +kernel) ?_
                  refine am_isub dX10_block_359 rfl ?_
                  rw [pk_sub (by omega)]
                  refine am_vv (t_X10_give (d - 1) _ V4.2.1 (v := x.2 - 1 - 2 ^ (rk x.2 - 1)) (n := rk x.2 - 1) (by omega) (by omega) (by omega)) k_X10_give l_X10_139 dX10_block_360 rfl rfl rfl rfl V4.2.1.2.1 (by omega) (Nat.le_refl _) (Nat.le_refl _) (fun h9 Y3 => ?_)
                  refine am_iinc (n := 1) dX10_block_363 rfl rfl (nI_1 (fr + i)) ?_
                  refine am_goto 257 dX10_block_366 rfl rfl ?_
                  exact fin h9 _ (by rw [epr]; exact Y3)
                · omega
              · have epr : pdR (hlen 14 (bwP cs)) (hal 14 (bwP cs)) x.2 s1 = gvR 0 0 (gsR (hlen 14 (bwP cs)) 14 (hal 14 (bwP cs)) (rk x.2) s1) := by unfold pdR; rw [if_pos hp1]; rfl
                refine am_iconst (v := nI 0) dX10_block_328 rfl (by decide +kernel) ?_
                refine am_goto 347 dX10_block_329 rfl rfl ?_
                refine am_iload dX10_block_347 rfl rfl ?_
                refine am_nif_ne 356 dX10_block_349 rfl rfl (by omega) (fun hp3 => ?_) (fun hp3 => ?_)
                · omega
                · refine am_iconst (v := nI 0) dX10_block_352 rfl (by decide +kernel) ?_
                  refine am_goto 360 dX10_block_353 rfl rfl ?_
                  refine am_vv (t_X10_give (d - 1) _ V4.2.1 (v := 0) (n := 0) (by omega) (by omega) (by omega)) k_X10_give l_X10_139 dX10_block_360 rfl rfl rfl rfl V4.2.1.2.1 (by omega) (Nat.le_refl _) (Nat.le_refl _) (fun h9 Y3 => ?_)
                  refine am_iinc (n := 1) dX10_block_363 rfl rfl (nI_1 (fr + i)) ?_
                  refine am_goto 257 dX10_block_366 rfl rfl ?_
                  exact fin h9 _ (by rw [epr]; exact Y3)
      exact loop cs 0 sC h4 _ rfl (Nat.zero_le _) eb.symm Z1
    refine am_aload_n dX10_block_104 rfl rfl ?_
    refine am_iload_n dX10_block_105 rfl rfl ?_
    refine am_bipush (v := nI 16) dX10_block_106 rfl (by decide +kernel) ?_
    refine am_vv (t_X10_give (d - 1) _ Z.2.1 (v := cs.length) (n := 16) (by omega) (by omega) (by omega)) k_X10_give l_X10_139 dX10_block_108 rfl rfl rfl rfl Z.2.1.2.1 (by omega) (Nat.le_refl _) (Nat.le_refl _) (fun h4 Y => ?_)
    have Z1 := Z.gv Y
    refine am_aload_n dX10_block_111 rfl rfl ?_
    refine am_get f_X10_22 dX10_block_112 rfl Z1.2.1.2.1 rfl ?_
    refine am_iconst (v := nI 1) dX10_block_115 rfl (by decide +kernel) ?_
    refine am_iald dX10_block_116 rfl Z1.2.2.2.2.1 (by omega) (by omega) ?_
    rw [mC.1]
    refine am_iconst (v := -1) dX10_block_117 rfl (by decide +kernel) ?_
    refine am_icmp_eq 156 dX10_block_118 rfl rfl (fun hal => ?_) (fun hal => ?_)
    · refine am_aload_n dX10_block_156 rfl rfl ?_
      refine am_vv (t_X10_tellAll (d - 1) _ Z1.2.1.2.1 Z1.2.2.2.2.2.2.1 Z1.2.2.2.2.2.2.2.1 Z1.2.2.2.2.2.2.2.2 Z1.2.2.1 (len := hlen 510 (bwC cs)) mC.2.1 (by omega)) k_X10_tellAll l_X10_151 dX10_block_157 rfl rfl rfl rfl Z1.2.1.2.1 (by omega) (Nat.le_refl _) (Nat.le_refl _) (fun h5 hx => ?_)
      obtain ⟨f5, e5, T5⟩ := hx
      have T5 : tlM h5 (btl cs) := T5
      have e5 : h5 46 = some (mO ct (gvR cs.length 16 s).1.length to (bl + 1) co cp (gvR cs.length 16 s).2 en fa (btl cs).length) := e5
      have Z2 : bwH h h5 ct to (bl + 1) co cp en fa (btl cs).length (gvR cs.length 16 s) gl2 gc2 ga2 := by
        obtain ⟨x1, x2, x3, x4, x5, ⟨x6, x7, x8⟩, x9, x10, x11⟩ := Z1
        obtain ⟨⟨q1, q2, q3, q4, q5⟩, q6, q7, q8⟩ := T5
        exact ⟨x1.tr f5 (by simp [frW]), ⟨am_fr.rf, e5, x2.2.2.1.at (f5 48 (by simp)), x2.2.2.2⟩, (f5 49 (by simp)).trans x3, (f5 50 (by simp)).trans x4, (f5 51 (by simp)).trans x5, ⟨x6.at (f5 54 (by simp)), x7.at (f5 55 (by simp)), by rw [f5 56 (by simp)]; exact x8⟩, ⟨q6, q7⟩, ⟨q1, q3⟩, ⟨q2, q4⟩⟩
      refine am_aload_n dX10_block_160 rfl rfl ?_
      refine am_iconst (v := nI 0) dX10_block_161 rfl (by decide +kernel) ?_
      refine am_vv (t_X10_merge (d - 1) _ Z2.2.1.2.1 (t := 0) (by omega) Z2.2.2.1 Z2.2.2.2.1 Z2.2.2.2.2.1 Z2.2.2.2.2.2.1.1 Z2.2.2.2.2.2.1.2.1 Z2.2.2.2.2.2.1.2.2 (w := bwT cs) T5.2 (fun v hv => by rw [Nat.mul_zero, Nat.zero_add]; exact zT v hv) aT w3 (by omega)) k_X10_merge l_X10_142 dX10_block_162 rfl rfl rfl rfl Z2.2.1.2.1 (by omega) (Nat.le_refl _) (Nat.le_refl _) (fun h6 hx => ?_)
      obtain ⟨gl4, gc4, ga4, f6, a1, a2, a3, G4, A4, mT, a4, a5, a6⟩ := hx
      have Z3 := Z2.mg f6 a1 a2 a3 a4 a5 a6
      have mC4 : mrd gl4 gc4 ga4 1 (hal 510 (bwC cs)) (hlen 510 (bwC cs)) := mC.at (fun v hv => (G4 _ (fun z hz => by omega)).1) (fun v hv => (G4 _ (fun z hz => by omega)).2) (A4 1 (by omega))
      have mP4 : mrd gl4 gc4 ga4 2 (hal 14 (bwP cs)) (hlen 14 (bwP cs)) := mP.at (fun v hv => (G4 _ (fun z hz => by omega)).1) (fun v hv => (G4 _ (fun z hz => by omega)).2) (A4 2 (by omega))
      have T6 := T5.at (h' := h6) (fun j a b => f6 j (by simp; omega))
      refine am_aload_n dX10_block_165 rfl rfl ?_
      refine am_iconst (v := nI 0) dX10_block_166 rfl (by decide +kernel) ?_
      refine am_iconst (v := nI 5) dX10_block_167 rfl (by decide +kernel) ?_
      refine am_vv (t_X10_giveSmall (d - 1) _ Z3.2.1 (t := 0) (nb := 5) (gp := true) (by omega) (by omega) (by omega) (by decide) Z3.2.2.1 Z3.2.2.2.2.1 mT (by omega) (by omega)) k_X10_giveSmall l_X10_148 dX10_block_168 rfl rfl rfl rfl Z3.2.1.2.1 (by omega) (Nat.le_refl _) (Nat.le_refl _) (fun h7 Y7 => ?_)
      have Y7 : gvH h6 h7 ct to (bl + 1) co cp en fa (btl cs).length sA := by rw [eA]; exact Y7
      have Z4 := Z3.gv Y7
      have T7 := T6.at (h' := h7) (fun j a b => Y7.1 j (by simp; omega))
      have lm4 : lnM gl4 (hlen 19 (bwT cs), hlen 510 (bwC cs), hlen 14 (bwP cs)) := ⟨fun v hv => by have := (mT.2.1 v hv).1; rw [Nat.mul_zero, Nat.zero_add] at this; exact this, fun v hv => (mC4.2.1 v hv).1, fun v hv => (mP4.2.1 v hv).1⟩
      refine am_aload_n dX10_block_171 rfl rfl ?_
      refine am_aload_n dX10_block_172 rfl rfl ?_
      refine am_iconst (v := nI 1) dX10_block_173 rfl (by decide +kernel) ?_
      refine am_vi (t_X10_last (d - 1) _ Z4.2.1.2.1 (t := 1) (by omega) Z4.2.2.1 mC4.2.1 (by omega)) k_X10_last l_X10_133 dX10_block_174 rfl rfl rfl rfl Z4.2.1.2.1 (by omega) (Nat.le_refl _) (Nat.le_refl _) (fun z h8 hx => ?_)
      obtain ⟨rfl, hh⟩ := hx
      obtain rfl := hh.symm
      have hlst := lst_le (hlen 510 (bwC cs)) 510
      refine am_bipush (v := nI 9) dX10_block_177 rfl (by decide +kernel) ?_
      refine am_vv (t_X10_give (d - 1) _ Z4.2.1 (v := lst (hlen 510 (bwC cs)) 510) (n := 9) (by omega) (by omega) (by omega)) k_X10_give l_X10_139 dX10_block_179 rfl rfl rfl rfl Z4.2.1.2.1 (by omega) (Nat.le_refl _) (Nat.le_refl _) (fun h8 Y8 => ?_)
      have Z5 := Z4.gv Y8
      have T8 := T7.at (h' := h8) (fun j a b => Y8.1 j (by simp; omega))
      have eB2 : sB = tcR (hlen 19 (bwT cs)) (hal 19 (bwT cs)) (btl cs) (gvR (lst (hlen 510 (bwC cs)) 510) 9 sA) := by rw [eB]; unfold tCr; rw [if_pos hal]
      refine am_iconst (v := nI 0) dX10_block_182 rfl (by decide +kernel) ?_
      refine am_istore_n dX10_block_183 rfl rfl ?_
      have loop : ∀ (r : List (Nat × Nat)) (i : Nat) (s' : List Int32 × Nat) (H : am_H), (btl cs).drop i = r → i ≤ (btl cs).length → tcR (hlen 19 (bwT cs)) (hal 19 (bwT cs)) r s' = sB → bwH h H ct to (bl + 1) co cp en fa (btl cs).length s' gl4 gc4 ga4 → tlM H (btl cs) → am_At l D dA m_X10_block d 0 0 0 0 n0 none (am_qv fun h' => ∃ tc' gl' gc' ga', bwH h h' ct to (bl + 1) (co + cs.length) (cp + (pds cs).length) en fa tc' (bwR cs s) gl' gc' ga' ∧ lnM gl' (hlen 19 (bwT cs), hlen 510 (bwC cs), hlen 14 (bwP cs))) 0 0 184 [some (am_r 46), some (.inl (nI fr)), some (.inl (nI cs.length)), some (.inl (nI i)), x4] [] H := by
        intro r
        induction r with
        | nil =>
          intro i s' H hr hi hR V TV
          have hR : s' = sB := hR
          have hil : (btl cs).length ≤ i := by
            have := congrArg List.length hr
            rw [List.length_drop] at this
            have e0 : ([] : List (Nat × Nat)).length = 0 := rfl
            omega
          rw [hR] at V
          refine am_iload_n dX10_block_184 rfl rfl ?_
          refine am_aload_n dX10_block_185 rfl rfl ?_
          refine am_get f_X10_127 dX10_block_186 rfl V.2.1.2.1 rfl ?_
          refine am_ncmp_ge 249 dX10_block_189 rfl rfl (by omega) (by omega) (fun hc => ?_) (fun hc => ?_)
          · exact st4 H _ gl4 gc4 ga4 _ _ V mC4 mP4 lm4
          · omega
        | cons x r ih =>
          intro i s' H hr hi hR V TV
          have hx0 : (btl cs)[i]? = some x := by
            have := congrArg (fun z => z[0]?) hr
            simpa using this
          have hil : i < (btl cs).length := (List.getElem?_eq_some_iff.mp hx0).1
          have hxm := w5 x (List.mem_of_getElem? hx0)
          have hr2 : (btl cs).drop (i + 1) = r := by
            rw [← List.tail_drop, hr]
            rfl
          obtain ⟨⟨f8, f9, t8, t9, tfg⟩, t10⟩ := id TV
          obtain ⟨y1, y2⟩ := tfg i x hx0
          have ht0 : hal 19 (bwT cs) = -1 → 0 < hlen 19 (bwT cs) x.1 := fun z => (hlen_pos (by omega) (by omega) z hxm.1 (cno_pos (List.mem_map_of_mem (List.mem_of_getElem? hx0)))).2
          have hR : tcR (hlen 19 (bwT cs)) (hal 19 (bwT cs)) r (gvR x.2 (bbh x.1) (gsR (hlen 19 (bwT cs)) 19 (hal 19 (bwT cs)) x.1 s')) = sB := hR
          have hmn := tcR_mono (hlen 19 (bwT cs)) (hal 19 (bwT cs)) r (gvR x.2 (bbh x.1) (gsR (hlen 19 (bwT cs)) 19 (hal 19 (bwT cs)) x.1 s'))
          rw [hR, gvR_2, gsR_2] at hmn
          have hbb : bbh x.1 ≤ 9 := by unfold bbh; split; omega; split <;> omega
          refine am_iload_n dX10_block_184 rfl rfl ?_
          refine am_aload_n dX10_block_185 rfl rfl ?_
          refine am_get f_X10_127 dX10_block_186 rfl V.2.1.2.1 rfl ?_
          refine am_ncmp_ge 249 dX10_block_189 rfl rfl (by omega) (by omega) (fun hc => ?_) (fun hc => ?_)
          · omega
          · refine am_aload_n dX10_block_192 rfl rfl ?_
            refine am_iconst (v := nI 0) dX10_block_193 rfl (by decide +kernel) ?_
            refine am_aload_n dX10_block_194 rfl rfl ?_
            refine am_get f_X10_44 dX10_block_195 rfl V.2.1.2.1 rfl ?_
            refine am_iload_n dX10_block_198 rfl rfl ?_
            refine am_iald dX10_block_199 rfl t8 (by omega) (by omega) ?_
            rw [y1]
            refine am_vv (t_X10_giveSymbol (d - 1) _ V.2.1 (t := 0) (by omega) V.2.2.1 V.2.2.2.2.1 mT V.2.2.2.1 hxm.1 ht0 (by omega) (by omega)) k_X10_giveSymbol l_X10_154 dX10_block_200 rfl rfl rfl rfl V.2.1.2.1 (by omega) (Nat.le_refl _) (Nat.le_refl _) (fun h9 Y9 => ?_)
            have V1 := V.gv Y9
            have TV1 := TV.at (h' := h9) (fun j a b => Y9.1 j (by simp; omega))
            have g5 := gsR_2 (hlen 19 (bwT cs)) 19 (hal 19 (bwT cs)) x.1 s'
            have fin : ∀ (H9 : am_H), gvH h9 H9 ct to (bl + 1) co cp en fa (btl cs).length (gvR x.2 (bbh x.1) (gsR (hlen 19 (bwT cs)) 19 (hal 19 (bwT cs)) x.1 s')) → am_At l D dA m_X10_block d 0 0 0 0 n0 none (am_qv fun h' => ∃ tc' gl' gc' ga', bwH h h' ct to (bl + 1) (co + cs.length) (cp + (pds cs).length) en fa tc' (bwR cs s) gl' gc' ga' ∧ lnM gl' (hlen 19 (bwT cs), hlen 510 (bwC cs), hlen 14 (bwP cs))) 0 0 184 [some (am_r 46), some (.inl (nI fr)), some (.inl (nI cs.length)), some (.inl (nI (i + 1))), x4] [] H9 := fun H9 Y10 => ih (i + 1) _ H9 hr2 (by omega) hR (V1.gv Y10) (TV1.at (fun j a b => Y10.1 j (by simp; omega)))
            refine am_aload_n dX10_block_203 rfl rfl ?_
            refine am_aload_n dX10_block_204 rfl rfl ?_
            refine am_get f_X10_47 dX10_block_205 rfl V1.2.1.2.1 rfl ?_
            refine am_iload_n dX10_block_208 rfl rfl ?_
            refine am_iald dX10_block_209 rfl ((Y9.1 59 (by simp)).trans t9) (by omega) (by omega) ?_
            rw [y2]
            refine am_aload_n dX10_block_210 rfl rfl ?_
            refine am_get f_X10_44 dX10_block_211 rfl V1.2.1.2.1 rfl ?_
            refine am_iload_n dX10_block_214 rfl rfl ?_
            refine am_iald dX10_block_215 rfl ((Y9.1 58 (by simp)).trans t8) (by omega) (by omega) ?_
            rw [y1]
            refine am_iconst (v := nI 1) dX10_block_216 rfl (by decide +kernel) ?_
            refine am_ncmp_ne 224 dX10_block_217 rfl rfl (by omega) (by omega) (fun hx1 => ?_) (fun hx1 => ?_)
            · refine am_aload_n dX10_block_224 rfl rfl ?_
              refine am_get f_X10_44 dX10_block_225 rfl V1.2.1.2.1 rfl ?_
              refine am_iload_n dX10_block_228 rfl rfl ?_
              refine am_iald dX10_block_229 rfl ((Y9.1 58 (by simp)).trans t8) (by omega) (by omega) ?_
              rw [y1]
              refine am_iconst (v := nI 2) dX10_block_230 rfl (by decide +kernel) ?_
              refine am_ncmp_ne 239 dX10_block_231 rfl rfl (by omega) (by omega) (fun hx2 => ?_) (fun hx2 => ?_)
              · refine am_iconst (v := nI 0) dX10_block_239 rfl (by decide +kernel) ?_
                refine am_vv (t_X10_give (d - 1) _ V1.2.1 (v := x.2) (n := 0) (by omega) (by omega) (by omega)) k_X10_give l_X10_139 dX10_block_240 rfl rfl rfl rfl V1.2.1.2.1 (by omega) (Nat.le_refl _) (Nat.le_refl _) (fun h10 Y10 => ?_)
                refine am_iinc (n := 1) dX10_block_243 rfl rfl (nI_1 i) ?_
                refine am_goto 184 dX10_block_246 rfl rfl ?_
                exact fin h10 (by rw [show bbh x.1 = 0 by unfold bbh; rw [if_neg hx1, if_neg hx2]]; exact Y10)
              · refine am_bipush (v := nI 9) dX10_block_234 rfl (by decide +kernel) ?_
                refine am_goto 240 dX10_block_236 rfl rfl ?_
                refine am_vv (t_X10_give (d - 1) _ V1.2.1 (v := x.2) (n := 9) (by omega) (by omega) (by omega)) k_X10_give l_X10_139 dX10_block_240 rfl rfl rfl rfl V1.2.1.2.1 (by omega) (Nat.le_refl _) (Nat.le_refl _) (fun h10 Y10 => ?_)
                refine am_iinc (n := 1) dX10_block_243 rfl rfl (nI_1 i) ?_
                refine am_goto 184 dX10_block_246 rfl rfl ?_
                exact fin h10 (by rw [show bbh x.1 = 9 by unfold bbh; rw [if_neg hx1, if_pos hx2]]; exact Y10)
            · refine am_iconst (v := nI 4) dX10_block_220 rfl (by decide +kernel) ?_
              refine am_goto 240 dX10_block_221 rfl rfl ?_
              refine am_vv (t_X10_give (d - 1) _ V1.2.1 (v := x.2) (n := 4) (by omega) (by omega) (by omega)) k_X10_give l_X10_139 dX10_block_240 rfl rfl rfl rfl V1.2.1.2.1 (by omega) (Nat.le_refl _) (Nat.le_refl _) (fun h10 Y10 => ?_)
              refine am_iinc (n := 1) dX10_block_243 rfl rfl (nI_1 i) ?_
              refine am_goto 184 dX10_block_246 rfl rfl ?_
              exact fin h10 (by rw [show bbh x.1 = 4 by unfold bbh; rw [if_pos hx1]]; exact Y10)
      exact loop (btl cs) 0 _ h8 rfl (Nat.zero_le _) eB2.symm Z5 T8
    · obtain ⟨⟨y, hy, ey⟩, hz0⟩ := hal_one (by omega) hal
      have ebt : btl cs = [] := by
        unfold btl
        rw [show hlen 510 (bwC cs) = (fun _ => 0) from funext hz0]
        have : ∀ n, lst (fun _ => 0) n = 0 := fun n => by
          induction n with
          | zero => rfl
          | succ n ih => rw [lst, if_pos rfl]; exact ih
        rw [this]
        rfl
      have ewT : bwT cs = fun _ => 0 := by unfold bwT; rw [ebt]; rfl
      have hT0 := hal_z 19
      rw [← ewT] at hT0
      refine am_aload_n dX10_block_121 rfl rfl ?_
      refine am_get f_X10_22 dX10_block_122 rfl Z1.2.1.2.1 rfl ?_
      refine am_iconst (v := nI 0) dX10_block_125 rfl (by decide +kernel) ?_
      refine am_iconst (v := nI 0) dX10_block_126 rfl (by decide +kernel) ?_
      refine am_iast dX10_block_127 rfl Z1.2.2.2.2.1 (by omega) (by omega) ?_
      refine am_aload_n dX10_block_128 rfl rfl ?_
      refine am_iconst (v := nI 0) dX10_block_129 rfl (by decide +kernel) ?_
      refine am_iconst (v := nI 5) dX10_block_130 rfl (by decide +kernel) ?_
      have Z2 : bwH h (am_set h4 51 (.inl (false, 3, upd ga2 0 (nI 0)))) ct to (bl + 1) co cp en fa tc (gvR cs.length 16 s) gl2 gc2 (upd ga2 0 (nI 0)) := by
        obtain ⟨x1, x2, x3, x4, x5, ⟨x6, x7, x8⟩, x9, x10, x11⟩ := id Z1
        exact Z1.mg (am_fr.rf.set (by simp)) ((am_set_ne (by omega)).trans x3) ((am_set_ne (by omega)).trans x4) am_set_eq (x6.at (am_set_ne (by omega))) (x7.at (am_set_ne (by omega))) (by rw [am_set_ne (by omega)]; exact x8)
      have mT : mrd gl2 gc2 (upd ga2 0 (nI 0)) 0 (hal 19 (bwT cs)) (hlen 19 (bwT cs)) := by
        rw [hT0.1]
        exact ⟨upd_eq, fun v hv => by rw [hT0.2 v, Nat.mul_zero, Nat.zero_add]; exact ⟨zT v hv, Nat.zero_le _⟩, fun q => absurd q (am_nm1 (by omega)), fun _ => ⟨0, by omega, rfl⟩⟩
      have mC4 : mrd gl2 gc2 (upd ga2 0 (nI 0)) 1 (hal 510 (bwC cs)) (hlen 510 (bwC cs)) := mC.at (fun v hv => rfl) (fun v hv => rfl) (upd_ne (by omega))
      have mP4 : mrd gl2 gc2 (upd ga2 0 (nI 0)) 2 (hal 14 (bwP cs)) (hlen 14 (bwP cs)) := mP.at (fun v hv => rfl) (fun v hv => rfl) (upd_ne (by omega))
      refine am_vv (t_X10_giveSmall (d - 1) _ Z2.2.1 (t := 0) (nb := 5) (gp := true) (by omega) (by omega) (by omega) (by decide) Z2.2.2.1 Z2.2.2.2.2.1 mT (by omega) (by omega)) k_X10_giveSmall l_X10_148 dX10_block_131 rfl rfl rfl rfl Z2.2.1.2.1 (by omega) (Nat.le_refl _) (Nat.le_refl _) (fun h7 Y7 => ?_)
      have Z3 := Z2.gv Y7
      have Z3 : bwH h h7 ct to (bl + 1) co cp en fa tc sA gl2 gc2 (upd ga2 0 (nI 0)) := by rw [eA]; exact Z3
      refine am_aload_n dX10_block_134 rfl rfl ?_
      refine am_iconst (v := nI 0) dX10_block_135 rfl (by decide +kernel) ?_
      refine am_bipush (v := nI 9) dX10_block_136 rfl (by decide +kernel) ?_
      refine am_vv (t_X10_give (d - 1) _ Z3.2.1 (v := 0) (n := 9) (by omega) (by omega) (by omega)) k_X10_give l_X10_139 dX10_block_138 rfl rfl rfl rfl Z3.2.1.2.1 (by omega) (Nat.le_refl _) (Nat.le_refl _) (fun h8 Y8 => ?_)
      have Z4 := Z3.gv Y8
      have g9 := gvR_2 0 9 sA
      refine am_aload_n dX10_block_141 rfl rfl ?_
      refine am_aload_n dX10_block_142 rfl rfl ?_
      refine am_get f_X10_22 dX10_block_143 rfl Z4.2.1.2.1 rfl ?_
      refine am_iconst (v := nI 1) dX10_block_146 rfl (by decide +kernel) ?_
      refine am_iald dX10_block_147 rfl Z4.2.2.2.2.1 (by omega) (by omega) ?_
      rw [mC4.1, ey]
      refine am_bipush (v := nI 9) dX10_block_148 rfl (by decide +kernel) ?_
      have eB2 : sB = gvR y 9 (gvR 0 9 sA) := by
        rw [eB]
        unfold tCr
        rw [if_neg hal, ey, pk_tn (by omega)]
      have g10 := gvR_2 y 9 (gvR 0 9 sA)
      rw [← eB2] at g10
      refine am_vv (t_X10_give (d - 1) _ Z4.2.1 (v := y) (n := 9) (by omega) (by omega) (by omega)) k_X10_give l_X10_139 dX10_block_150 rfl rfl rfl rfl Z4.2.1.2.1 (by omega) (Nat.le_refl _) (Nat.le_refl _) (fun h9 Y9 => ?_)
      refine am_goto 249 dX10_block_153 rfl rfl ?_
      refine st4 h9 tc gl2 gc2 _ _ _ (by rw [eB2]; exact Z4.gv Y9) mC4 mP4 ⟨fun v hv => ?_, fun v hv => (mC4.2.1 v hv).1, fun v hv => (mP4.2.1 v hv).1⟩
      show gl2 v = nI (hlen 19 (bwT cs) v)
      rw [hT0.2 v]
      exact zT v hv
  have st2 : ∀ (H : am_H) (gl2 gc2 ga2 : Nat → Int32) (x4 : Option am_V), bwH h H ct to (bl + 1) co cp en fa tc s gl2 gc2 ga2 → nmA H 57 600 600 (fun _ => 0) → mrd gl2 gc2 ga2 1 (hal 510 (bwC cs)) (hlen 510 (bwC cs)) → (∀ s, s < 19 → gl2 s = nI 0) → (∀ s, s < 14 → gl2 (1200 + s) = nI 0) → ga2 0 = -1 → ga2 2 = -1 → am_At l D dA m_X10_block d 0 0 0 0 n0 none (am_qv fun h' => ∃ tc' gl' gc' ga', bwH h h' ct to (bl + 1) (co + cs.length) (cp + (pds cs).length) en fa tc' (bwR cs s) gl' gc' ga' ∧ lnM gl' (hlen 19 (bwT cs), hlen 510 (bwC cs), hlen 14 (bwP cs))) 0 0 59 [some (am_r 46), some (.inl (nI fr)), some (.inl (nI cs.length)), some (.inl (nI fr)), x4] [] H := by
    intro H gl2 gc2 ga2 x4 Z N0 mC zT zP aT aP
    have loop : ∀ (r : List (Nat × Nat)) (i : Nat) (H : am_H), cs.drop i = r → i ≤ cs.length → bwH h H ct to (bl + 1) co cp en fa tc s gl2 gc2 ga2 → nmA H 57 600 600 (cno (pds (cs.take i))) → am_At l D dA m_X10_block d 0 0 0 0 n0 none (am_qv fun h' => ∃ tc' gl' gc' ga', bwH h h' ct to (bl + 1) (co + cs.length) (cp + (pds cs).length) en fa tc' (bwR cs s) gl' gc' ga' ∧ lnM gl' (hlen 19 (bwT cs), hlen 510 (bwC cs), hlen 14 (bwP cs))) 0 0 59 [some (am_r 46), some (.inl (nI fr)), some (.inl (nI cs.length)), some (.inl (nI (fr + i))), x4] [] H := by
      intro r
      induction r with
      | nil =>
        intro i H hr hi V NV
        have hil : cs.length ≤ i := by
          have := congrArg List.length hr
          rw [List.length_drop] at this
          have e0 : ([] : List (Nat × Nat)).length = 0 := rfl
          omega
        obtain rfl : i = cs.length := by omega
        rw [List.take_length] at NV
        refine am_iload_n dX10_block_59 rfl rfl ?_
        refine am_iload_n dX10_block_60 rfl rfl ?_
        refine am_iload_n dX10_block_61 rfl rfl ?_
        refine am_iadd dX10_block_62 rfl ?_
        rw [nI_add]
        refine am_ncmp_ge 99 dX10_block_63 rfl rfl (by omega) (by omega) (fun hc => ?_) (fun hc => ?_)
        · refine am_aload_n dX10_block_99 rfl rfl ?_
          refine am_iconst (v := nI 2) dX10_block_100 rfl (by decide +kernel) ?_
          refine am_vv (t_X10_merge (d - 1) _ V.2.1.2.1 (t := 2) (by omega) V.2.2.1 V.2.2.2.1 V.2.2.2.2.1 V.2.2.2.2.2.1.1 V.2.2.2.2.2.1.2.1 V.2.2.2.2.2.1.2.2 (w := bwP cs) NV (fun v hv => zP v hv) aP w2 (by omega)) k_X10_merge l_X10_142 dX10_block_101 rfl rfl rfl rfl V.2.1.2.1 (by omega) (Nat.le_refl _) (Nat.le_refl _) (fun h6 hx => ?_)
          obtain ⟨gl4, gc4, ga4, f6, a1, a2, a3, G4, A4, mP, a4, a5, a6⟩ := hx
          have hs1 : sym 1 = 510 := rfl
          exact st3 h6 gl4 gc4 ga4 _ _ (V.mg f6 a1 a2 a3 a4 a5 a6) (mC.at (fun v hv => (G4 _ (fun z hz => by omega)).1) (fun v hv => (G4 _ (fun z hz => by omega)).2) (A4 1 (by omega))) mP (fun v hv => ((G4 v (fun z hz => by omega)).1).trans (zT v hv)) ((A4 0 (by omega)).trans aT)
        · omega
      | cons x r ih =>
        intro i H hr hi V NV
        have hx0 : cs[i]? = some x := by
          have := congrArg (fun z => z[0]?) hr
          simpa using this
        have hil : i < cs.length := (List.getElem?_eq_some_iff.mp hx0).1
        have hxm := gm x (List.mem_of_getElem? hx0)
        have hr2 : cs.drop (i + 1) = r := by
          rw [← List.tail_drop, hr]
          rfl
        obtain ⟨y1, y2⟩ := hcs i x hx0
        have et := take_1 hx0
        obtain ⟨g7, v7, n7⟩ := NV
        refine am_iload_n dX10_block_59 rfl rfl ?_
        refine am_iload_n dX10_block_60 rfl rfl ?_
        refine am_iload_n dX10_block_61 rfl rfl ?_
        refine am_iadd dX10_block_62 rfl ?_
        rw [nI_add]
        refine am_ncmp_ge 99 dX10_block_63 rfl rfl (by omega) (by omega) (fun hc => ?_) (fun hc => ?_)
        · omega
        · refine am_aload_n dX10_block_66 rfl rfl ?_
          refine am_get f_X10_28 dX10_block_67 rfl V.2.1.2.1 rfl ?_
          refine am_iload_n dX10_block_70 rfl rfl ?_
          refine am_iald dX10_block_71 rfl ((V.1 53 (by simp [frW])).trans h53) (by omega) (by omega) ?_
          rw [y2]
          refine am_nif_le 93 dX10_block_72 rfl rfl (by omega) (fun hdz => ?_) (fun hdz => ?_)
          · refine am_iinc (n := 1) dX10_block_93 rfl rfl (nI_1 (fr + i)) ?_
            refine am_goto 59 dX10_block_96 rfl rfl ?_
            exact ih (i + 1) H hr2 (by omega) V (by rw [et, pds_snoc, if_neg (by omega), List.append_nil]; exact ⟨g7, v7, n7⟩)
          · refine am_aload_n dX10_block_75 rfl rfl ?_
            refine am_get f_X10_41 dX10_block_76 rfl V.2.1.2.1 rfl ?_
            refine am_aload_n dX10_block_79 rfl rfl ?_
            refine am_get f_X10_28 dX10_block_80 rfl V.2.1.2.1 rfl ?_
            refine am_iload_n dX10_block_83 rfl rfl ?_
            refine am_iald dX10_block_84 rfl ((V.1 53 (by simp [frW])).trans h53) (by omega) (by omega) ?_
            rw [y2]
            refine am_si (t_X10_rank (d - 1) _ (dd := x.2) (by omega) (by omega)) k_X10_rank l_X10_145 dX10_block_85 rfl rfl rfl rfl (by omega) (Nat.le_refl _) (Nat.le_refl _) (fun z h7 hx => ?_)
            obtain ⟨rfl, hh⟩ := hx
            obtain rfl := hh.symm
            have hrk := rk_lt x.2
            refine am_dup2 dX10_block_88 rfl ?_
            refine am_iald dX10_block_89 rfl v7 (by omega) (by omega) ?_
            rw [n7 _ (by omega)]
            refine am_iconst (v := nI 1) dX10_block_90 rfl (by decide +kernel) ?_
            refine am_iadd dX10_block_91 rfl ?_
            rw [nI_add]
            refine am_iast dX10_block_92 rfl v7 (by omega) (by omega) ?_
            refine am_iinc (n := 1) dX10_block_93 rfl rfl (nI_1 (fr + i)) ?_
            refine am_goto 59 dX10_block_96 rfl rfl ?_
            refine ih (i + 1) _ hr2 (by omega) (V.ti _) ?_
            rw [et, pds_snoc, if_pos hdz, cno_upd]
            refine ⟨_, am_set_eq, fun j hj => ?_⟩
            by_cases z : j = rk x.2
            · rw [z, upd_eq, updN_eq]
            · rw [upd_ne z, updN_ne z]; exact n7 j hj
    exact loop cs 0 H rfl (Nat.zero_le _) Z N0
  have st1 : ∀ (r : List (Nat × Nat)) (i : Nat) (H : am_H) (x4 : Option am_V), cs.drop i = r → i ≤ cs.length → bwH h H ct to (bl + 1) co cp en fa tc s gl1 gc ga1 → nmA H 57 600 600 (cno ((cs.take i).map Prod.fst)) → am_At l D dA m_X10_block d 0 0 0 0 n0 none (am_qv fun h' => ∃ tc' gl' gc' ga', bwH h h' ct to (bl + 1) (co + cs.length) (cp + (pds cs).length) en fa tc' (bwR cs s) gl' gc' ga' ∧ lnM gl' (hlen 19 (bwT cs), hlen 510 (bwC cs), hlen 14 (bwP cs))) 0 0 20 [some (am_r 46), some (.inl (nI fr)), some (.inl (nI cs.length)), some (.inl (nI (fr + i))), x4] [] H := by
    intro r
    induction r with
    | nil =>
      intro i H x4 hr hi V NV
      have hil : cs.length ≤ i := by
        have := congrArg List.length hr
        rw [List.length_drop] at this
        have e0 : ([] : List (Nat × Nat)).length = 0 := rfl
        omega
      obtain rfl : i = cs.length := by omega
      rw [List.take_length] at NV
      have hs1 : sym 1 = 510 := rfl
      refine am_iload_n dX10_block_20 rfl rfl ?_
      refine am_iload_n dX10_block_21 rfl rfl ?_
      refine am_iload_n dX10_block_22 rfl rfl ?_
      refine am_iadd dX10_block_23 rfl ?_
      rw [nI_add]
      refine am_ncmp_ge 48 dX10_block_24 rfl rfl (by omega) (by omega) (fun hc => ?_) (fun hc => ?_)
      · refine am_aload_n dX10_block_48 rfl rfl ?_
        refine am_iconst (v := nI 1) dX10_block_49 rfl (by decide +kernel) ?_
        refine am_vv (t_X10_merge (d - 1) _ V.2.1.2.1 (t := 1) (by omega) V.2.2.1 V.2.2.2.1 V.2.2.2.2.1 V.2.2.2.2.2.1.1 V.2.2.2.2.2.1.2.1 V.2.2.2.2.2.1.2.2 (w := bwC cs) NV (fun v hv => z1 _ (by omega)) (z2 1 (by omega)) w1 (by omega)) k_X10_merge l_X10_142 dX10_block_50 rfl rfl rfl rfl V.2.1.2.1 (by omega) (Nat.le_refl _) (Nat.le_refl _) (fun h6 hx => ?_)
        obtain ⟨gl4, gc4, ga4, f6, a1, a2, a3, G4, A4, mC, a4, a5, a6⟩ := hx
        have V1 := V.mg f6 a1 a2 a3 a4 a5 a6
        refine am_aload_n dX10_block_53 rfl rfl ?_
        refine am_vv (t_X10_clearTimes (d - 1) _ V1.2.1.2.1 V1.2.2.2.2.2.2.1) k_X10_clearTimes l_X10_130 dX10_block_54 rfl rfl rfl rfl V1.2.1.2.1 (by omega) (Nat.le_refl _) (Nat.le_refl _) (fun h7 hx => ?_)
        obtain ⟨g8, rfl, z8⟩ := hx
        refine am_iload_n dX10_block_57 rfl rfl ?_
        refine am_istore_n dX10_block_58 rfl rfl ?_
        exact st2 _ gl4 gc4 ga4 _ (V1.ti g8) ⟨g8, am_set_eq, fun j hj => z8 j hj⟩ mC (fun v hv => ((G4 v (fun z hz => by omega)).1).trans (z1 v (by omega))) (fun v hv => ((G4 (1200 + v) (fun z hz => by omega)).1).trans (z1 _ (by omega))) ((A4 0 (by omega)).trans (z2 0 (by omega))) ((A4 2 (by omega)).trans (z2 2 (by omega)))
      · omega
    | cons x r ih =>
      intro i H x4 hr hi V NV
      have hx0 : cs[i]? = some x := by
        have := congrArg (fun z => z[0]?) hr
        simpa using this
      have hil : i < cs.length := (List.getElem?_eq_some_iff.mp hx0).1
      have hxm := gm x (List.mem_of_getElem? hx0)
      have hr2 : cs.drop (i + 1) = r := by
        rw [← List.tail_drop, hr]
        rfl
      obtain ⟨y1, y2⟩ := hcs i x hx0
      have et := take_1 hx0
      obtain ⟨g8, v7, n7⟩ := NV
      refine am_iload_n dX10_block_20 rfl rfl ?_
      refine am_iload_n dX10_block_21 rfl rfl ?_
      refine am_iload_n dX10_block_22 rfl rfl ?_
      refine am_iadd dX10_block_23 rfl ?_
      rw [nI_add]
      refine am_ncmp_ge 48 dX10_block_24 rfl rfl (by omega) (by omega) (fun hc => ?_) (fun hc => ?_)
      · omega
      · refine am_aload_n dX10_block_27 rfl rfl ?_
        refine am_get f_X10_41 dX10_block_28 rfl V.2.1.2.1 rfl ?_
        refine am_aload_n dX10_block_31 rfl rfl ?_
        refine am_get f_X10_25 dX10_block_32 rfl V.2.1.2.1 rfl ?_
        refine am_iload_n dX10_block_35 rfl rfl ?_
        refine am_iald dX10_block_36 rfl ((V.1 52 (by simp [frW])).trans h52) (by omega) (by omega) ?_
        rw [y1]
        refine am_dup2 dX10_block_37 rfl ?_
        refine am_iald dX10_block_38 rfl v7 (by omega) (by omega) ?_
        rw [n7 _ (by omega)]
        refine am_iconst (v := nI 1) dX10_block_39 rfl (by decide +kernel) ?_
        refine am_iadd dX10_block_40 rfl ?_
        rw [nI_add]
        refine am_iast dX10_block_41 rfl v7 (by omega) (by omega) ?_
        refine am_iinc (n := 1) dX10_block_42 rfl rfl (nI_1 (fr + i)) ?_
        refine am_goto 20 dX10_block_45 rfl rfl ?_
        refine ih (i + 1) _ _ hr2 (by omega) (V.ti _) ?_
        rw [et, List.map_append]
        show nmA _ 57 600 600 (cno ((cs.take i).map Prod.fst ++ [x.1]))
        rw [cno_upd]
        refine ⟨_, am_set_eq, fun j hj => ?_⟩
        by_cases z : j = x.1
        · rw [z, upd_eq, updN_eq]
        · rw [upd_ne z, updN_ne z]; exact n7 j hj
  exact st1 cs 0 _ _ rfl (Nat.zero_le _) X3 ⟨g7, am_set_eq, fun j hj => z7 j hj⟩
end MOD12
