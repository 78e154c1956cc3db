/-! ===== the reference: a block ===== -/
section MOD12
variable {l : Launch} {D : va_G} {dA : Bool → ClassId}
abbrev frW : List Nat := [46, 48, 49, 50, 51, 54, 55, 56, 57, 58, 59]
/-- the cells that writing a block changes -/
def bwH (h H : am_H) (ct : Nat) (to : Bool) (bl co cp en fa tc : Nat) (s : List Int32 × Nat) (gl gc ga : Nat → Int32) : Prop := am_fr h H frW ∧ gvH H H ct to bl co cp en fa tc s ∧ H 49 = some (.inl (false, 1800, gl)) ∧ H 50 = some (.inl (false, 1800, gc)) ∧ H 51 = some (.inl (false, 3, ga)) ∧ (ars H 54 1200 ∧ ars H 55 1200 ∧ ∃ f, H 56 = some (.inl (true, 1200, f))) ∧ ars H 57 600 ∧ ars H 58 1200 ∧ ars H 59 1200
theorem bwH.gv {h H H' : am_H} {ct : Nat} {to : Bool} {bl co cp en fa tc bl' co' cp' en' fa' tc' : Nat} {s s' : List Int32 × Nat} {gl gc ga : Nat → Int32} (x : bwH h H ct to bl co cp en fa tc s gl gc ga) (y : gvH H H' ct to bl' co' cp' en' fa' tc' s') : bwH h H' ct to bl' co' cp' en' fa' tc' s' gl gc ga := by
  obtain ⟨x1, x2, x3, x4, x5, ⟨x6, x7, x8⟩, x9, x10, x11⟩ := x
  exact ⟨x1.tr y.1 (by simp [frW]), y.rf, (y.1 49 (by simp)).trans x3, (y.1 50 (by simp)).trans x4, (y.1 51 (by simp)).trans x5, ⟨x6.at (y.1 54 (by simp)), x7.at (y.1 55 (by simp)), by rw [y.1 56 (by simp)]; exact x8⟩, x9.at (y.1 57 (by simp)), x10.at (y.1 58 (by simp)), x11.at (y.1 59 (by simp))⟩
theorem bwH.ti {h H : am_H} {ct : Nat} {to : Bool} {bl co cp en fa tc : Nat} {s : List Int32 × Nat} {gl gc ga : Nat → Int32} (x : bwH h H ct to bl co cp en fa tc s gl gc ga) (g : Nat → Int32) : bwH h (am_set H 57 (.inl (false, 600, g))) ct to bl co cp en fa tc s gl gc ga := by
  obtain ⟨x1, x2, x3, x4, x5, ⟨x6, x7, x8⟩, x9, x10, x11⟩ := x
  exact ⟨x1.set (by simp [frW]), ⟨am_fr.rf, (am_set_ne (by omega)).trans x2.2.1, x2.2.2.1.at (am_set_ne (by omega)), x2.2.2.2⟩, (am_set_ne (by omega)).trans x3, (am_set_ne (by omega)).trans x4, (am_set_ne (by omega)).trans x5, ⟨x6.at (am_set_ne (by omega)), x7.at (am_set_ne (by omega)), by rw [am_set_ne (by omega)]; exact x8⟩, ⟨g, am_set_eq⟩, x10.at (am_set_ne (by omega)), x11.at (am_set_ne (by omega))⟩
theorem bwH.mg {h H H' : am_H} {ct : Nat} {to : Bool} {bl co cp en fa tc : Nat} {s : List Int32 × Nat} {gl gc ga gl' gc' ga' : Nat → Int32} (x : bwH h H ct to bl co cp en fa tc s gl gc ga) (y : am_fr H H' [49, 50, 51, 54, 55, 56]) (y1 : H' 49 = some (.inl (false, 1800, gl'))) (y2 : H' 50 = some (.inl (false, 1800, gc'))) (y3 : H' 51 = some (.inl (false, 3, ga'))) (y4 : ars H' 54 1200) (y5 : ars H' 55 1200) (y6 : ∃ f, H' 56 = some (.inl (true, 1200, f))) : bwH h H' ct to bl co cp en fa tc s gl' gc' ga' := by
  obtain ⟨x1, x2, x3, x4, x5, ⟨x6, x7, x8⟩, x9, x10, x11⟩ := x
  exact ⟨x1.tr y (by simp [frW]), ⟨am_fr.rf, (y 46 (by simp)).trans x2.2.1, x2.2.2.1.at (y 48 (by simp)), x2.2.2.2⟩, y1, y2, y3, ⟨y4, y5, y6⟩, x9.at (y 57 (by simp)), x10.at (y 58 (by simp)), x11.at (y 59 (by simp))⟩
theorem pds_snoc (l : List (Nat × Nat)) (x : Nat × Nat) : pds (l ++ [x]) = pds l ++ (if 0 < x.2 then [rk x.2] else []) := by
  unfold pds
  rw [List.filter_append, List.map_append]
  congr 1
  by_cases g : 0 < x.2
  · rw [if_pos g, List.filter_cons_of_pos (by simpa using g)]
    rfl
  · rw [if_neg g, List.filter_cons_of_neg (by simpa using g)]
    rfl
theorem take_1 {l : List (Nat × Nat)} {i : Nat} {x : Nat × Nat} (h : l[i]? = some x) : l.take (i + 1) = l.take i ++ [x] := by
  rw [List.take_succ, h]
  rfl
theorem srtS_z : ∀ i, (srtS (fun _ => 0) i).2 = 0
  | 0 => rfl
  | i + 1 => by rw [srtS, if_neg (Nat.lt_irrefl 0)]; exact srtS_z i
theorem hal_z (m : Nat) : hal m (fun _ => 0) = nI 0 ∧ ∀ y, hlen m (fun _ => 0) y = 0 := by
  refine ⟨?_, fun y => ?_⟩
  · unfold hal
    rw [srtS_z, if_neg (by omega), if_pos rfl]
  · unfold hlen
    rw [srtS_z, if_neg (by omega)]
theorem cdR_all (lenC : Nat → Nat) (alC : Int32) (lenP : Nat → Nat) (alP : Int32) (l : List (Nat × Nat)) (s : List Int32 × Nat) : s.2 ≤ (cdR lenC alC lenP alP l s).2 := by
  have := cdR_mono lenC alC lenP alP l s
  omega
def bsA (cs : List (Nat × Nat)) (s : List Int32 × Nat) : List Int32 × Nat := tTr (hlen 19 (bwT cs)) (hal 19 (bwT cs)) 19 5 true (gvR cs.length 16 s)
def bsB (cs : List (Nat × Nat)) (s : List Int32 × Nat) : List Int32 × Nat := tCr (hlen 510 (bwC cs)) (hal 510 (bwC cs)) (hlen 19 (bwT cs)) (hal 19 (bwT cs)) (btl cs) (bsA cs s)
def bsC (cs : List (Nat × Nat)) (s : List Int32 × Nat) : List Int32 × Nat := tTr (hlen 14 (bwP cs)) (hal 14 (bwP cs)) 14 4 false (bsB cs s)
theorem bs_R (cs : List (Nat × Nat)) (s : List Int32 × Nat) : bwR cs s = cdR (hlen 510 (bwC cs)) (hal 510 (bwC cs)) (hlen 14 (bwP cs)) (hal 14 (bwP cs)) cs (bsC cs s) := rfl
set_option maxRecDepth 100000 in
theorem bs_le {cs : List (Nat × Nat)} (hcl : cs.length ≤ 400) (gm : ∀ x ∈ cs, x.1 < 510) (s : List Int32 × Nat) : s.2 + 16 ≤ (bsA cs s).2 ∧ (bsA cs s).2 ≤ (bsB cs s).2 ∧ (bsB cs s).2 ≤ (bsC cs s).2 ∧ (bsC cs s).2 ≤ (bwR cs s).2 := by
  obtain ⟨w1, w2, w3, w4, w5, w6⟩ := bw_ok (cs := cs) hcl gm
  have lP := hlen_le (m := 14) (w := bwP cs) (by omega) w2
  have lT := hlen_le (m := 19) (w := bwT cs) (by omega) w3
  have m1 := gvR_2 cs.length 16 s
  have m2 := tTr_mono (hlen 19 (bwT cs)) (hal 19 (bwT cs)) 19 5 true (gvR cs.length 16 s) (fun y => by have := lT y; omega)
  have m3 := tCr_mono (hlen 510 (bwC cs)) (hal 510 (bwC cs)) (hlen 19 (bwT cs)) (hal 19 (bwT cs)) (btl cs) (bsA cs s)
  have m4 := tTr_mono (hlen 14 (bwP cs)) (hal 14 (bwP cs)) 14 4 false (bsB cs s) (fun y => by have := lP y; omega)
  have m5 := cdR_all (hlen 510 (bwC cs)) (hal 510 (bwC cs)) (hlen 14 (bwP cs)) (hal 14 (bwP cs)) cs (bsC cs s)
  rw [← bs_R] at m5
  change _ ≤ (bsA cs s).2 at m2
  change _ ≤ (bsB cs s).2 at m3
  change _ ≤ (bsC cs s).2 at m4
  refine ⟨by omega, by omega, by omega, m5⟩
set_option maxHeartbeats 4000000 in
set_option maxRecDepth 100000 in
theorem blk_4 (d n0 : Nat) {h : am_H} {ct : Nat} {to : Bool} {bl co cp en fa : Nat} {s : List Int32 × Nat} {cs : List (Nat × Nat)} {fr : Nat} {fc fd : Nat → Int32} (h52 : h 52 = some (.inl (false, 4000, fc))) (h53 : h 53 = some (.inl (false, 4000, fd))) (hcs : ∀ i x, cs[i]? = some x → fc (fr + i) = nI x.1 ∧ fd (fr + i) = nI x.2) (hfr : fr + cs.length ≤ 4000) (hcl : cs.length ≤ 400) (gm : ∀ x ∈ cs, x.1 < 510 ∧ x.2 ≤ 4000 ∧ (256 ≤ x.1 → 0 < x.2) ∧ (0 < x.2 → 256 ≤ x.1)) (hbits : (bwR cs s).2 + 400 ≤ 96000) (hd : 4 ≤ d) {H : am_H} {tc3 : Nat} {gl3 gc3 ga3 : Nat → Int32} {x3 x4 : Option am_V} (Z : bwH h H ct to (bl + 1) co cp en fa tc3 (bsB cs s) gl3 gc3 ga3) (mC : mrd gl3 gc3 ga3 1 (hal 510 (bwC cs)) (hlen 510 (bwC cs))) (mP : mrd gl3 gc3 ga3 2 (hal 14 (bwP cs)) (hlen 14 (bwP cs))) (hln : lnM gl3 (hlen 19 (bwT cs), hlen 510 (bwC cs), hlen 14 (bwP cs))) : am_At l D dA m_X10_block d 0 0 0 0 n0 none (am_qv fun h' => ∃ tc' gl' gc' ga', bwH h h' ct to (bl + 1) (co + cs.length) (cp + (pds cs).length) en fa tc' (bwR cs s) gl' gc' ga' ∧ lnM gl' (hlen 19 (bwT cs), hlen 510 (bwC cs), hlen 14 (bwP cs))) 0 0 249 [some (am_r 46), some (.inl (nI fr)), some (.inl (nI cs.length)), x3, x4] [] H := by
      obtain ⟨-, -, b3, b4⟩ := bs_le hcl (fun x hx => (gm x hx).1) s
      have w1 : ss (bwC cs) 0 510 < 610 ∧ ss (bwP cs) 0 14 < 610 := ⟨(bw_ok hcl (fun x hx => (gm x hx).1)).1, (bw_ok hcl (fun x hx => (gm x hx).1)).2.1⟩
      have hs2 : sym 2 = 14 := rfl
      have hs1 : sym 1 = 510 := rfl
      skip
      refine am_aload_n dX10_block_249 rfl rfl ?_
      refine am_iconst (v := nI 2) dX10_block_250 rfl (by decide +kernel) ?_
      refine am_iconst (v := nI 4) dX10_block_251 rfl (by decide +kernel) ?_
      refine am_vv (t_X10_giveSmall (d - 1) _ Z.2.1 (t := 2) (nb := 4) (gp := false) (by omega) (by omega) (by omega) (by decide) Z.2.2.1 Z.2.2.2.2.1 mP (by omega) (by omega)) k_X10_giveSmall l_X10_148 dX10_block_252 rfl rfl rfl rfl Z.2.1.2.1 (by omega) (Nat.le_refl _) (Nat.le_refl _) (fun h4 Y => ?_)
      have Y : gvH H h4 ct to (bl + 1) co cp en fa tc3 (bsC cs s) := Y
      have Z1 := Z.gv Y
      refine am_iload_n dX10_block_255 rfl rfl ?_
      refine am_istore_n dX10_block_256 rfl rfl ?_
      have loop : ∀ (r : List (Nat × Nat)) (i : Nat) (s' : List Int32 × Nat) (H : am_H) (x4 : Option am_V), cs.drop i = r → i ≤ cs.length → cdR (hlen 510 (bwC cs)) (hal 510 (bwC cs)) (hlen 14 (bwP cs)) (hal 14 (bwP cs)) r s' = bwR cs s → bwH h H ct to (bl + 1) (co + i) (cp + (pds (cs.take i)).length) en fa tc3 s' gl3 gc3 ga3 → am_At l D dA m_X10_block d 0 0 0 0 n0 none (am_qv fun h' => ∃ tc' gl' gc' ga', bwH h h' ct to (bl + 1) (co + cs.length) (cp + (pds cs).length) en fa tc' (bwR cs s) gl' gc' ga' ∧ lnM gl' (hlen 19 (bwT cs), hlen 510 (bwC cs), hlen 14 (bwP cs))) 0 0 257 [some (am_r 46), some (.inl (nI fr)), some (.inl (nI cs.length)), some (.inl (nI (fr + i))), x4] [] H := by
        intro r
        induction r with
        | nil =>
          intro i s' H x4 hr hi hR V
          have hR : s' = _ := hR
          have hil : cs.length ≤ i := by
            have := congrArg List.length hr
            rw [List.length_drop] at this
            have e0 : ([] : List (Nat × Nat)).length = 0 := rfl
            omega
          obtain rfl : i = cs.length := by omega
          rw [List.take_length] at V
          rw [hR] at V
          refine am_iload_n dX10_block_257 rfl rfl ?_
          refine am_iload_n dX10_block_258 rfl rfl ?_
          refine am_iload_n dX10_block_259 rfl rfl ?_
          refine am_iadd dX10_block_260 rfl ?_
          rw [nI_add]
          refine am_ncmp_ge 369 dX10_block_261 rfl rfl (by omega) (by omega) (fun hc => ?_) (fun hc => ?_)
          · exact am_rv dX10_block_369 rfl rfl rfl ⟨tc3, gl3, gc3, ga3, V, hln⟩
          · omega
        | cons x r ih =>
          intro i s' H x4 hr hi hR V
          have hx0 : cs[i]? = some x := by
            have := congrArg (fun z => z[0]?) hr
            simpa using this
          have hil : i < cs.length := (List.getElem?_eq_some_iff.mp hx0).1
          have hxm := gm x (List.mem_of_getElem? hx0)
          have hr2 : cs.drop (i + 1) = r := by
            rw [← List.tail_drop, hr]
            rfl
          obtain ⟨y1, y2⟩ := hcs i x hx0
          have hc0 : hal 510 (bwC cs) = -1 → 0 < hlen 510 (bwC cs) x.1 := fun z => (hlen_pos (by omega) (by omega) z hxm.1 (cno_pos (List.mem_map_of_mem (List.mem_of_getElem? hx0)))).2
          have hR : cdR (hlen 510 (bwC cs)) (hal 510 (bwC cs)) (hlen 14 (bwP cs)) (hal 14 (bwP cs)) r (if 256 ≤ x.1 then pdR (hlen 14 (bwP cs)) (hal 14 (bwP cs)) x.2 (gsR (hlen 510 (bwC cs)) 510 (hal 510 (bwC cs)) x.1 s') else gsR (hlen 510 (bwC cs)) 510 (hal 510 (bwC cs)) x.1 s') = _ := hR
          have hmn := cdR_all (hlen 510 (bwC cs)) (hal 510 (bwC cs)) (hlen 14 (bwP cs)) (hal 14 (bwP cs)) r (if 256 ≤ x.1 then pdR (hlen 14 (bwP cs)) (hal 14 (bwP cs)) x.2 (gsR (hlen 510 (bwC cs)) 510 (hal 510 (bwC cs)) x.1 s') else gsR (hlen 510 (bwC cs)) 510 (hal 510 (bwC cs)) x.1 s')
          rw [hR] at hmn
          have g2 := gsR_2 (hlen 510 (bwC cs)) 510 (hal 510 (bwC cs)) x.1 s'
          have g3 : (gsR (hlen 510 (bwC cs)) 510 (hal 510 (bwC cs)) x.1 s').2 ≤ (if 256 ≤ x.1 then pdR (hlen 14 (bwP cs)) (hal 14 (bwP cs)) x.2 (gsR (hlen 510 (bwC cs)) 510 (hal 510 (bwC cs)) x.1 s') else gsR (hlen 510 (bwC cs)) 510 (hal 510 (bwC cs)) x.1 s').2 := by
            split
            · rw [pdR_2]; omega
            · exact Nat.le_refl _
          have et := take_1 hx0
          refine am_iload_n dX10_block_257 rfl rfl ?_
          refine am_iload_n dX10_block_258 rfl rfl ?_
          refine am_iload_n dX10_block_259 rfl rfl ?_
          refine am_iadd dX10_block_260 rfl ?_
          rw [nI_add]
          refine am_ncmp_ge 369 dX10_block_261 rfl rfl (by omega) (by omega) (fun hc => ?_) (fun hc => ?_)
          · omega
          · refine am_aload_n dX10_block_264 rfl rfl ?_
            refine am_iconst (v := nI 1) dX10_block_265 rfl (by decide +kernel) ?_
            refine am_aload_n dX10_block_266 rfl rfl ?_
            refine am_get f_X10_25 dX10_block_267 rfl V.2.1.2.1 rfl ?_
            refine am_iload_n dX10_block_270 rfl rfl ?_
            refine am_iald dX10_block_271 rfl ((V.1 52 (by simp [frW])).trans h52) (by omega) (by omega) ?_
            rw [y1]
            refine am_vv (t_X10_giveSymbol (d - 1) _ V.2.1 (t := 1) (by omega) V.2.2.1 V.2.2.2.2.1 mC V.2.2.2.1 hxm.1 hc0 (by omega) (by omega)) k_X10_giveSymbol l_X10_154 dX10_block_272 rfl rfl rfl rfl V.2.1.2.1 (by omega) (Nat.le_refl _) (Nat.le_refl _) (fun h5 Y => ?_)
            have V1 := V.gv Y
            obtain ⟨s1, es1⟩ : ∃ s1, s1 = gsR (hlen 510 (bwC cs)) 510 (hal 510 (bwC cs)) x.1 s' := ⟨_, rfl⟩
            rw [← es1] at hR hmn g2 g3
            have V1 : bwH h h5 ct to (bl + 1) (co + i) (cp + (pds (cs.take i)).length) en fa tc3 s1 gl3 gc3 ga3 := by rw [es1]; exact V1
            refine am_aload_n dX10_block_275 rfl rfl ?_
            refine am_dup dX10_block_276 rfl ?_
            refine am_get f_X10_64 dX10_block_277 rfl V1.2.1.2.1 rfl ?_
            refine am_iconst (v := nI 1) dX10_block_280 rfl (by decide +kernel) ?_
            refine am_iadd dX10_block_281 rfl ?_
            rw [nI_add]
            refine am_put f_X10_64 dX10_block_282 rfl V1.2.1.2.1 (am_fit_i _) rfl ?_
            have V2 := V1.gv (H' := am_set h5 46 (mO ct s1.1.length to (bl + 1) (co + i + 1) (cp + (pds (cs.take i)).length) s1.2 en fa tc3)) (bl' := bl + 1) (co' := co + i + 1) (cp' := cp + (pds (cs.take i)).length) (en' := en) (fa' := fa) (tc' := tc3) (s' := s1) ⟨am_fr.rf.set (by simp), am_set_eq, V1.2.1.2.2.1.at (am_set_ne (by omega)), V1.2.1.2.2.2⟩
            obtain ⟨H6, eH6⟩ : ∃ H6, H6 = am_set h5 46 (mO ct s1.1.length to (bl + 1) (co + i + 1) (cp + (pds (cs.take i)).length) s1.2 en fa tc3) := ⟨_, rfl⟩
            refine am_eq rfl rfl rfl eH6.symm ?_
            rw [← eH6] at V2
            clear eH6
            refine am_aload_n dX10_block_285 rfl rfl ?_
            refine am_get f_X10_28 dX10_block_286 rfl V2.2.1.2.1 rfl ?_
            refine am_iload_n dX10_block_289 rfl rfl ?_
            refine am_iald dX10_block_290 rfl ((V2.1 53 (by simp [frW])).trans h53) (by omega) (by omega) ?_
            rw [y2]
            refine am_nif_le 363 dX10_block_291 rfl rfl (by omega) (fun hdz => ?_) (fun hdz => ?_)
            · rw [if_neg (fun q => by have := hxm.2.2.1 q; omega)] at hR
              have epd : pds (cs.take (i + 1)) = pds (cs.take i) := by rw [et, pds_snoc, if_neg (by omega), List.append_nil]
              refine am_iinc (n := 1) dX10_block_363 rfl rfl (nI_1 (fr + i)) ?_
              refine am_goto 257 dX10_block_366 rfl rfl ?_
              exact ih (i + 1) s1 H6 _ hr2 (by omega) hR (by rw [epd]; exact V2)
            · rw [if_pos (hxm.2.2.2 hdz)] at hR hmn
              have epd : (pds (cs.take (i + 1))).length = (pds (cs.take i)).length + 1 := by rw [et, pds_snoc, if_pos hdz, List.length_append]; rfl
              have hrk := rk_lt x.2
              have hp0 : hal 14 (bwP cs) = -1 → 0 < hlen 14 (bwP cs) (rk x.2) := fun z => (hlen_pos (by omega) (by omega) z hrk (cno_pos (pds_mem (List.mem_of_getElem? hx0) hdz))).2
              have rs := rk_spec (dd := x.2) (by omega)
              refine am_aload_n dX10_block_294 rfl rfl ?_
              refine am_dup dX10_block_295 rfl ?_
              refine am_get f_X10_67 dX10_block_296 rfl V2.2.1.2.1 rfl ?_
              refine am_iconst (v := nI 1) dX10_block_299 rfl (by decide +kernel) ?_
              refine am_iadd dX10_block_300 rfl ?_
              rw [nI_add]
              refine am_put f_X10_67 dX10_block_301 rfl V2.2.1.2.1 (am_fit_i _) rfl ?_
              have V3 := V2.gv (H' := am_set H6 46 (mO ct s1.1.length to (bl + 1) (co + i + 1) (cp + (pds (cs.take i)).length + 1) s1.2 en fa tc3)) (bl' := bl + 1) (co' := co + i + 1) (cp' := cp + (pds (cs.take i)).length + 1) (en' := en) (fa' := fa) (tc' := tc3) (s' := s1) ⟨am_fr.rf.set (by simp), am_set_eq, V2.2.1.2.2.1.at (am_set_ne (by omega)), V2.2.1.2.2.2⟩
              obtain ⟨H7, eH7⟩ : ∃ H7, H7 = am_set H6 46 (mO ct s1.1.length to (bl + 1) (co + i + 1) (cp + (pds (cs.take i)).length + 1) s1.2 en fa tc3) := ⟨_, rfl⟩
              refine am_eq rfl rfl rfl eH7.symm ?_
              rw [← eH7] at V3
              clear eH7
              refine am_aload_n dX10_block_304 rfl rfl ?_
              refine am_get f_X10_28 dX10_block_305 rfl V3.2.1.2.1 rfl ?_
              refine am_iload_n dX10_block_308 rfl rfl ?_
              refine am_iald dX10_block_309 rfl ((V3.1 53 (by simp [frW])).trans h53) (by omega) (by omega) ?_
              rw [y2]
              refine am_si (t_X10_rank (d - 1) _ (dd := x.2) (by omega) (by omega)) k_X10_rank l_X10_145 dX10_block_310 rfl rfl rfl rfl (by omega) (Nat.le_refl _) (Nat.le_refl _) (fun z h7 hx => ?_)
              obtain ⟨rfl, hh⟩ := hx
              obtain rfl := hh.symm
              refine am_istore dX10_block_313 rfl rfl ?_
              refine am_aload_n dX10_block_315 rfl rfl ?_
              refine am_iconst (v := nI 2) dX10_block_316 rfl (by decide +kernel) ?_
              refine am_iload dX10_block_317 rfl rfl ?_
              have g6 := pdR_2 (hlen 14 (bwP cs)) (hal 14 (bwP cs)) x.2 s1
              have g7 := (show (pdR (hlen 14 (bwP cs)) (hal 14 (bwP cs)) x.2 s1).2 + 400 ≤ 96000 by omega)
              have g5 := gsR_2 (hlen 14 (bwP cs)) 14 (hal 14 (bwP cs)) (rk x.2) s1
              refine am_vv (t_X10_giveSymbol (d - 1) _ V3.2.1 (t := 2) (by omega) V3.2.2.1 V3.2.2.2.2.1 mP V3.2.2.2.1 hrk hp0 (by omega) (by omega)) k_X10_giveSymbol l_X10_154 dX10_block_319 rfl rfl rfl rfl V3.2.1.2.1 (by omega) (Nat.le_refl _) (Nat.le_refl _) (fun h8 Y2 => ?_)
              have V4 := V3.gv Y2
              rw [hs2] at V4
              have fin : ∀ (H9 : am_H) (x4 : Option am_V), gvH h8 H9 ct to (bl + 1) (co + i + 1) (cp + (pds (cs.take i)).length + 1) en fa tc3 (pdR (hlen 14 (bwP cs)) (hal 14 (bwP cs)) x.2 s1) → am_At l D dA m_X10_block d 0 0 0 0 n0 none (am_qv fun h' => ∃ tc' gl' gc' ga', bwH h h' ct to (bl + 1) (co + cs.length) (cp + (pds cs).length) en fa tc' (bwR cs s) gl' gc' ga' ∧ lnM gl' (hlen 19 (bwT cs), hlen 510 (bwC cs), hlen 14 (bwP cs))) 0 0 257 [some (am_r 46), some (.inl (nI fr)), some (.inl (nI cs.length)), some (.inl (nI (fr + (i + 1)))), x4] [] H9 := fun H9 x4 Y9 => ih (i + 1) _ H9 x4 hr2 (by omega) hR (by rw [epd]; exact V4.gv Y9)
              refine am_aload_n dX10_block_322 rfl rfl ?_
              refine am_iload dX10_block_323 rfl rfl ?_
              refine am_nif_ne 332 dX10_block_325 rfl rfl (by omega) (fun hp1 => ?_) (fun hp1 => ?_)
              · have hp2 : 2 ^ (rk x.2 - 1) < x.2 := rs.2 hp1
                have epr : pdR (hlen 14 (bwP cs)) (hal 14 (bwP cs)) x.2 s1 = gvR (x.2 - 1 - 2 ^ (rk x.2 - 1)) (rk x.2 - 1) (gsR (hlen 14 (bwP cs)) 14 (hal 14 (bwP cs)) (rk x.2) s1) := by unfold pdR; rw [if_neg (by omega)]
                refine am_aload_n dX10_block_332 rfl rfl ?_
                refine am_get f_X10_28 dX10_block_333 rfl V4.2.1.2.1 rfl ?_
                refine am_iload_n dX10_block_336 rfl rfl ?_
                refine am_iald dX10_block_337 rfl ((V4.1 53 (by simp [frW])).trans h53) (by omega) (by omega) ?_
                rw [y2]
                refine am_iconst (v := nI 1) dX10_block_338 rfl (by decide +kernel) ?_
                refine am_isub dX10_block_339 rfl ?_
                rw [pk_sub (by omega)]
                refine am_iconst (v := nI 1) dX10_block_340 rfl (by decide +kernel) ?_
                refine am_iload dX10_block_341 rfl rfl ?_
                refine am_iconst (v := nI 1) dX10_block_343 rfl (by decide +kernel) ?_
                refine am_isub dX10_block_344 rfl ?_
                rw [pk_sub (by omega)]
                refine am_ishl dX10_block_345 rfl ?_
                rw [am_m31 (by omega), pk_shlN (n := 1) (nI (rk x.2 - 1)) (rk x.2 - 1) (am_smod (by omega)) (by omega), Nat.one_mul]
                refine am_isub dX10_block_346 rfl ?_
                rw [pk_sub (by omega)]
                refine am_iload dX10_block_347 rfl rfl ?_
                refine am_nif_ne 356 dX10_block_349 rfl rfl (by omega) (fun hp3 => ?_) (fun hp3 => ?_)
                · refine am_iload dX10_block_356 rfl rfl ?_
                  refine am_iconst (v := nI 1) dX10_block_358 rfl (by decide +kernel) ?_
                  refine am_isub dX10_block_359 rfl ?_
                  rw [pk_sub (by omega)]
                  refine am_vv (t_X10_give (d - 1) _ V4.2.1 (v := x.2 - 1 - 2 ^ (rk x.2 - 1)) (n := rk x.2 - 1) (Nat.lt_of_le_of_lt (Nat.le_trans (Nat.sub_le _ _) (Nat.sub_le _ _)) (by omega)) (by omega) (by omega)) k_X10_give l_X10_139 dX10_block_360 rfl rfl rfl rfl V4.2.1.2.1 (by omega) (Nat.le_refl _) (Nat.le_refl _) (fun h9 Y3 => ?_)
                  refine am_iinc (n := 1) dX10_block_363 rfl rfl (nI_1 (fr + i)) ?_
                  refine am_goto 257 dX10_block_366 rfl rfl ?_
                  exact fin h9 _ (by rw [epr]; exact Y3)
                · omega
              · have epr : pdR (hlen 14 (bwP cs)) (hal 14 (bwP cs)) x.2 s1 = gvR 0 0 (gsR (hlen 14 (bwP cs)) 14 (hal 14 (bwP cs)) (rk x.2) s1) := by unfold pdR; rw [if_pos hp1]; rfl
                refine am_iconst (v := nI 0) dX10_block_328 rfl (by decide +kernel) ?_
                refine am_goto 347 dX10_block_329 rfl rfl ?_
                refine am_iload dX10_block_347 rfl rfl ?_
                refine am_nif_ne 356 dX10_block_349 rfl rfl (by omega) (fun hp3 => ?_) (fun hp3 => ?_)
                · omega
                · refine am_iconst (v := nI 0) dX10_block_352 rfl (by decide +kernel) ?_
                  refine am_goto 360 dX10_block_353 rfl rfl ?_
                  refine am_vv (t_X10_give (d - 1) _ V4.2.1 (v := 0) (n := 0) (by omega) (by omega) (by omega)) k_X10_give l_X10_139 dX10_block_360 rfl rfl rfl rfl V4.2.1.2.1 (by omega) (Nat.le_refl _) (Nat.le_refl _) (fun h9 Y3 => ?_)
                  refine am_iinc (n := 1) dX10_block_363 rfl rfl (nI_1 (fr + i)) ?_
                  refine am_goto 257 dX10_block_366 rfl rfl ?_
                  exact fin h9 _ (by rw [epr]; exact Y3)
      exact loop cs 0 (bsC cs s) h4 _ rfl (Nat.zero_le _) (bs_R cs s).symm Z1
end MOD12
