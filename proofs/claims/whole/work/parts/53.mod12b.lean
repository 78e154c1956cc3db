/-! ===== the reference: a block, the tree of codes ===== -/
section MOD12B
variable {l : Launch} {D : va_G} {dA : Bool → ClassId}
set_option maxHeartbeats 4000000 in
set_option maxRecDepth 100000 in
theorem blk_t (d n0 : Nat) {h : am_H} {ct : Nat} {to : Bool} {bl co cp en fa : Nat} {s : List Int32 × Nat} {cs : List (Nat × Nat)} {fr : Nat} {fc fd : Nat → Int32} (h52 : h 52 = some (.inl (false, 4000, fc))) (h53 : h 53 = some (.inl (false, 4000, fd))) (hcs : ∀ i x, cs[i]? = some x → fc (fr + i) = nI x.1 ∧ fd (fr + i) = nI x.2) (hfr : fr + cs.length ≤ 4000) (hcl : cs.length ≤ 400) (gm : ∀ x ∈ cs, x.1 < 510 ∧ x.2 ≤ 4000 ∧ (256 ≤ x.1 → 0 < x.2) ∧ (0 < x.2 → 256 ≤ x.1)) (hbits : (bwR cs s).2 + 400 ≤ 96000) (hd : 4 ≤ d) {gl4 gc4 ga4 : Nat → Int32} {x4 : Option am_V} (mT : mrd gl4 gc4 ga4 0 (hal 19 (bwT cs)) (hlen 19 (bwT cs))) (mC4 : mrd gl4 gc4 ga4 1 (hal 510 (bwC cs)) (hlen 510 (bwC cs))) (mP4 : mrd gl4 gc4 ga4 2 (hal 14 (bwP cs)) (hlen 14 (bwP cs))) (lm4 : lnM gl4 (hlen 19 (bwT cs), hlen 510 (bwC cs), hlen 14 (bwP cs))) : ∀ (r : List (Nat × Nat)) (i : Nat) (s' : List Int32 × Nat) (H : am_H), (btl cs).drop i = r → i ≤ (btl cs).length → tcR (hlen 19 (bwT cs)) (hal 19 (bwT cs)) r s' = bsB cs s → bwH h H ct to (bl + 1) co cp en fa (btl cs).length s' gl4 gc4 ga4 → tlM H (btl cs) → am_At l D dA m_X10_block d 0 0 0 0 n0 none (am_qv fun h' => ∃ tc' gl' gc' ga', bwH h h' ct to (bl + 1) (co + cs.length) (cp + (pds cs).length) en fa tc' (bwR cs s) gl' gc' ga' ∧ lnM gl' (hlen 19 (bwT cs), hlen 510 (bwC cs), hlen 14 (bwP cs))) 0 0 184 [some (am_r 46), some (.inl (nI fr)), some (.inl (nI cs.length)), some (.inl (nI i)), x4] [] H := by
        obtain ⟨-, -, b3, b4⟩ := bs_le hcl (fun x hx => (gm x hx).1) s
        obtain ⟨-, -, w3, w4, w5, w6⟩ := bw_ok hcl (fun x hx => (gm x hx).1)
        have hs0 : sym 0 = 19 := rfl
        intro r
        induction r with
        | nil =>
          intro i s' H hr hi hR V TV
          have hR : s' = (bsB cs s) := hR
          have hil : (btl cs).length ≤ i := by
            have := congrArg List.length hr
            rw [List.length_drop] at this
            have e0 : ([] : List (Nat × Nat)).length = 0 := rfl
            omega
          rw [hR] at V
          refine am_iload_n dX10_block_184 rfl rfl ?_
          refine am_aload_n dX10_block_185 rfl rfl ?_
          refine am_get f_X10_127 dX10_block_186 rfl V.2.1.2.1 rfl ?_
          refine am_ncmp_ge 249 dX10_block_189 rfl rfl (by omega) (by omega) (fun hc => ?_) (fun hc => ?_)
          · exact blk_4 d n0 h52 h53 hcs hfr hcl gm hbits hd V mC4 mP4 lm4
          · omega
        | cons x r ih =>
          intro i s' H hr hi hR V TV
          have hx0 : (btl cs)[i]? = some x := by
            have := congrArg (fun z => z[0]?) hr
            simpa using this
          have hil : i < (btl cs).length := (List.getElem?_eq_some_iff.mp hx0).1
          have hxm := w5 x (List.mem_of_getElem? hx0)
          have hr2 : (btl cs).drop (i + 1) = r := by
            rw [← List.tail_drop, hr]
            rfl
          obtain ⟨⟨f8, f9, t8, t9, tfg⟩, t10⟩ := id TV
          obtain ⟨y1, y2⟩ := tfg i x hx0
          have ht0 : hal 19 (bwT cs) = -1 → 0 < hlen 19 (bwT cs) x.1 := fun z => (hlen_pos (by omega) (by omega) z hxm.1 (cno_pos (List.mem_map_of_mem (List.mem_of_getElem? hx0)))).2
          have hR : tcR (hlen 19 (bwT cs)) (hal 19 (bwT cs)) r (gvR x.2 (bbh x.1) (gsR (hlen 19 (bwT cs)) 19 (hal 19 (bwT cs)) x.1 s')) = (bsB cs s) := hR
          have hmn := tcR_mono (hlen 19 (bwT cs)) (hal 19 (bwT cs)) r (gvR x.2 (bbh x.1) (gsR (hlen 19 (bwT cs)) 19 (hal 19 (bwT cs)) x.1 s'))
          rw [hR, gvR_2, gsR_2] at hmn
          have hbb : bbh x.1 ≤ 9 := by unfold bbh; split; omega; split <;> omega
          refine am_iload_n dX10_block_184 rfl rfl ?_
          refine am_aload_n dX10_block_185 rfl rfl ?_
          refine am_get f_X10_127 dX10_block_186 rfl V.2.1.2.1 rfl ?_
          refine am_ncmp_ge 249 dX10_block_189 rfl rfl (by omega) (by omega) (fun hc => ?_) (fun hc => ?_)
          · omega
          · refine am_aload_n dX10_block_192 rfl rfl ?_
            refine am_iconst (v := nI 0) dX10_block_193 rfl (by decide +kernel) ?_
            refine am_aload_n dX10_block_194 rfl rfl ?_
            refine am_get f_X10_44 dX10_block_195 rfl V.2.1.2.1 rfl ?_
            refine am_iload_n dX10_block_198 rfl rfl ?_
            refine am_iald dX10_block_199 rfl t8 (by omega) (by omega) ?_
            rw [y1]
            refine am_vv (t_X10_giveSymbol (d - 1) _ V.2.1 (t := 0) (by omega) V.2.2.1 V.2.2.2.2.1 mT V.2.2.2.1 hxm.1 ht0 (by omega) (by omega)) k_X10_giveSymbol l_X10_154 dX10_block_200 rfl rfl rfl rfl V.2.1.2.1 (by omega) (Nat.le_refl _) (Nat.le_refl _) (fun h9 Y9 => ?_)
            have V1 := V.gv Y9
            rw [hs0] at V1
            have TV1 := TV.at (h' := h9) (fun j a b => Y9.1 j (by simp; omega))
            have g5 := gsR_2 (hlen 19 (bwT cs)) 19 (hal 19 (bwT cs)) x.1 s'
            have fin : ∀ (H9 : am_H), gvH h9 H9 ct to (bl + 1) co cp en fa (btl cs).length (gvR x.2 (bbh x.1) (gsR (hlen 19 (bwT cs)) 19 (hal 19 (bwT cs)) x.1 s')) → am_At l D dA m_X10_block d 0 0 0 0 n0 none (am_qv fun h' => ∃ tc' gl' gc' ga', bwH h h' ct to (bl + 1) (co + cs.length) (cp + (pds cs).length) en fa tc' (bwR cs s) gl' gc' ga' ∧ lnM gl' (hlen 19 (bwT cs), hlen 510 (bwC cs), hlen 14 (bwP cs))) 0 0 184 [some (am_r 46), some (.inl (nI fr)), some (.inl (nI cs.length)), some (.inl (nI (i + 1))), x4] [] H9 := fun H9 Y10 => ih (i + 1) _ H9 hr2 (by omega) hR (V1.gv Y10) (TV1.at (fun j a b => Y10.1 j (by simp; omega)))
            refine am_aload_n dX10_block_203 rfl rfl ?_
            refine am_aload_n dX10_block_204 rfl rfl ?_
            refine am_get f_X10_47 dX10_block_205 rfl V1.2.1.2.1 rfl ?_
            refine am_iload_n dX10_block_208 rfl rfl ?_
            refine am_iald dX10_block_209 rfl ((Y9.1 59 (by simp)).trans t9) (by omega) (by omega) ?_
            rw [y2]
            refine am_aload_n dX10_block_210 rfl rfl ?_
            refine am_get f_X10_44 dX10_block_211 rfl V1.2.1.2.1 rfl ?_
            refine am_iload_n dX10_block_214 rfl rfl ?_
            refine am_iald dX10_block_215 rfl ((Y9.1 58 (by simp)).trans t8) (by omega) (by omega) ?_
            rw [y1]
            refine am_iconst (v := nI 1) dX10_block_216 rfl (by decide +kernel) ?_
            refine am_ncmp_ne 224 dX10_block_217 rfl rfl (by omega) (by omega) (fun hx1 => ?_) (fun hx1 => ?_)
            · refine am_aload_n dX10_block_224 rfl rfl ?_
              refine am_get f_X10_44 dX10_block_225 rfl V1.2.1.2.1 rfl ?_
              refine am_iload_n dX10_block_228 rfl rfl ?_
              refine am_iald dX10_block_229 rfl ((Y9.1 58 (by simp)).trans t8) (by omega) (by omega) ?_
              rw [y1]
              refine am_iconst (v := nI 2) dX10_block_230 rfl (by decide +kernel) ?_
              refine am_ncmp_ne 239 dX10_block_231 rfl rfl (by omega) (by omega) (fun hx2 => ?_) (fun hx2 => ?_)
              · refine am_iconst (v := nI 0) dX10_block_239 rfl (by decide +kernel) ?_
                refine am_vv (t_X10_give (d - 1) _ V1.2.1 (v := x.2) (n := 0) (by omega) (by omega) (by omega)) k_X10_give l_X10_139 dX10_block_240 rfl rfl rfl rfl V1.2.1.2.1 (by omega) (Nat.le_refl _) (Nat.le_refl _) (fun h10 Y10 => ?_)
                refine am_iinc (n := 1) dX10_block_243 rfl rfl (nI_1 i) ?_
                refine am_goto 184 dX10_block_246 rfl rfl ?_
                exact fin h10 (by rw [show bbh x.1 = 0 by unfold bbh; rw [if_neg hx1, if_neg hx2]]; exact Y10)
              · refine am_bipush (v := nI 9) dX10_block_234 rfl (by decide +kernel) ?_
                refine am_goto 240 dX10_block_236 rfl rfl ?_
                refine am_vv (t_X10_give (d - 1) _ V1.2.1 (v := x.2) (n := 9) (by omega) (by omega) (by omega)) k_X10_give l_X10_139 dX10_block_240 rfl rfl rfl rfl V1.2.1.2.1 (by omega) (Nat.le_refl _) (Nat.le_refl _) (fun h10 Y10 => ?_)
                refine am_iinc (n := 1) dX10_block_243 rfl rfl (nI_1 i) ?_
                refine am_goto 184 dX10_block_246 rfl rfl ?_
                exact fin h10 (by rw [show bbh x.1 = 9 by unfold bbh; rw [if_neg hx1, if_pos hx2]]; exact Y10)
            · refine am_iconst (v := nI 4) dX10_block_220 rfl (by decide +kernel) ?_
              refine am_goto 240 dX10_block_221 rfl rfl ?_
              refine am_vv (t_X10_give (d - 1) _ V1.2.1 (v := x.2) (n := 4) (by omega) (by omega) (by omega)) k_X10_give l_X10_139 dX10_block_240 rfl rfl rfl rfl V1.2.1.2.1 (by omega) (Nat.le_refl _) (Nat.le_refl _) (fun h10 Y10 => ?_)
              refine am_iinc (n := 1) dX10_block_243 rfl rfl (nI_1 i) ?_
              refine am_goto 184 dX10_block_246 rfl rfl ?_
              exact fin h10 (by rw [show bbh x.1 = 4 by unfold bbh; rw [if_pos hx1]]; exact Y10)
set_option maxHeartbeats 4000000 in
set_option maxRecDepth 100000 in
theorem blk_m (d n0 : Nat) {h : am_H} {ct : Nat} {to : Bool} {bl co cp en fa : Nat} {s : List Int32 × Nat} {cs : List (Nat × Nat)} {fr : Nat} {fc fd : Nat → Int32} (h52 : h 52 = some (.inl (false, 4000, fc))) (h53 : h 53 = some (.inl (false, 4000, fd))) (hcs : ∀ i x, cs[i]? = some x → fc (fr + i) = nI x.1 ∧ fd (fr + i) = nI x.2) (hfr : fr + cs.length ≤ 4000) (hcl : cs.length ≤ 400) (gm : ∀ x ∈ cs, x.1 < 510 ∧ x.2 ≤ 4000 ∧ (256 ≤ x.1 → 0 < x.2) ∧ (0 < x.2 → 256 ≤ x.1)) (hbits : (bwR cs s).2 + 400 ≤ 96000) (hd : 4 ≤ d) {tc : Nat} {h4 : am_H} {gl2 gc2 ga2 : Nat → Int32} {x3 x4 : Option am_V} (hal1 : hal 510 (bwC cs) = -1) (Z1 : bwH h h4 ct to (bl + 1) co cp en fa tc (gvR cs.length 16 s) gl2 gc2 ga2) (mC : mrd gl2 gc2 ga2 1 (hal 510 (bwC cs)) (hlen 510 (bwC cs))) (mP : mrd gl2 gc2 ga2 2 (hal 14 (bwP cs)) (hlen 14 (bwP cs))) (zT : ∀ s, s < 19 → gl2 s = nI 0) (aT : ga2 0 = -1) : am_At l D dA m_X10_block d 0 0 0 0 n0 none (am_qv fun h' => ∃ tc' gl' gc' ga', bwH h h' ct to (bl + 1) (co + cs.length) (cp + (pds cs).length) en fa tc' (bwR cs s) gl' gc' ga' ∧ lnM gl' (hlen 19 (bwT cs), hlen 510 (bwC cs), hlen 14 (bwP cs))) 0 0 156 [some (am_r 46), some (.inl (nI fr)), some (.inl (nI cs.length)), x3, x4] [] h4 := by
      obtain ⟨b1, b2, b3, b4⟩ := bs_le hcl (fun x hx => (gm x hx).1) s
      have m1 := gvR_2 cs.length 16 s
      have w3 := (bw_ok hcl (fun x hx => (gm x hx).1)).2.2.1
      have hs0 : sym 0 = 19 := rfl
      have hs1 : sym 1 = 510 := rfl
      have hs2 : sym 2 = 14 := rfl
      refine am_aload_n dX10_block_156 rfl rfl ?_
      refine am_vv (t_X10_tellAll (d - 1) _ Z1.2.1.2.1 Z1.2.2.2.2.2.2.1 Z1.2.2.2.2.2.2.2.1 Z1.2.2.2.2.2.2.2.2 Z1.2.2.1 (len := hlen 510 (bwC cs)) mC.2.1 (by omega)) k_X10_tellAll l_X10_151 dX10_block_157 rfl rfl rfl rfl Z1.2.1.2.1 (by omega) (Nat.le_refl _) (Nat.le_refl _) (fun h5 hx => ?_)
      obtain ⟨f5, e5, T5⟩ := hx
      have T5 : tlM h5 (btl cs) := T5
      have e5 : h5 46 = some (mO ct (gvR cs.length 16 s).1.length to (bl + 1) co cp (gvR cs.length 16 s).2 en fa (btl cs).length) := e5
      have Z2 : bwH h h5 ct to (bl + 1) co cp en fa (btl cs).length (gvR cs.length 16 s) gl2 gc2 ga2 := by
        obtain ⟨x1, x2, x3, x4, x5, ⟨x6, x7, x8⟩, x9, x10, x11⟩ := Z1
        obtain ⟨⟨q1, q2, q3, q4, q5⟩, q6, q7, q8⟩ := T5
        exact ⟨x1.tr f5 (by simp [frW]), ⟨am_fr.rf, e5, x2.2.2.1.at (f5 48 (by simp)), x2.2.2.2⟩, (f5 49 (by simp)).trans x3, (f5 50 (by simp)).trans x4, (f5 51 (by simp)).trans x5, ⟨x6.at (f5 54 (by simp)), x7.at (f5 55 (by simp)), by rw [f5 56 (by simp)]; exact x8⟩, ⟨q6, q7⟩, ⟨q1, q3⟩, ⟨q2, q4⟩⟩
      refine am_aload_n dX10_block_160 rfl rfl ?_
      refine am_iconst (v := nI 0) dX10_block_161 rfl (by decide +kernel) ?_
      refine am_vv (t_X10_merge (d - 1) _ Z2.2.1.2.1 (t := 0) (by omega) Z2.2.2.1 Z2.2.2.2.1 Z2.2.2.2.2.1 Z2.2.2.2.2.2.1.1 Z2.2.2.2.2.2.1.2.1 Z2.2.2.2.2.2.1.2.2 (w := bwT cs) T5.2 (fun v hv => by rw [Nat.mul_zero, Nat.zero_add]; exact zT v hv) aT w3 (by omega)) k_X10_merge l_X10_142 dX10_block_162 rfl rfl rfl rfl Z2.2.1.2.1 (by omega) (Nat.le_refl _) (Nat.le_refl _) (fun h6 hx => ?_)
      obtain ⟨gl4, gc4, ga4, f6, a1, a2, a3, G4, A4, mT, a4, a5, a6⟩ := hx
      have Z3 := Z2.mg f6 a1 a2 a3 a4 a5 a6
      have mC4 : mrd gl4 gc4 ga4 1 (hal 510 (bwC cs)) (hlen 510 (bwC cs)) := mC.at (fun v hv => (G4 _ (fun z hz => by omega)).1) (fun v hv => (G4 _ (fun z hz => by omega)).2) (A4 1 (by omega))
      have mP4 : mrd gl4 gc4 ga4 2 (hal 14 (bwP cs)) (hlen 14 (bwP cs)) := mP.at (fun v hv => (G4 _ (fun z hz => by omega)).1) (fun v hv => (G4 _ (fun z hz => by omega)).2) (A4 2 (by omega))
      have T6 := T5.at (h' := h6) (fun j a b => f6 j (by simp; omega))
      refine am_aload_n dX10_block_165 rfl rfl ?_
      refine am_iconst (v := nI 0) dX10_block_166 rfl (by decide +kernel) ?_
      refine am_iconst (v := nI 5) dX10_block_167 rfl (by decide +kernel) ?_
      refine am_vv (t_X10_giveSmall (d - 1) _ Z3.2.1 (t := 0) (nb := 5) (gp := true) (by omega) (by omega) (by omega) (by decide) Z3.2.2.1 Z3.2.2.2.2.1 mT (by omega) (by omega)) k_X10_giveSmall l_X10_148 dX10_block_168 rfl rfl rfl rfl Z3.2.1.2.1 (by omega) (Nat.le_refl _) (Nat.le_refl _) (fun h7 Y7 => ?_)
      have Y7 : gvH h6 h7 ct to (bl + 1) co cp en fa (btl cs).length (bsA cs s) := Y7
      have Z4 := Z3.gv Y7
      have T7 := T6.at (h' := h7) (fun j a b => Y7.1 j (by simp; omega))
      have lm4 : lnM gl4 (hlen 19 (bwT cs), hlen 510 (bwC cs), hlen 14 (bwP cs)) := ⟨fun v hv => by have := (mT.2.1 v hv).1; rw [Nat.mul_zero, Nat.zero_add] at this; exact this, fun v hv => (mC4.2.1 v hv).1, fun v hv => (mP4.2.1 v hv).1⟩
      refine am_aload_n dX10_block_171 rfl rfl ?_
      refine am_aload_n dX10_block_172 rfl rfl ?_
      refine am_iconst (v := nI 1) dX10_block_173 rfl (by decide +kernel) ?_
      refine am_vi (t_X10_last (d - 1) _ Z4.2.1.2.1 (t := 1) (by omega) Z4.2.2.1 mC4.2.1 (by omega)) k_X10_last l_X10_133 dX10_block_174 rfl rfl rfl rfl Z4.2.1.2.1 (by omega) (Nat.le_refl _) (Nat.le_refl _) (fun z h8 hx => ?_)
      obtain ⟨rfl, hh⟩ := hx
      obtain rfl := hh.symm
      have hlst := lst_le (hlen 510 (bwC cs)) 510
      refine am_bipush (v := nI 9) dX10_block_177 rfl (by decide +kernel) ?_
      refine am_vv (t_X10_give (d - 1) _ Z4.2.1 (v := lst (hlen 510 (bwC cs)) 510) (n := 9) (by omega) (by omega) (by omega)) k_X10_give l_X10_139 dX10_block_179 rfl rfl rfl rfl Z4.2.1.2.1 (by omega) (Nat.le_refl _) (Nat.le_refl _) (fun h8 Y8 => ?_)
      have Z5 := Z4.gv Y8
      have T8 := T7.at (h' := h8) (fun j a b => Y8.1 j (by simp; omega))
      have eB2 : bsB cs s = tcR (hlen 19 (bwT cs)) (hal 19 (bwT cs)) (btl cs) (gvR (lst (hlen 510 (bwC cs)) 510) 9 (bsA cs s)) := by unfold bsB tCr; rw [if_pos hal1]
      refine am_iconst (v := nI 0) dX10_block_182 rfl (by decide +kernel) ?_
      refine am_istore_n dX10_block_183 rfl rfl ?_
      exact blk_t d n0 h52 h53 hcs hfr hcl gm hbits hd mT mC4 mP4 lm4 (btl cs) 0 _ h8 rfl (Nat.zero_le _) eB2.symm Z5 T8
end MOD12B
