/-! ===== the reference: a block, its head ===== -/
section MOD12C
variable {l : Launch} {D : va_G} {dA : Bool → ClassId}
set_option maxHeartbeats 4000000 in
set_option maxRecDepth 100000 in
theorem blk_o (d n0 : Nat) {h : am_H} {ct : Nat} {to : Bool} {bl co cp en fa : Nat} {s : List Int32 × Nat} {cs : List (Nat × Nat)} {fr : Nat} {fc fd : Nat → Int32} (h52 : h 52 = some (.inl (false, 4000, fc))) (h53 : h 53 = some (.inl (false, 4000, fd))) (hcs : ∀ i x, cs[i]? = some x → fc (fr + i) = nI x.1 ∧ fd (fr + i) = nI x.2) (hfr : fr + cs.length ≤ 4000) (hcl : cs.length ≤ 400) (gm : ∀ x ∈ cs, x.1 < 510 ∧ x.2 ≤ 4000 ∧ (256 ≤ x.1 → 0 < x.2) ∧ (0 < x.2 → 256 ≤ x.1)) (hbits : (bwR cs s).2 + 400 ≤ 96000) (hd : 4 ≤ d) {tc : Nat} {h4 : am_H} {gl2 gc2 ga2 : Nat → Int32} {x3 x4 : Option am_V} (hal1 : ¬ hal 510 (bwC cs) = -1) (Z1 : bwH h h4 ct to (bl + 1) co cp en fa tc (gvR cs.length 16 s) gl2 gc2 ga2) (mC : mrd gl2 gc2 ga2 1 (hal 510 (bwC cs)) (hlen 510 (bwC cs))) (mP : mrd gl2 gc2 ga2 2 (hal 14 (bwP cs)) (hlen 14 (bwP cs))) (zT : ∀ s, s < 19 → gl2 s = nI 0) (aT : ga2 0 = -1) : am_At l D dA m_X10_block d 0 0 0 0 n0 none (am_qv fun h' => ∃ tc' gl' gc' ga', bwH h h' ct to (bl + 1) (co + cs.length) (cp + (pds cs).length) en fa tc' (bwR cs s) gl' gc' ga' ∧ lnM gl' (hlen 19 (bwT cs), hlen 510 (bwC cs), hlen 14 (bwP cs))) 0 0 121 [some (am_r 46), some (.inl (nI fr)), some (.inl (nI cs.length)), x3, x4] [] h4 := by
      obtain ⟨b1, b2, b3, b4⟩ := bs_le hcl (fun x hx => (gm x hx).1) s
      have m1 := gvR_2 cs.length 16 s
      have hs0 : sym 0 = 19 := rfl
      have hs1 : sym 1 = 510 := rfl
      have hs2 : sym 2 = 14 := rfl
      obtain ⟨⟨y, hy, ey⟩, hz0⟩ := hal_one (by omega) hal1
      have ebt : btl cs = [] := by
        unfold btl
        rw [show hlen 510 (bwC cs) = (fun _ => 0) from funext hz0]
        have : ∀ n, lst (fun _ => 0) n = 0 := fun n => by
          induction n with
          | zero => rfl
          | succ n ih => rw [lst, if_pos rfl]; exact ih
        rw [this]
        rfl
      have ewT : bwT cs = fun _ => 0 := by unfold bwT; rw [ebt]; rfl
      have hT0 := hal_z 19
      rw [← ewT] at hT0
      refine am_aload_n dX10_block_121 rfl rfl ?_
      refine am_get f_X10_22 dX10_block_122 rfl Z1.2.1.2.1 rfl ?_
      refine am_iconst (v := nI 0) dX10_block_125 rfl (by decide +kernel) ?_
      refine am_iconst (v := nI 0) dX10_block_126 rfl (by decide +kernel) ?_
      refine am_iast dX10_block_127 rfl Z1.2.2.2.2.1 (by omega) (by omega) ?_
      refine am_aload_n dX10_block_128 rfl rfl ?_
      refine am_iconst (v := nI 0) dX10_block_129 rfl (by decide +kernel) ?_
      refine am_iconst (v := nI 5) dX10_block_130 rfl (by decide +kernel) ?_
      have Z2 : bwH h (am_set h4 51 (.inl (false, 3, upd ga2 0 (nI 0)))) ct to (bl + 1) co cp en fa tc (gvR cs.length 16 s) gl2 gc2 (upd ga2 0 (nI 0)) := by
        obtain ⟨x1, x2, x3, x4, x5, ⟨x6, x7, x8⟩, x9, x10, x11⟩ := id Z1
        exact Z1.mg (am_fr.rf.set (by simp)) ((am_set_ne (by omega)).trans x3) ((am_set_ne (by omega)).trans x4) am_set_eq (x6.at (am_set_ne (by omega))) (x7.at (am_set_ne (by omega))) (by rw [am_set_ne (by omega)]; exact x8)
      have mT : mrd gl2 gc2 (upd ga2 0 (nI 0)) 0 (hal 19 (bwT cs)) (hlen 19 (bwT cs)) := by
        rw [hT0.1]
        exact ⟨upd_eq, fun v hv => by rw [hT0.2 v, Nat.mul_zero, Nat.zero_add]; exact ⟨zT v hv, Nat.zero_le _⟩, fun q => absurd q (am_nm1 (by omega)), fun _ => ⟨0, by omega, rfl⟩⟩
      have mC4 : mrd gl2 gc2 (upd ga2 0 (nI 0)) 1 (hal 510 (bwC cs)) (hlen 510 (bwC cs)) := mC.at (fun v hv => rfl) (fun v hv => rfl) (upd_ne (by omega))
      have mP4 : mrd gl2 gc2 (upd ga2 0 (nI 0)) 2 (hal 14 (bwP cs)) (hlen 14 (bwP cs)) := mP.at (fun v hv => rfl) (fun v hv => rfl) (upd_ne (by omega))
      refine am_vv (t_X10_giveSmall (d - 1) _ Z2.2.1 (t := 0) (nb := 5) (gp := true) (by omega) (by omega) (by omega) (by decide) Z2.2.2.1 Z2.2.2.2.2.1 mT (by omega) (by omega)) k_X10_giveSmall l_X10_148 dX10_block_131 rfl rfl rfl rfl Z2.2.1.2.1 (by omega) (Nat.le_refl _) (Nat.le_refl _) (fun h7 Y7 => ?_)
      have Z3 := Z2.gv Y7
      have Z3 : bwH h h7 ct to (bl + 1) co cp en fa tc (bsA cs s) gl2 gc2 (upd ga2 0 (nI 0)) := Z3
      refine am_aload_n dX10_block_134 rfl rfl ?_
      refine am_iconst (v := nI 0) dX10_block_135 rfl (by decide +kernel) ?_
      refine am_bipush (v := nI 9) dX10_block_136 rfl (by decide +kernel) ?_
      refine am_vv (t_X10_give (d - 1) _ Z3.2.1 (v := 0) (n := 9) (by omega) (by omega) (by omega)) k_X10_give l_X10_139 dX10_block_138 rfl rfl rfl rfl Z3.2.1.2.1 (by omega) (Nat.le_refl _) (Nat.le_refl _) (fun h8 Y8 => ?_)
      have Z4 := Z3.gv Y8
      have g9 := gvR_2 0 9 (bsA cs s)
      refine am_aload_n dX10_block_141 rfl rfl ?_
      refine am_aload_n dX10_block_142 rfl rfl ?_
      refine am_get f_X10_22 dX10_block_143 rfl Z4.2.1.2.1 rfl ?_
      refine am_iconst (v := nI 1) dX10_block_146 rfl (by decide +kernel) ?_
      refine am_iald dX10_block_147 rfl Z4.2.2.2.2.1 (by omega) (by omega) ?_
      rw [mC4.1, ey]
      refine am_bipush (v := nI 9) dX10_block_148 rfl (by decide +kernel) ?_
      have eB2 : bsB cs s = gvR y 9 (gvR 0 9 (bsA cs s)) := by
        unfold bsB tCr
        rw [if_neg hal1, ey, pk_tn (by omega)]
      have g10 := gvR_2 y 9 (gvR 0 9 (bsA cs s))
      rw [← eB2] at g10
      refine am_vv (t_X10_give (d - 1) _ Z4.2.1 (v := y) (n := 9) (by omega) (by omega) (by omega)) k_X10_give l_X10_139 dX10_block_150 rfl rfl rfl rfl Z4.2.1.2.1 (by omega) (Nat.le_refl _) (Nat.le_refl _) (fun h9 Y9 => ?_)
      refine am_goto 249 dX10_block_153 rfl rfl ?_
      refine blk_4 d n0 h52 h53 hcs hfr hcl gm hbits hd (tc3 := tc) (gl3 := gl2) (gc3 := gc2) (by rw [eB2]; exact Z4.gv Y9) mC4 mP4 ⟨fun v hv => ?_, fun v hv => (mC4.2.1 v hv).1, fun v hv => (mP4.2.1 v hv).1⟩
      show gl2 v = nI (hlen 19 (bwT cs) v)
      rw [hT0.2 v]
      exact zT v hv
set_option maxHeartbeats 4000000 in
set_option maxRecDepth 100000 in
theorem blk_3 (d n0 : Nat) {h : am_H} {ct : Nat} {to : Bool} {bl co cp en fa : Nat} {s : List Int32 × Nat} {cs : List (Nat × Nat)} {fr : Nat} {fc fd : Nat → Int32} (h52 : h 52 = some (.inl (false, 4000, fc))) (h53 : h 53 = some (.inl (false, 4000, fd))) (hcs : ∀ i x, cs[i]? = some x → fc (fr + i) = nI x.1 ∧ fd (fr + i) = nI x.2) (hfr : fr + cs.length ≤ 4000) (hcl : cs.length ≤ 400) (gm : ∀ x ∈ cs, x.1 < 510 ∧ x.2 ≤ 4000 ∧ (256 ≤ x.1 → 0 < x.2) ∧ (0 < x.2 → 256 ≤ x.1)) (hbits : (bwR cs s).2 + 400 ≤ 96000) (hd : 4 ≤ d) {tc : Nat} {H : am_H} {gl2 gc2 ga2 : Nat → Int32} {x3 x4 : Option am_V} (Z : bwH h H ct to (bl + 1) co cp en fa tc s gl2 gc2 ga2) (mC : mrd gl2 gc2 ga2 1 (hal 510 (bwC cs)) (hlen 510 (bwC cs))) (mP : mrd gl2 gc2 ga2 2 (hal 14 (bwP cs)) (hlen 14 (bwP cs))) (zT : ∀ s, s < 19 → gl2 s = nI 0) (aT : ga2 0 = -1) : am_At l D dA m_X10_block d 0 0 0 0 n0 none (am_qv fun h' => ∃ tc' gl' gc' ga', bwH h h' ct to (bl + 1) (co + cs.length) (cp + (pds cs).length) en fa tc' (bwR cs s) gl' gc' ga' ∧ lnM gl' (hlen 19 (bwT cs), hlen 510 (bwC cs), hlen 14 (bwP cs))) 0 0 104 [some (am_r 46), some (.inl (nI fr)), some (.inl (nI cs.length)), x3, x4] [] H := by
    obtain ⟨b1, b2, b3, b4⟩ := bs_le hcl (fun x hx => (gm x hx).1) s
    refine am_aload_n dX10_block_104 rfl rfl ?_
    refine am_iload_n dX10_block_105 rfl rfl ?_
    refine am_bipush (v := nI 16) dX10_block_106 rfl (by decide +kernel) ?_
    refine am_vv (t_X10_give (d - 1) _ Z.2.1 (v := cs.length) (n := 16) (by omega) (by omega) (by omega)) k_X10_give l_X10_139 dX10_block_108 rfl rfl rfl rfl Z.2.1.2.1 (by omega) (Nat.le_refl _) (Nat.le_refl _) (fun h4 Y => ?_)
    have Z1 := Z.gv Y
    refine am_aload_n dX10_block_111 rfl rfl ?_
    refine am_get f_X10_22 dX10_block_112 rfl Z1.2.1.2.1 rfl ?_
    refine am_iconst (v := nI 1) dX10_block_115 rfl (by decide +kernel) ?_
    refine am_iald dX10_block_116 rfl Z1.2.2.2.2.1 (by omega) (by omega) ?_
    rw [mC.1]
    refine am_iconst (v := -1) dX10_block_117 rfl (by decide +kernel) ?_
    refine am_icmp_eq 156 dX10_block_118 rfl rfl (fun hal1 => ?_) (fun hal1 => ?_)
    · exact blk_m d n0 h52 h53 hcs hfr hcl gm hbits hd hal1 Z1 mC mP zT aT
    · exact blk_o d n0 h52 h53 hcs hfr hcl gm hbits hd hal1 Z1 mC mP zT aT
end MOD12C
