/-! ===== the reference: read ===== -/
section MOD6
variable {l : Launch} {D : va_G} {dA : Bool → ClassId}
def lnM (gl : Nat → Int32) (ls : l3) : Prop := (∀ s, s < 19 → gl s = nI (ls.1 s)) ∧ (∀ s, s < 510 → gl (600 + s) = nI (ls.2.1 s)) ∧ ∀ s, s < 14 → gl (1200 + s) = nI (ls.2.2 s)
def MD (h : am_H) (S : sS) : Prop := (∃ en fa tc, h 46 = some (mO S.2.1 S.2.2.1.length S.2.2.2.1 S.2.2.2.2.1 S.2.2.2.2.2.1 S.2.2.2.2.2.2.1 S.2.2.2.2.2.2.2.1 en fa tc)) ∧ h 47 = some (.inl (false, 4000, S.1)) ∧ mrw h S.2.2.1 ∧ (∃ gl, h 49 = some (.inl (false, 1800, gl)) ∧ (0 < S.2.2.2.2.1 → lnM gl S.2.2.2.2.2.2.2.2)) ∧ ars h 50 1800 ∧ ars h 51 3 ∧ ars h 52 4000 ∧ ars h 53 4000 ∧ ars h 54 1200 ∧ ars h 55 1200 ∧ (∃ f, h 56 = some (.inl (true, 1200, f))) ∧ ars h 57 600 ∧ ars h 58 1200 ∧ ars h 59 1200
/-- the cells that reading changes -/
def bkH (h H : am_H) (e : am_E) (gl gc ga : Nat → Int32) (bs : List Int32) : Prop := am_fr h H [46, 48, 49, 50, 51] ∧ H 46 = some e ∧ H 49 = some (.inl (false, 1800, gl)) ∧ H 50 = some (.inl (false, 1800, gc)) ∧ H 51 = some (.inl (false, 3, ga)) ∧ mrw H bs
theorem bkH.rd {h H : am_H} {e : am_E} {gl gc ga : Nat → Int32} {bs : List Int32} (x : bkH h H e gl gc ga bs) : rdH H H e gl gc ga := ⟨am_fr.rf, x.2.1, x.2.2.1, x.2.2.2.1, x.2.2.2.2.1⟩
theorem bkH.to {h H H' : am_H} {e e' : am_E} {gl gc ga gl' gc' ga' : Nat → Int32} {bs : List Int32} (x : bkH h H e gl gc ga bs) (y : rdH H H' e' gl' gc' ga') : bkH h H' e' gl' gc' ga' bs := ⟨x.1.tr (y.1) (by simp), y.2.1, y.2.2.1, y.2.2.2.1, y.2.2.2.2, x.2.2.2.2.2.at (y.1 48 (by simp))⟩
theorem bkH.m {h H : am_H} {e : am_E} {gl gc ga : Nat → Int32} {bs : List Int32} (x : bkH h H e gl gc ga bs) (e' : am_E) : bkH h (am_set H 46 e') e' gl gc ga bs := x.to (x.rd.m e')
set_option maxRecDepth 100000 in
theorem oneR_gt (lenC : Nat → Nat) (alC : Int32) (lenP : Nat → Nat) (alP : Int32) (f : Nat → Int32) (E wa k : Nat) (bs : List Int32) (co cp : Nat) (h : (oneR lenC alC lenP alP f E wa k bs co cp).1 = 0) (hl : bs.length < wa) : bs.length < (oneR lenC alC lenP alP f E wa k bs co cp).2.2.1.length := by
  unfold oneR at h ⊢
  split
  · rename_i g; rw [if_pos g] at h; cases h
  · rename_i g
    rw [if_neg g] at h
    split
    · show _ < (bs ++ _).length
      rw [List.length_append]
      show _ < _ + 1
      omega
    · rename_i g2
      rw [if_neg g2] at h
      split
      · rename_i g3; rw [if_pos g3] at h; cases h
      · rename_i g3
        rw [if_neg g3] at h
        split
        · rename_i g4; rw [if_pos g4] at h; cases h
        · show _ < (cpl _ _ _).length
          rw [cpl_len]
          generalize (sy lenC 510 alC f k).2 = y at g2
          omega
theorem cdsR_ge (lenC : Nat → Nat) (alC : Int32) (lenP : Nat → Nat) (alP : Int32) (f : Nat → Int32) (E wa : Nat) : ∀ (q k : Nat) (bs : List Int32) (co cp : Nat), (cdsR lenC alC lenP alP f E wa q k bs co cp).1 = 0 → bs.length ≤ (cdsR lenC alC lenP alP f E wa q k bs co cp).2.2.1.length ∧ (0 < q → bs.length < wa → bs.length < (cdsR lenC alC lenP alP f E wa q k bs co cp).2.2.1.length)
  | 0, _, _, _, _, _ => ⟨Nat.le_refl _, fun g => absurd g (Nat.lt_irrefl 0)⟩
  | q + 1, k, bs, co, cp, h => by
    rw [cdsR] at h ⊢
    by_cases g : wa ≤ bs.length
    · rw [if_pos g]; exact ⟨Nat.le_refl _, fun _ z => by omega⟩
    · rw [if_neg g] at h ⊢
      by_cases g2 : (oneR lenC alC lenP alP f E wa k bs co cp).1 = 0
      · rw [if_pos g2] at h ⊢
        have i1 := cdsR_ge lenC alC lenP alP f E wa q _ _ _ _ h
        have i2 := oneR_gt lenC alC lenP alP f E wa k bs co cp g2 (by omega)
        exact ⟨Nat.le_trans (Nat.le_of_lt i2) i1.1, fun _ _ => Nat.lt_of_lt_of_le i2 i1.1⟩
      · rw [if_neg g2] at h
        exact absurd h g2
theorem blkR_gt (f : Nat → Int32) (E wa k : Nat) (bs : List Int32) (co cp : Nat) (h : (blkR f E wa k bs co cp).1.1 = 0) (hl : bs.length < wa) : bs.length < (blkR f E wa k bs co cp).1.2.2.1.length := by
  unfold blkR at h ⊢
  split
  · rename_i g; rw [if_pos g] at h; cases h
  · rename_i g
    rw [if_neg g] at h
    split
    · rename_i g2; rw [if_pos g2] at h; cases h
    · rename_i g2
      rw [if_neg g2] at h
      split
      · rename_i g3; rw [if_pos g3] at h; exact absurd h g3
      · rename_i g3
        rw [if_neg g3] at h
        split
        · rename_i g4; rw [if_pos g4] at h; exact absurd h g4
        · rename_i g4
          rw [if_neg g4] at h
          split
          · rename_i g5; rw [if_pos g5] at h; exact absurd h g5
          · rename_i g5
            rw [if_neg g5] at h
            exact (cdsR_ge _ _ _ _ _ _ _ _ _ _ _ _ h).2 (by omega) hl
set_option maxHeartbeats 4000000 in
set_option maxRecDepth 100000 in
theorem t_X10_read (d n0 : Nat) {h : am_H} {f : Nat → Int32} {c : Nat} {md : List Int32} {op : Bool} {bl co cp bi : Nat} {ls : l3} (x : MD h (f, c, md, op, bl, co, cp, bi, ls)) (ok : OK (f, c, md, op, bl, co, cp, bi, ls)) (n s : Int32) (hd : 5 ≤ d) : am_Ct l D dA m_X10_read d 0 0 n0 [am_r 46, .inl n, .inl s] h (am_qi fun x h' => x = (oRead n s (f, c, md, op, bl, co, cp, bi, ls)).1 ∧ MD h' (oRead n s (f, c, md, op, bl, co, cp, bi, ls)).2 ∧ ∀ j, j < 46 → h' j = h j) := by
  refine am_Ci (by decide +kernel) rfl rfl ?_
  have hc4 : c ≤ 4000 := ok.1
  obtain ⟨⟨en0, fa0, tc, hm⟩, hf, hw, ⟨gl0, h49, -⟩, ⟨gc0, h50⟩, ⟨ga0, h51⟩, m52, m53, m54, m55, m56, m57, m58, m59⟩ := id x
  have hf : h 47 = some (.inl (false, 4000, f)) := hf
  have hm : h 46 = some (mO c md.length op bl co cp bi en0 fa0 tc) := hm
  refine am_iload_n dX10_read_0 rfl rfl ?_
  refine am_if_lt 23 dX10_read_1 rfl rfl (fun h0 => ?_) (fun h0 => ?_)
  · skip
    have e : oRead n s (f, c, md, op, bl, co, cp, bi, ls) = (-1, (f, c, md, op, bl, co, cp, bi, ls)) := by
      unfold oRead
      rw [ix_neg h0]
    refine am_iconst (v := -1) dX10_read_23 rfl (by decide +kernel) ?_
    exact am_ri dX10_read_24 rfl rfl rfl ⟨by rw [e], by rw [e]; exact x, fun j hj => rfl⟩
  · refine am_iload_n dX10_read_4 rfl rfl ?_
    refine am_aload_n dX10_read_5 rfl rfl ?_
    refine am_get f_X10_50 dX10_read_6 rfl hm rfl ?_
    refine am_icmp_gt 23 dX10_read_9 rfl rfl (fun h1 => ?_) (fun h1 => ?_)
    · skip
      have e : oRead n s (f, c, md, op, bl, co, cp, bi, ls) = (-1, (f, c, md, op, bl, co, cp, bi, ls)) := by
        unfold oRead
        rw [show ix n (c + 1) = none from ix_gt h1 (by show c < _; omega)]
      refine am_iconst (v := -1) dX10_read_23 rfl (by decide +kernel) ?_
      exact am_ri dX10_read_24 rfl rfl rfl ⟨by rw [e], by rw [e]; exact x, fun j hj => rfl⟩
    · obtain ⟨kk, hk1, rfl, ek⟩ := ix_le (c := c) h0 h1 (by omega)
      refine am_iload_n dX10_read_12 rfl rfl ?_
      refine am_if_lt 23 dX10_read_13 rfl rfl (fun h2 => ?_) (fun h2 => ?_)
      · skip
        have e : oRead (nI kk) s (f, c, md, op, bl, co, cp, bi, ls) = (-1, (f, c, md, op, bl, co, cp, bi, ls)) := by
          unfold oRead
          rw [ix_neg h2]; cases ix (nI kk) (c + 1) <;> rfl
        refine am_iconst (v := -1) dX10_read_23 rfl (by decide +kernel) ?_
        exact am_ri dX10_read_24 rfl rfl rfl ⟨by rw [e], by rw [e]; exact x, fun j hj => rfl⟩
      · refine am_iload_n dX10_read_16 rfl rfl ?_
        refine am_sipush (v := nI 8000) dX10_read_17 rfl (by decide +kernel) ?_
        refine am_icmp_le 25 dX10_read_20 rfl rfl (fun h3 => ?_) (fun h3 => ?_)
        · obtain ⟨wa, hwa, rfl, ew⟩ := ix_le h2 (Int32.not_lt.mpr h3) (by omega)
          have e : oRead (nI kk) (nI wa) (f, c, md, op, bl, co, cp, bi, ls) = (nI (rdS f kk wa ls).1.1, (f, c, (rdS f kk wa ls).1.2.2.1, true, (rdS f kk wa ls).2.1, (rdS f kk wa ls).1.2.2.2.1, (rdS f kk wa ls).1.2.2.2.2, (rdS f kk wa ls).1.2.1, (rdS f kk wa ls).2.2)) := by
            unfold oRead
            have ek : ix (nI kk) (c + 1) = some kk := ek
            simp only [ek, ew]
          rw [e]
          obtain ⟨U, eU⟩ : ∃ U, U = rdS f kk wa ls := ⟨_, rfl⟩
          rw [← eU]
          clear e
          refine am_aload_n dX10_read_25 rfl rfl ?_
          refine am_vv (t_X10_begin (d - 1) _ hm h49 h51 (by omega)) k_X10_begin l_X10_107 dX10_read_26 rfl rfl rfl rfl hm (by omega) (Nat.le_refl _) (Nat.le_refl _) (fun h1 hx => ?_)
          obtain ⟨gl1, ga1, e1, z1, z2⟩ := hx
          have B1 : bkH h h1 (mO c 0 true 0 0 0 0 en0 0 tc) gl1 gc0 ga1 [] := by
            rw [e1]
            refine ⟨((am_fr.rf.set (by simp)).set (by simp)).set (by simp), (am_set_ne (by omega)).trans ((am_set_ne (by omega)).trans am_set_eq), (am_set_ne (by omega)).trans am_set_eq, (am_set_ne (by omega)).trans ((am_set_ne (by omega)).trans ((am_set_ne (by omega)).trans h50)), am_set_eq, ?_⟩
            obtain ⟨g, hg, -⟩ := hw
            exact ⟨g, (am_set_ne (by omega)).trans ((am_set_ne (by omega)).trans ((am_set_ne (by omega)).trans hg)), fun i v hi => by simp at hi⟩
          clear e1
          refine am_aload_n dX10_read_29 rfl rfl ?_
          refine am_bipush (v := nI 8) dX10_read_30 rfl (by decide +kernel) ?_
          refine am_iload_n dX10_read_32 rfl rfl ?_
          refine am_imul dX10_read_33 rfl ?_
          rw [pk_mul]
          refine am_put f_X10_83 dX10_read_34 rfl B1.2.1 (am_fit_i _) rfl ?_
          have B2 := B1.m (mO c 0 true 0 0 0 0 (8 * kk) 0 tc)
          obtain ⟨E, eE⟩ : ∃ E, E = 8 * kk := ⟨_, rfl⟩
          have hE : E ≤ 32000 := by omega
          rw [← eE] at B2
          have eU : U = unpR f E wa wa 0 [] 0 0 0 ls := by rw [eU, eE]; rfl
          have fin : ∀ (H : am_H) (F k : Nat) (bs : List Int32) (co cp bl : Nat) (ls : l3) (gl gc ga : Nat → Int32) (x3 x4 : Option am_V), bkH h H (mO c bs.length true bl co cp k E F tc) gl gc ga bs → (0 < bl → lnM gl ls) → U = ((F, k, bs, co, cp), bl, ls) → am_At l D dA m_X10_read d 0 0 0 0 n0 none (am_qi fun x h' => x = (nI U.1.1, (f, c, U.1.2.2.1, true, U.2.1, U.1.2.2.2.1, U.1.2.2.2.2, U.1.2.1, U.2.2)).1 ∧ MD h' (nI U.1.1, (f, c, U.1.2.2.1, true, U.2.1, U.1.2.2.2.1, U.1.2.2.2.2, U.1.2.1, U.2.2)).2 ∧ ∀ j, j < 46 → h' j = h j) 0 0 158 [some (am_r 46), some (.inl (nI kk)), some (.inl (nI wa)), x3, x4] [] H := by
            intro H F k bs co cp bl ls gl gc ga x3 x4 Z hl hU
            refine am_aload_n dX10_read_158 rfl rfl ?_
            refine am_get f_X10_73 dX10_read_159 rfl Z.2.1 rfl ?_
            exact am_ri dX10_read_162 rfl rfl rfl ⟨by rw [hU], by rw [hU]; exact ⟨⟨E, F, tc, Z.2.1⟩, (Z.1 47 (by simp)).trans hf, Z.2.2.2.2.2, ⟨gl, Z.2.2.1, hl⟩, ⟨gc, Z.2.2.2.1⟩, ⟨ga, Z.2.2.2.2.1⟩, m52.at (Z.1 52 (by simp)), m53.at (Z.1 53 (by simp)), m54.at (Z.1 54 (by simp)), m55.at (Z.1 55 (by simp)), by rw [Z.1 56 (by simp)]; exact m56, m57.at (Z.1 57 (by simp)), m58.at (Z.1 58 (by simp)), m59.at (Z.1 59 (by simp))⟩, fun j hj => Z.1 j (by simp; omega)⟩
          have ex37 : ∀ (H : am_H) (F k : Nat) (bs : List Int32) (co cp bl : Nat) (ls : l3) (gl gc ga : Nat → Int32) (x3 x4 : Option am_V), bkH h H (mO c bs.length true bl co cp k E F tc) gl gc ga bs → (0 < bl → lnM gl ls) → U = ((F, k, bs, co, cp), bl, ls) → bs.length ≤ wa → F < 10 → (0 < F ∨ wa ≤ bs.length) → am_At l D dA m_X10_read d 0 0 0 0 n0 none (am_qi fun x h' => x = (nI U.1.1, (f, c, U.1.2.2.1, true, U.2.1, U.1.2.2.2.1, U.1.2.2.2.2, U.1.2.1, U.2.2)).1 ∧ MD h' (nI U.1.1, (f, c, U.1.2.2.1, true, U.2.1, U.1.2.2.2.1, U.1.2.2.2.2, U.1.2.1, U.2.2)).2 ∧ ∀ j, j < 46 → h' j = h j) 0 0 37 [some (am_r 46), some (.inl (nI kk)), some (.inl (nI wa)), x3, x4] [] H := by
            intro H F k bs co cp bl ls gl gc ga x3 x4 Z hl hU hbw hF hx
            refine am_aload_n dX10_read_37 rfl rfl ?_
            refine am_get f_X10_54 dX10_read_38 rfl Z.2.1 rfl ?_
            refine am_iload_n dX10_read_41 rfl rfl ?_
            refine am_ncmp_ge 158 dX10_read_42 rfl rfl (by omega) (by omega) (fun hc => ?_) (fun hc => ?_)
            · exact fin H F k bs co cp bl ls gl gc ga _ _ Z hl hU
            · refine am_aload_n dX10_read_45 rfl rfl ?_
              refine am_get f_X10_73 dX10_read_46 rfl Z.2.1 rfl ?_
              refine am_nif_ne 158 dX10_read_49 rfl rfl (by omega) (fun h49x => ?_) (fun h49x => ?_)
              · exact fin H F k bs co cp bl ls gl gc ga _ _ Z hl hU
              · omega
          have loop : ∀ (q : Nat) (H : am_H) (k : Nat) (bs : List Int32) (co cp bl : Nat) (ls : l3) (gl gc ga : Nat → Int32) (x3 x4 : Option am_V), wa ≤ bs.length + q → bs.length ≤ wa → k ≤ E → bkH h H (mO c bs.length true bl co cp k E 0 tc) gl gc ga bs → (0 < bl → lnM gl ls) → unpR f E wa q k bs co cp bl ls = U → byt bs → am_At l D dA m_X10_read d 0 0 0 0 n0 none (am_qi fun x h' => x = (nI U.1.1, (f, c, U.1.2.2.1, true, U.2.1, U.1.2.2.2.1, U.1.2.2.2.2, U.1.2.1, U.2.2)).1 ∧ MD h' (nI U.1.1, (f, c, U.1.2.2.1, true, U.2.1, U.1.2.2.2.1, U.1.2.2.2.2, U.1.2.1, U.2.2)).2 ∧ ∀ j, j < 46 → h' j = h j) 0 0 37 [some (am_r 46), some (.inl (nI kk)), some (.inl (nI wa)), x3, x4] [] H := by
            intro q
            induction q with
            | zero =>
              intro H k bs co cp bl ls gl gc ga x3 x4 hq hbw hk Z hl hU hby
              exact ex37 H 0 k bs co cp bl ls gl gc ga _ _ Z hl hU.symm hbw (by omega) (Or.inr (by omega))
            | succ q ih =>
              intro H k bs co cp bl ls gl gc ga x3 x4 hq hbw hk Z hl hU hby
              rw [unpR] at hU
              refine am_aload_n dX10_read_37 rfl rfl ?_
              refine am_get f_X10_54 dX10_read_38 rfl Z.2.1 rfl ?_
              refine am_iload_n dX10_read_41 rfl rfl ?_
              refine am_ncmp_ge 158 dX10_read_42 rfl rfl (by omega) (by omega) (fun hc => ?_) (fun hc => ?_)
              · rw [if_pos hc] at hU
                exact fin H 0 k bs co cp bl ls gl gc ga _ _ Z hl hU.symm
              · rw [if_neg (by omega)] at hU
                refine am_aload_n dX10_read_45 rfl rfl ?_
                refine am_get f_X10_73 dX10_read_46 rfl Z.2.1 rfl ?_
                refine am_nif_ne 158 dX10_read_49 rfl rfl (by omega) (fun h49x => ?_) (fun h49x => ?_)
                · omega
                · have nxt : ∀ (H : am_H) (F k' : Nat) (bs' : List Int32) (co' cp' : Nat) (ls' : l3) (gl gc ga : Nat → Int32) (x3 x4 : Option am_V), blkR f E wa k bs co cp = ((F, k', bs', co', cp'), ls') → bkH h H (mO c bs'.length true (bl + 1) co' cp' k' E F tc) gl gc ga bs' → lnM gl ls' → k' ≤ E → F < 10 → am_At l D dA m_X10_read d 0 0 0 0 n0 none (am_qi fun x h' => x = (nI U.1.1, (f, c, U.1.2.2.1, true, U.2.1, U.1.2.2.2.1, U.1.2.2.2.2, U.1.2.1, U.2.2)).1 ∧ MD h' (nI U.1.1, (f, c, U.1.2.2.1, true, U.2.1, U.1.2.2.2.1, U.1.2.2.2.2, U.1.2.1, U.2.2)).2 ∧ ∀ j, j < 46 → h' j = h j) 0 0 37 [some (am_r 46), some (.inl (nI kk)), some (.inl (nI wa)), x3, x4] [] H := by
                    intro H F k' bs' co' cp' ls' gl gc ga x3 x4 eB Z3 hl3 hk3 hF
                    have gt := blkR_gt f E wa k bs co cp
                    have by' := blkR_by f E wa k bs co cp ⟨hby, hbw⟩
                    rw [eB] at hU gt by'
                    by_cases hF0 : F = 0
                    · subst hF0
                      rw [if_pos rfl] at hU
                      have gt := gt rfl (by omega)
                      exact ih H k' bs' co' cp' (bl + 1) ls' gl gc ga _ _ (by show wa ≤ bs'.length + q; have : bs.length < bs'.length := gt; omega) by'.2 hk3 Z3 (fun _ => hl3) hU by'.1
                    · rw [if_neg hF0] at hU
                      exact ex37 H F k' bs' co' cp' (bl + 1) ls' gl gc ga _ _ Z3 (fun _ => hl3) hU.symm by'.2 hF (Or.inl (by omega))
                  refine am_aload_n dX10_read_52 rfl rfl ?_
                  refine am_dup dX10_read_53 rfl ?_
                  refine am_get f_X10_61 dX10_read_54 rfl Z.2.1 rfl ?_
                  refine am_iconst (v := nI 1) dX10_read_57 rfl (by decide +kernel) ?_
                  refine am_iadd dX10_read_58 rfl ?_
                  rw [nI_add]
                  refine am_put f_X10_61 dX10_read_59 rfl Z.2.1 (am_fit_i _) rfl ?_
                  refine am_aload_n dX10_read_62 rfl rfl ?_
                  have Z1 := Z.m (mO c bs.length true (bl + 1) co cp k E 0 tc)
                  obtain ⟨H1, eH1⟩ : ∃ H1, H1 = am_set H 46 (mO c bs.length true (bl + 1) co cp k E 0 tc) := ⟨_, rfl⟩
                  refine am_eq rfl rfl rfl eH1.symm ?_
                  rw [← eH1] at Z1
                  clear eH1
                  refine am_vv (t_X10_clearTrees (d - 1) _ Z1.2.1 Z1.2.2.1 Z1.2.2.2.2.1) k_X10_clearTrees l_X10_76 dX10_read_63 rfl rfl rfl rfl Z1.2.1 (by omega) (Nat.le_refl _) (Nat.le_refl _) (fun h3 hx => ?_)
                  obtain ⟨gl2, ga2, e2, y1, y2⟩ := hx
                  have Z2 : bkH h h3 (mO c bs.length true (bl + 1) co cp k E 0 tc) gl2 gc ga2 bs := by
                    rw [e2]
                    exact Z1.to ((Z1.rd.ln gl2).a ga2)
                  clear e2
                  have zr : lnM gl2 (zN, zN, zN) := ⟨fun s hs => y1 s (by omega), fun s hs => y1 _ (by omega), fun s hs => y1 _ (by omega)⟩
                  refine am_aload_n dX10_read_66 rfl rfl ?_
                  refine am_bipush (v := nI 16) dX10_read_67 rfl (by decide +kernel) ?_
                  refine am_vi (t_X10_take (d - 1) _ Z2.2.1 ((Z2.1 47 (by simp)).trans hf) hE hk (n := 16) (by omega) (by omega)) k_X10_take l_X10_90 dX10_read_69 rfl rfl rfl rfl Z2.2.1 (by omega) (Nat.le_refl _) (Nat.le_refl _) (fun z h4 hx => ?_)
                  obtain ⟨hx1, hx2⟩ := hx
                  have q123 : ∀ (H : am_H) (F k' K : Nat) (ls' : l3) (gl gc ga : Nat → Int32) (x4 : Option am_V), blkR f E wa k bs co cp = ((F, k', bs, co, cp), ls') → bkH h H (mO c bs.length true (bl + 1) co cp k' E F tc) gl gc ga bs → lnM gl ls' → k' ≤ E → F < 10 → 0 < F → K < 2 ^ 17 → am_At l D dA m_X10_read d 0 0 0 0 n0 none (am_qi fun x h' => x = (nI U.1.1, (f, c, U.1.2.2.1, true, U.2.1, U.1.2.2.2.1, U.1.2.2.2.2, U.1.2.1, U.2.2)).1 ∧ MD h' (nI U.1.1, (f, c, U.1.2.2.1, true, U.2.1, U.1.2.2.2.1, U.1.2.2.2.2, U.1.2.1, U.2.2)).2 ∧ ∀ j, j < 46 → h' j = h j) 0 0 120 [some (am_r 46), some (.inl (nI kk)), some (.inl (nI wa)), some (.inl (nI K)), x4] [] H := by
                    intro H F k' K ls' gl gc ga x4 eB Z3 hl3 hk3 hF hF0 hK
                    refine am_iconst (v := nI 0) dX10_read_120 rfl (by decide +kernel) ?_
                    refine am_istore dX10_read_121 rfl rfl ?_
                    refine am_iload dX10_read_123 rfl rfl ?_
                    refine am_iload_n dX10_read_125 rfl rfl ?_
                    refine am_ncmp_ge 155 dX10_read_126 rfl rfl (by omega) (by omega) (fun h126 => ?_) (fun h126 => ?_)
                    · refine am_goto 37 dX10_read_155 rfl rfl ?_
                      exact nxt H F k' bs co cp ls' gl gc ga _ _ eB Z3 hl3 hk3 hF
                    · refine am_aload_n dX10_read_129 rfl rfl ?_
                      refine am_get f_X10_54 dX10_read_130 rfl Z3.2.1 rfl ?_
                      refine am_iload_n dX10_read_133 rfl rfl ?_
                      refine am_ncmp_ge 155 dX10_read_134 rfl rfl (by omega) (by omega) (fun h134 => ?_) (fun h134 => ?_)
                      · omega
                      · refine am_aload_n dX10_read_137 rfl rfl ?_
                        refine am_get f_X10_73 dX10_read_138 rfl Z3.2.1 rfl ?_
                        refine am_nif_ne 155 dX10_read_141 rfl rfl (by omega) (fun h141 => ?_) (fun h141 => ?_)
                        · refine am_goto 37 dX10_read_155 rfl rfl ?_
                          exact nxt H F k' bs co cp ls' gl gc ga _ _ eB Z3 hl3 hk3 hF
                        · omega
                  have q107 : ∀ (H : am_H) (F k' K : Nat) (ls' : l3) (gl gc ga : Nat → Int32) (x4 : Option am_V), blkR f E wa k bs co cp = ((F, k', bs, co, cp), ls') → bkH h H (mO c bs.length true (bl + 1) co cp k' E F tc) gl gc ga bs → lnM gl ls' → k' ≤ E → F < 10 → 0 < F → K < 2 ^ 17 → am_At l D dA m_X10_read d 0 0 0 0 n0 none (am_qi fun x h' => x = (nI U.1.1, (f, c, U.1.2.2.1, true, U.2.1, U.1.2.2.2.1, U.1.2.2.2.2, U.1.2.1, U.2.2)).1 ∧ MD h' (nI U.1.1, (f, c, U.1.2.2.1, true, U.2.1, U.1.2.2.2.1, U.1.2.2.2.2, U.1.2.1, U.2.2)).2 ∧ ∀ j, j < 46 → h' j = h j) 0 0 107 [some (am_r 46), some (.inl (nI kk)), some (.inl (nI wa)), some (.inl (nI K)), x4] [] H := by
                    intro H F k' K ls' gl gc ga x4 eB Z3 hl3 hk3 hF hF0 hK
                    refine am_aload_n dX10_read_107 rfl rfl ?_
                    refine am_get f_X10_73 dX10_read_108 rfl Z3.2.1 rfl ?_
                    refine am_nif_ne 120 dX10_read_111 rfl rfl (by omega) (fun hpc => ?_) (fun hpc => ?_)
                    · exact q123 H F k' K ls' gl gc ga x4 eB Z3 hl3 hk3 hF hF0 hK
                    · omega
                  have q96 : ∀ (H : am_H) (F k' K : Nat) (ls' : l3) (gl gc ga : Nat → Int32) (x4 : Option am_V), blkR f E wa k bs co cp = ((F, k', bs, co, cp), ls') → bkH h H (mO c bs.length true (bl + 1) co cp k' E F tc) gl gc ga bs → lnM gl ls' → k' ≤ E → F < 10 → 0 < F → K < 2 ^ 17 → am_At l D dA m_X10_read d 0 0 0 0 n0 none (am_qi fun x h' => x = (nI U.1.1, (f, c, U.1.2.2.1, true, U.2.1, U.1.2.2.2.1, U.1.2.2.2.2, U.1.2.1, U.2.2)).1 ∧ MD h' (nI U.1.1, (f, c, U.1.2.2.1, true, U.2.1, U.1.2.2.2.1, U.1.2.2.2.2, U.1.2.1, U.2.2)).2 ∧ ∀ j, j < 46 → h' j = h j) 0 0 96 [some (am_r 46), some (.inl (nI kk)), some (.inl (nI wa)), some (.inl (nI K)), x4] [] H := by
                    intro H F k' K ls' gl gc ga x4 eB Z3 hl3 hk3 hF hF0 hK
                    refine am_aload_n dX10_read_96 rfl rfl ?_
                    refine am_get f_X10_73 dX10_read_97 rfl Z3.2.1 rfl ?_
                    refine am_nif_ne 107 dX10_read_100 rfl rfl (by omega) (fun hpc => ?_) (fun hpc => ?_)
                    · exact q107 H F k' K ls' gl gc ga x4 eB Z3 hl3 hk3 hF hF0 hK
                    · omega
                  have q83 : ∀ (H : am_H) (F k' K : Nat) (ls' : l3) (gl gc ga : Nat → Int32) (x4 : Option am_V), blkR f E wa k bs co cp = ((F, k', bs, co, cp), ls') → bkH h H (mO c bs.length true (bl + 1) co cp k' E F tc) gl gc ga bs → lnM gl ls' → k' ≤ E → F < 10 → 0 < F → K < 2 ^ 17 → am_At l D dA m_X10_read d 0 0 0 0 n0 none (am_qi fun x h' => x = (nI U.1.1, (f, c, U.1.2.2.1, true, U.2.1, U.1.2.2.2.1, U.1.2.2.2.2, U.1.2.1, U.2.2)).1 ∧ MD h' (nI U.1.1, (f, c, U.1.2.2.1, true, U.2.1, U.1.2.2.2.1, U.1.2.2.2.2, U.1.2.1, U.2.2)).2 ∧ ∀ j, j < 46 → h' j = h j) 0 0 83 [some (am_r 46), some (.inl (nI kk)), some (.inl (nI wa)), some (.inl (nI K)), x4] [] H := by
                    intro H F k' K ls' gl gc ga x4 eB Z3 hl3 hk3 hF hF0 hK
                    refine am_aload_n dX10_read_83 rfl rfl ?_
                    refine am_get f_X10_73 dX10_read_84 rfl Z3.2.1 rfl ?_
                    refine am_nif_ne 96 dX10_read_87 rfl rfl (by omega) (fun hpc => ?_) (fun hpc => ?_)
                    · exact q96 H F k' K ls' gl gc ga x4 eB Z3 hl3 hk3 hF hF0 hK
                    · omega
                  by_cases hE1 : k + 16 ≤ E
                  · obtain ⟨rfl, rfl⟩ := hx1 hE1
                    have hnl := num_lt f k 16
                    have Z3 := Z2.m (mO c bs.length true (bl + 1) co cp (k + 16) E 0 tc)
                    refine am_istore_n dX10_read_72 rfl rfl ?_
                    refine am_iload_n dX10_read_73 rfl rfl ?_
                    refine am_nif_ne 83 dX10_read_74 rfl rfl (by omega) (fun hK0 => ?_) (fun hK0 => ?_)
                    · refine am_aload_n dX10_read_83 rfl rfl ?_
                      refine am_get f_X10_73 dX10_read_84 rfl Z3.2.1 rfl ?_
                      refine am_nif_ne 96 dX10_read_87 rfl rfl (by omega) (fun h87 => ?_) (fun h87 => ?_)
                      · omega
                      · obtain ⟨H3, eH3⟩ : ∃ H3, H3 = am_set h3 46 (mO c bs.length true (bl + 1) co cp (k + 16) E 0 tc) := ⟨_, rfl⟩
                        rw [← eH3] at Z3 ⊢
                        clear eH3
                        refine am_aload_n dX10_read_90 rfl rfl ?_
                        refine am_iconst (v := nI 0) dX10_read_91 rfl (by decide +kernel) ?_
                        refine am_iconst (v := nI 5) dX10_read_92 rfl (by decide +kernel) ?_
                        refine am_vv (t_X10_small (d - 1) _ Z3.rd ((Z3.1 47 (by simp)).trans hf) hE hE1 (t := 0) (nb := 5) (gp := true) (by omega) (by omega) (by omega) (by decide) (fun s hs => y1 _ (by have := sym_le 0; omega)) (y2 0 (by omega)) (by omega)) k_X10_small l_X10_110 dX10_read_93 rfl rfl rfl rfl Z3.2.1 (by omega) (Nat.le_refl _) (Nat.le_refl _) (fun h5 hx => ?_)
                        obtain ⟨T, eT⟩ : ∃ T, T = tTR f E (k + 16) := ⟨_, rfl⟩
                        have hx : trP H3 h5 (fun bi fa => mO c bs.length true (bl + 1) co cp bi E fa tc) gl2 gc ga2 0 E T := by rw [eT]; exact hx
                        obtain ⟨gl4, gc4, ga4, R4, L4, G4, A4, M4, K4, T4⟩ := hx
                        have Z4 := Z3.to R4
                        have ln4 : lnM gl4 (T.2.2.2, zN, zN) := ⟨fun s hs => by have := (L4 s hs).1; rw [Nat.mul_zero, Nat.zero_add] at this; exact this, fun s hs => ((G4 (600 + s) (fun z hz => by have : z < 19 := hz; omega)).1).trans (y1 _ (by omega)), fun s hs => ((G4 (1200 + s) (fun z hz => by have : z < 19 := hz; omega)).1).trans (y1 _ (by omega))⟩
                        refine am_aload_n dX10_read_96 rfl rfl ?_
                        refine am_get f_X10_73 dX10_read_97 rfl Z4.2.1 rfl ?_
                        refine am_nif_ne 107 dX10_read_100 rfl rfl (by omega) (fun hT => ?_) (fun hT => ?_)
                        · exact q107 h5 T.1 T.2.1 _ _ gl4 gc4 ga4 _ (by unfold blkR; rw [if_neg (by omega), if_neg (by omega), ← eT, if_pos (by omega)]) Z4 ln4 K4 T4 hT (by omega)
                        · refine am_aload_n dX10_read_103 rfl rfl ?_
                          refine am_vv (t_X10_great (d - 1) _ (by rw [hT] at Z4; exact Z4.rd) ((Z4.1 47 (by simp)).trans hf) hE K4 (M4 hT) (fun s hs => ln4.2.1 s hs) ((A4 1 (by omega)).trans (y2 1 (by omega))) (by omega)) k_X10_great l_X10_114 dX10_read_104 rfl rfl rfl rfl Z4.2.1 (by omega) (Nat.le_refl _) (Nat.le_refl _) (fun h6 hx => ?_)
                          obtain ⟨C, eC⟩ : ∃ C, C = tCR f E T.2.2.2 T.2.2.1 T.2.1 := ⟨_, rfl⟩
                          have hx : trP h5 h6 (fun bi fa => mO c bs.length true (bl + 1) co cp bi E fa tc) gl4 gc4 ga4 1 E C := by rw [eC]; exact hx
                          obtain ⟨gl5, gc5, ga5, R5, L5, G5, A5, M5, K5, T5⟩ := hx
                          have Z5 := Z4.to R5
                          have ln5 : lnM gl5 (T.2.2.2, C.2.2.2, zN) := ⟨fun s hs => ((G5 s (fun z hz => by omega)).1).trans (ln4.1 s hs), fun s hs => (L5 s hs).1, fun s hs => ((G5 (1200 + s) (fun z hz => by have : z < 510 := hz; omega)).1).trans (ln4.2.2 s hs)⟩
                          refine am_aload_n dX10_read_107 rfl rfl ?_
                          refine am_get f_X10_73 dX10_read_108 rfl Z5.2.1 rfl ?_
                          refine am_nif_ne 120 dX10_read_111 rfl rfl (by omega) (fun hCf => ?_) (fun hCf => ?_)
                          · exact q123 h6 C.1 C.2.1 _ _ gl5 gc5 ga5 _ (by unfold blkR; rw [if_neg (by omega), if_neg (by omega), ← eT, if_neg (by omega), ← eC, if_pos (by omega)]) Z5 ln5 K5 T5 hCf (by omega)
                          · refine am_aload_n dX10_read_114 rfl rfl ?_
                            refine am_iconst (v := nI 2) dX10_read_115 rfl (by decide +kernel) ?_
                            refine am_iconst (v := nI 4) dX10_read_116 rfl (by decide +kernel) ?_
                            refine am_vv (t_X10_small (d - 1) _ (by rw [hCf] at Z5; exact Z5.rd) ((Z5.1 47 (by simp)).trans hf) hE K5 (t := 2) (nb := 4) (gp := false) (by omega) (by omega) (by omega) (by decide) (fun s hs => ln5.2.2 s hs) ((A5 2 (by omega)).trans ((A4 2 (by omega)).trans (y2 2 (by omega)))) (by omega)) k_X10_small l_X10_110 dX10_read_117 rfl rfl rfl rfl Z5.2.1 (by omega) (Nat.le_refl _) (Nat.le_refl _) (fun h7 hx => ?_)
                            obtain ⟨Q, eQ⟩ : ∃ Q, Q = tPR f E C.2.1 := ⟨_, rfl⟩
                            have hx : trP h6 h7 (fun bi fa => mO c bs.length true (bl + 1) co cp bi E fa tc) gl5 gc5 ga5 2 E Q := by rw [eQ]; exact hx
                            obtain ⟨gl6, gc6, ga6, R6, L6, G6, A6, M6, K6, T6⟩ := hx
                            have Z6 := Z5.to R6
                            have ln6 : lnM gl6 (T.2.2.2, C.2.2.2, Q.2.2.2) := ⟨fun s hs => ((G6 s (fun z hz => by omega)).1).trans (ln5.1 s hs), fun s hs => ((G6 (600 + s) (fun z hz => by omega)).1).trans (ln5.2.1 s hs), fun s hs => (L6 s hs).1⟩
                            by_cases hQ : Q.1 = 0
                            · skip
                              have mC : mrd gl6 gc6 ga6 1 C.2.2.1 C.2.2.2 := (M5 hCf).at (fun s hs => (G6 _ (fun z hz => by have : s < 510 := hs; omega)).1) (fun s hs => (G6 _ (fun z hz => by have : s < 510 := hs; omega)).2) (A6 1 (by omega))
                              have mP := M6 hQ
                              have eB : blkR f E wa k bs co cp = (cdsR C.2.2.2 C.2.2.1 Q.2.2.2 Q.2.2.1 f E wa (num f k 16) Q.2.1 bs co cp, (T.2.2.2, C.2.2.2, Q.2.2.2)) := by
                                unfold blkR
                                rw [if_neg (by omega), if_neg (by omega), ← eT, if_neg (by omega), ← eC, if_neg (by omega), ← eQ, if_neg (by omega)]
                              rw [hQ] at Z6
                              refine am_iconst (v := nI 0) dX10_read_120 rfl (by decide +kernel) ?_
                              refine am_istore dX10_read_121 rfl rfl ?_
                              have cds : ∀ (q i : Nat) (H : am_H) (k2 : Nat) (bs2 : List Int32) (co2 cp2 : Nat), i + q = num f k 16 → bs2.length ≤ wa → byt bs2 → k2 ≤ E → bkH h H (mO c bs2.length true (bl + 1) co2 cp2 k2 E 0 tc) gl6 gc6 ga6 bs2 → cdsR C.2.2.2 C.2.2.1 Q.2.2.2 Q.2.2.1 f E wa q k2 bs2 co2 cp2 = cdsR C.2.2.2 C.2.2.1 Q.2.2.2 Q.2.2.1 f E wa (num f k 16) Q.2.1 bs co cp → am_At l D dA m_X10_read d 0 0 0 0 n0 none (am_qi fun x h' => x = (nI U.1.1, (f, c, U.1.2.2.1, true, U.2.1, U.1.2.2.2.1, U.1.2.2.2.2, U.1.2.1, U.2.2)).1 ∧ MD h' (nI U.1.1, (f, c, U.1.2.2.1, true, U.2.1, U.1.2.2.2.1, U.1.2.2.2.2, U.1.2.1, U.2.2)).2 ∧ ∀ j, j < 46 → h' j = h j) 0 0 123 [some (am_r 46), some (.inl (nI kk)), some (.inl (nI wa)), some (.inl (nI (num f k 16))), some (.inl (nI i))] [] H := by
                                intro q
                                induction q with
                                | zero =>
                                  intro i H k2 bs2 co2 cp2 hi hb2 hy2 hk2 Z7 hR
                                  rw [← hR] at eB
                                  refine am_iload dX10_read_123 rfl rfl ?_
                                  refine am_iload_n dX10_read_125 rfl rfl ?_
                                  refine am_ncmp_ge 155 dX10_read_126 rfl rfl (by omega) (by omega) (fun h126 => ?_) (fun h126 => ?_)
                                  · refine am_goto 37 dX10_read_155 rfl rfl ?_
                                    exact nxt H 0 k2 bs2 co2 cp2 _ gl6 gc6 ga6 _ _ eB Z7 ln6 hk2 (by omega)
                                  · omega
                                | succ q ihc =>
                                  intro i H k2 bs2 co2 cp2 hi hb2 hy2 hk2 Z7 hR
                                  rw [cdsR] at hR
                                  refine am_iload dX10_read_123 rfl rfl ?_
                                  refine am_iload_n dX10_read_125 rfl rfl ?_
                                  refine am_ncmp_ge 155 dX10_read_126 rfl rfl (by omega) (by omega) (fun h126 => ?_) (fun h126 => ?_)
                                  · omega
                                  · refine am_aload_n dX10_read_129 rfl rfl ?_
                                    refine am_get f_X10_54 dX10_read_130 rfl Z7.2.1 rfl ?_
                                    refine am_iload_n dX10_read_133 rfl rfl ?_
                                    refine am_ncmp_ge 155 dX10_read_134 rfl rfl (by omega) (by omega) (fun h134 => ?_) (fun h134 => ?_)
                                    · rw [if_pos h134] at hR
                                      rw [← hR] at eB
                                      refine am_goto 37 dX10_read_155 rfl rfl ?_
                                      exact nxt H 0 k2 bs2 co2 cp2 _ gl6 gc6 ga6 _ _ eB Z7 ln6 hk2 (by omega)
                                    · rw [if_neg (by omega)] at hR
                                      refine am_aload_n dX10_read_137 rfl rfl ?_
                                      refine am_get f_X10_73 dX10_read_138 rfl Z7.2.1 rfl ?_
                                      refine am_nif_ne 155 dX10_read_141 rfl rfl (by omega) (fun h141 => ?_) (fun h141 => ?_)
                                      · omega
                                      · refine am_aload_n dX10_read_144 rfl rfl ?_
                                        refine am_iload_n dX10_read_145 rfl rfl ?_
                                        refine am_vv (t_X10_one (d - 1) _ Z7.rd Z7.2.2.2.2.2 ((Z7.1 47 (by simp)).trans hf) hE hk2 mC mP hwa (by omega) (by omega)) k_X10_one l_X10_117 dX10_read_146 rfl rfl rfl rfl Z7.2.1 (by omega) (Nat.le_refl _) (Nat.le_refl _) (fun h8 hx => ?_)
                                        have oby := oneR_by C.2.2.2 C.2.2.1 Q.2.2.2 Q.2.2.1 f E wa k2 bs2 co2 cp2 ⟨hy2, hb2⟩ (by omega)
                                        have olt := oneR_lt C.2.2.2 C.2.2.1 Q.2.2.2 Q.2.2.1 f E wa k2 bs2 co2 cp2
                                        obtain ⟨O, eO⟩ : ∃ O, O = oneR C.2.2.2 C.2.2.1 Q.2.2.2 Q.2.2.1 f E wa k2 bs2 co2 cp2 := ⟨_, rfl⟩
                                        rw [← eO] at hx hR oby olt
                                        clear eO
                                        obtain ⟨o1, o2, o3, o4⟩ := hx
                                        have Z8 : bkH h h8 (mO c O.2.2.1.length true (bl + 1) O.2.2.2.1 O.2.2.2.2 O.2.1 E O.1 tc) gl6 gc6 ga6 O.2.2.1 := ⟨Z7.1.tr o1 (by simp), o2, (o1 49 (by simp)).trans Z7.2.2.1, (o1 50 (by simp)).trans Z7.2.2.2.1, (o1 51 (by simp)).trans Z7.2.2.2.2.1, o3⟩
                                        refine am_iinc (n := 1) dX10_read_149 rfl rfl (nI_1 i) ?_
                                        refine am_goto 123 dX10_read_152 rfl rfl ?_
                                        by_cases hO : O.1 = 0
                                        · rw [if_pos hO] at hR
                                          rw [hO] at Z8
                                          exact ihc (i + 1) h8 O.2.1 O.2.2.1 O.2.2.2.1 O.2.2.2.2 (by omega) oby.2 oby.1 o4 Z8 hR
                                        · rw [if_neg hO] at hR
                                          rw [← hR] at eB
                                          refine am_iload dX10_read_123 rfl rfl ?_
                                          refine am_iload_n dX10_read_125 rfl rfl ?_
                                          refine am_ncmp_ge 155 dX10_read_126 rfl rfl (by omega) (by omega) (fun h127 => ?_) (fun h127 => ?_)
                                          · refine am_goto 37 dX10_read_155 rfl rfl ?_
                                            exact nxt h8 O.1 O.2.1 O.2.2.1 O.2.2.2.1 O.2.2.2.2 _ gl6 gc6 ga6 _ _ eB Z8 ln6 o4 (by omega)
                                          · refine am_aload_n dX10_read_129 rfl rfl ?_
                                            refine am_get f_X10_54 dX10_read_130 rfl Z8.2.1 rfl ?_
                                            refine am_iload_n dX10_read_133 rfl rfl ?_
                                            have ol := oby.2
                                            refine am_ncmp_ge 155 dX10_read_134 rfl rfl (by omega) (by omega) (fun h135 => ?_) (fun h135 => ?_)
                                            · refine am_goto 37 dX10_read_155 rfl rfl ?_
                                              exact nxt h8 O.1 O.2.1 O.2.2.1 O.2.2.2.1 O.2.2.2.2 _ gl6 gc6 ga6 _ _ eB Z8 ln6 o4 (by omega)
                                            · refine am_aload_n dX10_read_137 rfl rfl ?_
                                              refine am_get f_X10_73 dX10_read_138 rfl Z8.2.1 rfl ?_
                                              refine am_nif_ne 155 dX10_read_141 rfl rfl (by omega) (fun h142 => ?_) (fun h142 => ?_)
                                              · refine am_goto 37 dX10_read_155 rfl rfl ?_
                                                exact nxt h8 O.1 O.2.1 O.2.2.1 O.2.2.2.1 O.2.2.2.2 _ gl6 gc6 ga6 _ _ eB Z8 ln6 o4 (by omega)
                                              · omega
                              exact cds (num f k 16) 0 h7 Q.2.1 bs co cp (by omega) hbw hby K6 Z6 rfl
                            · exact q123 h7 Q.1 Q.2.1 _ _ gl6 gc6 ga6 _ (by unfold blkR; rw [if_neg (by omega), if_neg (by omega), ← eT, if_neg (by omega), ← eC, if_neg (by omega), ← eQ, if_pos (by omega)]) Z6 ln6 K6 T6 (by omega) (by omega)
                    · refine am_aload_n dX10_read_77 rfl rfl ?_
                      refine am_bipush (v := nI 6) dX10_read_78 rfl (by decide +kernel) ?_
                      refine am_vv (t_X10_fails (d - 1) _ Z3.2.1 (by omega) (v := 6)) k_X10_fails l_X10_86 dX10_read_80 rfl rfl rfl rfl Z3.2.1 (by omega) (Nat.le_refl _) (Nat.le_refl _) (fun h6 hx => ?_)
                      rw [if_pos rfl] at hx
                      subst hx
                      have Z4 := Z3.m (mO c bs.length true (bl + 1) co cp (k + 16) E 6 tc)
                      exact q83 _ 6 (k + 16) (num f k 16) _ gl2 gc ga2 _ (by unfold blkR; rw [if_neg (by omega), if_pos hK0]) Z4 zr hE1 (by omega) (by omega) (by omega)
                  · obtain ⟨rfl, rfl⟩ := hx2 (by omega)
                    have hnl := num_lt f k (E - k)
                    have pp : 2 ^ (E - k) ≤ 2 ^ 16 := Nat.pow_le_pow_right (by omega) (by omega)
                    have Z3 := Z2.m (mO c bs.length true (bl + 1) co cp E E 1 tc)
                    refine am_istore_n dX10_read_72 rfl rfl ?_
                    refine am_iload_n dX10_read_73 rfl rfl ?_
                    refine am_nif_ne 83 dX10_read_74 rfl rfl (by omega) (fun hK0 => ?_) (fun hK0 => ?_)
                    · exact q83 _ 1 E (num f k (E - k)) _ gl2 gc ga2 _ (by unfold blkR; rw [if_pos (by omega)]) Z3 zr (Nat.le_refl _) (by omega) (by omega) (by omega)
                    · refine am_aload_n dX10_read_77 rfl rfl ?_
                      refine am_bipush (v := nI 6) dX10_read_78 rfl (by decide +kernel) ?_
                      refine am_vv (t_X10_fails (d - 1) _ Z3.2.1 (by omega) (v := 6)) k_X10_fails l_X10_86 dX10_read_80 rfl rfl rfl rfl Z3.2.1 (by omega) (Nat.le_refl _) (Nat.le_refl _) (fun h6 hx => ?_)
                      rw [if_neg (by omega)] at hx
                      subst hx
                      have Z4 := Z3.m (mO c bs.length true (bl + 1) co cp E E 1 tc)
                      exact q83 _ 1 E (num f k (E - k)) _ gl2 gc ga2 _ (by unfold blkR; rw [if_pos (by omega)]) Z4 zr (Nat.le_refl _) (by omega) (by omega) (by omega)
          refine am_eq rfl rfl rfl ?_ (loop wa _ 0 [] 0 0 0 ls gl1 gc0 ga1 _ _ (by omega) (Nat.zero_le _) (Nat.zero_le _) B2 (fun g => absurd g (Nat.lt_irrefl 0)) eU.symm (fun v hv => by simp at hv))
          rw [eE]
          rfl
        · skip
          have e : oRead (nI kk) s (f, c, md, op, bl, co, cp, bi, ls) = (-1, (f, c, md, op, bl, co, cp, bi, ls)) := by
            unfold oRead
            rw [ix_gt (c := 8000) (Int32.not_le.mp h3) (by omega)]; cases ix (nI kk) (c + 1) <;> rfl
          refine am_iconst (v := -1) dX10_read_23 rfl (by decide +kernel) ?_
          exact am_ri dX10_read_24 rfl rfl rfl ⟨by rw [e], by rw [e]; exact x, fun j hj => rfl⟩
end MOD6
