/-! ===== the reference: small calls ===== -/
section MOD7
variable {l : Launch} {D : va_G} {dA : Bool → ClassId}
theorem MD.tp {h h' : am_H} {f f' : Nat → Int32} {c c' : Nat} {md : List Int32} {op : Bool} {bl co cp bi : Nat} {ls : l3} (x : MD h (f, c, md, op, bl, co, cp, bi, ls)) (F : am_fr h h' [46, 47]) {en fa tc : Nat} (e1 : h' 46 = some (mO c' md.length op bl co cp bi en fa tc)) (e2 : h' 47 = some (.inl (false, 4000, f'))) : MD h' (f', c', md, op, bl, co, cp, bi, ls) := by
  obtain ⟨-, -, hw, ⟨gl, h49, h49'⟩, m50, m51, m52, m53, m54, m55, m56, m57, m58, m59⟩ := x
  exact ⟨⟨en, fa, tc, e1⟩, e2, hw.at (F 48 (by simp)), ⟨gl, (F 49 (by simp)).trans h49, h49'⟩, m50.at (F 50 (by simp)), m51.at (F 51 (by simp)), m52.at (F 52 (by simp)), m53.at (F 53 (by simp)), m54.at (F 54 (by simp)), m55.at (F 55 (by simp)), by rw [F 56 (by simp)]; exact m56, m57.at (F 57 (by simp)), m58.at (F 58 (by simp)), m59.at (F 59 (by simp))⟩
def fsl (a1 a2 a3 a4 a5 : Int32) (k : Nat) : Int32 := if k < 4 then a1 else if k < 8 then a2 else if k < 12 then a3 else if k < 16 then a4 else a5
def fdM (f : Nat → Int32) (c : Nat) (a1 a2 a3 a4 a5 : Int32) : Nat → Nat → Int32
  | 0 => f
  | k + 1 => upd (fdM f c a1 a2 a3 a4 a5 k) (c + k) (wb (fsl a1 a2 a3 a4 a5 k) (24 - 8 * (k % 4)))
theorem fdM_20 (f : Nat → Int32) (c : Nat) (a1 a2 a3 a4 a5 : Int32) : fdM f c a1 a2 a3 a4 a5 20 = wd4 (wd4 (wd4 (wd4 (wd4 f c a1) (c + 4) a2) (c + 8) a3) (c + 12) a4) (c + 16) a5 := rfl
set_option maxHeartbeats 4000000 in
set_option maxRecDepth 100000 in
theorem t_X10_feed (d n0 : Nat) {h : am_H} {f : Nat → Int32} {c : Nat} {md : List Int32} {op : Bool} {bl co cp bi : Nat} {ls : l3} (x : MD h (f, c, md, op, bl, co, cp, bi, ls)) (ok : OK (f, c, md, op, bl, co, cp, bi, ls)) (a1 a2 a3 a4 a5 : Int32) : am_Ct l D dA m_X10_feed d 0 0 n0 [am_r 46, .inl a1, .inl a2, .inl a3, .inl a4, .inl a5] h (am_qi fun x h' => x = (oFeed a1 a2 a3 a4 a5 (f, c, md, op, bl, co, cp, bi, ls)).1 ∧ MD h' (oFeed a1 a2 a3 a4 a5 (f, c, md, op, bl, co, cp, bi, ls)).2 ∧ ∀ j, j < 46 → h' j = h j) := by
  refine am_Ci (by decide +kernel) rfl rfl ?_
  have hc4 : c ≤ 4000 := ok.1
  obtain ⟨⟨en, fa, tc, hm⟩, hf, hw, ⟨gl, h49, hls⟩, -⟩ := id x
  have hf : h 47 = some (.inl (false, 4000, f)) := hf
  have hm : h 46 = some (mO c md.length op bl co cp bi en fa tc) := hm
  refine am_aload_n dX10_feed_0 rfl rfl ?_
  refine am_get f_X10_50 dX10_feed_1 rfl hm rfl ?_
  refine am_bipush (v := nI 20) dX10_feed_4 rfl (by decide +kernel) ?_
  refine am_iadd dX10_feed_6 rfl ?_
  rw [nI_add]
  refine am_sipush (v := nI 4000) dX10_feed_7 rfl (by decide +kernel) ?_
  refine am_ncmp_le 15 dX10_feed_10 rfl rfl (by omega) (by omega) (fun hc => ?_) (fun hc => ?_)
  · have e : oFeed a1 a2 a3 a4 a5 (f, c, md, op, bl, co, cp, bi, ls) = (nI (c + 20), (wd4 (wd4 (wd4 (wd4 (wd4 f c a1) (c + 4) a2) (c + 8) a3) (c + 12) a4) (c + 16) a5, c + 20, md, op, bl, co, cp, bi, ls)) := by
      unfold oFeed
      rw [if_pos (by exact hc)]
    rw [e, ← fdM_20]
    refine am_iconst (v := nI 0) dX10_feed_15 rfl (by decide +kernel) ?_
    refine am_istore dX10_feed_16 rfl rfl ?_
    have loop : ∀ (q i : Nat) (H : am_H) (x7 : Option am_V), i + q = 20 → am_fr h H [46, 47] → H 46 = some (mO (c + i) md.length op bl co cp bi en fa tc) → H 47 = some (.inl (false, 4000, fdM f c a1 a2 a3 a4 a5 i)) → am_At l D dA m_X10_feed d 0 0 0 0 n0 none (am_qi fun x h' => x = (nI (c + 20), (fdM f c a1 a2 a3 a4 a5 20, c + 20, md, op, bl, co, cp, bi, ls)).1 ∧ MD h' (nI (c + 20), (fdM f c a1 a2 a3 a4 a5 20, c + 20, md, op, bl, co, cp, bi, ls)).2 ∧ ∀ j, j < 46 → h' j = h j) 0 0 18 [some (am_r 46), some (.inl a1), some (.inl a2), some (.inl a3), some (.inl a4), some (.inl a5), some (.inl (nI i)), x7] [] H := by
      intro q
      induction q with
      | zero =>
        intro i H x7 hi F h1 h2
        obtain rfl : i = 20 := by omega
        refine am_iload dX10_feed_18 rfl rfl ?_
        refine am_bipush (v := nI 20) dX10_feed_20 rfl (by decide +kernel) ?_
        refine am_ncmp_ge 115 dX10_feed_22 rfl rfl (by omega) (by omega) (fun hc => ?_) (fun hc => ?_)
        · refine am_aload_n dX10_feed_115 rfl rfl ?_
          refine am_get f_X10_50 dX10_feed_116 rfl h1 rfl ?_
          exact am_ri dX10_feed_119 rfl rfl rfl ⟨rfl, x.tp F h1 h2, fun j hj => F j (by simp; omega)⟩
        · omega
      | succ q ih =>
        intro i H x7 hi F h1 h2
        have go : am_At l D dA m_X10_feed d 0 0 0 0 n0 none (am_qi fun x h' => x = (nI (c + 20), (fdM f c a1 a2 a3 a4 a5 20, c + 20, md, op, bl, co, cp, bi, ls)).1 ∧ MD h' (nI (c + 20), (fdM f c a1 a2 a3 a4 a5 20, c + 20, md, op, bl, co, cp, bi, ls)).2 ∧ ∀ j, j < 46 → h' j = h j) 0 0 71 [some (am_r 46), some (.inl a1), some (.inl a2), some (.inl a3), some (.inl a4), some (.inl a5), some (.inl (nI i)), x7] [.inl (fsl a1 a2 a3 a4 a5 i)] H := by
          skip
          refine am_istore dX10_feed_71 rfl rfl ?_
          refine am_aload_n dX10_feed_73 rfl rfl ?_
          refine am_get f_X10_7 dX10_feed_74 rfl h1 rfl ?_
          refine am_aload_n dX10_feed_77 rfl rfl ?_
          refine am_get f_X10_50 dX10_feed_78 rfl h1 rfl ?_
          refine am_iload dX10_feed_81 rfl rfl ?_
          refine am_bipush (v := nI 24) dX10_feed_83 rfl (by decide +kernel) ?_
          refine am_bipush (v := nI 8) dX10_feed_85 rfl (by decide +kernel) ?_
          refine am_iload dX10_feed_87 rfl rfl ?_
          refine am_iconst (v := nI 4) dX10_feed_89 rfl (by decide +kernel) ?_
          refine am_irem dX10_feed_90 rfl (by decide +kernel) ?_
          rw [pk_rem (by omega) (by omega) (by omega)]
          refine am_imul dX10_feed_91 rfl ?_
          rw [pk_mul]
          refine am_isub dX10_feed_92 rfl ?_
          rw [pk_sub (by omega)]
          refine am_ishr dX10_feed_93 rfl ?_
          refine am_sipush (v := nI 255) dX10_feed_94 rfl (by decide +kernel) ?_
          refine am_iand dX10_feed_97 rfl ?_
          refine am_iast dX10_feed_98 rfl h2 (by omega) (by omega) ?_
          refine am_aload_n dX10_feed_99 rfl rfl ?_
          refine am_dup dX10_feed_100 rfl ?_
          refine am_get f_X10_50 dX10_feed_101 rfl ((am_set_ne (by omega)).trans h1) rfl ?_
          refine am_iconst (v := nI 1) dX10_feed_104 rfl (by decide +kernel) ?_
          refine am_iadd dX10_feed_105 rfl ?_
          rw [nI_add]
          refine am_put f_X10_50 dX10_feed_106 rfl ((am_set_ne (by omega)).trans h1) (am_fit_i _) rfl ?_
          refine am_iinc (n := 1) dX10_feed_109 rfl rfl (nI_1 i) ?_
          refine am_goto 18 dX10_feed_112 rfl rfl ?_
          exact ih (i + 1) _ _ (by omega) ((F.set (by simp)).set (by simp)) am_set_eq ((am_set_ne (by omega)).trans am_set_eq)
        refine am_iload dX10_feed_18 rfl rfl ?_
        refine am_bipush (v := nI 20) dX10_feed_20 rfl (by decide +kernel) ?_
        refine am_ncmp_ge 115 dX10_feed_22 rfl rfl (by omega) (by omega) (fun hc => ?_) (fun hc => ?_)
        · omega
        · refine am_iload dX10_feed_25 rfl rfl ?_
          refine am_iconst (v := nI 4) dX10_feed_27 rfl (by decide +kernel) ?_
          refine am_ncmp_ge 35 dX10_feed_28 rfl rfl (by omega) (by omega) (fun c4 => ?_) (fun c4 => ?_)
          · refine am_iload dX10_feed_35 rfl rfl ?_
            refine am_bipush (v := nI 8) dX10_feed_37 rfl (by decide +kernel) ?_
            refine am_ncmp_ge 46 dX10_feed_39 rfl rfl (by omega) (by omega) (fun c8 => ?_) (fun c8 => ?_)
            · refine am_iload dX10_feed_46 rfl rfl ?_
              refine am_bipush (v := nI 12) dX10_feed_48 rfl (by decide +kernel) ?_
              refine am_ncmp_ge 57 dX10_feed_50 rfl rfl (by omega) (by omega) (fun c12 => ?_) (fun c12 => ?_)
              · refine am_iload dX10_feed_57 rfl rfl ?_
                refine am_bipush (v := nI 16) dX10_feed_59 rfl (by decide +kernel) ?_
                refine am_ncmp_ge 69 dX10_feed_61 rfl rfl (by omega) (by omega) (fun c16 => ?_) (fun c16 => ?_)
                · rw [show fsl a1 a2 a3 a4 a5 i = a5 from by unfold fsl; rw [if_neg (by omega), if_neg (by omega), if_neg (by omega), if_neg (by omega)]] at go
                  refine am_iload dX10_feed_69 rfl rfl ?_
                  exact go
                · rw [show fsl a1 a2 a3 a4 a5 i = a4 from by unfold fsl; rw [if_neg (by omega), if_neg (by omega), if_neg (by omega), if_pos (by omega)]] at go
                  refine am_iload dX10_feed_64 rfl rfl ?_
                  refine am_goto 71 dX10_feed_66 rfl rfl ?_
                  exact go
              · rw [show fsl a1 a2 a3 a4 a5 i = a3 from by unfold fsl; rw [if_neg (by omega), if_neg (by omega), if_pos (by omega)]] at go
                refine am_iload_n dX10_feed_53 rfl rfl ?_
                refine am_goto 71 dX10_feed_54 rfl rfl ?_
                exact go
            · rw [show fsl a1 a2 a3 a4 a5 i = a2 from by unfold fsl; rw [if_neg (by omega), if_pos (by omega)]] at go
              refine am_iload_n dX10_feed_42 rfl rfl ?_
              refine am_goto 71 dX10_feed_43 rfl rfl ?_
              exact go
          · rw [show fsl a1 a2 a3 a4 a5 i = a1 from by unfold fsl; rw [if_pos (by omega)]] at go
            refine am_iload_n dX10_feed_31 rfl rfl ?_
            refine am_goto 71 dX10_feed_32 rfl rfl ?_
            exact go
    exact loop 20 0 h _ (by omega) am_fr.rf hm hf
  · have e : oFeed a1 a2 a3 a4 a5 (f, c, md, op, bl, co, cp, bi, ls) = (-1, (f, c, md, op, bl, co, cp, bi, ls)) := by
      unfold oFeed
      rw [if_neg (by exact Nat.not_le.mpr hc)]
    refine am_iconst (v := -1) dX10_feed_13 rfl (by decide +kernel) ?_
    exact am_ri dX10_feed_14 rfl rfl rfl ⟨by rw [e], by rw [e]; exact x, fun j hj => rfl⟩
set_option maxHeartbeats 4000000 in
set_option maxRecDepth 100000 in
theorem t_X10_fill (d n0 : Nat) {h : am_H} {f : Nat → Int32} {c : Nat} {md : List Int32} {op : Bool} {bl co cp bi : Nat} {ls : l3} (x : MD h (f, c, md, op, bl, co, cp, bi, ls)) (ok : OK (f, c, md, op, bl, co, cp, bi, ls)) (v n : Int32) : am_Ct l D dA m_X10_fill d 0 0 n0 [am_r 46, .inl v, .inl n] h (am_qi fun x h' => x = (oFill v n (f, c, md, op, bl, co, cp, bi, ls)).1 ∧ MD h' (oFill v n (f, c, md, op, bl, co, cp, bi, ls)).2 ∧ ∀ j, j < 46 → h' j = h j) := by
  refine am_Ci (by decide +kernel) rfl rfl ?_
  have hc4 : c ≤ 4000 := ok.1
  obtain ⟨⟨en, fa, tc, hm⟩, hf, hw, ⟨gl, h49, hls⟩, -⟩ := id x
  have hf : h 47 = some (.inl (false, 4000, f)) := hf
  have hm : h 46 = some (mO c md.length op bl co cp bi en fa tc) := hm
  refine am_iload_n dX10_fill_0 rfl rfl ?_
  refine am_if_lt 27 dX10_fill_1 rfl rfl (fun hc => ?_) (fun hc => ?_)
  · skip
    have e : oFill v n (f, c, md, op, bl, co, cp, bi, ls) = (-1, (f, c, md, op, bl, co, cp, bi, ls)) := by
      unfold oFill
      rw [ix_neg hc]; cases ix v 256 <;> rfl
    refine am_iconst (v := -1) dX10_fill_27 rfl (by decide +kernel) ?_
    exact am_ri dX10_fill_28 rfl rfl rfl ⟨by rw [e], by rw [e]; exact x, fun j hj => rfl⟩
  · refine am_iload_n dX10_fill_4 rfl rfl ?_
    refine am_sipush (v := nI 4000) dX10_fill_5 rfl (by decide +kernel) ?_
    refine am_aload_n dX10_fill_8 rfl rfl ?_
    refine am_get f_X10_50 dX10_fill_9 rfl hm rfl ?_
    refine am_isub dX10_fill_12 rfl ?_
    rw [pk_sub hc4]
    refine am_icmp_gt 27 dX10_fill_13 rfl rfl (fun hr => ?_) (fun hr => ?_)
    · skip
      have e : oFill v n (f, c, md, op, bl, co, cp, bi, ls) = (-1, (f, c, md, op, bl, co, cp, bi, ls)) := by
        unfold oFill
        rw [ix_gt (c := 4000 - c) hr (by omega)]; cases ix v 256 <;> rfl
      refine am_iconst (v := -1) dX10_fill_27 rfl (by decide +kernel) ?_
      exact am_ri dX10_fill_28 rfl rfl rfl ⟨by rw [e], by rw [e]; exact x, fun j hj => rfl⟩
    · refine am_iload_n dX10_fill_16 rfl rfl ?_
      refine am_if_lt 27 dX10_fill_17 rfl rfl (fun hv => ?_) (fun hv => ?_)
      · skip
        have e : oFill v n (f, c, md, op, bl, co, cp, bi, ls) = (-1, (f, c, md, op, bl, co, cp, bi, ls)) := by
          unfold oFill
          rw [ix_neg hv]
        refine am_iconst (v := -1) dX10_fill_27 rfl (by decide +kernel) ?_
        exact am_ri dX10_fill_28 rfl rfl rfl ⟨by rw [e], by rw [e]; exact x, fun j hj => rfl⟩
      · refine am_iload_n dX10_fill_20 rfl rfl ?_
        refine am_sipush (v := nI 255) dX10_fill_21 rfl (by decide +kernel) ?_
        refine am_icmp_le 29 dX10_fill_24 rfl rfl (fun hv2 => ?_) (fun hv2 => ?_)
        · obtain ⟨b, hb, rfl, eb⟩ := ix_le (c := 255) hv (Int32.not_lt.mpr hv2) (by omega)
          obtain ⟨m, hm2, rfl, em⟩ := ix_le (c := 4000 - c) hc hr (by omega)
          have e : oFill (nI b) (nI m) (f, c, md, op, bl, co, cp, bi, ls) = (nI (c + m), (filF f c (nI b) m, c + m, md, op, bl, co, cp, bi, ls)) := by
            unfold oFill
            rw [eb, em]
          rw [e]
          refine am_iconst (v := nI 0) dX10_fill_29 rfl (by decide +kernel) ?_
          refine am_istore_n dX10_fill_30 rfl rfl ?_
          have loop : ∀ (q i : Nat) (H : am_H), i + q = m → am_fr h H [46, 47] → H 46 = some (mO (c + i) md.length op bl co cp bi en fa tc) → H 47 = some (.inl (false, 4000, filF f c (nI b) i)) → am_At l D dA m_X10_fill d 0 0 0 0 n0 none (am_qi fun x h' => x = (nI (c + m), (filF f c (nI b) m, c + m, md, op, bl, co, cp, bi, ls)).1 ∧ MD h' (nI (c + m), (filF f c (nI b) m, c + m, md, op, bl, co, cp, bi, ls)).2 ∧ ∀ j, j < 46 → h' j = h j) 0 0 31 [some (am_r 46), some (.inl (nI b)), some (.inl (nI m)), some (.inl (nI i))] [] H := by
            intro q
            induction q with
            | zero =>
              intro i H hi F h1 h2
              obtain rfl : i = m := by omega
              refine am_iload_n dX10_fill_31 rfl rfl ?_
              refine am_iload_n dX10_fill_32 rfl rfl ?_
              refine am_ncmp_ge 62 dX10_fill_33 rfl rfl (by omega) (by omega) (fun hc => ?_) (fun hc => ?_)
              · refine am_aload_n dX10_fill_62 rfl rfl ?_
                refine am_get f_X10_50 dX10_fill_63 rfl h1 rfl ?_
                exact am_ri dX10_fill_66 rfl rfl rfl ⟨rfl, x.tp F h1 h2, fun j hj => F j (by simp; omega)⟩
              · omega
            | succ q ih =>
              intro i H hi F h1 h2
              refine am_iload_n dX10_fill_31 rfl rfl ?_
              refine am_iload_n dX10_fill_32 rfl rfl ?_
              refine am_ncmp_ge 62 dX10_fill_33 rfl rfl (by omega) (by omega) (fun hc => ?_) (fun hc => ?_)
              · omega
              · refine am_aload_n dX10_fill_36 rfl rfl ?_
                refine am_get f_X10_7 dX10_fill_37 rfl h1 rfl ?_
                refine am_aload_n dX10_fill_40 rfl rfl ?_
                refine am_get f_X10_50 dX10_fill_41 rfl h1 rfl ?_
                refine am_iload_n dX10_fill_44 rfl rfl ?_
                refine am_iast dX10_fill_45 rfl h2 (by omega) (by omega) ?_
                refine am_aload_n dX10_fill_46 rfl rfl ?_
                refine am_dup dX10_fill_47 rfl ?_
                refine am_get f_X10_50 dX10_fill_48 rfl ((am_set_ne (by omega)).trans h1) rfl ?_
                refine am_iconst (v := nI 1) dX10_fill_51 rfl (by decide +kernel) ?_
                refine am_iadd dX10_fill_52 rfl ?_
                rw [nI_add]
                refine am_put f_X10_50 dX10_fill_53 rfl ((am_set_ne (by omega)).trans h1) (am_fit_i _) rfl ?_
                refine am_iinc (n := 1) dX10_fill_56 rfl rfl (nI_1 i) ?_
                refine am_goto 31 dX10_fill_59 rfl rfl ?_
                exact ih (i + 1) _ (by omega) ((F.set (by simp)).set (by simp)) am_set_eq ((am_set_ne (by omega)).trans am_set_eq)
          exact loop m 0 h (by omega) am_fr.rf hm hf
        · skip
          have e : oFill v n (f, c, md, op, bl, co, cp, bi, ls) = (-1, (f, c, md, op, bl, co, cp, bi, ls)) := by
            unfold oFill
            rw [ix_gt (c := 255) (Int32.not_le.mp hv2) (by omega)]
          refine am_iconst (v := -1) dX10_fill_27 rfl (by decide +kernel) ?_
          exact am_ri dX10_fill_28 rfl rfl rfl ⟨by rw [e], by rw [e]; exact x, fun j hj => rfl⟩
set_option maxHeartbeats 4000000 in
set_option maxRecDepth 100000 in
theorem t_X10_peek (d n0 : Nat) {h : am_H} {f : Nat → Int32} {c : Nat} {md : List Int32} {op : Bool} {bl co cp bi : Nat} {ls : l3} (x : MD h (f, c, md, op, bl, co, cp, bi, ls)) (ok : OK (f, c, md, op, bl, co, cp, bi, ls)) (i : Int32) : am_Ct l D dA m_X10_peek d 0 0 n0 [am_r 46, .inl i] h (am_qi fun x h' => x = oPeek i (f, c, md, op, bl, co, cp, bi, ls) ∧ h' = h) := by
  refine am_Ci (by decide +kernel) rfl rfl ?_
  have hc4 : c ≤ 4000 := ok.1
  obtain ⟨⟨en, fa, tc, hm⟩, hf, hw, ⟨gl, h49, hls⟩, -⟩ := id x
  have hf : h 47 = some (.inl (false, 4000, f)) := hf
  have hm : h 46 = some (mO c md.length op bl co cp bi en fa tc) := hm
  refine am_iload_n dX10_peek_0 rfl rfl ?_
  refine am_if_lt 12 dX10_peek_1 rfl rfl (fun hc => ?_) (fun hc => ?_)
  · refine am_iconst (v := -1) dX10_peek_12 rfl (by decide +kernel) ?_
    refine am_goto 22 dX10_peek_13 rfl rfl ?_
    exact am_ri dX10_peek_22 rfl rfl rfl ⟨by unfold oPeek; rw [ix_neg hc], rfl⟩
  · refine am_iload_n dX10_peek_4 rfl rfl ?_
    refine am_aload_n dX10_peek_5 rfl rfl ?_
    refine am_get f_X10_50 dX10_peek_6 rfl hm rfl ?_
    refine am_icmp_lt 16 dX10_peek_9 rfl rfl (fun h2 => ?_) (fun h2 => ?_)
    · obtain ⟨j, hj, rfl⟩ := ix_of hc (Int32.not_le.mpr h2) (by omega)
      refine am_aload_n dX10_peek_16 rfl rfl ?_
      refine am_get f_X10_7 dX10_peek_17 rfl hm rfl ?_
      refine am_iload_n dX10_peek_20 rfl rfl ?_
      refine am_iald dX10_peek_21 rfl hf (by omega) (by omega) ?_
      exact am_ri dX10_peek_22 rfl rfl rfl ⟨by unfold oPeek; rw [show ix (nI j) c = some j from ix_in hj (by omega)], rfl⟩
    · refine am_iconst (v := -1) dX10_peek_12 rfl (by decide +kernel) ?_
      refine am_goto 22 dX10_peek_13 rfl rfl ?_
      exact am_ri dX10_peek_22 rfl rfl rfl ⟨by unfold oPeek; rw [show ix i c = none from ix_big (Int32.not_lt.mp h2) (by omega)], rfl⟩
set_option maxHeartbeats 4000000 in
set_option maxRecDepth 100000 in
theorem t_X10_poke (d n0 : Nat) {h : am_H} {f : Nat → Int32} {c : Nat} {md : List Int32} {op : Bool} {bl co cp bi : Nat} {ls : l3} (x : MD h (f, c, md, op, bl, co, cp, bi, ls)) (ok : OK (f, c, md, op, bl, co, cp, bi, ls)) (i v : Int32) : am_Ct l D dA m_X10_poke d 0 0 n0 [am_r 46, .inl i, .inl v] h (am_qi fun x h' => x = am_bz (oPoke i v (f, c, md, op, bl, co, cp, bi, ls)).1 ∧ MD h' (oPoke i v (f, c, md, op, bl, co, cp, bi, ls)).2 ∧ ∀ j, j < 46 → h' j = h j) := by
  refine am_Cz (by decide +kernel) rfl (fun x h' hx => by rw [hx.1]; exact am_bz_01 _) rfl ?_
  have hc4 : c ≤ 4000 := ok.1
  obtain ⟨⟨en, fa, tc, hm⟩, hf, hw, ⟨gl, h49, hls⟩, -⟩ := id x
  have hf : h 47 = some (.inl (false, 4000, f)) := hf
  have hm : h 46 = some (mO c md.length op bl co cp bi en fa tc) := hm
  refine am_iload_n dX10_poke_0 rfl rfl ?_
  refine am_if_lt 23 dX10_poke_1 rfl rfl (fun hc => ?_) (fun hc => ?_)
  · skip
    have e : oPoke i v (f, c, md, op, bl, co, cp, bi, ls) = (false, (f, c, md, op, bl, co, cp, bi, ls)) := by
      unfold oPoke
      rw [ix_neg hc]
    refine am_iconst (v := nI 0) dX10_poke_23 rfl (by decide +kernel) ?_
    exact am_ri dX10_poke_24 rfl rfl rfl ⟨by rw [e]; rfl, by rw [e]; exact x, fun j hj => rfl⟩
  · refine am_iload_n dX10_poke_4 rfl rfl ?_
    refine am_aload_n dX10_poke_5 rfl rfl ?_
    refine am_get f_X10_50 dX10_poke_6 rfl hm rfl ?_
    refine am_icmp_ge 23 dX10_poke_9 rfl rfl (fun hr => ?_) (fun hr => ?_)
    · skip
      have e : oPoke i v (f, c, md, op, bl, co, cp, bi, ls) = (false, (f, c, md, op, bl, co, cp, bi, ls)) := by
        unfold oPoke
        rw [show ix i c = none from ix_big hr (by omega)]
      refine am_iconst (v := nI 0) dX10_poke_23 rfl (by decide +kernel) ?_
      exact am_ri dX10_poke_24 rfl rfl rfl ⟨by rw [e]; rfl, by rw [e]; exact x, fun j hj => rfl⟩
    · refine am_iload_n dX10_poke_12 rfl rfl ?_
      refine am_if_lt 23 dX10_poke_13 rfl rfl (fun hv => ?_) (fun hv => ?_)
      · skip
        have e : oPoke i v (f, c, md, op, bl, co, cp, bi, ls) = (false, (f, c, md, op, bl, co, cp, bi, ls)) := by
          unfold oPoke
          rw [ix_neg hv]; cases ix i c <;> rfl
        refine am_iconst (v := nI 0) dX10_poke_23 rfl (by decide +kernel) ?_
        exact am_ri dX10_poke_24 rfl rfl rfl ⟨by rw [e]; rfl, by rw [e]; exact x, fun j hj => rfl⟩
      · refine am_iload_n dX10_poke_16 rfl rfl ?_
        refine am_sipush (v := nI 255) dX10_poke_17 rfl (by decide +kernel) ?_
        refine am_icmp_le 25 dX10_poke_20 rfl rfl (fun hv2 => ?_) (fun hv2 => ?_)
        · obtain ⟨b, hb, rfl, eb⟩ := ix_le (c := 255) hv (Int32.not_lt.mpr hv2) (by omega)
          obtain ⟨j, hj, rfl⟩ := ix_of hc hr (by omega)
          have e : oPoke (nI j) (nI b) (f, c, md, op, bl, co, cp, bi, ls) = (true, (upd f j (nI b), c, md, op, bl, co, cp, bi, ls)) := by
            unfold oPoke
            rw [eb]
            have ej : ix (nI j) c = some j := ix_in hj (by omega)
            simp only [ej]
          rw [e]
          refine am_aload_n dX10_poke_25 rfl rfl ?_
          refine am_get f_X10_7 dX10_poke_26 rfl hm rfl ?_
          refine am_iload_n dX10_poke_29 rfl rfl ?_
          refine am_iload_n dX10_poke_30 rfl rfl ?_
          refine am_iast dX10_poke_31 rfl hf (by omega) (by omega) ?_
          refine am_iconst (v := nI 1) dX10_poke_32 rfl (by decide +kernel) ?_
          exact am_ri dX10_poke_33 rfl rfl rfl ⟨rfl, x.tp (am_fr.rf.set (by simp)) ((am_set_ne (by omega)).trans hm) am_set_eq, fun j hj => am_set_ne (by omega)⟩
        · skip
          have e : oPoke i v (f, c, md, op, bl, co, cp, bi, ls) = (false, (f, c, md, op, bl, co, cp, bi, ls)) := by
            unfold oPoke
            rw [ix_gt (c := 255) (Int32.not_le.mp hv2) (by omega)]; cases ix i c <;> rfl
          refine am_iconst (v := nI 0) dX10_poke_23 rfl (by decide +kernel) ?_
          exact am_ri dX10_poke_24 rfl rfl rfl ⟨by rw [e]; rfl, by rw [e]; exact x, fun j hj => rfl⟩
set_option maxHeartbeats 4000000 in
set_option maxRecDepth 100000 in
theorem t_X10_clear (d n0 : Nat) {h : am_H} {f : Nat → Int32} {c : Nat} {md : List Int32} {op : Bool} {bl co cp bi : Nat} {ls : l3} (x : MD h (f, c, md, op, bl, co, cp, bi, ls)) (ok : OK (f, c, md, op, bl, co, cp, bi, ls)) : am_Ct l D dA m_X10_clear d 0 0 n0 [am_r 46] h (am_qv fun h' => MD h' (oClear (f, c, md, op, bl, co, cp, bi, ls)) ∧ ∀ j, j < 46 → h' j = h j) := by
  refine am_Cv (by decide +kernel) rfl rfl ?_
  have hc4 : c ≤ 4000 := ok.1
  obtain ⟨⟨en, fa, tc, hm⟩, hf, hw, ⟨gl, h49, hls⟩, -⟩ := id x
  have hf : h 47 = some (.inl (false, 4000, f)) := hf
  have hm : h 46 = some (mO c md.length op bl co cp bi en fa tc) := hm
  refine am_aload_n dX10_clear_0 rfl rfl ?_
  refine am_iconst (v := nI 0) dX10_clear_1 rfl (by decide +kernel) ?_
  refine am_put f_X10_50 dX10_clear_2 rfl hm (am_fit_i _) rfl ?_
  exact am_rv dX10_clear_5 rfl rfl rfl ⟨x.tp (am_fr.rf.set (by simp)) am_set_eq ((am_set_ne (by omega)).trans hf), fun j hj => am_set_ne (by omega)⟩
set_option maxHeartbeats 4000000 in
set_option maxRecDepth 100000 in
theorem t_X10_back (d n0 : Nat) {h : am_H} {f : Nat → Int32} {c : Nat} {md : List Int32} {op : Bool} {bl co cp bi : Nat} {ls : l3} (x : MD h (f, c, md, op, bl, co, cp, bi, ls)) (ok : OK (f, c, md, op, bl, co, cp, bi, ls)) : am_Ct l D dA m_X10_back d 0 0 n0 [am_r 46] h (am_qi fun x h' => x = (oBack (f, c, md, op, bl, co, cp, bi, ls)).1 ∧ MD h' (oBack (f, c, md, op, bl, co, cp, bi, ls)).2 ∧ ∀ j, j < 46 → h' j = h j) := by
  refine am_Ci (by decide +kernel) rfl rfl ?_
  have hc4 : c ≤ 4000 := ok.1
  obtain ⟨⟨en, fa, tc, hm⟩, hf, hw, ⟨gl, h49, hls⟩, -⟩ := id x
  have hf : h 47 = some (.inl (false, 4000, f)) := hf
  have hm : h 46 = some (mO c md.length op bl co cp bi en fa tc) := hm
  have hml : md.length ≤ 12000 := ok.2.2.1
  obtain ⟨g, hg, hgb⟩ := hw
  refine am_aload_n dX10_back_0 rfl rfl ?_
  refine am_get f_X10_54 dX10_back_1 rfl hm rfl ?_
  refine am_sipush (v := nI 4000) dX10_back_4 rfl (by decide +kernel) ?_
  refine am_ncmp_le 12 dX10_back_7 rfl rfl (by omega) (by omega) (fun hc => ?_) (fun hc => ?_)
  · have e : oBack (f, c, md, op, bl, co, cp, bi, ls) = (nI md.length, (bckF f md, md.length, md, op, bl, co, cp, bi, ls)) := by
      unfold oBack
      rw [if_pos (by exact hc)]
    rw [e]
    refine am_iconst (v := nI 0) dX10_back_12 rfl (by decide +kernel) ?_
    refine am_istore_n dX10_back_13 rfl rfl ?_
    have loop : ∀ (q i : Nat) (H : am_H) (f' : Nat → Int32), i + q = md.length → am_fr h H [47] → H 47 = some (.inl (false, 4000, f')) → (∀ j, f' j = if j < i then md.getD j 0 else f j) → am_At l D dA m_X10_back d 0 0 0 0 n0 none (am_qi fun x h' => x = (nI md.length, (bckF f md, md.length, md, op, bl, co, cp, bi, ls)).1 ∧ MD h' (nI md.length, (bckF f md, md.length, md, op, bl, co, cp, bi, ls)).2 ∧ ∀ j, j < 46 → h' j = h j) 0 0 14 [some (am_r 46), some (.inl (nI i))] [] H := by
      intro q
      induction q with
      | zero =>
        intro i H f' hi F h2 h3
        rw [Nat.add_zero] at hi
        have h1 := (F 46 (by simp)).trans hm
        refine am_iload_n dX10_back_14 rfl rfl ?_
        refine am_aload_n dX10_back_15 rfl rfl ?_
        refine am_get f_X10_54 dX10_back_16 rfl h1 rfl ?_
        refine am_ncmp_ge 40 dX10_back_19 rfl rfl (by omega) (by omega) (fun hc => ?_) (fun hc => ?_)
        · refine am_aload_n dX10_back_40 rfl rfl ?_
          refine am_aload_n dX10_back_41 rfl rfl ?_
          refine am_get f_X10_54 dX10_back_42 rfl h1 rfl ?_
          refine am_put f_X10_50 dX10_back_45 rfl h1 (am_fit_i _) rfl ?_
          refine am_aload_n dX10_back_48 rfl rfl ?_
          refine am_get f_X10_50 dX10_back_49 rfl am_set_eq rfl ?_
          exact am_ri dX10_back_52 rfl rfl rfl ⟨rfl, x.tp ((F.mono (by simp)).set (by simp)) am_set_eq ((am_set_ne (by omega)).trans (h2.trans (congrArg (fun z => some (Sum.inl (false, 4000, z))) (funext fun j => by rw [h3 j, hi]; rfl)))), fun j hj => (am_set_ne (by omega)).trans (F j (by simp; omega))⟩
        · omega
      | succ q ih =>
        intro i H f' hi F h2 h3
        have h1 := (F 46 (by simp)).trans hm
        have h5 := (F 48 (by simp)).trans hg
        refine am_iload_n dX10_back_14 rfl rfl ?_
        refine am_aload_n dX10_back_15 rfl rfl ?_
        refine am_get f_X10_54 dX10_back_16 rfl h1 rfl ?_
        refine am_ncmp_ge 40 dX10_back_19 rfl rfl (by omega) (by omega) (fun hc => ?_) (fun hc => ?_)
        · omega
        · refine am_aload_n dX10_back_22 rfl rfl ?_
          refine am_get f_X10_7 dX10_back_23 rfl h1 rfl ?_
          refine am_iload_n dX10_back_26 rfl rfl ?_
          refine am_aload_n dX10_back_27 rfl rfl ?_
          refine am_get f_X10_13 dX10_back_28 rfl h1 rfl ?_
          refine am_iload_n dX10_back_31 rfl rfl ?_
          refine am_iald dX10_back_32 rfl h5 (by omega) (by omega) ?_
          refine am_iast dX10_back_33 rfl h2 (by omega) (by omega) ?_
          refine am_iinc (n := 1) dX10_back_34 rfl rfl (nI_1 i) ?_
          refine am_goto 14 dX10_back_37 rfl rfl ?_
          refine ih (i + 1) _ _ (by omega) (F.set (by simp)) am_set_eq (fun j => ?_)
          by_cases z : j = i
          · subst z
            have hlt : j < md.length := by omega
            rw [upd_eq, if_pos (by omega), List.getD_eq_getElem?_getD, List.getElem?_eq_getElem hlt]
            exact hgb j _ (List.getElem?_eq_getElem hlt)
          · rw [upd_ne z, h3 j]
            by_cases z2 : j < i
            · rw [if_pos z2, if_pos (by omega)]
            · rw [if_neg z2, if_neg (by omega)]
    exact loop md.length 0 h f (by omega) am_fr.rf hf (fun j => by rw [if_neg (by omega)])
  · have e : oBack (f, c, md, op, bl, co, cp, bi, ls) = (-1, (f, c, md, op, bl, co, cp, bi, ls)) := by
      unfold oBack
      rw [if_neg (by exact Nat.not_le.mpr hc)]
    refine am_iconst (v := -1) dX10_back_10 rfl (by decide +kernel) ?_
    exact am_ri dX10_back_11 rfl rfl rfl ⟨by rw [e], by rw [e]; exact x, fun j hj => rfl⟩
set_option maxHeartbeats 4000000 in
set_option maxRecDepth 100000 in
theorem t_X10_made (d n0 : Nat) {h : am_H} {f : Nat → Int32} {c : Nat} {md : List Int32} {op : Bool} {bl co cp bi : Nat} {ls : l3} (x : MD h (f, c, md, op, bl, co, cp, bi, ls)) (ok : OK (f, c, md, op, bl, co, cp, bi, ls)) : am_Ct l D dA m_X10_made d 0 0 n0 [am_r 46] h (am_qi fun x h' => x = nI md.length ∧ h' = h) := by
  refine am_Ci (by decide +kernel) rfl rfl ?_
  have hc4 : c ≤ 4000 := ok.1
  obtain ⟨⟨en, fa, tc, hm⟩, hf, hw, ⟨gl, h49, hls⟩, -⟩ := id x
  have hf : h 47 = some (.inl (false, 4000, f)) := hf
  have hm : h 46 = some (mO c md.length op bl co cp bi en fa tc) := hm
  refine am_aload_n dX10_made_0 rfl rfl ?_
  refine am_get f_X10_54 dX10_made_1 rfl hm rfl ?_
  exact am_ri dX10_made_4 rfl rfl rfl ⟨rfl, rfl⟩
set_option maxHeartbeats 4000000 in
set_option maxRecDepth 100000 in
theorem t_X10_out (d n0 : Nat) {h : am_H} {f : Nat → Int32} {c : Nat} {md : List Int32} {op : Bool} {bl co cp bi : Nat} {ls : l3} (x : MD h (f, c, md, op, bl, co, cp, bi, ls)) (ok : OK (f, c, md, op, bl, co, cp, bi, ls)) (i : Int32) : am_Ct l D dA m_X10_out d 0 0 n0 [am_r 46, .inl i] h (am_qi fun x h' => x = oOut i (f, c, md, op, bl, co, cp, bi, ls) ∧ h' = h) := by
  refine am_Ci (by decide +kernel) rfl rfl ?_
  have hc4 : c ≤ 4000 := ok.1
  obtain ⟨⟨en, fa, tc, hm⟩, hf, hw, ⟨gl, h49, hls⟩, -⟩ := id x
  have hf : h 47 = some (.inl (false, 4000, f)) := hf
  have hm : h 46 = some (mO c md.length op bl co cp bi en fa tc) := hm
  have hml : md.length ≤ 12000 := ok.2.2.1
  obtain ⟨g, hg, hgb⟩ := hw
  refine am_iload_n dX10_out_0 rfl rfl ?_
  refine am_if_lt 12 dX10_out_1 rfl rfl (fun hc => ?_) (fun hc => ?_)
  · refine am_iconst (v := -1) dX10_out_12 rfl (by decide +kernel) ?_
    refine am_goto 22 dX10_out_13 rfl rfl ?_
    exact am_ri dX10_out_22 rfl rfl rfl ⟨by unfold oOut; rw [ix_neg hc], rfl⟩
  · refine am_iload_n dX10_out_4 rfl rfl ?_
    refine am_aload_n dX10_out_5 rfl rfl ?_
    refine am_get f_X10_54 dX10_out_6 rfl hm rfl ?_
    refine am_icmp_lt 16 dX10_out_9 rfl rfl (fun h2 => ?_) (fun h2 => ?_)
    · obtain ⟨j, hj, rfl⟩ := ix_of hc (Int32.not_le.mpr h2) (by omega)
      refine am_aload_n dX10_out_16 rfl rfl ?_
      refine am_get f_X10_13 dX10_out_17 rfl hm rfl ?_
      refine am_iload_n dX10_out_20 rfl rfl ?_
      refine am_iald dX10_out_21 rfl hg (by omega) (by omega) ?_
      have hgj : g j = md.getD j 0 := by rw [List.getD_eq_getElem?_getD, List.getElem?_eq_getElem hj]; exact hgb j _ (List.getElem?_eq_getElem hj)
      rw [hgj]
      exact am_ri dX10_out_22 rfl rfl rfl ⟨by unfold oOut; rw [show ix (nI j) md.length = some j from ix_in hj (by omega)], rfl⟩
    · refine am_iconst (v := -1) dX10_out_12 rfl (by decide +kernel) ?_
      refine am_goto 22 dX10_out_13 rfl rfl ?_
      exact am_ri dX10_out_22 rfl rfl rfl ⟨by unfold oOut; rw [show ix i md.length = none from ix_big (Int32.not_lt.mp h2) (by omega)], rfl⟩
set_option maxHeartbeats 4000000 in
set_option maxRecDepth 100000 in
theorem t_X10_told (d n0 : Nat) {h : am_H} {f : Nat → Int32} {c : Nat} {md : List Int32} {op : Bool} {bl co cp bi : Nat} {ls : l3} (x : MD h (f, c, md, op, bl, co, cp, bi, ls)) (ok : OK (f, c, md, op, bl, co, cp, bi, ls)) (i : Int32) : am_Ct l D dA m_X10_told d 0 0 n0 [am_r 46, .inl i] h (am_qi fun x h' => x = oTold i (f, c, md, op, bl, co, cp, bi, ls) ∧ h' = h) := by
  refine am_Ci (by decide +kernel) rfl rfl ?_
  have hc4 : c ≤ 4000 := ok.1
  obtain ⟨⟨en, fa, tc, hm⟩, hf, hw, ⟨gl, h49, hls⟩, -⟩ := id x
  have hf : h 47 = some (.inl (false, 4000, f)) := hf
  have hm : h 46 = some (mO c md.length op bl co cp bi en fa tc) := hm
  refine am_aload_n dX10_told_0 rfl rfl ?_
  refine am_get f_X10_57 dX10_told_1 rfl hm rfl ?_
  refine am_bif_ne 11 dX10_told_4 rfl rfl (fun ho => ?_) (fun ho => ?_)
  · subst ho
    refine am_iload_n dX10_told_11 rfl rfl ?_
    refine am_if_ne 22 dX10_told_12 rfl rfl (fun h0 => ?_) (fun h0 => ?_)
    · refine am_iload_n dX10_told_22 rfl rfl ?_
      refine am_iconst (v := nI 1) dX10_told_23 rfl (by decide +kernel) ?_
      refine am_icmp_ne 34 dX10_told_24 rfl rfl (fun h1 => ?_) (fun h1 => ?_)
      · refine am_iload_n dX10_told_34 rfl rfl ?_
        refine am_iconst (v := nI 2) dX10_told_35 rfl (by decide +kernel) ?_
        refine am_icmp_ne 46 dX10_told_36 rfl rfl (fun h2 => ?_) (fun h2 => ?_)
        · refine am_iload_n dX10_told_46 rfl rfl ?_
          refine am_iconst (v := nI 3) dX10_told_47 rfl (by decide +kernel) ?_
          refine am_icmp_ne 58 dX10_told_48 rfl rfl (fun h3 => ?_) (fun h3 => ?_)
          · have hn : ix i 4 = none := by
              cases e : ix i 4 with
              | none => rfl
              | some k =>
                exfalso
                obtain ⟨hk, rfl⟩ := ix_some e
                obtain rfl | rfl | rfl | rfl : k = 0 ∨ k = 1 ∨ k = 2 ∨ k = 3 := by omega
                · exact h0 (by decide +kernel)
                · exact h1 rfl
                · exact h2 rfl
                · exact h3 rfl
            refine am_iconst (v := -1) dX10_told_58 rfl (by decide +kernel) ?_
            exact am_ri dX10_told_59 rfl rfl rfl ⟨by unfold oTold tld; rw [hn]; rfl, rfl⟩
          · subst h3
            refine am_aload_n dX10_told_51 rfl rfl ?_
            refine am_get f_X10_70 dX10_told_52 rfl hm rfl ?_
            refine am_goto 59 dX10_told_55 rfl rfl ?_
            exact am_ri dX10_told_59 rfl rfl rfl ⟨by unfold oTold tld; rw [ix_in (k := 3) (c := 4) (by omega) (by omega)]; rfl, rfl⟩
        · subst h2
          refine am_aload_n dX10_told_39 rfl rfl ?_
          refine am_get f_X10_67 dX10_told_40 rfl hm rfl ?_
          refine am_goto 59 dX10_told_43 rfl rfl ?_
          exact am_ri dX10_told_59 rfl rfl rfl ⟨by unfold oTold tld; rw [ix_in (k := 2) (c := 4) (by omega) (by omega)]; rfl, rfl⟩
      · subst h1
        refine am_aload_n dX10_told_27 rfl rfl ?_
        refine am_get f_X10_64 dX10_told_28 rfl hm rfl ?_
        refine am_goto 59 dX10_told_31 rfl rfl ?_
        exact am_ri dX10_told_59 rfl rfl rfl ⟨by unfold oTold tld; rw [ix_in (k := 1) (c := 4) (by omega) (by omega)]; rfl, rfl⟩
    · have h0 : i = nI 0 := h0.trans nI_0.symm
      subst h0
      refine am_aload_n dX10_told_15 rfl rfl ?_
      refine am_get f_X10_61 dX10_told_16 rfl hm rfl ?_
      refine am_goto 59 dX10_told_19 rfl rfl ?_
      exact am_ri dX10_told_59 rfl rfl rfl ⟨by unfold oTold tld; rw [ix_in (k := 0) (c := 4) (by omega) (by omega)]; rfl, rfl⟩
  · subst ho
    refine am_iconst (v := -1) dX10_told_7 rfl (by decide +kernel) ?_
    refine am_goto 59 dX10_told_8 rfl rfl ?_
    exact am_ri dX10_told_59 rfl rfl rfl ⟨by unfold oTold tld; rfl, rfl⟩
set_option maxHeartbeats 4000000 in
set_option maxRecDepth 100000 in
theorem t_X10_length (d n0 : Nat) {h : am_H} {f : Nat → Int32} {c : Nat} {md : List Int32} {op : Bool} {bl co cp bi : Nat} {ls : l3} (x : MD h (f, c, md, op, bl, co, cp, bi, ls)) (ok : OK (f, c, md, op, bl, co, cp, bi, ls)) (t s : Int32) (hd : 1 ≤ d) : am_Ct l D dA m_X10_length d 0 0 n0 [am_r 46, .inl t, .inl s] h (am_qi fun x h' => x = oLen t s (f, c, md, op, bl, co, cp, bi, ls) ∧ h' = h) := by
  refine am_Ci (by decide +kernel) rfl rfl ?_
  have hc4 : c ≤ 4000 := ok.1
  obtain ⟨⟨en, fa, tc, hm⟩, hf, hw, ⟨gl, h49, hls⟩, -⟩ := id x
  have hf : h 47 = some (.inl (false, 4000, f)) := hf
  have hm : h 46 = some (mO c md.length op bl co cp bi en fa tc) := hm
  have hbl : bl ≤ 8000 := ok.2.2.2.2
  refine am_aload_n dX10_length_0 rfl rfl ?_
  refine am_get f_X10_61 dX10_length_1 rfl hm rfl ?_
  refine am_nif_eq 28 dX10_length_4 rfl rfl (by omega) (fun h0 => ?_) (fun h0 => ?_)
  · skip
    have e : oLen t s (f, c, md, op, bl, co, cp, bi, ls) = -1 := by
      unfold oLen
      rw [if_pos (by exact h0)]
    refine am_iconst (v := -1) dX10_length_28 rfl (by decide +kernel) ?_
    refine am_goto 44 dX10_length_29 rfl rfl ?_
    exact am_ri dX10_length_44 rfl rfl rfl ⟨e.symm, rfl⟩
  · have hb0 : ¬ bl = 0 := by omega
    obtain ⟨l1, l2, l3⟩ := hls h0
    refine am_iload_n dX10_length_7 rfl rfl ?_
    refine am_if_lt 28 dX10_length_8 rfl rfl (fun ht => ?_) (fun ht => ?_)
    · skip
      have e : oLen t s (f, c, md, op, bl, co, cp, bi, ls) = -1 := by
        unfold oLen
        rw [if_neg (by exact hb0), ix_neg ht]
      refine am_iconst (v := -1) dX10_length_28 rfl (by decide +kernel) ?_
      refine am_goto 44 dX10_length_29 rfl rfl ?_
      exact am_ri dX10_length_44 rfl rfl rfl ⟨e.symm, rfl⟩
    · refine am_iload_n dX10_length_11 rfl rfl ?_
      refine am_iconst (v := nI 2) dX10_length_12 rfl (by decide +kernel) ?_
      refine am_icmp_gt 28 dX10_length_13 rfl rfl (fun ht2 => ?_) (fun ht2 => ?_)
      · skip
        have e : oLen t s (f, c, md, op, bl, co, cp, bi, ls) = -1 := by
          unfold oLen
          rw [if_neg (by exact hb0), ix_gt (c := 2) ht2 (by omega)]
        refine am_iconst (v := -1) dX10_length_28 rfl (by decide +kernel) ?_
        refine am_goto 44 dX10_length_29 rfl rfl ?_
        exact am_ri dX10_length_44 rfl rfl rfl ⟨e.symm, rfl⟩
      · obtain ⟨j, hj, rfl, ej⟩ := ix_le (c := 2) ht ht2 (by omega)
        have ej : ix (nI j) 3 = some j := ej
        refine am_iload_n dX10_length_16 rfl rfl ?_
        refine am_if_lt 28 dX10_length_17 rfl rfl (fun hs => ?_) (fun hs => ?_)
        · skip
          have e : oLen (nI j) s (f, c, md, op, bl, co, cp, bi, ls) = -1 := by
            unfold oLen
            rw [if_neg (by exact hb0), ej]
            obtain rfl | rfl | rfl : j = 0 ∨ j = 1 ∨ j = 2 := by omega
            · show (match ix s 19 with | some k => _ | none => (-1 : Int32)) = -1
              rw [ix_neg hs]
            · show (match ix s 510 with | some k => _ | none => (-1 : Int32)) = -1
              rw [ix_neg hs]
            · show (match ix s 14 with | some k => _ | none => (-1 : Int32)) = -1
              rw [ix_neg hs]
          refine am_iconst (v := -1) dX10_length_28 rfl (by decide +kernel) ?_
          refine am_goto 44 dX10_length_29 rfl rfl ?_
          exact am_ri dX10_length_44 rfl rfl rfl ⟨e.symm, rfl⟩
        · refine am_iload_n dX10_length_20 rfl rfl ?_
          refine am_iload_n dX10_length_21 rfl rfl ?_
          refine am_si (t_X10_symbols (d - 1) _ hj) k_X10_symbols l_X10_79 dX10_length_22 rfl rfl rfl rfl (by omega) (Nat.le_refl _) (Nat.le_refl _) (fun z h1 hx => ?_)
          obtain ⟨rfl, hh⟩ := hx
          obtain rfl := hh.symm
          have hsy := sym_le j
          refine am_icmp_lt 32 dX10_length_25 rfl rfl (fun h2 => ?_) (fun h2 => ?_)
          · obtain ⟨q, hq, rfl⟩ := ix_of hs (Int32.not_le.mpr h2) (by omega)
            refine am_aload_n dX10_length_32 rfl rfl ?_
            refine am_get f_X10_16 dX10_length_33 rfl hm rfl ?_
            refine am_sipush (v := nI 600) dX10_length_36 rfl (by decide +kernel) ?_
            refine am_iload_n dX10_length_39 rfl rfl ?_
            refine am_imul dX10_length_40 rfl ?_
            refine am_iload_n dX10_length_41 rfl rfl ?_
            refine am_iadd dX10_length_42 rfl ?_
            rw [pk_mul, nI_add]
            have hq3 : q < 510 := by omega
            refine am_iald dX10_length_43 rfl h49 (by omega) (by omega) ?_
            have e : oLen (nI j) (nI q) (f, c, md, op, bl, co, cp, bi, ls) = gl (600 * j + q) := by
              unfold oLen
              rw [if_neg (by exact hb0), ej]
              obtain rfl | rfl | rfl : j = 0 ∨ j = 1 ∨ j = 2 := by omega
              · have hq2 : q < 19 := hq
                show (match ix (nI q) 19 with | some k => nI (ls.1 k) | none => (-1 : Int32)) = _
                rw [ix_in hq2 (by omega), show 600 * 0 + q = q by omega]
                exact (l1 q hq2).symm
              · have hq2 : q < 510 := hq
                show (match ix (nI q) 510 with | some k => nI (ls.2.1 k) | none => (-1 : Int32)) = _
                rw [ix_in hq2 (by omega), show 600 * 1 + q = 600 + q by omega]
                exact (l2 q hq2).symm
              · have hq2 : q < 14 := hq
                show (match ix (nI q) 14 with | some k => nI (ls.2.2 k) | none => (-1 : Int32)) = _
                rw [ix_in hq2 (by omega), show 600 * 2 + q = 1200 + q by omega]
                exact (l3 q hq2).symm
            exact am_ri dX10_length_44 rfl rfl rfl ⟨e.symm, rfl⟩
          · have e : oLen (nI j) s (f, c, md, op, bl, co, cp, bi, ls) = -1 := by
              unfold oLen
              rw [if_neg (by exact hb0), ej]
              obtain rfl | rfl | rfl : j = 0 ∨ j = 1 ∨ j = 2 := by omega
              · show (match ix s 19 with | some k => _ | none => (-1 : Int32)) = -1
                rw [ix_big (c := 19) (Int32.not_lt.mp h2) (by omega)]
              · show (match ix s 510 with | some k => _ | none => (-1 : Int32)) = -1
                rw [ix_big (c := 510) (Int32.not_lt.mp h2) (by omega)]
              · show (match ix s 14 with | some k => _ | none => (-1 : Int32)) = -1
                rw [ix_big (c := 14) (Int32.not_lt.mp h2) (by omega)]
            refine am_iconst (v := -1) dX10_length_28 rfl (by decide +kernel) ?_
            refine am_goto 44 dX10_length_29 rfl rfl ?_
            exact am_ri dX10_length_44 rfl rfl rfl ⟨e.symm, rfl⟩
end MOD7
