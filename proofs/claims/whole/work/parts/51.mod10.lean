/-! ===== the reference: merging ===== -/
section MOD10
variable {l : Launch} {D : va_G} {dA : Bool → ClassId}
set_option maxHeartbeats 4000000 in
set_option maxRecDepth 100000 in
theorem t_X10_giveSmall (d n0 : Nat) {h : am_H} {ct : Nat} {to : Bool} {bl co cp en fa tc : Nat} {s : List Int32 × Nat} (X : gvH h h ct to bl co cp en fa tc s) {t nb : Nat} (ht : t ≤ 2) (ht1 : t ≠ 1) (hnb : nb ≤ 9) {gp : Bool} (hgp : gp = decide (t = 0)) {gl gc ga : Nat → Int32} (h49 : h 49 = some (.inl (false, 1800, gl))) (h51 : h 51 = some (.inl (false, 3, ga))) {al : Int32} {len : Nat → Nat} (hr : mrd gl gc ga t al len) (hg : s.2 + 400 ≤ 96000) (hd : 2 ≤ d) : am_Ct l D dA m_X10_giveSmall d 0 0 n0 [am_r 46, .inl (nI t), .inl (nI nb)] h (am_qv fun h' => gvH h h' ct to bl co cp en fa tc (tTr len al (sym t) nb gp s)) := by
  refine am_Cv (by decide +kernel) rfl rfl ?_
  have hsy : sym t ≤ 19 := by unfold sym; rw [if_neg ht1]; split <;> omega
  have hsy2 := sym_le t
  obtain ⟨r1, r2, r3, r4⟩ := hr
  refine am_aload_n dX10_giveSmall_0 rfl rfl ?_
  refine am_get f_X10_22 dX10_giveSmall_1 rfl X.2.1 rfl ?_
  refine am_iload_n dX10_giveSmall_4 rfl rfl ?_
  refine am_iald dX10_giveSmall_5 rfl h51 (by omega) (by omega) ?_
  rw [r1]
  refine am_iconst (v := -1) dX10_giveSmall_6 rfl (by decide +kernel) ?_
  refine am_icmp_eq 28 dX10_giveSmall_7 rfl rfl (fun hc => ?_) (fun hc => ?_)
  · refine am_aload_n dX10_giveSmall_28 rfl rfl ?_
    refine am_iload_n dX10_giveSmall_29 rfl rfl ?_
    refine am_vi (t_X10_last (d - 1) _ X.2.1 ht h49 r2 (by omega)) k_X10_last l_X10_133 dX10_giveSmall_30 rfl rfl rfl rfl X.2.1 (by omega) (Nat.le_refl _) (Nat.le_refl _) (fun z h1 hx => ?_)
    obtain ⟨rfl, hh⟩ := hx
    obtain rfl := hh.symm
    have hln := lst_le len (sym t)
    have eT : (tTr len al (sym t) nb gp s) = ttR len gp (lst len (sym t)) (lst len (sym t)) 0 (gvR (lst len (sym t)) nb s) := by unfold tTr; rw [if_pos hc]
    rw [eT]
    clear eT
    obtain ⟨n, en1⟩ : ∃ n, n = lst len (sym t) := ⟨_, rfl⟩
    rw [← en1] at hln ⊢
    clear en1
    refine am_istore_n dX10_giveSmall_33 rfl rfl ?_
    refine am_aload_n dX10_giveSmall_34 rfl rfl ?_
    refine am_iload_n dX10_giveSmall_35 rfl rfl ?_
    refine am_iload_n dX10_giveSmall_36 rfl rfl ?_
    refine am_vv (t_X10_give (d - 1) _ X (v := n) (n := nb) (by omega) (by omega) (by omega)) k_X10_give l_X10_139 dX10_giveSmall_37 rfl rfl rfl rfl X.2.1 (by omega) (Nat.le_refl _) (Nat.le_refl _) (fun h1 X1 => ?_)
    refine am_iconst (v := nI 0) dX10_giveSmall_40 rfl (by decide +kernel) ?_
    refine am_istore dX10_giveSmall_41 rfl rfl ?_
    have g2 := gvR_2 n nb s
    have loop : ∀ (q i : Nat) (s' : List Int32 × Nat) (H : am_H) (x5 x6 : Option am_V), n ≤ i + q → i ≤ n + 3 → gvH h H ct to bl co cp en fa tc s' → ttR len gp n q i s' = (ttR len gp n n 0 (gvR n nb s)) → s'.2 + 15 * (19 - i) + 60 ≤ 96000 → am_At l D dA m_X10_giveSmall d 0 0 0 0 n0 none (am_qv fun h' => gvH h h' ct to bl co cp en fa tc (ttR len gp n n 0 (gvR n nb s))) 0 0 43 [some (am_r 46), some (.inl (nI t)), some (.inl (nI nb)), some (.inl (nI n)), some (.inl (nI i)), x5, x6] [] H := by
      intro q
      induction q with
      | zero =>
        intro i s' H x5 x6 hq hi Z hR hb
        have hR : s' = _ := hR
        refine am_iload dX10_giveSmall_43 rfl rfl ?_
        refine am_iload_n dX10_giveSmall_45 rfl rfl ?_
        refine am_ncmp_ge 176 dX10_giveSmall_46 rfl rfl (by omega) (by omega) (fun hn => ?_) (fun hn => ?_)
        · exact am_rv dX10_giveSmall_176 rfl rfl rfl (by rw [← hR]; exact Z)
        · omega
      | succ q ih =>
        intro i s' H x5 x6 hq hi Z hR hb
        rw [ttR] at hR
        have h4 := (Z.1 49 (by simp)).trans h49
        refine am_iload dX10_giveSmall_43 rfl rfl ?_
        refine am_iload_n dX10_giveSmall_45 rfl rfl ?_
        refine am_ncmp_ge 176 dX10_giveSmall_46 rfl rfl (by omega) (by omega) (fun hn => ?_) (fun hn => ?_)
        · rw [if_pos hn] at hR
          exact am_rv dX10_giveSmall_176 rfl rfl rfl (by rw [← hR]; exact Z)
        · rw [if_neg (by omega)] at hR
          obtain ⟨q1, q2⟩ := r2 i (by omega)
          have g3 := glR_2 (len i) s'
          have g4 : (glR (len i) s').2 ≤ s'.2 + 13 := by rw [g3]; split <;> omega
          refine am_aload_n dX10_giveSmall_49 rfl rfl ?_
          refine am_get f_X10_16 dX10_giveSmall_50 rfl Z.2.1 rfl ?_
          refine am_sipush (v := nI 600) dX10_giveSmall_53 rfl (by decide +kernel) ?_
          refine am_iload_n dX10_giveSmall_56 rfl rfl ?_
          refine am_imul dX10_giveSmall_57 rfl ?_
          refine am_iload dX10_giveSmall_58 rfl rfl ?_
          refine am_iadd dX10_giveSmall_60 rfl ?_
          rw [pk_mul, nI_add]
          refine am_iald dX10_giveSmall_61 rfl h4 (by omega) (by omega) ?_
          rw [q1]
          have aft : ∀ (H2 : am_H) (x6 : Option am_V), gvH h H2 ct to bl co cp en fa tc (glR (len i) s') → am_At l D dA m_X10_giveSmall d 0 0 0 0 n0 none (am_qv fun h' => gvH h h' ct to bl co cp en fa tc (ttR len gp n n 0 (gvR n nb s))) 0 0 119 [some (am_r 46), some (.inl (nI t)), some (.inl (nI nb)), some (.inl (nI n)), some (.inl (nI i)), some (.inl (nI (len i))), x6] [] H2 := by
            intro H2 x6 Y
            refine am_iinc (n := 1) dX10_giveSmall_119 rfl rfl (nI_1 i) ?_
            refine am_iload_n dX10_giveSmall_122 rfl rfl ?_
            refine am_nif_ne 173 dX10_giveSmall_123 rfl rfl (by omega) (fun ht0 => ?_) (fun ht0 => ?_)
            · rw [if_neg (by rw [hgp]; intro zz; have := of_decide_eq_true zz.1; omega)] at hR
              refine am_goto 43 dX10_giveSmall_173 rfl rfl ?_
              exact ih (i + 1) _ H2 _ _ (by omega) (by omega) Y hR (by omega)
            · refine am_iload dX10_giveSmall_126 rfl rfl ?_
              refine am_iconst (v := nI 3) dX10_giveSmall_128 rfl (by decide +kernel) ?_
              refine am_ncmp_ne 173 dX10_giveSmall_129 rfl rfl (by omega) (by omega) (fun hi3 => ?_) (fun hi3 => ?_)
              · rw [if_neg (by intro zz; omega)] at hR
                refine am_goto 43 dX10_giveSmall_173 rfl rfl ?_
                exact ih (i + 1) _ H2 _ _ (by omega) (by omega) Y hR (by omega)
              · obtain rfl : i = 2 := by omega
                rw [if_pos ⟨by rw [hgp]; exact decide_eq_true ht0, rfl⟩] at hR
                have hst : sym t = 19 := by rw [ht0]; rfl
                have hzl := zrs_le len 3 (2 + 1)
                have h5 := (Y.1 49 (by simp)).trans h49
                refine am_iconst (v := nI 0) dX10_giveSmall_132 rfl (by decide +kernel) ?_
                refine am_istore dX10_giveSmall_133 rfl rfl ?_
                have gz : ∀ (z : Nat), z = zrs len (2 + 1) 3 → am_At l D dA m_X10_giveSmall d 0 0 0 0 n0 none (am_qv fun h' => gvH h h' ct to bl co cp en fa tc (ttR len gp n n 0 (gvR n nb s))) 0 0 159 [some (am_r 46), some (.inl (nI t)), some (.inl (nI nb)), some (.inl (nI n)), some (.inl (nI (2 + 1))), some (.inl (nI (len 2))), some (.inl (nI z))] [] H2 := by
                  intro z hz
                  rw [← hz] at hR hzl
                  refine am_aload_n dX10_giveSmall_159 rfl rfl ?_
                  refine am_iload dX10_giveSmall_160 rfl rfl ?_
                  refine am_iconst (v := nI 2) dX10_giveSmall_162 rfl (by decide +kernel) ?_
                  refine am_vv (t_X10_give (d - 1) _ Y.rf (v := z) (n := 2) (by omega) (by omega) (by omega)) k_X10_give l_X10_139 dX10_giveSmall_163 rfl rfl rfl rfl Y.2.1 (by omega) (Nat.le_refl _) (Nat.le_refl _) (fun h3 Y2 => ?_)
                  refine am_iload dX10_giveSmall_166 rfl rfl ?_
                  refine am_iload dX10_giveSmall_168 rfl rfl ?_
                  refine am_iadd dX10_giveSmall_170 rfl ?_
                  rw [nI_add]
                  refine am_istore dX10_giveSmall_171 rfl rfl ?_
                  refine am_goto 43 dX10_giveSmall_173 rfl rfl ?_
                  have g5 := gvR_2 z 2 (glR (len 2) s')
                  exact ih (2 + 1 + z) _ h3 _ _ (by omega) (by omega) (Y.tr Y2) (by rw [show 2 + 1 + z = 2 + z + 1 by omega]; exact hR) (by omega)
                have scan : ∀ (r z : Nat), z + r = 3 → z + zrs len (3 + z) r = zrs len (2 + 1) 3 → am_At l D dA m_X10_giveSmall d 0 0 0 0 n0 none (am_qv fun h' => gvH h h' ct to bl co cp en fa tc (ttR len gp n n 0 (gvR n nb s))) 0 0 135 [some (am_r 46), some (.inl (nI t)), some (.inl (nI nb)), some (.inl (nI n)), some (.inl (nI (2 + 1))), some (.inl (nI (len 2))), some (.inl (nI z))] [] H2 := by
                  intro r
                  induction r with
                  | zero =>
                    intro z hz he
                    have he : z + 0 = _ := he
                    refine am_iload dX10_giveSmall_135 rfl rfl ?_
                    refine am_iconst (v := nI 3) dX10_giveSmall_137 rfl (by decide +kernel) ?_
                    refine am_ncmp_ge 159 dX10_giveSmall_138 rfl rfl (by omega) (by omega) (fun hz3 => ?_) (fun hz3 => ?_)
                    · exact gz z (by omega)
                    · omega
                  | succ r ihr =>
                    intro z hz he
                    rw [zrs] at he
                    obtain ⟨p1, p2⟩ := r2 (3 + z) (by omega)
                    rw [ht0, Nat.mul_zero, Nat.zero_add] at p1
                    refine am_iload dX10_giveSmall_135 rfl rfl ?_
                    refine am_iconst (v := nI 3) dX10_giveSmall_137 rfl (by decide +kernel) ?_
                    refine am_ncmp_ge 159 dX10_giveSmall_138 rfl rfl (by omega) (by omega) (fun hz3 => ?_) (fun hz3 => ?_)
                    · omega
                    · refine am_aload_n dX10_giveSmall_141 rfl rfl ?_
                      refine am_get f_X10_16 dX10_giveSmall_142 rfl Y.2.1 rfl ?_
                      refine am_iconst (v := nI 3) dX10_giveSmall_145 rfl (by decide +kernel) ?_
                      refine am_iload dX10_giveSmall_146 rfl rfl ?_
                      refine am_iadd dX10_giveSmall_148 rfl ?_
                      rw [nI_add]
                      refine am_iald dX10_giveSmall_149 rfl h5 (by omega) (by omega) ?_
                      rw [p1]
                      refine am_nif_ne 159 dX10_giveSmall_150 rfl rfl (by omega) (fun hl0 => ?_) (fun hl0 => ?_)
                      · rw [if_neg (by omega)] at he
                        exact gz z (by omega)
                      · rw [if_pos hl0] at he
                        refine am_iinc (n := 1) dX10_giveSmall_153 rfl rfl (nI_1 z) ?_
                        refine am_goto 135 dX10_giveSmall_156 rfl rfl ?_
                        exact ihr (z + 1) (by omega) (by rw [show 3 + (z + 1) = 3 + z + 1 by omega]; omega)
                exact scan 3 0 (by omega) (by rw [Nat.zero_add])
          refine am_istore dX10_giveSmall_62 rfl rfl ?_
          refine am_aload_n dX10_giveSmall_64 rfl rfl ?_
          refine am_iload dX10_giveSmall_65 rfl rfl ?_
          refine am_bipush (v := nI 7) dX10_giveSmall_67 rfl (by decide +kernel) ?_
          refine am_ncmp_ge 77 dX10_giveSmall_69 rfl rfl (by omega) (by omega) (fun h7 => ?_) (fun h7 => ?_)
          · have eg : glR (len i) s' = gvR 0 1 (onR (len i - 7) (gvR 7 3 s')) := by unfold glR; rw [if_neg (by omega)]
            refine am_bipush (v := nI 7) dX10_giveSmall_77 rfl (by decide +kernel) ?_
            refine am_iconst (v := nI 3) dX10_giveSmall_79 rfl (by decide +kernel) ?_
            refine am_vv (t_X10_give (d - 1) _ Z.rf (v := 7) (n := 3) (by omega) (by omega) (by omega)) k_X10_give l_X10_139 dX10_giveSmall_80 rfl rfl rfl rfl Z.2.1 (by omega) (Nat.le_refl _) (Nat.le_refl _) (fun h3 Y1 => ?_)
            have Y1 := Z.tr Y1
            refine am_bipush (v := nI 7) dX10_giveSmall_83 rfl (by decide +kernel) ?_
            refine am_istore dX10_giveSmall_85 rfl rfl ?_
            have ones : ∀ (r j : Nat) (s2 : List Int32 × Nat) (H3 : am_H), j + r = len i → onR r s2 = onR (len i - 7) (gvR 7 3 s') → s2.2 + r ≤ 95990 → gvH h H3 ct to bl co cp en fa tc s2 → am_At l D dA m_X10_giveSmall d 0 0 0 0 n0 none (am_qv fun h' => gvH h h' ct to bl co cp en fa tc (ttR len gp n n 0 (gvR n nb s))) 0 0 87 [some (am_r 46), some (.inl (nI t)), some (.inl (nI nb)), some (.inl (nI n)), some (.inl (nI i)), some (.inl (nI (len i))), some (.inl (nI j))] [] H3 := by
              intro r
              induction r with
              | zero =>
                intro j s2 H3 hj ho hb2 W
                have ho : s2 = _ := ho
                refine am_iload dX10_giveSmall_87 rfl rfl ?_
                refine am_iload dX10_giveSmall_89 rfl rfl ?_
                refine am_ncmp_ge 106 dX10_giveSmall_91 rfl rfl (by omega) (by omega) (fun hj2 => ?_) (fun hj2 => ?_)
                · refine am_iload dX10_giveSmall_106 rfl rfl ?_
                  refine am_bipush (v := nI 7) dX10_giveSmall_108 rfl (by decide +kernel) ?_
                  refine am_ncmp_lt 119 dX10_giveSmall_110 rfl rfl (by omega) (by omega) (fun h8 => by omega) (fun h8 => ?_)
                  refine am_aload_n dX10_giveSmall_113 rfl rfl ?_
                  refine am_iconst (v := nI 0) dX10_giveSmall_114 rfl (by decide +kernel) ?_
                  refine am_iconst (v := nI 1) dX10_giveSmall_115 rfl (by decide +kernel) ?_
                  refine am_vv (t_X10_give (d - 1) _ W.rf (v := 0) (n := 1) (by omega) (by omega) (by omega)) k_X10_give l_X10_139 dX10_giveSmall_116 rfl rfl rfl rfl W.2.1 (by omega) (Nat.le_refl _) (Nat.le_refl _) (fun h4x W1 => ?_)
                  exact aft h4x _ (by rw [eg, ← ho]; exact W.tr W1)
                · omega
              | succ r ihr =>
                intro j s2 H3 hj ho hb2 W
                have ho : onR r (gvR 1 1 s2) = _ := ho
                have g6 := gvR_2 1 1 s2
                refine am_iload dX10_giveSmall_87 rfl rfl ?_
                refine am_iload dX10_giveSmall_89 rfl rfl ?_
                refine am_ncmp_ge 106 dX10_giveSmall_91 rfl rfl (by omega) (by omega) (fun hj2 => ?_) (fun hj2 => ?_)
                · omega
                · refine am_aload_n dX10_giveSmall_94 rfl rfl ?_
                  refine am_iconst (v := nI 1) dX10_giveSmall_95 rfl (by decide +kernel) ?_
                  refine am_iconst (v := nI 1) dX10_giveSmall_96 rfl (by decide +kernel) ?_
                  refine am_vv (t_X10_give (d - 1) _ W.rf (v := 1) (n := 1) (by omega) (by omega) (by omega)) k_X10_give l_X10_139 dX10_giveSmall_97 rfl rfl rfl rfl W.2.1 (by omega) (Nat.le_refl _) (Nat.le_refl _) (fun h4x W1 => ?_)
                  refine am_iinc (n := 1) dX10_giveSmall_100 rfl rfl (nI_1 j) ?_
                  refine am_goto 87 dX10_giveSmall_103 rfl rfl ?_
                  exact ihr (j + 1) _ h4x (by omega) ho (by omega) (W.tr W1)
            exact ones (len i - 7) 7 _ h3 (by omega) rfl (by rw [gvR_2]; omega) Y1
          · have eg : glR (len i) s' = gvR (len i) 3 s' := by unfold glR; rw [if_pos (by omega)]
            refine am_iload dX10_giveSmall_72 rfl rfl ?_
            refine am_goto 79 dX10_giveSmall_74 rfl rfl ?_
            refine am_iconst (v := nI 3) dX10_giveSmall_79 rfl (by decide +kernel) ?_
            refine am_vv (t_X10_give (d - 1) _ Z.rf (v := len i) (n := 3) (by omega) (by omega) (by omega)) k_X10_give l_X10_139 dX10_giveSmall_80 rfl rfl rfl rfl Z.2.1 (by omega) (Nat.le_refl _) (Nat.le_refl _) (fun h3 Y1 => ?_)
            have Y1 := Z.tr Y1
            refine am_bipush (v := nI 7) dX10_giveSmall_83 rfl (by decide +kernel) ?_
            refine am_istore dX10_giveSmall_85 rfl rfl ?_
            refine am_iload dX10_giveSmall_87 rfl rfl ?_
            refine am_iload dX10_giveSmall_89 rfl rfl ?_
            refine am_ncmp_ge 106 dX10_giveSmall_91 rfl rfl (by omega) (by omega) (fun h91 => ?_) (fun h91 => ?_)
            · refine am_iload dX10_giveSmall_106 rfl rfl ?_
              refine am_bipush (v := nI 7) dX10_giveSmall_108 rfl (by decide +kernel) ?_
              refine am_ncmp_lt 119 dX10_giveSmall_110 rfl rfl (by omega) (by omega) (fun h8 => ?_) (fun h8 => by omega)
              exact aft h3 _ (by rw [eg]; exact Y1)
            · omega
    exact loop n 0 _ h1 _ _ (by omega) (by omega) X1 rfl (by omega)
  · obtain ⟨y, hy, rfl⟩ := r4 hc
    have eT : (tTr len (nI y) (sym t) nb gp s) = gvR y nb (gvR 0 nb s) := by unfold tTr; rw [if_neg hc, pk_tn (by omega)]
    rw [eT]
    refine am_aload_n dX10_giveSmall_10 rfl rfl ?_
    refine am_iconst (v := nI 0) dX10_giveSmall_11 rfl (by decide +kernel) ?_
    refine am_iload_n dX10_giveSmall_12 rfl rfl ?_
    refine am_vv (t_X10_give (d - 1) _ X (v := 0) (n := nb) (by omega) (by omega) (by omega)) k_X10_give l_X10_139 dX10_giveSmall_13 rfl rfl rfl rfl X.2.1 (by omega) (Nat.le_refl _) (Nat.le_refl _) (fun h1 X1 => ?_)
    refine am_aload_n dX10_giveSmall_16 rfl rfl ?_
    refine am_aload_n dX10_giveSmall_17 rfl rfl ?_
    refine am_get f_X10_22 dX10_giveSmall_18 rfl X1.2.1 rfl ?_
    refine am_iload_n dX10_giveSmall_21 rfl rfl ?_
    refine am_iald dX10_giveSmall_22 rfl ((X1.1 51 (by simp)).trans h51) (by omega) (by omega) ?_
    rw [r1]
    refine am_iload_n dX10_giveSmall_23 rfl rfl ?_
    have g2 := gvR_2 0 nb s
    refine am_vv (t_X10_give (d - 1) _ X1.rf (v := y) (n := nb) (by omega) (by omega) (by omega)) k_X10_give l_X10_139 dX10_giveSmall_24 rfl rfl rfl rfl X1.2.1 (by omega) (Nat.le_refl _) (Nat.le_refl _) (fun h2 X2 => ?_)
    exact am_rv dX10_giveSmall_27 rfl rfl rfl (X1.tr X2)
set_option maxHeartbeats 4000000 in
set_option maxRecDepth 100000 in
theorem t_X10_least (d n0 : Nat) {h : am_H} {ct md : Nat} {to : Bool} {bl co cp bi en fa tc : Nat} (hm : h 46 = some (mO ct md to bl co cp bi en fa tc)) {gw gb : Nat → Int32} (h54 : h 54 = some (.inl (false, 1200, gw))) (h56 : h 56 = some (.inl (true, 1200, gb))) {w : Nat → Nat} {act : Nat → Bool} {N a : Nat} (hN : N ≤ 1200) (hw : ∀ k, k < N → gw k = nI (w k) ∧ w k < 2 ^ 31) (hb : ∀ k, k < N → gb k = am_bz (act k)) (ha : a < N ∧ act a = true) (hmin : ∀ v, v < N → act v = true → w a < w v ∨ (w a = w v ∧ a ≤ v)) : am_Ct l D dA m_X10_least d 0 0 n0 [am_r 46, .inl (nI N)] h (am_qi fun x h' => x = nI a ∧ h' = h) := by
  refine am_Ci (by decide +kernel) rfl rfl ?_
  refine am_iconst (v := -1) dX10_least_0 rfl (by decide +kernel) ?_
  refine am_istore_n dX10_least_1 rfl rfl ?_
  refine am_iconst (v := nI 0) dX10_least_2 rfl (by decide +kernel) ?_
  refine am_istore_n dX10_least_3 rfl rfl ?_
  have loop : ∀ (q i : Nat) (best : Int32), i + q = N → ((best = -1 ∧ ∀ v, v < i → act v = false) ∨ ∃ b, b < i ∧ best = nI b ∧ act b = true ∧ ∀ v, v < i → act v = true → w b < w v ∨ (w b = w v ∧ b ≤ v)) → am_At l D dA m_X10_least d 0 0 0 0 n0 none (am_qi fun x h' => x = nI a ∧ h' = h) 0 0 4 [some (am_r 46), some (.inl (nI N)), some (.inl best), some (.inl (nI i))] [] h := by
    intro q
    induction q with
    | zero =>
      intro i best hi hB
      obtain rfl : i = N := by omega
      have hba : best = nI a := by
        rcases hB with ⟨-, z⟩ | ⟨b, b1, b2, b3, b4⟩
        · have := z a ha.1; rw [ha.2] at this; cases this
        · have x1 := b4 a ha.1 ha.2
          have x2 := hmin b b1 b3
          rw [b2, show b = a by omega]
      subst hba
      refine am_iload_n dX10_least_4 rfl rfl ?_
      refine am_iload_n dX10_least_5 rfl rfl ?_
      refine am_ncmp_ge 50 dX10_least_6 rfl rfl (by omega) (by omega) (fun hc => ?_) (fun hc => ?_)
      · refine am_iload_n dX10_least_50 rfl rfl ?_
        exact am_ri dX10_least_51 rfl rfl rfl ⟨rfl, rfl⟩
      · omega
    | succ q ih =>
      intro i best hi hB
      obtain ⟨w1, w2⟩ := hw i (by omega)
      refine am_iload_n dX10_least_4 rfl rfl ?_
      refine am_iload_n dX10_least_5 rfl rfl ?_
      refine am_ncmp_ge 50 dX10_least_6 rfl rfl (by omega) (by omega) (fun hc => ?_) (fun hc => ?_)
      · omega
      · refine am_aload_n dX10_least_9 rfl rfl ?_
        refine am_get f_X10_37 dX10_least_10 rfl hm rfl ?_
        refine am_iload_n dX10_least_13 rfl rfl ?_
        refine am_zald dX10_least_14 rfl h56 (by omega) (by omega) ?_
        rw [hb i (by omega)]
        refine am_bif_eq 42 dX10_least_15 rfl rfl (fun hact => ?_) (fun hact => ?_)
        · refine am_iload_n dX10_least_42 rfl rfl ?_
          refine am_istore_n dX10_least_43 rfl rfl ?_
          refine am_iinc (n := 1) dX10_least_44 rfl rfl (nI_1 i) ?_
          refine am_goto 4 dX10_least_47 rfl rfl ?_
          refine ih (i + 1) best (by omega) ?_
          rcases hB with ⟨z1, z2⟩ | ⟨b, b1, b2, b3, b4⟩
          · exact Or.inl ⟨z1, fun v hv => by by_cases e : v = i; exact e ▸ hact; exact z2 v (by omega)⟩
          · exact Or.inr ⟨b, by omega, b2, b3, fun v hv hav => by by_cases e : v = i; (subst e; rw [hact] at hav; cases hav); exact b4 v (by omega) hav⟩
        · refine am_iload_n dX10_least_18 rfl rfl ?_
          refine am_iconst (v := -1) dX10_least_19 rfl (by decide +kernel) ?_
          refine am_icmp_eq 38 dX10_least_20 rfl rfl (fun hb1 => ?_) (fun hb1 => ?_)
          · refine am_iload_n dX10_least_38 rfl rfl ?_
            refine am_goto 43 dX10_least_39 rfl rfl ?_
            refine am_istore_n dX10_least_43 rfl rfl ?_
            refine am_iinc (n := 1) dX10_least_44 rfl rfl (nI_1 i) ?_
            refine am_goto 4 dX10_least_47 rfl rfl ?_
            refine ih (i + 1) (nI i) (by omega) (Or.inr ⟨i, by omega, rfl, hact, fun v hv hav => ?_⟩)
            by_cases e : v = i
            · subst e; exact Or.inr ⟨rfl, Nat.le_refl _⟩
            · rcases hB with ⟨z1, z2⟩ | ⟨b, b1, b2, b3, b4⟩
              · have := z2 v (by omega); rw [hav] at this; cases this
              · exact absurd (b2.symm.trans hb1) (am_nm1 (by omega))
          · rcases hB with ⟨z1, z2⟩ | ⟨b, b1, rfl, b3, b4⟩
            · exact absurd z1 hb1
            obtain ⟨w3, w4⟩ := hw b (by omega)
            refine am_aload_n dX10_least_23 rfl rfl ?_
            refine am_get f_X10_31 dX10_least_24 rfl hm rfl ?_
            refine am_iload_n dX10_least_27 rfl rfl ?_
            refine am_iald dX10_least_28 rfl h54 (by omega) (by omega) ?_
            rw [w1]
            refine am_aload_n dX10_least_29 rfl rfl ?_
            refine am_get f_X10_31 dX10_least_30 rfl hm rfl ?_
            refine am_iload_n dX10_least_33 rfl rfl ?_
            refine am_iald dX10_least_34 rfl h54 (by omega) (by omega) ?_
            rw [w3]
            refine am_ncmp_ge 42 dX10_least_35 rfl rfl (by omega) (by omega) (fun hlt => ?_) (fun hlt => ?_)
            · refine am_iload_n dX10_least_42 rfl rfl ?_
              refine am_istore_n dX10_least_43 rfl rfl ?_
              refine am_iinc (n := 1) dX10_least_44 rfl rfl (nI_1 i) ?_
              refine am_goto 4 dX10_least_47 rfl rfl ?_
              refine ih (i + 1) (nI b) (by omega) (Or.inr ⟨b, by omega, rfl, b3, fun v hv hav => ?_⟩)
              by_cases e : v = i
              · subst e; omega
              · exact b4 v (by omega) hav
            · refine am_iload_n dX10_least_38 rfl rfl ?_
              refine am_goto 43 dX10_least_39 rfl rfl ?_
              refine am_istore_n dX10_least_43 rfl rfl ?_
              refine am_iinc (n := 1) dX10_least_44 rfl rfl (nI_1 i) ?_
              refine am_goto 4 dX10_least_47 rfl rfl ?_
              refine ih (i + 1) (nI i) (by omega) (Or.inr ⟨i, by omega, rfl, hact, fun v hv hav => ?_⟩)
              by_cases e : v = i
              · subst e; exact Or.inr ⟨rfl, Nat.le_refl _⟩
              · have := b4 v (by omega) hav; omega
  exact loop N 0 (-1) (by omega) (Or.inl ⟨rfl, fun v hv => by omega⟩)
end MOD10
