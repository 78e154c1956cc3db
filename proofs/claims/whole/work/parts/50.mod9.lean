/-! ===== the reference: cutting, telling ===== -/
section MOD9
variable {l : Launch} {D : va_G} {dA : Bool → ClassId}
theorem gtS_stop {tp : List Int32} {n p0 i : Nat} (h : n ≤ (gtS tp n p0 i).2) : ∀ k, gtS tp n p0 (i + k) = gtS tp n p0 i
  | 0 => rfl
  | k + 1 => by
    have ih := gtS_stop h k
    show gtS tp n p0 (i + k + 1) = _
    rw [gtS, ih, if_pos h]
theorem gtS_snoc {tp : List Int32} {n p0 i : Nat} (h : ¬ n ≤ (gtS tp n p0 i).2) : gtS tp n p0 (i + 1) = ((gtS tp n p0 i).1 ++ [cdA tp n (gtS tp n p0 i).2], (gtS tp n p0 i).2 + stA tp n (gtS tp n p0 i).2) := by
  rw [gtS, if_neg h]
/-- codes and distances, in the reference -/
def ctM (h : am_H) (l : List (Nat × Nat)) : Prop := ∃ f g : Nat → Int32, h 52 = some (.inl (false, 4000, f)) ∧ h 53 = some (.inl (false, 4000, g)) ∧ ∀ i x, l[i]? = some x → f i = nI x.1 ∧ g i = nI x.2
theorem ctM.at {h h' : am_H} {l : List (Nat × Nat)} (x : ctM h l) (e1 : h' 52 = h 52) (e2 : h' 53 = h 53) : ctM h' l := by
  obtain ⟨f, g, a, b, c⟩ := x
  exact ⟨f, g, e1.trans a, e2.trans b, c⟩
theorem ctM.push {h' : am_H} {l : List (Nat × Nat)} {f g : Nat → Int32} {y : Nat × Nat} (b : ∀ i x, l[i]? = some x → f i = nI x.1 ∧ g i = nI x.2) (e1 : h' 52 = some (.inl (false, 4000, upd f l.length (nI y.1)))) (e2 : h' 53 = some (.inl (false, 4000, upd g l.length (nI y.2)))) : ctM h' (l ++ [y]) := by
  refine ⟨_, _, e1, e2, fun i x hi => ?_⟩
  by_cases c : i < l.length
  · rw [List.getElem?_append_left c] at hi
    rw [upd_ne (by omega), upd_ne (by omega)]
    exact b i x hi
  · rw [List.getElem?_append_right (by omega)] at hi
    have hz : i - l.length < 1 := (List.getElem?_eq_some_iff.mp hi).1
    have hi2 : i = l.length := by omega
    subst hi2
    rw [Nat.sub_self] at hi
    cases hi
    exact ⟨upd_eq, upd_eq⟩
theorem lst_in {len : Nat → Nat} : ∀ {m : Nat}, 0 < lst len m → len (lst len m - 1) ≠ 0
  | 0, h => absurd h (Nat.lt_irrefl 0)
  | m + 1, h => by
    rw [lst] at h ⊢
    split
    · rename_i g
      rw [if_pos g] at h
      exact lst_in h
    · rename_i g
      rw [Nat.add_sub_cancel]
      exact g
set_option maxHeartbeats 4000000 in
set_option maxRecDepth 100000 in
theorem t_X10_cut (d n0 : Nat) {h : am_H} {ct md : Nat} {to : Bool} {bl co cp bi en fa tc : Nat} (hm : h 46 = some (mO ct md to bl co cp bi en fa tc)) {f : Nat → Int32} (hf : h 47 = some (.inl (false, 4000, f))) (h52 : ars h 52 4000) (h53 : ars h 53 4000) {n c : Nat} (hn : n ≤ c) (hc4 : c ≤ 4000) (hb : byt (tpL f c)) (hd : 1 ≤ d) : am_Ct l D dA m_X10_cut d 0 0 n0 [am_r 46, .inl (nI n)] h (am_qi fun x h' => x = nI (gtS (tpL f c) n 0 n).1.length ∧ am_fr h h' [52, 53] ∧ ctM h' (gtS (tpL f c) n 0 n).1) := by
  refine am_Ci (by decide +kernel) rfl rfl ?_
  have htl : (tpL f c).length = c := tpL_len f c
  have hntl : n ≤ (tpL f c).length := by omega
  refine am_iconst (v := nI 0) dX10_cut_0 rfl (by decide +kernel) ?_
  refine am_istore_n dX10_cut_1 rfl rfl ?_
  refine am_iconst (v := nI 0) dX10_cut_2 rfl (by decide +kernel) ?_
  refine am_istore_n dX10_cut_3 rfl rfl ?_
  have loop : ∀ (q i : Nat) (H : am_H) (x4 x5 x6 x7 : Option am_V), n ≤ (gtS (tpL f c) n 0 i).2 + q → i ≤ (gtS (tpL f c) n 0 i).2 → (gtS (tpL f c) n 0 i).1.length = i → am_fr h H [52, 53] → ctM H (gtS (tpL f c) n 0 i).1 → am_At l D dA m_X10_cut d 0 0 0 0 n0 none (am_qi fun x h' => x = nI (gtS (tpL f c) n 0 n).1.length ∧ am_fr h h' [52, 53] ∧ ctM h' (gtS (tpL f c) n 0 n).1) 0 0 4 [some (am_r 46), some (.inl (nI n)), some (.inl (nI i)), some (.inl (nI (gtS (tpL f c) n 0 i).2)), x4, x5, x6, x7] [] H := by
    intro q
    induction q with
    | zero =>
      intro i H x4 x5 x6 x7 hq hi hl F C
      have ok := gtS_ok hb hntl (Nat.zero_le n) i
      have hst : gtS (tpL f c) n 0 n = (gtS (tpL f c) n 0 i) := by
        have := gtS_stop (i := i) (by omega : n ≤ (gtS (tpL f c) n 0 i).2) (n - i)
        rwa [show i + (n - i) = n by omega] at this
      refine am_iload_n dX10_cut_4 rfl rfl ?_
      refine am_iload_n dX10_cut_5 rfl rfl ?_
      refine am_ncmp_ge 134 dX10_cut_6 rfl rfl (by omega) (by omega) (fun hc => ?_) (fun hc => ?_)
      · refine am_iload_n dX10_cut_134 rfl rfl ?_
        exact am_ri dX10_cut_135 rfl rfl rfl ⟨by rw [hst, hl], F, by rw [hst]; exact C⟩
      · omega
    | succ q ih =>
      intro i H x4 x5 x6 x7 hq hi hl F C
      have ok := gtS_ok hb hntl (Nat.zero_le n) i
      have hmH := (F 46 (by simp)).trans hm
      have hfH := (F 47 (by simp)).trans hf
      refine am_iload_n dX10_cut_4 rfl rfl ?_
      refine am_iload_n dX10_cut_5 rfl rfl ?_
      refine am_ncmp_ge 134 dX10_cut_6 rfl rfl (by omega) (by omega) (fun hc => ?_) (fun hc => ?_)
      · have hst : gtS (tpL f c) n 0 n = (gtS (tpL f c) n 0 i) := by
          have := gtS_stop (i := i) hc (n - i)
          rwa [show i + (n - i) = n by omega] at this
        refine am_iload_n dX10_cut_134 rfl rfl ?_
        exact am_ri dX10_cut_135 rfl rfl rfl ⟨by rw [hst, hl], F, by rw [hst]; exact C⟩
      · have hsn := gtS_snoc (tp := tpL f c) (n := n) (p0 := 0) (i := i) (by omega)
        obtain ⟨p, ep⟩ : ∃ p, p = (gtS (tpL f c) n 0 i).2 := ⟨_, rfl⟩
        have hcd := cdA_lt hb hntl (p := p) (by omega)
        rw [← ep] at hsn hq hi ok hc ⊢
        refine am_iconst (v := nI 2) dX10_cut_9 rfl (by decide +kernel) ?_
        refine am_istore dX10_cut_10 rfl rfl ?_
        refine am_iconst (v := nI 0) dX10_cut_12 rfl (by decide +kernel) ?_
        refine am_istore dX10_cut_13 rfl rfl ?_
        refine am_iconst (v := nI 1) dX10_cut_15 rfl (by decide +kernel) ?_
        refine am_istore dX10_cut_16 rfl rfl ?_
        have tail : ∀ (x6 x7 : Option am_V), am_At l D dA m_X10_cut d 0 0 0 0 n0 none (am_qi fun x h' => x = nI (gtS (tpL f c) n 0 n).1.length ∧ am_fr h h' [52, 53] ∧ ctM h' (gtS (tpL f c) n 0 n).1) 0 0 80 [some (am_r 46), some (.inl (nI n)), some (.inl (nI i)), some (.inl (nI p)), some (.inl (nI (bst (tpL f c) n p p).1)), some (.inl (nI (bst (tpL f c) n p p).2)), x6, x7] [] H := by
          intro x6 x7
          obtain ⟨fc, fd, c1, c2, c3⟩ := C
          have bo := bst_ok (tpL f c) n p p
          have bt0 := byt_at hb (p := p) (by omega)
          have tbe : tb (tpL f c) p = f p := by
            unfold tb
            rw [List.getD_eq_getElem?_getD, tpL_in (by omega)]
            rfl
          have nxt : ∀ (H2 : am_H) (x6 x7 : Option am_V), am_fr h H2 [52, 53] → H2 52 = some (.inl (false, 4000, upd fc i (nI (cdA (tpL f c) n p).1))) → H2 53 = some (.inl (false, 4000, upd fd i (nI (cdA (tpL f c) n p).2))) → am_At l D dA m_X10_cut d 0 0 0 0 n0 none (am_qi fun x h' => x = nI (gtS (tpL f c) n 0 n).1.length ∧ am_fr h h' [52, 53] ∧ ctM h' (gtS (tpL f c) n 0 n).1) 0 0 4 [some (am_r 46), some (.inl (nI n)), some (.inl (nI (i + 1))), some (.inl (nI (p + stA (tpL f c) n p))), some (.inl (nI (bst (tpL f c) n p p).1)), some (.inl (nI (bst (tpL f c) n p p).2)), x6, x7] [] H2 := by
            intro H2 x6 x7 F2 d1 d2
            have := ih (i + 1) H2 (some (.inl (nI (bst (tpL f c) n p p).1))) (some (.inl (nI (bst (tpL f c) n p p).2))) x6 x7 (by rw [hsn]; show n ≤ p + _ + q; omega) (by rw [hsn]; show i + 1 ≤ p + _; omega) (by rw [hsn]; show (_ ++ [_]).length = _; rw [List.length_append, hl]; rfl) F2 (by rw [hsn]; exact ctM.push c3 (by rw [hl]; exact d1) (by rw [hl]; exact d2))
            rw [hsn] at this
            exact this
          refine am_aload_n dX10_cut_80 rfl rfl ?_
          refine am_get f_X10_25 dX10_cut_81 rfl hmH rfl ?_
          refine am_iload_n dX10_cut_84 rfl rfl ?_
          refine am_iload dX10_cut_85 rfl rfl ?_
          refine am_nif_ne 99 dX10_cut_87 rfl rfl (by omega) (fun hz => ?_) (fun hz => ?_)
          · have e1 : cdA (tpL f c) n p = ((bst (tpL f c) n p p).1 + 253, (bst (tpL f c) n p p).2) := by unfold cdA; rw [if_pos hz]
            have e2 : stA (tpL f c) n p = (bst (tpL f c) n p p).1 := by unfold stA; rw [if_pos hz]
            refine am_sipush (v := nI 253) dX10_cut_99 rfl (by decide +kernel) ?_
            refine am_iload dX10_cut_102 rfl rfl ?_
            refine am_iadd dX10_cut_104 rfl ?_
            rw [nI_add]
            refine am_iast dX10_cut_105 rfl c1 (by omega) (by omega) ?_
            refine am_aload_n dX10_cut_106 rfl rfl ?_
            refine am_get f_X10_28 dX10_cut_107 rfl ((am_set_ne (by omega)).trans hmH) rfl ?_
            refine am_iload_n dX10_cut_110 rfl rfl ?_
            refine am_iload dX10_cut_111 rfl rfl ?_
            refine am_iast dX10_cut_113 rfl ((am_set_ne (by omega)).trans c2) (by omega) (by omega) ?_
            refine am_iload_n dX10_cut_114 rfl rfl ?_
            refine am_iload dX10_cut_115 rfl rfl ?_
            refine am_nif_ne 124 dX10_cut_117 rfl rfl (by omega) (fun hz2 => ?_) (fun hz2 => ?_)
            · refine am_iload dX10_cut_124 rfl rfl ?_
              refine am_iadd dX10_cut_126 rfl ?_
              rw [nI_add]
              refine am_istore_n dX10_cut_127 rfl rfl ?_
              refine am_iinc (n := 1) dX10_cut_128 rfl rfl (nI_1 i) ?_
              refine am_goto 4 dX10_cut_131 rfl rfl ?_
              rw [e1, e2] at nxt
              exact nxt _ _ _ ((F.set (by simp)).set (by simp)) (by rw [show (bst (tpL f c) n p p).1 + 253 = 253 + (bst (tpL f c) n p p).1 by omega]; exact (am_set_ne (by omega)).trans am_set_eq) am_set_eq
            · omega
          · have e1 : cdA (tpL f c) n p = (tn (tpL f c) p, 0) := by unfold cdA; rw [if_neg (by omega)]
            have e2 : stA (tpL f c) n p = 1 := by unfold stA; rw [if_neg (by omega)]
            refine am_aload_n dX10_cut_90 rfl rfl ?_
            refine am_get f_X10_7 dX10_cut_91 rfl hmH rfl ?_
            refine am_iload_n dX10_cut_94 rfl rfl ?_
            refine am_iald dX10_cut_95 rfl hfH (by omega) (by omega) ?_
            rw [← tbe, bt0.2]
            refine am_goto 105 dX10_cut_96 rfl rfl ?_
            refine am_iast dX10_cut_105 rfl c1 (by omega) (by omega) ?_
            refine am_aload_n dX10_cut_106 rfl rfl ?_
            refine am_get f_X10_28 dX10_cut_107 rfl ((am_set_ne (by omega)).trans hmH) rfl ?_
            refine am_iload_n dX10_cut_110 rfl rfl ?_
            refine am_iload dX10_cut_111 rfl rfl ?_
            refine am_iast dX10_cut_113 rfl ((am_set_ne (by omega)).trans c2) (by omega) (by omega) ?_
            refine am_iload_n dX10_cut_114 rfl rfl ?_
            refine am_iload dX10_cut_115 rfl rfl ?_
            refine am_nif_ne 124 dX10_cut_117 rfl rfl (by omega) (fun hz2 => ?_) (fun hz2 => ?_)
            · omega
            · refine am_iconst (v := nI 1) dX10_cut_120 rfl (by decide +kernel) ?_
              refine am_goto 126 dX10_cut_121 rfl rfl ?_
              refine am_iadd dX10_cut_126 rfl ?_
              rw [nI_add]
              refine am_istore_n dX10_cut_127 rfl rfl ?_
              refine am_iinc (n := 1) dX10_cut_128 rfl rfl (nI_1 i) ?_
              refine am_goto 4 dX10_cut_131 rfl rfl ?_
              rw [e1, e2] at nxt
              exact nxt _ _ _ ((F.set (by simp)).set (by simp)) ((am_set_ne (by omega)).trans am_set_eq) (by rw [← hz]; exact am_set_eq)
        have inner : ∀ (r dq : Nat) (x7 : Option am_V), dq + r = p → am_At l D dA m_X10_cut d 0 0 0 0 n0 none (am_qi fun x h' => x = nI (gtS (tpL f c) n 0 n).1.length ∧ am_fr h h' [52, 53] ∧ ctM h' (gtS (tpL f c) n 0 n).1) 0 0 18 [some (am_r 46), some (.inl (nI n)), some (.inl (nI i)), some (.inl (nI p)), some (.inl (nI (bst (tpL f c) n p dq).1)), some (.inl (nI (bst (tpL f c) n p dq).2)), some (.inl (nI (dq + 1))), x7] [] H := by
          intro r
          induction r with
          | zero =>
            intro dq x7 hD
            obtain rfl : dq = p := by omega
            refine am_iload dX10_cut_18 rfl rfl ?_
            refine am_iload_n dX10_cut_20 rfl rfl ?_
            refine am_ncmp_gt 80 dX10_cut_21 rfl rfl (by omega) (by omega) (fun hc => ?_) (fun hc => ?_)
            · exact tail _ _
            · omega
          | succ r ihr =>
            intro dq x7 hD
            have bo := bst_ok (tpL f c) n p dq
            have sl := smR_le (tpL f c) (min 256 (n - p)) (p - (dq + 1)) p
            have eb : bst (tpL f c) n p (dq + 1) = if (bst (tpL f c) n p dq).1 < smR (tpL f c) (p - (dq + 1)) p (min 256 (n - p)) then (smR (tpL f c) (p - (dq + 1)) p (min 256 (n - p)), dq + 1) else (bst (tpL f c) n p dq) := by rw [bst]
            have bq : (bst (tpL f c) n p dq).1 < 2 ^ 20 := by
              by_cases z : (bst (tpL f c) n p dq).2 = 0
              · rw [bo.2.2.1 z]; omega
              · have := (bo.2.2.2 (by omega)).2; omega
            refine am_iload dX10_cut_18 rfl rfl ?_
            refine am_iload_n dX10_cut_20 rfl rfl ?_
            refine am_ncmp_gt 80 dX10_cut_21 rfl rfl (by omega) (by omega) (fun hc => ?_) (fun hc => ?_)
            · omega
            · refine am_iload dX10_cut_24 rfl rfl ?_
              refine am_sipush (v := nI 8191) dX10_cut_26 rfl (by decide +kernel) ?_
              refine am_ncmp_gt 80 dX10_cut_29 rfl rfl (by omega) (by omega) (fun h81 => ?_) (fun h81 => ?_)
              · omega
              · refine am_aload_n dX10_cut_32 rfl rfl ?_
                refine am_iload_n dX10_cut_33 rfl rfl ?_
                refine am_iload dX10_cut_34 rfl rfl ?_
                refine am_iload_n dX10_cut_36 rfl rfl ?_
                refine am_vi (t_X10_same (d - 1) _ hmH hfH hn hc4 (p := p) (dd := dq + 1) (by omega) (by omega)) k_X10_same l_X10_120 dX10_cut_37 rfl rfl rfl rfl hmH (by omega) (Nat.le_refl _) (Nat.le_refl _) (fun z h1 hx => ?_)
                obtain ⟨rfl, hh⟩ := hx
                obtain rfl := hh.symm
                refine am_istore dX10_cut_40 rfl rfl ?_
                refine am_iload dX10_cut_42 rfl rfl ?_
                refine am_iload dX10_cut_44 rfl rfl ?_
                refine am_ncmp_le 54 dX10_cut_46 rfl rfl (by omega) (by omega) (fun hk1 => ?_) (fun hk1 => ?_)
                · refine am_iload dX10_cut_54 rfl rfl ?_
                  refine am_istore dX10_cut_56 rfl rfl ?_
                  refine am_iload dX10_cut_58 rfl rfl ?_
                  refine am_iload dX10_cut_60 rfl rfl ?_
                  refine am_ncmp_le 70 dX10_cut_62 rfl rfl (by omega) (by omega) (fun hk2 => ?_) (fun hk2 => ?_)
                  · refine am_iload dX10_cut_70 rfl rfl ?_
                    refine am_istore dX10_cut_72 rfl rfl ?_
                    refine am_iinc (n := 1) dX10_cut_74 rfl rfl (nI_1 (dq + 1)) ?_
                    refine am_goto 18 dX10_cut_77 rfl rfl ?_
                    rw [if_neg (by omega)] at eb
                    have := ihr (dq + 1) (some (.inl (nI (smR (tpL f c) (p - (dq + 1)) p (min 256 (n - p)))))) (by omega)
                    rw [eb] at this
                    exact this
                  · omega
                · refine am_iload dX10_cut_49 rfl rfl ?_
                  refine am_goto 56 dX10_cut_51 rfl rfl ?_
                  refine am_istore dX10_cut_56 rfl rfl ?_
                  refine am_iload dX10_cut_58 rfl rfl ?_
                  refine am_iload dX10_cut_60 rfl rfl ?_
                  refine am_ncmp_le 70 dX10_cut_62 rfl rfl (by omega) (by omega) (fun hk2 => ?_) (fun hk2 => ?_)
                  · omega
                  · refine am_iload dX10_cut_65 rfl rfl ?_
                    refine am_goto 72 dX10_cut_67 rfl rfl ?_
                    refine am_istore dX10_cut_72 rfl rfl ?_
                    refine am_iinc (n := 1) dX10_cut_74 rfl rfl (nI_1 (dq + 1)) ?_
                    refine am_goto 18 dX10_cut_77 rfl rfl ?_
                    rw [if_pos (by omega)] at eb
                    have := ihr (dq + 1) (some (.inl (nI (smR (tpL f c) (p - (dq + 1)) p (min 256 (n - p)))))) (by omega)
                    rw [eb] at this
                    exact this
        exact inner p 0 _ (by omega)
  exact loop n 0 h _ _ _ _ (by show n ≤ 0 + n; omega) (Nat.le_refl _) rfl am_fr.rf (by obtain ⟨a, a1⟩ := h52; obtain ⟨b, b1⟩ := h53; exact ⟨a, b, a1, b1, fun i x hi => by simp [gtS] at hi⟩)
set_option maxHeartbeats 4000000 in
set_option maxRecDepth 100000 in
theorem t_X10_tellAll (d n0 : Nat) {h : am_H} {ct md : Nat} {to : Bool} {bl co cp bi en fa tc : Nat} (hm : h 46 = some (mO ct md to bl co cp bi en fa tc)) (h57 : ars h 57 600) (h58 : ars h 58 1200) (h59 : ars h 59 1200) {gl : Nat → Int32} (h49 : h 49 = some (.inl (false, 1800, gl))) {len : Nat → Nat} (hgl : ∀ s, s < sym 1 → gl (600 * 1 + s) = nI (len s) ∧ len s ≤ 16) (hd : 2 ≤ d) : am_Ct l D dA m_X10_tellAll d 0 0 n0 [am_r 46] h (am_qv fun h' => am_fr h h' [46, 57, 58, 59] ∧ h' 46 = some (mO ct md to bl co cp bi en fa (tel len (lst len (sym 1)) (lst len (sym 1)) 0).length) ∧ tlM h' (tel len (lst len (sym 1)) (lst len (sym 1)) 0)) := by
  refine am_Cv (by decide +kernel) rfl rfl ?_
  have hs1 : sym 1 = 510 := rfl
  refine am_aload_n dX10_tellAll_0 rfl rfl ?_
  refine am_vv (t_X10_clearTimes (d - 1) _ hm h57) k_X10_clearTimes l_X10_130 dX10_tellAll_1 rfl rfl rfl rfl hm (by omega) (Nat.le_refl _) (Nat.le_refl _) (fun h1 hx => ?_)
  obtain ⟨g7, e1, z7⟩ := hx
  have F1 : am_fr h h1 [46, 57, 58, 59] := by rw [e1]; exact am_fr.rf.set (by simp)
  have m1 := (show h1 46 = h 46 by rw [e1]; exact am_set_ne (by omega)).trans hm
  have n1 : h1 57 = some (.inl (false, 600, g7)) := by rw [e1]; exact am_set_eq
  obtain ⟨f8, h58⟩ := h58
  obtain ⟨f9, h59⟩ := h59
  have p1 := (show h1 58 = h 58 by rw [e1]; exact am_set_ne (by omega)).trans h58
  have q1 := (show h1 59 = h 59 by rw [e1]; exact am_set_ne (by omega)).trans h59
  clear e1
  refine am_aload_n dX10_tellAll_4 rfl rfl ?_
  refine am_iconst (v := nI 0) dX10_tellAll_5 rfl (by decide +kernel) ?_
  refine am_put f_X10_127 dX10_tellAll_6 rfl m1 (am_fit_i _) rfl ?_
  obtain ⟨H2, e2⟩ : ∃ H2, H2 = am_set h1 46 (mO ct md to bl co cp bi en fa 0) := ⟨_, rfl⟩
  refine am_eq rfl rfl rfl e2.symm ?_
  have F2 : am_fr h H2 [46, 57, 58, 59] := by rw [e2]; exact F1.set (by simp)
  have m2 : H2 46 = some (mO ct md to bl co cp bi en fa 0) := by rw [e2]; exact am_set_eq
  have T2 : tlM H2 [] := by
    rw [e2]
    exact ⟨⟨f8, f9, (am_set_ne (by omega)).trans p1, (am_set_ne (by omega)).trans q1, fun i x hi => by simp at hi⟩, g7, (am_set_ne (by omega)).trans n1, fun j hj => z7 j hj⟩
  clear e2
  refine am_aload_n dX10_tellAll_9 rfl rfl ?_
  refine am_iconst (v := nI 1) dX10_tellAll_10 rfl (by decide +kernel) ?_
  refine am_vi (t_X10_last (d - 1) _ m2 (t := 1) (by omega) ((F2 49 (by simp)).trans h49) hgl (by omega)) k_X10_last l_X10_133 dX10_tellAll_11 rfl rfl rfl rfl m2 (by omega) (Nat.le_refl _) (Nat.le_refl _) (fun x h1 hx => ?_)
  obtain ⟨rfl, hh⟩ := hx
  obtain rfl := hh.symm
  refine am_istore_n dX10_tellAll_14 rfl rfl ?_
  refine am_iconst (v := nI 0) dX10_tellAll_15 rfl (by decide +kernel) ?_
  refine am_istore_n dX10_tellAll_16 rfl rfl ?_
  have hln := lst_le len (sym 1)
  have hlast : 0 < lst len (sym 1) → len (lst len (sym 1) - 1) ≠ 0 := lst_in
  obtain ⟨n, en1⟩ : ∃ n, n = lst len (sym 1) := ⟨_, rfl⟩
  rw [← en1] at hln hlast ⊢
  clear en1
  have loop : ∀ (q i : Nat) (ls : List (Nat × Nat)) (H : am_H) (x3 : Option am_V), n ≤ i + q → i ≤ n → ls.length ≤ i → ls ++ tel len n q i = (tel len n n 0) → am_fr h H [46, 57, 58, 59] → H 46 = some (mO ct md to bl co cp bi en fa ls.length) → tlM H ls → am_At l D dA m_X10_tellAll d 0 0 0 0 n0 none (am_qv fun h' => am_fr h h' [46, 57, 58, 59] ∧ h' 46 = some (mO ct md to bl co cp bi en fa (tel len n n 0).length) ∧ tlM h' (tel len n n 0)) 0 0 17 [some (am_r 46), some (.inl (nI n)), some (.inl (nI i)), x3] [] H := by
    intro q
    induction q with
    | zero =>
      intro i ls H x3 hq hi hll hR F m3 T3
      have hR : ls ++ [] = _ := hR
      rw [List.append_nil] at hR
      refine am_iload_n dX10_tellAll_17 rfl rfl ?_
      refine am_iload_n dX10_tellAll_18 rfl rfl ?_
      refine am_ncmp_ge 152 dX10_tellAll_19 rfl rfl (by omega) (by omega) (fun hc => ?_) (fun hc => ?_)
      · exact am_rv dX10_tellAll_152 rfl rfl rfl ⟨F, by rw [← hR]; exact m3, by rw [← hR]; exact T3⟩
      · omega
    | succ q ih =>
      intro i ls H x3 hq hi hll hR F m3 T3
      rw [tel] at hR
      have h4 := (F 49 (by simp)).trans h49
      refine am_iload_n dX10_tellAll_17 rfl rfl ?_
      refine am_iload_n dX10_tellAll_18 rfl rfl ?_
      refine am_ncmp_ge 152 dX10_tellAll_19 rfl rfl (by omega) (by omega) (fun hc => ?_) (fun hc => ?_)
      · rw [if_pos hc, List.append_nil] at hR
        exact am_rv dX10_tellAll_152 rfl rfl rfl ⟨F, by rw [← hR]; exact m3, by rw [← hR]; exact T3⟩
      · rw [if_neg (by omega)] at hR
        have hzl := zrs_le len (n - i) i
        refine am_iconst (v := nI 0) dX10_tellAll_22 rfl (by decide +kernel) ?_
        refine am_istore_n dX10_tellAll_23 rfl rfl ?_
        have aft : ∀ (z : Nat), z = zrs len i (n - i) → z < n - i → am_At l D dA m_X10_tellAll d 0 0 0 0 n0 none (am_qv fun h' => am_fr h h' [46, 57, 58, 59] ∧ h' 46 = some (mO ct md to bl co cp bi en fa (tel len n n 0).length) ∧ tlM h' (tel len n n 0)) 0 0 45 [some (am_r 46), some (.inl (nI n)), some (.inl (nI i)), some (.inl (nI z))] [] H := by
          intro z hz hzn
          rw [← hz] at hR
          refine am_iload_n dX10_tellAll_45 rfl rfl ?_
          refine am_nif_ne 72 dX10_tellAll_46 rfl rfl (by omega) (fun hz0 => ?_) (fun hz0 => ?_)
          · rw [if_neg (by omega)] at hR
            refine am_iload_n dX10_tellAll_72 rfl rfl ?_
            refine am_iload_n dX10_tellAll_73 rfl rfl ?_
            refine am_iadd dX10_tellAll_74 rfl ?_
            rw [nI_add]
            refine am_istore_n dX10_tellAll_75 rfl rfl ?_
            refine am_iload_n dX10_tellAll_76 rfl rfl ?_
            refine am_iconst (v := nI 3) dX10_tellAll_77 rfl (by decide +kernel) ?_
            refine am_ncmp_ge 101 dX10_tellAll_78 rfl rfl (by omega) (by omega) (fun hz3 => ?_) (fun hz3 => ?_)
            · refine am_iload_n dX10_tellAll_101 rfl rfl ?_
              refine am_bipush (v := nI 19) dX10_tellAll_102 rfl (by decide +kernel) ?_
              refine am_ncmp_ge 118 dX10_tellAll_104 rfl rfl (by omega) (by omega) (fun hz19 => ?_) (fun hz19 => ?_)
              · refine am_iload_n dX10_tellAll_118 rfl rfl ?_
                refine am_bipush (v := nI 19) dX10_tellAll_119 rfl (by decide +kernel) ?_
                refine am_ncmp_ne 140 dX10_tellAll_121 rfl rfl (by omega) (by omega) (fun hz20 => ?_) (fun hz20 => ?_)
                · have ez : zt z = [(2, z - 20)] := by unfold zt; rw [if_pos (by omega)]
                  refine am_aload_n dX10_tellAll_140 rfl rfl ?_
                  refine am_iconst (v := nI 2) dX10_tellAll_141 rfl (by decide +kernel) ?_
                  refine am_iload_n dX10_tellAll_142 rfl rfl ?_
                  refine am_bipush (v := nI 20) dX10_tellAll_143 rfl (by decide +kernel) ?_
                  refine am_isub dX10_tellAll_145 rfl ?_
                  rw [pk_sub (by omega)]
                  refine am_vv (t_X10_tell (d - 1) _ m3 T3 (by omega) (y := 2) (e := z - 20) (by omega)) k_X10_tell l_X10_136 dX10_tellAll_146 rfl rfl rfl rfl m3 (by omega) (Nat.le_refl _) (Nat.le_refl _) (fun t0 hx => ?_)
                  obtain ⟨f0, m0, T0⟩ := hx
                  refine am_goto 17 dX10_tellAll_149 rfl rfl ?_
                  exact ih (i + z) (ls ++ [(2, z - 20)]) _ _ (by omega) (by omega) (by simp only [List.length_append, List.length_cons, List.length_nil]; omega) (by rw [← hR]; rw [ez, List.append_assoc]) (F.tr f0 (by simp)) m0 T0
                · have ez : zt z = [(0, 0), (1, 15)] := by unfold zt; rw [if_neg (by omega), if_pos (by omega)]
                  refine am_aload_n dX10_tellAll_124 rfl rfl ?_
                  refine am_iconst (v := nI 0) dX10_tellAll_125 rfl (by decide +kernel) ?_
                  refine am_iconst (v := nI 0) dX10_tellAll_126 rfl (by decide +kernel) ?_
                  refine am_vv (t_X10_tell (d - 1) _ m3 T3 (by omega) (y := 0) (e := 0) (by omega)) k_X10_tell l_X10_136 dX10_tellAll_127 rfl rfl rfl rfl m3 (by omega) (Nat.le_refl _) (Nat.le_refl _) (fun t0 hx => ?_)
                  obtain ⟨f0, m0, T0⟩ := hx
                  refine am_aload_n dX10_tellAll_130 rfl rfl ?_
                  refine am_iconst (v := nI 1) dX10_tellAll_131 rfl (by decide +kernel) ?_
                  refine am_bipush (v := nI 15) dX10_tellAll_132 rfl (by decide +kernel) ?_
                  refine am_vv (t_X10_tell (d - 1) _ m0 T0 (by rw [List.length_append]; show _ + 1 < _; omega) (y := 1) (e := 15) (by omega)) k_X10_tell l_X10_136 dX10_tellAll_134 rfl rfl rfl rfl m0 (by omega) (Nat.le_refl _) (Nat.le_refl _) (fun t1 hx => ?_)
                  obtain ⟨f1, m1, T1⟩ := hx
                  refine am_goto 149 dX10_tellAll_137 rfl rfl ?_
                  refine am_goto 17 dX10_tellAll_149 rfl rfl ?_
                  exact ih (i + z) ((ls ++ [(0, 0)]) ++ [(1, 15)]) _ _ (by omega) (by omega) (by simp only [List.length_append, List.length_cons, List.length_nil]; omega) (by rw [← hR]; rw [ez, List.append_assoc, List.append_assoc]; rfl) ((F.tr f0 (by simp)).tr f1 (by simp)) m1 T1
              · have ez : zt z = [(1, z - 3)] := by unfold zt; rw [if_neg (by omega), if_neg (by omega), if_pos (by omega)]
                refine am_aload_n dX10_tellAll_107 rfl rfl ?_
                refine am_iconst (v := nI 1) dX10_tellAll_108 rfl (by decide +kernel) ?_
                refine am_iload_n dX10_tellAll_109 rfl rfl ?_
                refine am_iconst (v := nI 3) dX10_tellAll_110 rfl (by decide +kernel) ?_
                refine am_isub dX10_tellAll_111 rfl ?_
                rw [pk_sub (by omega)]
                refine am_vv (t_X10_tell (d - 1) _ m3 T3 (by omega) (y := 1) (e := z - 3) (by omega)) k_X10_tell l_X10_136 dX10_tellAll_112 rfl rfl rfl rfl m3 (by omega) (Nat.le_refl _) (Nat.le_refl _) (fun t0 hx => ?_)
                obtain ⟨f0, m0, T0⟩ := hx
                refine am_goto 149 dX10_tellAll_115 rfl rfl ?_
                refine am_goto 17 dX10_tellAll_149 rfl rfl ?_
                exact ih (i + z) (ls ++ [(1, z - 3)]) _ _ (by omega) (by omega) (by simp only [List.length_append, List.length_cons, List.length_nil]; omega) (by rw [← hR]; rw [ez, List.append_assoc]) (F.tr f0 (by simp)) m0 T0
            · have ez : zt z = List.replicate z (0, 0) := by unfold zt; rw [if_neg (by omega), if_neg (by omega), if_neg (by omega)]
              refine am_aload_n dX10_tellAll_81 rfl rfl ?_
              refine am_iconst (v := nI 0) dX10_tellAll_82 rfl (by decide +kernel) ?_
              refine am_iconst (v := nI 0) dX10_tellAll_83 rfl (by decide +kernel) ?_
              refine am_vv (t_X10_tell (d - 1) _ m3 T3 (by omega) (y := 0) (e := 0) (by omega)) k_X10_tell l_X10_136 dX10_tellAll_84 rfl rfl rfl rfl m3 (by omega) (Nat.le_refl _) (Nat.le_refl _) (fun t0 hx => ?_)
              obtain ⟨f0, m0, T0⟩ := hx
              refine am_iload_n dX10_tellAll_87 rfl rfl ?_
              refine am_iconst (v := nI 2) dX10_tellAll_88 rfl (by decide +kernel) ?_
              refine am_ncmp_ne 149 dX10_tellAll_89 rfl rfl (by omega) (by omega) (fun hz2 => ?_) (fun hz2 => ?_)
              · obtain rfl : z = 1 := by omega
                refine am_goto 17 dX10_tellAll_149 rfl rfl ?_
                exact ih (i + 1) (ls ++ [(0, 0)]) _ _ (by omega) (by omega) (by simp only [List.length_append, List.length_cons, List.length_nil]; omega) (by rw [← hR, ez, List.append_assoc]; rfl) (F.tr f0 (by simp)) m0 T0
              · obtain rfl : z = 2 := hz2
                refine am_aload_n dX10_tellAll_92 rfl rfl ?_
                refine am_iconst (v := nI 0) dX10_tellAll_93 rfl (by decide +kernel) ?_
                refine am_iconst (v := nI 0) dX10_tellAll_94 rfl (by decide +kernel) ?_
                refine am_vv (t_X10_tell (d - 1) _ m0 T0 (by rw [List.length_append]; show _ + 1 < _; omega) (y := 0) (e := 0) (by omega)) k_X10_tell l_X10_136 dX10_tellAll_95 rfl rfl rfl rfl m0 (by omega) (Nat.le_refl _) (Nat.le_refl _) (fun t1 hx => ?_)
                obtain ⟨f1, m1, T1⟩ := hx
                refine am_goto 149 dX10_tellAll_98 rfl rfl ?_
                refine am_goto 17 dX10_tellAll_149 rfl rfl ?_
                exact ih (i + 2) (ls ++ [(0, 0)] ++ [(0, 0)]) _ _ (by omega) (by omega) (by simp only [List.length_append, List.length_cons, List.length_nil]; omega) (by rw [← hR, ez, List.append_assoc, List.append_assoc]; rfl) ((F.tr f0 (by simp)).tr f1 (by simp)) m1 T1
          · subst hz0
            rw [if_pos rfl] at hR
            obtain ⟨q1, q2⟩ := hgl i (by omega)
            refine am_aload_n dX10_tellAll_49 rfl rfl ?_
            refine am_aload_n dX10_tellAll_50 rfl rfl ?_
            refine am_get f_X10_16 dX10_tellAll_51 rfl m3 rfl ?_
            refine am_sipush (v := nI 600) dX10_tellAll_54 rfl (by decide +kernel) ?_
            refine am_iload_n dX10_tellAll_57 rfl rfl ?_
            refine am_iadd dX10_tellAll_58 rfl ?_
            rw [nI_add]
            refine am_iald dX10_tellAll_59 rfl h4 (by omega) (by omega) ?_
            rw [show 600 + i = 600 * 1 + i by omega, q1]
            refine am_iconst (v := nI 2) dX10_tellAll_60 rfl (by decide +kernel) ?_
            refine am_iadd dX10_tellAll_61 rfl ?_
            rw [nI_add]
            refine am_iconst (v := nI 0) dX10_tellAll_62 rfl (by decide +kernel) ?_
            refine am_vv (t_X10_tell (d - 1) _ m3 T3 (by omega) (y := len i + 2) (e := 0) (by omega)) k_X10_tell l_X10_136 dX10_tellAll_63 rfl rfl rfl rfl m3 (by omega) (Nat.le_refl _) (Nat.le_refl _) (fun t0 hx => ?_)
            obtain ⟨f0, m0, T0⟩ := hx
            refine am_iinc (n := 1) dX10_tellAll_66 rfl rfl (nI_1 i) ?_
            refine am_goto 149 dX10_tellAll_69 rfl rfl ?_
            refine am_goto 17 dX10_tellAll_149 rfl rfl ?_
            exact ih (i + 1) (ls ++ [(len i + 2, 0)]) _ _ (by omega) (by omega) (by simp only [List.length_append, List.length_cons, List.length_nil]; omega) (by rw [← hR, List.append_assoc]; rfl) (F.tr f0 (by simp)) m0 T0
        have scan : ∀ (r z : Nat), z + r + 1 = n - i → z + zrs len (i + z) (r + 1) = zrs len i (n - i) → am_At l D dA m_X10_tellAll d 0 0 0 0 n0 none (am_qv fun h' => am_fr h h' [46, 57, 58, 59] ∧ h' 46 = some (mO ct md to bl co cp bi en fa (tel len n n 0).length) ∧ tlM h' (tel len n n 0)) 0 0 24 [some (am_r 46), some (.inl (nI n)), some (.inl (nI i)), some (.inl (nI z))] [] H := by
          intro r
          induction r with
          | zero =>
            intro z hz he
            obtain ⟨q1, q2⟩ := hgl (i + z) (by omega)
            rw [zrs] at he
            refine am_aload_n dX10_tellAll_24 rfl rfl ?_
            refine am_get f_X10_16 dX10_tellAll_25 rfl m3 rfl ?_
            refine am_sipush (v := nI 600) dX10_tellAll_28 rfl (by decide +kernel) ?_
            refine am_iload_n dX10_tellAll_31 rfl rfl ?_
            refine am_iadd dX10_tellAll_32 rfl ?_
            rw [nI_add]
            refine am_iload_n dX10_tellAll_33 rfl rfl ?_
            refine am_iadd dX10_tellAll_34 rfl ?_
            rw [nI_add, show 600 + i + z = 600 * 1 + (i + z) by omega]
            refine am_iald dX10_tellAll_35 rfl h4 (by omega) (by omega) ?_
            rw [q1]
            refine am_nif_ne 45 dX10_tellAll_36 rfl rfl (by omega) (fun hl0 => ?_) (fun hl0 => ?_)
            · rw [if_neg (by omega)] at he
              exact aft z (by omega) (by omega)
            · exfalso
              exact hlast (by omega) (by rw [show n - 1 = i + z by omega]; exact hl0)
          | succ r ihr =>
            intro z hz he
            obtain ⟨q1, q2⟩ := hgl (i + z) (by omega)
            rw [zrs] at he
            refine am_aload_n dX10_tellAll_24 rfl rfl ?_
            refine am_get f_X10_16 dX10_tellAll_25 rfl m3 rfl ?_
            refine am_sipush (v := nI 600) dX10_tellAll_28 rfl (by decide +kernel) ?_
            refine am_iload_n dX10_tellAll_31 rfl rfl ?_
            refine am_iadd dX10_tellAll_32 rfl ?_
            rw [nI_add]
            refine am_iload_n dX10_tellAll_33 rfl rfl ?_
            refine am_iadd dX10_tellAll_34 rfl ?_
            rw [nI_add, show 600 + i + z = 600 * 1 + (i + z) by omega]
            refine am_iald dX10_tellAll_35 rfl h4 (by omega) (by omega) ?_
            rw [q1]
            refine am_nif_ne 45 dX10_tellAll_36 rfl rfl (by omega) (fun hl0 => ?_) (fun hl0 => ?_)
            · rw [if_neg (by omega)] at he
              exact aft z (by omega) (by omega)
            · rw [if_pos hl0] at he
              refine am_iinc (n := 1) dX10_tellAll_39 rfl rfl (nI_1 z) ?_
              refine am_goto 24 dX10_tellAll_42 rfl rfl ?_
              exact ihr (z + 1) (by omega) (by rw [show i + (z + 1) = i + z + 1 by omega]; omega)
        exact scan (n - i - 1) 0 (by omega) (by rw [Nat.zero_add, show n - i - 1 + 1 = n - i by omega]; rfl)
  exact loop n 0 [] H2 _ (by omega) (Nat.zero_le _) (Nat.zero_le _) rfl F2 m2 T2
end MOD9
