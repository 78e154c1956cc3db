/-! ===== Unpacker: a code, a symbol alone, lengths ===== -/
section UNP2
variable {l : Launch} {D : va_G} {dA : Bool → ClassId}
theorem rdy.at {h h' : am_H} {t m : Nat} {al : Int32} {len : Nat → Nat} (a : rdy h t m al len) (e : ∀ j, t ≤ j → j ≤ t + 7 → h' j = h j) : rdy h' t m al len :=
  ⟨fun g => by obtain ⟨a1, a2, a3⟩ := a.1 g; exact ⟨a1.keep (fun j x y => e j (by omega) (by omega)), a2, a3⟩, a.2⟩
theorem SR_lt {len : Nat → Nat} {m : Nat} {al : Int32} {f : Nat → Int32} {k n s : Nat} (h : SR len m al f k n s) : n ≤ 16 := by
  rcases h.2 with ⟨-, -, e⟩ | ⟨-, -, e⟩
  · omega
  · exact e.2.1
set_option maxHeartbeats 4000000 in
set_option maxRecDepth 100000 in
theorem t_X8_unpackCode (d n0 : Nat) {h : am_H} {wa : Nat} (hu : h 30 = some (unO wa)) {bs : List Int32} (hp : rws h 3 4 12000 bs) {op : Bool} {bl co cp bi : Nat} (hac : h 5 = some (acO op bl co cp bi)) {E k c : Nat} {f : Nat → Int32} (hs : h 31 = some (bsO 1 E k)) (hr : h 1 = some (rwO 2 c)) (hta : h 2 = some (.inl (false, 4000, f))) (hE : E ≤ 32000) (hk : k ≤ E) (hwa : wa ≤ 8000) (hbl : bs.length < wa) {lenC lenP : Nat → Nat} {alC alP : Int32} (hC : h 14 = some (trO 14 alC)) (hrC : rdy h 14 510 alC lenC) (hP : h 22 = some (trO 22 alP)) (hrP : rdy h 22 14 alP lenP) (hd : 3 ≤ d) : am_Ct l D dA m_X8_unpackCode d 0 0 n0 [am_r 30] h (am_qi fun x h' => x = nI (oneR lenC alC lenP alP f E wa k bs co cp).1 ∧ am_fr h h' [3, 4, 5, 31] ∧ h' 31 = some (bsO 1 E (oneR lenC alC lenP alP f E wa k bs co cp).2.1) ∧ rws h' 3 4 12000 (oneR lenC alC lenP alP f E wa k bs co cp).2.2.1 ∧ h' 5 = some (acO op bl (oneR lenC alC lenP alP f E wa k bs co cp).2.2.2.1 (oneR lenC alC lenP alP f E wa k bs co cp).2.2.2.2 bi) ∧ (oneR lenC alC lenP alP f E wa k bs co cp).2.1 ≤ E ∧ (oneR lenC alC lenP alP f E wa k bs co cp).2.2.1.length ≤ wa) := by
  refine am_Ci (by decide +kernel) rfl rfl ?_
  have hS1 := sy_spec hrC f k
  obtain ⟨⟨w1, y1⟩, ec⟩ : ∃ p, p = sy lenC 510 alC f k := ⟨_, rfl⟩
  rw [← ec] at hS1
  have hy1 := hS1.1
  have hw1 := SR_lt hS1
  dsimp only at hS1 hy1 hw1
  refine am_aload_n dX8_unpackCode_0 rfl rfl ?_
  refine am_get f_X8_14 dX8_unpackCode_1 rfl hu rfl ?_
  refine am_aload_n dX8_unpackCode_4 rfl rfl ?_
  refine am_get f_X8_38 dX8_unpackCode_5 rfl hu rfl ?_
  refine am_vi (t_X2_takeSymbol (d - 1) _ hs hr hta (by omega) (by decide) hk (by decide) (by decide) hC (by decide) hrC (fun j a b => by omega) hS1 (by omega)) k_X2_takeSymbol l_X8_123 dX8_unpackCode_8 rfl rfl rfl rfl hs (by omega) (Nat.le_refl _) (Nat.le_refl _) (fun x h1 hx => ?_)
  obtain ⟨hx1, hx2⟩ := hx
  by_cases hE1 : k + w1 ≤ E
  · obtain ⟨rfl, e1⟩ := hx1 hE1
    have f1 : am_fr h h1 [31] := by rw [e1]; exact am_fr.rf.set (by simp)
    have g31 : h1 31 = some (bsO 1 E (k + w1)) := by rw [e1]; exact am_set_eq
    have hu1 := (f1 30 (by simp)).trans hu
    have hp1 := hp.at (h' := h1) (f1 3 (by simp)) (f1 4 (by simp))
    have hac1 := (f1 5 (by simp)).trans hac
    have hr1 := (f1 1 (by simp)).trans hr
    have hta1 := (f1 2 (by simp)).trans hta
    have hP1 := (f1 22 (by simp)).trans hP
    have hrP1 := hrP.at (h' := h1) (fun j a b => f1 j (by simp; omega))
    have p3 := hp1.choose_spec.1
    refine am_istore_n dX8_unpackCode_11 rfl rfl ?_
    refine am_iload_n dX8_unpackCode_12 rfl rfl ?_
    refine am_iconst (v := -1) dX8_unpackCode_13 rfl (by decide +kernel) ?_
    refine am_icmp_ne 19 dX8_unpackCode_14 rfl rfl (fun hc => ?_) (fun hc => ?_)
    · refine am_iload_n dX8_unpackCode_19 rfl rfl ?_
      refine am_sipush (v := nI 256) dX8_unpackCode_20 rfl (by decide +kernel) ?_
      refine am_ncmp_ge 43 dX8_unpackCode_23 rfl rfl (by omega) (by omega) (fun hc => ?_) (fun hc => ?_)
      · have hS2 := sy_spec hrP1 f (k + w1)
        obtain ⟨⟨w2, y2⟩, eq⟩ : ∃ p, p = sy lenP 14 alP f (k + w1) := ⟨_, rfl⟩
        rw [← eq] at hS2
        have hy2 := hS2.1
        have hw2 := SR_lt hS2
        dsimp only at hS2 hy2 hw2
        refine am_aload_n dX8_unpackCode_43 rfl rfl ?_
        refine am_get f_X8_14 dX8_unpackCode_44 rfl hu1 rfl ?_
        refine am_aload_n dX8_unpackCode_47 rfl rfl ?_
        refine am_get f_X8_41 dX8_unpackCode_48 rfl hu1 rfl ?_
        refine am_vi (t_X2_takeDistance (d - 1) _ g31 hr1 hta1 (by omega) (by decide) hE1 (by decide) (by decide) hP1 (by decide) hrP1 (fun j a b => by omega) hS2 (by omega)) k_X2_takeDistance l_X8_139 dX8_unpackCode_51 rfl rfl rfl rfl g31 (by omega) (Nat.le_refl _) (Nat.le_refl _) (fun x h2 hx => ?_)
        obtain ⟨hx3, hx4⟩ := hx
        by_cases hE2 : k + w1 + w2 + (y2 - 1) ≤ E
        · obtain ⟨rfl, e2⟩ := hx3 hE2
          have hp2 : 2 ^ (y2 - 1) ≤ 2 ^ 13 := Nat.pow_le_pow_right (by omega) (by omega)
          have hnl := num_lt f (k + w1 + w2) (y2 - 1)
          have hds : dst f (k + w1 + w2) y2 ≤ 2 ^ 14 + 1 := by
            unfold dst
            split <;> omega
          have hds1 : 1 ≤ dst f (k + w1 + w2) y2 := by
            unfold dst
            split <;> omega
          have f2 : am_fr h1 h2 [31] := by rw [e2]; exact am_fr.rf.set (by simp)
          have k31 : h2 31 = some (bsO 1 E (k + w1 + w2 + (y2 - 1))) := by rw [e2]; exact am_set_eq
          have hu2 := (f2 30 (by simp)).trans hu1
          have hp2 := hp1.at (h' := h2) (f2 3 (by simp)) (f2 4 (by simp))
          have hac2 := (f2 5 (by simp)).trans hac1
          have p3 := hp2.choose_spec.1
          refine am_istore_n dX8_unpackCode_54 rfl rfl ?_
          refine am_iload_n dX8_unpackCode_55 rfl rfl ?_
          refine am_iconst (v := -1) dX8_unpackCode_56 rfl (by decide +kernel) ?_
          refine am_icmp_ne 62 dX8_unpackCode_57 rfl rfl (fun hc => ?_) (fun hc => ?_)
          · refine am_iload_n dX8_unpackCode_62 rfl rfl ?_
            refine am_aload_n dX8_unpackCode_63 rfl rfl ?_
            refine am_get f_X8_20 dX8_unpackCode_64 rfl hu2 rfl ?_
            refine am_vi (t_count (d - 1) _ hp2) k_X3_count l_X8_73 dX8_unpackCode_67 rfl rfl rfl rfl p3 (by omega) (Nat.le_refl _) (Nat.le_refl _) (fun x h1 hx => ?_)
            obtain ⟨rfl, hh⟩ := hx
            obtain rfl := hh.symm
            refine am_ncmp_le 77 dX8_unpackCode_70 rfl rfl (by omega) (by omega) (fun hc => ?_) (fun hc => ?_)
            · refine am_aload_n dX8_unpackCode_77 rfl rfl ?_
              refine am_iload_n dX8_unpackCode_78 rfl rfl ?_
              refine am_sipush (v := nI 253) dX8_unpackCode_79 rfl (by decide +kernel) ?_
              refine am_isub dX8_unpackCode_82 rfl ?_
              rw [pk_sub (by omega)]
              refine am_iload_n dX8_unpackCode_83 rfl rfl ?_
              refine am_vi (t_X8_copy (d - 1) _ hu2 hp2 hac2 hwa (by omega) (ln := y1 - 253) (by omega) hds1 hc (by omega)) k_X8_copy l_X8_142 dX8_unpackCode_84 rfl rfl rfl rfl hu2 (by omega) (Nat.le_refl _) (Nat.le_refl _) (fun x h1 hx => ?_)
              obtain ⟨rfl, f3, w3, g5⟩ := hx
              have eo : (oneR lenC alC lenP alP f E wa k bs co cp) = ((if wa - bs.length < y1 - 253 then 5 else 0), k + w1 + w2 + (y2 - 1), cpl bs (dst f (k + w1 + w2) y2) (min (y1 - 253) (wa - bs.length)), co + 1, cp + 1) := by
                unfold oneR
                rw [← ec]
                dsimp only
                rw [← eq]
                dsimp only
                rw [if_neg (by omega), if_neg (by omega), if_neg (by omega), if_neg (by omega)]
              exact am_ri dX8_unpackCode_87 rfl rfl rfl (by rw [eo]; exact ⟨rfl, (am_fr.tr (am_fr.tr (am_fr.rf.tr f1 (by simp)) f2 (by simp)) f3 (by simp)), (f3 31 (by simp)).trans k31, w3, g5, hE2, by rw [cpl_len]; omega⟩)
            · have eo : (oneR lenC alC lenP alP f E wa k bs co cp) = (4, k + w1 + w2 + (y2 - 1), bs, co, cp) := by
                unfold oneR
                rw [← ec]
                dsimp only
                rw [← eq]
                dsimp only
                rw [if_neg (by omega), if_neg (by omega), if_neg (by omega), if_pos hc]
              refine am_iconst (v := nI 4) dX8_unpackCode_73 rfl (by decide +kernel) ?_
              refine am_goto 87 dX8_unpackCode_74 rfl rfl ?_
              exact am_ri dX8_unpackCode_87 rfl rfl rfl (by rw [eo]; exact ⟨rfl, (am_fr.tr (am_fr.rf.tr f1 (by simp)) f2 (by simp)), k31, hp2, hac2, hE2, Nat.le_of_lt hbl⟩)
          · exact absurd hc (am_nm1 (by omega))
        · obtain ⟨rfl, e2⟩ := hx4 (by omega)
          have f2 : am_fr h1 h2 [31] := by rw [e2]; exact am_fr.rf.set (by simp)
          have k31 : h2 31 = some (bsO 1 E E) := by rw [e2]; exact am_set_eq
          have hp2 := hp1.at (h' := h2) (f2 3 (by simp)) (f2 4 (by simp))
          have hac2 := (f2 5 (by simp)).trans hac1
          have eo : (oneR lenC alC lenP alP f E wa k bs co cp) = (1, E, bs, co, cp) := by
            unfold oneR
            rw [← ec]
            dsimp only
            rw [← eq]
            dsimp only
            rw [if_neg (by omega), if_neg (by omega), if_pos (by omega)]
          refine am_istore_n dX8_unpackCode_54 rfl rfl ?_
          refine am_iload_n dX8_unpackCode_55 rfl rfl ?_
          refine am_iconst (v := -1) dX8_unpackCode_56 rfl (by decide +kernel) ?_
          refine am_icmp_ne 62 dX8_unpackCode_57 rfl rfl (fun hc => ?_) (fun hc => ?_)
          · exact absurd rfl hc
          · refine am_iconst (v := nI 1) dX8_unpackCode_60 rfl (by decide +kernel) ?_
            exact am_ri dX8_unpackCode_61 rfl rfl rfl (by rw [eo]; exact ⟨rfl, (am_fr.tr (am_fr.rf.tr f1 (by simp)) f2 (by simp)), k31, hp2, hac2, Nat.le_refl _, Nat.le_of_lt hbl⟩)
      · refine am_aload_n dX8_unpackCode_26 rfl rfl ?_
        refine am_get f_X8_20 dX8_unpackCode_27 rfl hu1 rfl ?_
        refine am_iload_n dX8_unpackCode_30 rfl rfl ?_
        refine am_vv (t_add (d - 1) _ hp1 (by decide) (by decide) (by omega) (nI y1)) k_X3_add l_X8_133 dX8_unpackCode_31 rfl rfl rfl rfl p3 (by omega) (Nat.le_refl _) (Nat.le_refl _) (fun h2 hx => ?_)
        obtain ⟨f2, w2⟩ := hx
        have hu2 := (f2 30 (by simp)).trans hu1
        have hac2 := (f2 5 (by simp)).trans hac1
        refine am_aload_n dX8_unpackCode_34 rfl rfl ?_
        refine am_get f_X8_24 dX8_unpackCode_35 rfl hu2 rfl ?_
        refine am_vv (t_X0_countByte (d - 1) _ hac2) k_X0_countByte l_X8_136 dX8_unpackCode_38 rfl rfl rfl rfl hac2 (by omega) (Nat.le_refl _) (Nat.le_refl _) (fun h3 hx => ?_)
        have f3 : am_fr h2 h3 [5] := by rw [hx]; exact am_fr.rf.set (by simp)
        have g5 : h3 5 = some (acO op bl (co + 1) cp bi) := by rw [hx]; exact am_set_eq
        have eo : (oneR lenC alC lenP alP f E wa k bs co cp) = (0, k + w1, bs ++ [nI y1], co + 1, cp) := by
          unfold oneR
          rw [← ec]
          dsimp only
          rw [if_neg (by omega), if_pos (by omega)]
        refine am_iconst (v := nI 0) dX8_unpackCode_41 rfl (by decide +kernel) ?_
        exact am_ri dX8_unpackCode_42 rfl rfl rfl (by rw [eo]; exact ⟨rfl, (am_fr.tr (am_fr.tr (am_fr.rf.tr f1 (by simp)) f2 (by simp)) f3 (by simp)), (f3 31 (by simp)).trans ((f2 31 (by simp)).trans g31), w2.at (f3 3 (by simp)) (f3 4 (by simp)), g5, hE1, by rw [List.length_append]; exact hbl⟩)
    · exact absurd hc (am_nm1 (by omega))
  · obtain ⟨rfl, e1⟩ := hx2 (by omega)
    have f1 : am_fr h h1 [31] := by rw [e1]; exact am_fr.rf.set (by simp)
    have g31 : h1 31 = some (bsO 1 E E) := by rw [e1]; exact am_set_eq
    have eo : (oneR lenC alC lenP alP f E wa k bs co cp) = (1, E, bs, co, cp) := by
      unfold oneR
      rw [← ec]
      dsimp only
      rw [if_pos (by omega)]
    refine am_istore_n dX8_unpackCode_11 rfl rfl ?_
    refine am_iload_n dX8_unpackCode_12 rfl rfl ?_
    refine am_iconst (v := -1) dX8_unpackCode_13 rfl (by decide +kernel) ?_
    refine am_icmp_ne 19 dX8_unpackCode_14 rfl rfl (fun hc => ?_) (fun hc => ?_)
    · exact absurd rfl hc
    · refine am_iconst (v := nI 1) dX8_unpackCode_17 rfl (by decide +kernel) ?_
      exact am_ri dX8_unpackCode_18 rfl rfl rfl (by rw [eo]; exact ⟨rfl, am_fr.rf.tr f1 (by simp), g31, hp.at (f1 3 (by simp)) (f1 4 (by simp)), (f1 5 (by simp)).trans hac, Nat.le_refl _, Nat.le_of_lt hbl⟩)
set_option maxHeartbeats 4000000 in
set_option maxRecDepth 100000 in
theorem t_X8_takeAlone (d n0 : Nat) {h : am_H} {wa : Nat} (hu : h 30 = some (unO wa)) {E k c : Nat} {f : Nat → Int32} (hs : h 31 = some (bsO 1 E k)) (hr : h 1 = some (rwO 2 c)) (hta : h 2 = some (.inl (false, 4000, f))) (hE : E ≤ 32000) (hk : k ≤ E) {t m : Nat} {al : Int32} (ht : h t = some (trO t al)) {lf : Nat → Int32} (h1 : h (t + 1) = some (.inl (false, m, lf))) (hm : m ≤ 510) (ht31 : ∀ j, t ≤ j → j ≤ t + 7 → j ≠ 31) {b : Nat} (hb : b ≤ 9) (hd : 1 ≤ d) : am_Ct l D dA m_X8_takeAlone d 0 0 n0 [am_r 30, am_r t, .inl (nI b)] h (am_qi fun x h' => (E < k + b → x = nI 1 ∧ h' = am_set h 31 (bsO 1 E E)) ∧ (k + b ≤ E → m ≤ num f k b → x = nI 3 ∧ h' = am_set h 31 (bsO 1 E (k + b))) ∧ (k + b ≤ E → num f k b < m → x = nI 0 ∧ h' = am_set (am_set h 31 (bsO 1 E (k + b))) t (trO t (nI (num f k b))))) := by
  refine am_Ci (by decide +kernel) rfl rfl ?_
  have hnl := num_lt f k b
  have hp : 2 ^ b ≤ 2 ^ 9 := Nat.pow_le_pow_right (by omega) hb
  refine am_aload_n dX8_takeAlone_0 rfl rfl ?_
  refine am_get f_X8_14 dX8_takeAlone_1 rfl hu rfl ?_
  refine am_iload_n dX8_takeAlone_4 rfl rfl ?_
  refine am_vi (t_X2_take (d - 1) _ hs hr hta (by omega) (by decide) hk (by decide) (by decide) (b := b) (by omega)) k_X2_take l_X8_79 dX8_takeAlone_5 rfl rfl rfl rfl hs (by omega) (Nat.le_refl _) (Nat.le_refl _) (fun x h2 hx => ?_)
  obtain ⟨hx1, hx2⟩ := hx
  by_cases hE1 : k + b ≤ E
  · obtain ⟨rfl, rfl⟩ := hx1 hE1
    refine am_istore_n dX8_takeAlone_8 rfl rfl ?_
    refine am_iload_n dX8_takeAlone_9 rfl rfl ?_
    refine am_iconst (v := -1) dX8_takeAlone_10 rfl (by decide +kernel) ?_
    refine am_icmp_ne 16 dX8_takeAlone_11 rfl rfl (fun hc => ?_) (fun hc => ?_)
    · refine am_aload_n dX8_takeAlone_16 rfl rfl ?_
      refine am_iload_n dX8_takeAlone_17 rfl rfl ?_
      refine am_vi (t_X7_has (d - 1) _ ((am_set_ne (ht31 t (by omega) (by omega))).trans ht) ((am_set_ne (ht31 (t + 1) (by omega) (by omega))).trans h1) (by omega) (nI (num f k b))) k_X7_has l_X8_109 dX8_takeAlone_18 rfl rfl rfl rfl ((am_set_ne (ht31 t (by omega) (by omega))).trans ht) (by omega) (Nat.le_refl _) (Nat.le_refl _) (fun x h3 hx => ?_)
      obtain ⟨rfl, hh⟩ := hx
      obtain rfl := hh.symm
      refine am_bif_ne 26 dX8_takeAlone_21 rfl rfl (fun hc => ?_) (fun hc => ?_)
      · have hlt : num f k b < m := by
          obtain ⟨j, hj⟩ := Option.isSome_iff_exists.mp hc
          have hj2 := ix_some hj
          have := (nI_eq (by omega) (by omega)).mp hj2.2
          omega
        refine am_aload_n dX8_takeAlone_26 rfl rfl ?_
        refine am_iload_n dX8_takeAlone_27 rfl rfl ?_
        refine am_vv (t_X7_setAlone (d - 1) _ ((am_set_ne (ht31 t (by omega) (by omega))).trans ht) (nI (num f k b))) k_X7_setAlone l_X8_113 dX8_takeAlone_28 rfl rfl rfl rfl ((am_set_ne (ht31 t (by omega) (by omega))).trans ht) (by omega) (Nat.le_refl _) (Nat.le_refl _) (fun h4 hx => ?_)
        subst hx
        refine am_iconst (v := nI 0) dX8_takeAlone_31 rfl (by decide +kernel) ?_
        exact am_ri dX8_takeAlone_32 rfl rfl rfl ⟨fun g => by omega, fun g g2 => by omega, fun _ _ => ⟨rfl, rfl⟩⟩
      · have hge : m ≤ num f k b := by
          rcases Nat.lt_or_ge (num f k b) m with g | g
          · rw [ix_in g (by omega)] at hc; cases hc
          · exact g
        refine am_iconst (v := nI 3) dX8_takeAlone_24 rfl (by decide +kernel) ?_
        exact am_ri dX8_takeAlone_25 rfl rfl rfl ⟨fun g => by omega, fun _ _ => ⟨rfl, rfl⟩, fun _ g => by omega⟩
    · exact absurd hc (am_nm1 (by omega))
  · obtain ⟨rfl, rfl⟩ := hx2 (by omega)
    refine am_istore_n dX8_takeAlone_8 rfl rfl ?_
    refine am_iload_n dX8_takeAlone_9 rfl rfl ?_
    refine am_iconst (v := -1) dX8_takeAlone_10 rfl (by decide +kernel) ?_
    refine am_icmp_ne 16 dX8_takeAlone_11 rfl rfl (fun hc => ?_) (fun hc => ?_)
    · exact absurd rfl hc
    · refine am_iconst (v := nI 1) dX8_takeAlone_14 rfl (by decide +kernel) ?_
      exact am_ri dX8_takeAlone_15 rfl rfl rfl ⟨fun _ => ⟨rfl, rfl⟩, fun g _ => by omega, fun g _ => by omega⟩
end UNP2
