/-! ===== Unpacker: lengths ===== -/
section UNP3
variable {l : Launch} {D : va_G} {dA : Bool → ClassId}
theorem tlv_le (f : Nat → Int32) (k : Nat) : tlv f k ≤ 17 := by
  unfold tlv
  have := ons_le f 10 (k + 3)
  split <;> omega
theorem updN_eq {len : Nat → Nat} {i v : Nat} : updN len i v i = v := by simp [updN]
theorem updN_ne {len : Nat → Nat} {i v j : Nat} (h : j ≠ i) : updN len i v j = len j := by simp [updN, h]
/-- an array holds lengths -/
def lnA (h : am_H) (a m : Nat) (len : Nat → Nat) : Prop := ∃ lf : Nat → Int32, h a = some (.inl (false, m, lf)) ∧ ∀ s, s < m → lf s = nI (len s) ∧ len s ≤ 16
theorem lnA.at {h h' : am_H} {a m : Nat} {len : Nat → Nat} (x : lnA h a m len) (e : h' a = h a) : lnA h' a m len := by
  obtain ⟨lf, h1, h2⟩ := x
  exact ⟨lf, e.trans h1, h2⟩
theorem lnA.upd {h' : am_H} {a m : Nat} {len : Nat → Nat} {lf : Nat → Int32} {i v : Nat} (h2 : ∀ s, s < m → lf s = nI (len s) ∧ len s ≤ 16) (hv : v ≤ 16) (e : h' a = some (.inl (false, m, upd lf i (nI v)))) : lnA h' a m (updN len i v) := by
  refine ⟨_, e, fun s hs => ?_⟩
  by_cases g : s = i
  · subst g
    rw [upd_eq, updN_eq]
    exact ⟨rfl, hv⟩
  · rw [upd_ne g, updN_ne g]
    exact h2 s hs
set_option maxHeartbeats 4000000 in
set_option maxRecDepth 100000 in
theorem t_X8_takeLengths (d n0 : Nat) {h : am_H} {wa : Nat} (hu : h 30 = some (unO wa)) {E k c : Nat} {f : Nat → Int32} (hs : h 31 = some (bsO 1 E k)) (hr : h 1 = some (rwO 2 c)) (hta : h 2 = some (.inl (false, 4000, f))) (hE : E ≤ 32000) (hk : k ≤ E) {t m : Nat} {al : Int32} (ht : h t = some (trO t al)) {len : Nat → Nat} (h1 : lnA h (t + 1) m len) (hm : m ≤ 510) (ht31 : ∀ j, t ≤ j → j ≤ t + 7 → j ≠ 31 ∧ j ≠ 30 ∧ j ≠ 1 ∧ j ≠ 2) {gp : Bool} {n : Nat} (hn : n ≤ m) (hd : 2 ≤ d) : am_Ct l D dA m_X8_takeLengths d 0 0 n0 [am_r 30, am_r t, .inl (nI n), .inl (am_bz gp)] h (am_qi fun x h' => x = nI (lnsR f E gp n n 0 k len).1 ∧ am_fr h h' [31, t + 1] ∧ h' 31 = some (bsO 1 E (lnsR f E gp n n 0 k len).2.1) ∧ (lnsR f E gp n n 0 k len).2.1 ≤ E ∧ lnA h' (t + 1) m (lnsR f E gp n n 0 k len).2.2) := by
  refine am_Ci (by decide +kernel) rfl rfl ?_
  refine am_iconst (v := nI 0) dX8_takeLengths_0 rfl (by decide +kernel) ?_
  refine am_istore dX8_takeLengths_1 rfl rfl ?_
  have loop : ∀ (q i k' : Nat) (len' : Nat → Nat) (H : am_H) (x5 x6 : Option am_V), lnsR f E gp n q i k' len' = (lnsR f E gp n n 0 k len) → n ≤ i + q → i ≤ n + 4 → k' ≤ E → am_fr h H [31, t + 1] → H 31 = some (bsO 1 E k') → lnA H (t + 1) m len' → am_At l D dA m_X8_takeLengths d 0 0 0 0 n0 none (am_qi fun x h' => x = nI (lnsR f E gp n n 0 k len).1 ∧ am_fr h h' [31, t + 1] ∧ h' 31 = some (bsO 1 E (lnsR f E gp n n 0 k len).2.1) ∧ (lnsR f E gp n n 0 k len).2.1 ≤ E ∧ lnA h' (t + 1) m (lnsR f E gp n n 0 k len).2.2) 0 0 3 [some (am_r 30), some (am_r t), some (.inl (nI n)), some (.inl (am_bz gp)), some (.inl (nI i)), x5, x6] [] H := by
    intro q
    induction q with
    | zero =>
      intro i k' len' H x5 x6 hR hq hi hk' hfr g31 hln
      have hR : (0, k', len') = (lnsR f E gp n n 0 k len) := hR
      refine am_iload dX8_takeLengths_3 rfl rfl ?_
      refine am_iload_n dX8_takeLengths_5 rfl rfl ?_
      refine am_ncmp_ge 84 dX8_takeLengths_6 rfl rfl (by omega) (by omega) (fun hc => ?_) (fun hc => ?_)
      · refine am_iconst (v := nI 0) dX8_takeLengths_84 rfl (by decide +kernel) ?_
        exact am_ri dX8_takeLengths_85 rfl rfl rfl (by rw [← hR]; exact ⟨rfl, hfr, g31, hk', hln⟩)
      · omega
    | succ q ih =>
      intro i k' len' H x5 x6 hR hq hi hk' hfr g31 hln
      rw [lnsR] at hR
      have tv := tlv_le f k'
      have hu := (hfr 30 (by have := (ht31 (t + 1) (by omega) (by omega)).2.1; simp; omega)).trans hu
      have hr := (hfr 1 (by have := (ht31 (t + 1) (by omega) (by omega)).2.2.1; simp; omega)).trans hr
      have hta := (hfr 2 (by have := (ht31 (t + 1) (by omega) (by omega)).2.2.2; simp; omega)).trans hta
      have ht := (hfr t (by have := (ht31 t (by omega) (by omega)).1; simp; omega)).trans ht
      refine am_iload dX8_takeLengths_3 rfl rfl ?_
      refine am_iload_n dX8_takeLengths_5 rfl rfl ?_
      refine am_ncmp_ge 84 dX8_takeLengths_6 rfl rfl (by omega) (by omega) (fun hc => ?_) (fun hc => ?_)
      · rw [if_pos hc] at hR
        refine am_iconst (v := nI 0) dX8_takeLengths_84 rfl (by decide +kernel) ?_
        exact am_ri dX8_takeLengths_85 rfl rfl rfl (by rw [← hR]; exact ⟨rfl, hfr, g31, hk', hln⟩)
      · rw [if_neg (by omega)] at hR
        refine am_aload_n dX8_takeLengths_9 rfl rfl ?_
        refine am_get f_X8_14 dX8_takeLengths_10 rfl hu rfl ?_
        refine am_vi (t_X2_takeLength (d - 1) _ g31 hr hta (by omega) (by decide) hk' (by decide) (by decide) (by omega)) k_X2_takeLength l_X8_116 dX8_takeLengths_13 rfl rfl rfl rfl g31 (by omega) (Nat.le_refl _) (Nat.le_refl _) (fun x h2 hx => ?_)
        obtain ⟨hx1, hx2⟩ := hx
        by_cases hE1 : k' + tln f k' ≤ E
        · obtain ⟨rfl, e2⟩ := hx1 hE1
          rw [if_neg (by omega)] at hR
          have f2 : am_fr H h2 [31] := by rw [e2]; exact am_fr.rf.set (by simp)
          have k31 : h2 31 = some (bsO 1 E (k' + tln f k')) := by rw [e2]; exact am_set_eq
          have hln2 := hln.at (h' := h2) (f2 (t + 1) (by have := (ht31 (t + 1) (by omega) (by omega)).1; simp; omega))
          have ht2 := (f2 t (by have := (ht31 t (by omega) (by omega)).1; simp; omega)).trans ht
          have hu2 := (f2 30 (by simp)).trans hu
          have hr2 := (f2 1 (by simp)).trans hr
          have hta2 := (f2 2 (by simp)).trans hta
          refine am_istore dX8_takeLengths_16 rfl rfl ?_
          refine am_iload dX8_takeLengths_18 rfl rfl ?_
          refine am_iconst (v := -1) dX8_takeLengths_20 rfl (by decide +kernel) ?_
          refine am_icmp_ne 26 dX8_takeLengths_21 rfl rfl (fun hc => ?_) (fun hc => ?_)
          · refine am_iload dX8_takeLengths_26 rfl rfl ?_
            refine am_bipush (v := nI 16) dX8_takeLengths_28 rfl (by decide +kernel) ?_
            refine am_ncmp_le 35 dX8_takeLengths_30 rfl rfl (by omega) (by omega) (fun hc => ?_) (fun hc => ?_)
            · rw [if_neg (by omega)] at hR
              obtain ⟨lf, hl1, hl2⟩ := hln2
              refine am_aload_n dX8_takeLengths_35 rfl rfl ?_
              refine am_iload dX8_takeLengths_36 rfl rfl ?_
              refine am_iload dX8_takeLengths_38 rfl rfl ?_
              refine am_vv (t_X7_setLength (d - 1) _ ht2 hl1 (by omega) (by omega) (s := i) (by omega) hc) k_X7_setLength l_X8_119 dX8_takeLengths_40 rfl rfl rfl rfl ht2 (by omega) (Nat.le_refl _) (Nat.le_refl _) (fun h3 hx => ?_)
              have f3 : am_fr h2 h3 [t + 1] := by rw [hx]; exact am_fr.rf.set (by simp)
              have hln3 : lnA h3 (t + 1) m (updN len' i (tlv f k')) := lnA.upd hl2 hc (by rw [hx]; exact am_set_eq)
              have hfr3 : am_fr h h3 [31, t + 1] := (hfr.tr f2 (by simp)).tr f3 (by simp)
              have k31 := (f3 31 (by have := (ht31 (t + 1) (by omega) (by omega)).1; simp; omega)).trans k31
              have hu3 := (f3 30 (by have := (ht31 (t + 1) (by omega) (by omega)).2.1; simp; omega)).trans hu2
              have hr3 := (f3 1 (by have := (ht31 (t + 1) (by omega) (by omega)).2.2.1; simp; omega)).trans hr2
              have hta3 := (f3 2 (by have := (ht31 (t + 1) (by omega) (by omega)).2.2.2; simp; omega)).trans hta2
              refine am_iload_n dX8_takeLengths_43 rfl rfl ?_
              refine am_bif_eq 78 dX8_takeLengths_44 rfl rfl (fun hg => ?_) (fun hg => ?_)
              · rw [if_neg (by rw [hg]; simp)] at hR
                refine am_iinc (n := 1) dX8_takeLengths_78 rfl rfl (nI_1 i) ?_
                refine am_goto 3 dX8_takeLengths_81 rfl rfl ?_
                exact ih (i + 1) (k' + tln f k') _ h3 _ _ hR (by omega) (by omega) hE1 hfr3 k31 hln3
              · refine am_iload dX8_takeLengths_47 rfl rfl ?_
                refine am_iconst (v := nI 2) dX8_takeLengths_49 rfl (by decide +kernel) ?_
                refine am_ncmp_ne 78 dX8_takeLengths_50 rfl rfl (by omega) (by omega) (fun h2c => ?_) (fun h2c => ?_)
                · rw [if_neg (by omega)] at hR
                  refine am_iinc (n := 1) dX8_takeLengths_78 rfl rfl (nI_1 i) ?_
                  refine am_goto 3 dX8_takeLengths_81 rfl rfl ?_
                  exact ih (i + 1) (k' + tln f k') _ h3 _ _ hR (by omega) (by omega) hE1 hfr3 k31 hln3
                · rw [if_pos ⟨hg, h2c⟩] at hR
                  have hg2 := num_lt f (k' + tln f k') 2
                  refine am_aload_n dX8_takeLengths_53 rfl rfl ?_
                  refine am_get f_X8_14 dX8_takeLengths_54 rfl hu3 rfl ?_
                  refine am_iconst (v := nI 2) dX8_takeLengths_57 rfl (by decide +kernel) ?_
                  refine am_vi (t_X2_take (d - 1) _ k31 hr3 hta3 (by omega) (by decide) hE1 (by decide) (by decide) (b := 2) (by omega)) k_X2_take l_X8_79 dX8_takeLengths_58 rfl rfl rfl rfl k31 (by omega) (Nat.le_refl _) (Nat.le_refl _) (fun x h4 hx => ?_)
                  obtain ⟨hx3, hx4⟩ := hx
                  by_cases hE2 : k' + tln f k' + 2 ≤ E
                  · obtain ⟨rfl, e4⟩ := hx3 hE2
                    rw [if_neg (by omega)] at hR
                    have f4 : am_fr h3 h4 [31] := by rw [e4]; exact am_fr.rf.set (by simp)
                    have m31 : h4 31 = some (bsO 1 E (k' + tln f k' + 2)) := by rw [e4]; exact am_set_eq
                    have hln4 := hln3.at (h' := h4) (f4 (t + 1) (by have := (ht31 (t + 1) (by omega) (by omega)).1; simp; omega))
                    refine am_istore dX8_takeLengths_61 rfl rfl ?_
                    refine am_iload dX8_takeLengths_63 rfl rfl ?_
                    refine am_iconst (v := -1) dX8_takeLengths_65 rfl (by decide +kernel) ?_
                    refine am_icmp_ne 71 dX8_takeLengths_66 rfl rfl (fun hc => ?_) (fun hc => ?_)
                    · refine am_iload dX8_takeLengths_71 rfl rfl ?_
                      refine am_iload dX8_takeLengths_73 rfl rfl ?_
                      refine am_iadd dX8_takeLengths_75 rfl ?_
                      rw [nI_add]
                      refine am_istore dX8_takeLengths_76 rfl rfl ?_
                      refine am_iinc (n := 1) dX8_takeLengths_78 rfl rfl (nI_1 (i + num f (k' + tln f k') 2)) ?_
                      refine am_goto 3 dX8_takeLengths_81 rfl rfl ?_
                      exact ih _ _ _ h4 _ _ hR (by omega) (by omega) hE2 (hfr3.tr f4 (by simp)) m31 hln4
                    · exact absurd hc (am_nm1 (by omega))
                  · obtain ⟨rfl, e4⟩ := hx4 (by omega)
                    rw [if_pos (by omega)] at hR
                    have f4 : am_fr h3 h4 [31] := by rw [e4]; exact am_fr.rf.set (by simp)
                    have m31 : h4 31 = some (bsO 1 E E) := by rw [e4]; exact am_set_eq
                    have hln4 := hln3.at (h' := h4) (f4 (t + 1) (by have := (ht31 (t + 1) (by omega) (by omega)).1; simp; omega))
                    refine am_istore dX8_takeLengths_61 rfl rfl ?_
                    refine am_iload dX8_takeLengths_63 rfl rfl ?_
                    refine am_iconst (v := -1) dX8_takeLengths_65 rfl (by decide +kernel) ?_
                    refine am_icmp_ne 71 dX8_takeLengths_66 rfl rfl (fun hc => ?_) (fun hc => ?_)
                    · exact absurd rfl hc
                    · refine am_iconst (v := nI 1) dX8_takeLengths_69 rfl (by decide +kernel) ?_
                      exact am_ri dX8_takeLengths_70 rfl rfl rfl (by rw [← hR]; exact ⟨rfl, hfr3.tr f4 (by simp), m31, Nat.le_refl _, hln4⟩)
            · rw [if_pos hc] at hR
              refine am_iconst (v := nI 2) dX8_takeLengths_33 rfl (by decide +kernel) ?_
              exact am_ri dX8_takeLengths_34 rfl rfl rfl (by rw [← hR]; exact ⟨rfl, hfr.tr f2 (by simp), k31, hE1, hln2⟩)
          · exact absurd hc (am_nm1 (by omega))
        · obtain ⟨rfl, e2⟩ := hx2 (by omega)
          rw [if_pos (by omega)] at hR
          have f2 : am_fr H h2 [31] := by rw [e2]; exact am_fr.rf.set (by simp)
          have k31 : h2 31 = some (bsO 1 E E) := by rw [e2]; exact am_set_eq
          have hln2 := hln.at (h' := h2) (f2 (t + 1) (by have := (ht31 (t + 1) (by omega) (by omega)).1; simp; omega))
          refine am_istore dX8_takeLengths_16 rfl rfl ?_
          refine am_iload dX8_takeLengths_18 rfl rfl ?_
          refine am_iconst (v := -1) dX8_takeLengths_20 rfl (by decide +kernel) ?_
          refine am_icmp_ne 26 dX8_takeLengths_21 rfl rfl (fun hc => ?_) (fun hc => ?_)
          · exact absurd rfl hc
          · refine am_iconst (v := nI 1) dX8_takeLengths_24 rfl (by decide +kernel) ?_
            exact am_ri dX8_takeLengths_25 rfl rfl rfl (by rw [← hR]; exact ⟨rfl, hfr.tr f2 (by simp), k31, Nat.le_refl _, hln2⟩)
  exact loop n 0 k len h _ _ rfl (by omega) (by omega) hk am_fr.rf hs h1
set_option maxHeartbeats 4000000 in
set_option maxRecDepth 100000 in
theorem t_X8_takeLengthsByT (d n0 : Nat) {h : am_H} {wa : Nat} (hu : h 30 = some (unO wa)) {E k c : Nat} {f : Nat → Int32} (hs : h 31 = some (bsO 1 E k)) (hr : h 1 = some (rwO 2 c)) (hta : h 2 = some (.inl (false, 4000, f))) (hE : E ≤ 32000) (hk : k ≤ E) {alT alC : Int32} {lenT len : Nat → Nat} (hT : h 6 = some (trO 6 alT)) (hrT : rdy h 6 19 alT lenT) (hC : h 14 = some (trO 14 alC)) (h1 : lnA h 15 510 len) {n : Nat} (hn : n ≤ 510) (hd : 2 ≤ d) : am_Ct l D dA m_X8_takeLengthsByT d 0 0 n0 [am_r 30, .inl (nI n)] h (am_qi fun x h' => x = nI (lncR f E n lenT alT n 0 k len).1 ∧ am_fr h h' [31, 15] ∧ h' 31 = some (bsO 1 E (lncR f E n lenT alT n 0 k len).2.1) ∧ (lncR f E n lenT alT n 0 k len).2.1 ≤ E ∧ lnA h' 15 510 (lncR f E n lenT alT n 0 k len).2.2) := by
  refine am_Ci (by decide +kernel) rfl rfl ?_
  refine am_iconst (v := nI 0) dX8_takeLengthsByT_0 rfl (by decide +kernel) ?_
  refine am_istore_n dX8_takeLengthsByT_1 rfl rfl ?_
  refine am_iconst (v := nI 0) dX8_takeLengthsByT_2 rfl (by decide +kernel) ?_
  refine am_istore_n dX8_takeLengthsByT_3 rfl rfl ?_
  have loop : ∀ (q i kn k' : Nat) (len' : Nat → Nat) (H : am_H) (x4 x5 : Option am_V), lncR f E n lenT alT q kn k' len' = (lncR f E n lenT alT n 0 k len) → i + q = n → i ≤ kn → kn ≤ 2000 → k' ≤ E → am_fr h H [31, 15] → H 31 = some (bsO 1 E k') → lnA H 15 510 len' → am_At l D dA m_X8_takeLengthsByT d 0 0 0 0 n0 none (am_qi fun x h' => x = nI (lncR f E n lenT alT n 0 k len).1 ∧ am_fr h h' [31, 15] ∧ h' 31 = some (bsO 1 E (lncR f E n lenT alT n 0 k len).2.1) ∧ (lncR f E n lenT alT n 0 k len).2.1 ≤ E ∧ lnA h' 15 510 (lncR f E n lenT alT n 0 k len).2.2) 0 0 4 [some (am_r 30), some (.inl (nI n)), some (.inl (nI kn)), some (.inl (nI i)), x4, x5] [] H := by
    intro q
    induction q with
    | zero =>
      intro i kn k' len' H x4 x5 hR hq hi hkn hk' hfr g31 hln
      have hR : ((if n < kn then 3 else 0), k', len') = (lncR f E n lenT alT n 0 k len) := hR
      refine am_iload_n dX8_takeLengthsByT_4 rfl rfl ?_
      refine am_iload_n dX8_takeLengthsByT_5 rfl rfl ?_
      refine am_ncmp_ge 92 dX8_takeLengthsByT_6 rfl rfl (by omega) (by omega) (fun hc => ?_) (fun hc => ?_)
      · refine am_iload_n dX8_takeLengthsByT_92 rfl rfl ?_
        refine am_iload_n dX8_takeLengthsByT_93 rfl rfl ?_
        refine am_ncmp_le 101 dX8_takeLengthsByT_94 rfl rfl (by omega) (by omega) (fun hc => ?_) (fun hc => ?_)
        · refine am_iconst (v := nI 0) dX8_takeLengthsByT_101 rfl (by decide +kernel) ?_
          exact am_ri dX8_takeLengthsByT_102 rfl rfl rfl (by rw [← hR]; exact ⟨by dsimp only; rw [if_neg (by omega)], hfr, g31, hk', hln⟩)
        · refine am_iconst (v := nI 3) dX8_takeLengthsByT_97 rfl (by decide +kernel) ?_
          refine am_goto 102 dX8_takeLengthsByT_98 rfl rfl ?_
          exact am_ri dX8_takeLengthsByT_102 rfl rfl rfl (by rw [← hR]; exact ⟨by dsimp only; rw [if_pos (by omega)], hfr, g31, hk', hln⟩)
      · omega
    | succ q ih =>
      intro i kn k' len' H x4 x5 hR hq hi hkn hk' hfr g31 hln
      rw [lncR] at hR
      have hu := (hfr 30 (by simp)).trans hu
      have hr := (hfr 1 (by simp)).trans hr
      have hta := (hfr 2 (by simp)).trans hta
      have hT := (hfr 6 (by simp)).trans hT
      have hC := (hfr 14 (by simp)).trans hC
      have hrT := hrT.at (h' := H) (fun j a b => hfr j (by simp; omega))
      have hS1 := sy_spec hrT f k'
      obtain ⟨⟨w1, y1⟩, ec⟩ : ∃ p, p = sy lenT 19 alT f k' := ⟨_, rfl⟩
      rw [← ec] at hS1 hR
      have hy1 := hS1.1
      have hw1 := SR_lt hS1
      dsimp only at hS1 hy1 hw1 hR
      have hb : bbh y1 ≤ 9 := by unfold bbh; split; omega; split <;> omega
      have hl : 1 ≤ lsf y1 ∧ lsf y1 ≤ 20 := by unfold lsf; split; omega; split <;> omega
      have hnl := num_lt f (k' + w1) (bbh y1)
      have hp : 2 ^ bbh y1 ≤ 2 ^ 9 := Nat.pow_le_pow_right (by omega) hb
      refine am_iload_n dX8_takeLengthsByT_4 rfl rfl ?_
      refine am_iload_n dX8_takeLengthsByT_5 rfl rfl ?_
      refine am_ncmp_ge 92 dX8_takeLengthsByT_6 rfl rfl (by omega) (by omega) (fun hc => ?_) (fun hc => ?_)
      · omega
      · refine am_iload_n dX8_takeLengthsByT_9 rfl rfl ?_
        refine am_iload_n dX8_takeLengthsByT_10 rfl rfl ?_
        refine am_ncmp_ge 92 dX8_takeLengthsByT_11 rfl rfl (by omega) (by omega) (fun hc => ?_) (fun hc => ?_)
        · rw [if_pos hc] at hR
          refine am_iload_n dX8_takeLengthsByT_92 rfl rfl ?_
          refine am_iload_n dX8_takeLengthsByT_93 rfl rfl ?_
          refine am_ncmp_le 101 dX8_takeLengthsByT_94 rfl rfl (by omega) (by omega) (fun hc => ?_) (fun hc => ?_)
          · refine am_iconst (v := nI 0) dX8_takeLengthsByT_101 rfl (by decide +kernel) ?_
            exact am_ri dX8_takeLengthsByT_102 rfl rfl rfl (by rw [← hR]; exact ⟨by dsimp only; rw [if_neg (by omega)], hfr, g31, hk', hln⟩)
          · refine am_iconst (v := nI 3) dX8_takeLengthsByT_97 rfl (by decide +kernel) ?_
            refine am_goto 102 dX8_takeLengthsByT_98 rfl rfl ?_
            exact am_ri dX8_takeLengthsByT_102 rfl rfl rfl (by rw [← hR]; exact ⟨by dsimp only; rw [if_pos (by omega)], hfr, g31, hk', hln⟩)
        · rw [if_neg (by omega)] at hR
          refine am_aload_n dX8_takeLengthsByT_14 rfl rfl ?_
          refine am_get f_X8_14 dX8_takeLengthsByT_15 rfl hu rfl ?_
          refine am_aload_n dX8_takeLengthsByT_18 rfl rfl ?_
          refine am_get f_X8_34 dX8_takeLengthsByT_19 rfl hu rfl ?_
          refine am_vi (t_X2_takeSymbol (d - 1) _ g31 hr hta (by omega) (by decide) hk' (by decide) (by decide) hT (by decide) hrT (fun j a b => by omega) hS1 (by omega)) k_X2_takeSymbol l_X8_123 dX8_takeLengthsByT_22 rfl rfl rfl rfl g31 (by omega) (Nat.le_refl _) (Nat.le_refl _) (fun x h2 hx => ?_)
          obtain ⟨hx1, hx2⟩ := hx
          by_cases hE1 : k' + w1 ≤ E
          · obtain ⟨rfl, e2⟩ := hx1 hE1
            rw [if_neg (by omega)] at hR
            have f2 : am_fr H h2 [31] := by rw [e2]; exact am_fr.rf.set (by simp)
            have k31 : h2 31 = some (bsO 1 E (k' + w1)) := by rw [e2]; exact am_set_eq
            have hln2 := hln.at (h' := h2) (f2 15 (by simp))
            have hu2 := (f2 30 (by simp)).trans hu
            have hr2 := (f2 1 (by simp)).trans hr
            have hta2 := (f2 2 (by simp)).trans hta
            have hC2 := (f2 14 (by simp)).trans hC
            have hfr2 : am_fr h h2 [31, 15] := hfr.tr f2 (by simp)
            have rest : ∀ (H3 : am_H) (L5 : Option am_V), am_fr h H3 [31, 15] → H3 31 = some (bsO 1 E (k' + w1)) → lnA H3 15 510 (if 2 < y1 then updN len' kn (y1 - 2) else len') → am_At l D dA m_X8_takeLengthsByT d 0 0 0 0 n0 none (am_qi fun x h' => x = nI (lncR f E n lenT alT n 0 k len).1 ∧ am_fr h h' [31, 15] ∧ h' 31 = some (bsO 1 E (lncR f E n lenT alT n 0 k len).2.1) ∧ (lncR f E n lenT alT n 0 k len).2.1 ≤ E ∧ lnA h' 15 510 (lncR f E n lenT alT n 0 k len).2.2) 0 0 53 [some (am_r 30), some (.inl (nI n)), some (.inl (nI kn)), some (.inl (nI i)), some (.inl (nI y1)), L5] [] H3 := by
              intro H3 L5 hfr3 m31 hln3
              have hu3 := (hfr3 30 (by simp)).trans ((hfr 30 (by simp)).symm.trans hu)
              have hr3 := (hfr3 1 (by simp)).trans ((hfr 1 (by simp)).symm.trans hr)
              have hta3 := (hfr3 2 (by simp)).trans ((hfr 2 (by simp)).symm.trans hta)
              refine am_aload_n dX8_takeLengthsByT_53 rfl rfl ?_
              refine am_get f_X8_14 dX8_takeLengthsByT_54 rfl hu3 rfl ?_
              refine am_iload dX8_takeLengthsByT_57 rfl rfl ?_
              refine am_sin (t_X9_bitsBehind (d - 1) _ (y := y1) (by omega)) k_X9_bitsBehind l_X8_127 dX8_takeLengthsByT_59 rfl rfl rfl rfl (by omega) (Nat.le_refl _) (Nat.le_refl _) (fun x h1 hx => ?_)
              obtain ⟨rfl, hh⟩ := hx
              obtain rfl := hh.symm
              refine am_vi (t_X2_take (d - 1) _ m31 hr3 hta3 (by omega) (by decide) hE1 (by decide) (by decide) (b := bbh y1) (by omega)) k_X2_take l_X8_79 dX8_takeLengthsByT_62 rfl rfl rfl rfl m31 (by omega) (Nat.le_refl _) (Nat.le_refl _) (fun x h4 hx => ?_)
              obtain ⟨hx3, hx4⟩ := hx
              by_cases hE2 : k' + w1 + bbh y1 ≤ E
              · obtain ⟨rfl, e4⟩ := hx3 hE2
                rw [if_neg (by omega)] at hR
                have f4 : am_fr H3 h4 [31] := by rw [e4]; exact am_fr.rf.set (by simp)
                have p31 : h4 31 = some (bsO 1 E (k' + w1 + bbh y1)) := by rw [e4]; exact am_set_eq
                have hln4 := hln3.at (h' := h4) (f4 15 (by simp))
                refine am_istore dX8_takeLengthsByT_65 rfl rfl ?_
                refine am_iload dX8_takeLengthsByT_67 rfl rfl ?_
                refine am_iconst (v := -1) dX8_takeLengthsByT_69 rfl (by decide +kernel) ?_
                refine am_icmp_ne 75 dX8_takeLengthsByT_70 rfl rfl (fun hc => ?_) (fun hc => ?_)
                · refine am_iload_n dX8_takeLengthsByT_75 rfl rfl ?_
                  refine am_iload dX8_takeLengthsByT_76 rfl rfl ?_
                  refine am_sin (t_X9_leastOf (d - 1) _ (y := y1) (by omega)) k_X9_leastOf l_X8_130 dX8_takeLengthsByT_78 rfl rfl rfl rfl (by omega) (Nat.le_refl _) (Nat.le_refl _) (fun x h1 hx => ?_)
                  obtain ⟨rfl, hh⟩ := hx
                  obtain rfl := hh.symm
                  refine am_iload dX8_takeLengthsByT_81 rfl rfl ?_
                  refine am_iadd dX8_takeLengthsByT_83 rfl ?_
                  refine am_iadd dX8_takeLengthsByT_84 rfl ?_
                  rw [nI_add, nI_add]
                  refine am_istore_n dX8_takeLengthsByT_85 rfl rfl ?_
                  refine am_iinc (n := 1) dX8_takeLengthsByT_86 rfl rfl (nI_1 i) ?_
                  refine am_goto 4 dX8_takeLengthsByT_89 rfl rfl ?_
                  exact ih (i + 1) _ _ _ h4 _ _ hR (by omega) (by omega) (by omega) hE2 (hfr3.tr f4 (by simp)) p31 hln4
                · exact absurd hc (am_nm1 (by omega))
              · obtain ⟨rfl, e4⟩ := hx4 (by omega)
                have hy2 : ¬ 2 < y1 := by
                  intro g
                  have : bbh y1 = 0 := by unfold bbh; rw [if_neg (by omega), if_neg (by omega)]
                  omega
                rw [if_pos (by omega)] at hR
                rw [if_neg hy2] at hln3
                have f4 : am_fr H3 h4 [31] := by rw [e4]; exact am_fr.rf.set (by simp)
                have p31 : h4 31 = some (bsO 1 E E) := by rw [e4]; exact am_set_eq
                refine am_istore dX8_takeLengthsByT_65 rfl rfl ?_
                refine am_iload dX8_takeLengthsByT_67 rfl rfl ?_
                refine am_iconst (v := -1) dX8_takeLengthsByT_69 rfl (by decide +kernel) ?_
                refine am_icmp_ne 75 dX8_takeLengthsByT_70 rfl rfl (fun hc => ?_) (fun hc => ?_)
                · exact absurd rfl hc
                · refine am_iconst (v := nI 1) dX8_takeLengthsByT_73 rfl (by decide +kernel) ?_
                  exact am_ri dX8_takeLengthsByT_74 rfl rfl rfl (by rw [← hR]; exact ⟨rfl, hfr3.tr f4 (by simp), p31, Nat.le_refl _, hln3.at (f4 15 (by simp))⟩)
            refine am_istore dX8_takeLengthsByT_25 rfl rfl ?_
            refine am_iload dX8_takeLengthsByT_27 rfl rfl ?_
            refine am_iconst (v := -1) dX8_takeLengthsByT_29 rfl (by decide +kernel) ?_
            refine am_icmp_ne 35 dX8_takeLengthsByT_30 rfl rfl (fun hc => ?_) (fun hc => ?_)
            · refine am_iload dX8_takeLengthsByT_35 rfl rfl ?_
              refine am_iconst (v := nI 2) dX8_takeLengthsByT_37 rfl (by decide +kernel) ?_
              refine am_ncmp_le 53 dX8_takeLengthsByT_38 rfl rfl (by omega) (by omega) (fun hc => ?_) (fun hc => ?_)
              · exact rest h2 _ hfr2 k31 (by rw [if_neg (by omega)]; exact hln2)
              · obtain ⟨lf, hl1, hl2⟩ := hln2
                refine am_aload_n dX8_takeLengthsByT_41 rfl rfl ?_
                refine am_get f_X8_38 dX8_takeLengthsByT_42 rfl hu2 rfl ?_
                refine am_iload_n dX8_takeLengthsByT_45 rfl rfl ?_
                refine am_iload dX8_takeLengthsByT_46 rfl rfl ?_
                refine am_iconst (v := nI 2) dX8_takeLengthsByT_48 rfl (by decide +kernel) ?_
                refine am_isub dX8_takeLengthsByT_49 rfl ?_
                rw [pk_sub (by omega)]
                refine am_vv (t_X7_setLength (d - 1) _ hC2 hl1 (by omega) (by omega) (s := kn) (by omega) (n := y1 - 2) (by omega)) k_X7_setLength l_X8_119 dX8_takeLengthsByT_50 rfl rfl rfl rfl hC2 (by omega) (Nat.le_refl _) (Nat.le_refl _) (fun h3 hx => ?_)
                have f3 : am_fr h2 h3 [15] := by rw [hx]; exact am_fr.rf.set (by simp)
                exact rest h3 _ (hfr2.tr f3 (by simp)) ((f3 31 (by simp)).trans k31) (by rw [if_pos hc]; exact lnA.upd hl2 (by omega) (by rw [hx]; exact am_set_eq))
            · exact absurd hc (am_nm1 (by omega))
          · obtain ⟨rfl, e2⟩ := hx2 (by omega)
            rw [if_pos (by omega)] at hR
            have f2 : am_fr H h2 [31] := by rw [e2]; exact am_fr.rf.set (by simp)
            have k31 : h2 31 = some (bsO 1 E E) := by rw [e2]; exact am_set_eq
            refine am_istore dX8_takeLengthsByT_25 rfl rfl ?_
            refine am_iload dX8_takeLengthsByT_27 rfl rfl ?_
            refine am_iconst (v := -1) dX8_takeLengthsByT_29 rfl (by decide +kernel) ?_
            refine am_icmp_ne 35 dX8_takeLengthsByT_30 rfl rfl (fun hc => ?_) (fun hc => ?_)
            · exact absurd rfl hc
            · refine am_iconst (v := nI 1) dX8_takeLengthsByT_33 rfl (by decide +kernel) ?_
              exact am_ri dX8_takeLengthsByT_34 rfl rfl rfl (by rw [← hR]; exact ⟨rfl, hfr.tr f2 (by simp), k31, Nat.le_refl _, hln.at (f2 15 (by simp))⟩)
  exact loop n 0 0 k len h _ _ rfl (by omega) (by omega) (by omega) hk am_fr.rf hs h1
end UNP3
