/-! ===== Unpacker: a block, all blocks ===== -/
section UNP5
variable {l : Launch} {D : va_G} {dA : Bool → ClassId}
/-- the reading world behind a block or all of them -/
def bhd (h h' : am_H) (E wa : Nat) (op : Bool) (bl bi : Nat) (r : Nat × Nat × List Int32 × Nat × Nat) (ls : l3) : Prop := am_fr h h' frU ∧ h' 31 = some (bsO 1 E r.2.1) ∧ r.2.1 ≤ E ∧ rws h' 3 4 12000 r.2.2.1 ∧ r.2.2.1.length ≤ wa ∧ h' 5 = some (acO op bl r.2.2.2.1 r.2.2.2.2 bi) ∧ (tsh h' 6 19 ∧ tsh h' 14 510 ∧ tsh h' 22 14) ∧ lnA h' 7 19 ls.1 ∧ lnA h' 15 510 ls.2.1 ∧ lnA h' 23 14 ls.2.2
set_option maxHeartbeats 4000000 in
set_option maxRecDepth 100000 in
theorem t_X8_unpackBlock (d n0 : Nat) {h : am_H} {wa : Nat} (hu : h 30 = some (unO wa)) {bs : List Int32} (hp : rws h 3 4 12000 bs) {op : Bool} {bl co cp bi : Nat} (hac : h 5 = some (acO op bl co cp bi)) {E k c : Nat} {f : Nat → Int32} (hs : h 31 = some (bsO 1 E k)) (hr : h 1 = some (rwO 2 c)) (hta : h 2 = some (.inl (false, 4000, f))) (hE : E ≤ 32000) (hk : k ≤ E) (hT : tsh h 6 19) (hC : tsh h 14 510) (hP : tsh h 22 14) (hwa : wa ≤ 8000) (hbl : bs.length < wa) (hd : 5 ≤ d) : am_Ct l D dA m_X8_unpackBlock d 0 0 n0 [am_r 30] h (am_qi fun x h' => x = nI (blkR f E wa k bs co cp).1.1 ∧ (blkR f E wa k bs co cp).1.1 < 7 ∧ bhd h h' E wa op (bl + 1) bi (blkR f E wa k bs co cp).1 (blkR f E wa k bs co cp).2) := by
  refine am_Ci (by decide +kernel) rfl rfl ?_
  have hnl := num_lt f k 16
  refine am_aload_n dX8_unpackBlock_0 rfl rfl ?_
  refine am_get f_X8_24 dX8_unpackBlock_1 rfl hu rfl ?_
  refine am_vv (t_X0_beginBlock (d - 1) _ hac hT hC hP (by omega)) k_X0_beginBlock l_X8_76 dX8_unpackBlock_4 rfl rfl rfl rfl hac (by omega) (Nat.le_refl _) (Nat.le_refl _) (fun h1 hx => ?_)
  obtain ⟨f1, a1, ⟨wT1, sT1⟩, ⟨wC1, sC1⟩, wP1, sP1⟩ := hx
  have hu1 := (f1 30 (by simp)).trans hu
  have hp1 := hp.at (h' := h1) (f1 3 (by simp)) (f1 4 (by simp))
  have hs1 := (f1 31 (by simp)).trans hs
  have hr1 := (f1 1 (by simp)).trans hr
  have hta1 := (f1 2 (by simp)).trans hta
  have F1 : am_fr h h1 frU := fun j hj => f1 j (by have := frU_not hj; simp; omega)
  refine am_aload_n dX8_unpackBlock_7 rfl rfl ?_
  refine am_get f_X8_14 dX8_unpackBlock_8 rfl hu1 rfl ?_
  refine am_bipush (v := nI 16) dX8_unpackBlock_11 rfl (by decide +kernel) ?_
  refine am_vi (t_X2_take (d - 1) _ hs1 hr1 hta1 (by omega) (by decide) hk (by decide) (by decide) (b := 16) (by omega)) k_X2_take l_X8_79 dX8_unpackBlock_13 rfl rfl rfl rfl hs1 (by omega) (Nat.le_refl _) (Nat.le_refl _) (fun x h2 hx => ?_)
  obtain ⟨hx1, hx2⟩ := hx
  by_cases hE1 : k + 16 ≤ E
  · obtain ⟨rfl, e2⟩ := hx1 hE1
    have f2 : am_fr h1 h2 [31] := by rw [e2]; exact am_fr.rf.set (by simp)
    have s2 : h2 31 = some (bsO 1 E (k + 16)) := by rw [e2]; exact am_set_eq
    have hu2 := (f2 30 (by simp)).trans hu1
    have hp2 := hp1.at (h' := h2) (f2 3 (by simp)) (f2 4 (by simp))
    have hr2 := (f2 1 (by simp)).trans hr1
    have hta2 := (f2 2 (by simp)).trans hta1
    have a2 := (f2 5 (by simp)).trans a1
    have wT2 := wT1.at (h' := h2) (fun j a b => f2 j (by simp; omega))
    have wC2 := wC1.at (h' := h2) (fun j a b => f2 j (by simp; omega))
    have wP2 := wP1.at (h' := h2) (fun j a b => f2 j (by simp; omega))
    have sT2 := sT1.at (h' := h2) (fun j a b => f2 j (by simp; omega))
    have sC2 := sC1.at (h' := h2) (fun j a b => f2 j (by simp; omega))
    have sP2 := sP1.at (h' := h2) (fun j a b => f2 j (by simp; omega))
    have F2 : am_fr h h2 frU := F1.tr f2 (fun j hj => frU_in (by simp at hj; omega))
    refine am_istore_n dX8_unpackBlock_16 rfl rfl ?_
    refine am_iload_n dX8_unpackBlock_17 rfl rfl ?_
    refine am_iconst (v := -1) dX8_unpackBlock_18 rfl (by decide +kernel) ?_
    refine am_icmp_ne 24 dX8_unpackBlock_19 rfl rfl (fun hc => ?_) (fun hc => ?_)
    · refine am_iload_n dX8_unpackBlock_24 rfl rfl ?_
      refine am_nif_ne 31 dX8_unpackBlock_25 rfl rfl (by omega) (fun hc => ?_) (fun hc => ?_)
      · have fault : ∀ (i fl : Nat) (H : am_H), 0 < fl → fl < 7 → i ≤ num f k 16 → (nI fl = nI (blkR f E wa k bs co cp).1.1 ∧ (blkR f E wa k bs co cp).1.1 < 7 ∧ bhd h H E wa op (bl + 1) bi (blkR f E wa k bs co cp).1 (blkR f E wa k bs co cp).2) → am_At l D dA m_X8_unpackBlock d 0 0 0 0 n0 none (am_qi fun x h' => x = nI (blkR f E wa k bs co cp).1.1 ∧ (blkR f E wa k bs co cp).1.1 < 7 ∧ bhd h h' E wa op (bl + 1) bi (blkR f E wa k bs co cp).1 (blkR f E wa k bs co cp).2) 0 0 63 [some (am_r 30), some (.inl (nI (num f k 16))), some (.inl (nI fl)), some (.inl (nI i))] [] H := by
          intro i fl H h0 h7 hi hq
          refine am_iload_n dX8_unpackBlock_63 rfl rfl ?_
          refine am_iload_n dX8_unpackBlock_64 rfl rfl ?_
          refine am_ncmp_ge 90 dX8_unpackBlock_65 rfl rfl (by omega) (by omega) (fun hc => ?_) (fun hc => ?_)
          · refine am_iload_n dX8_unpackBlock_90 rfl rfl ?_
            exact am_ri dX8_unpackBlock_91 rfl rfl rfl hq
          · refine am_iload_n dX8_unpackBlock_68 rfl rfl ?_
            refine am_nif_ne 90 dX8_unpackBlock_69 rfl rfl (by omega) (fun hc => ?_) (fun hc => ?_)
            · refine am_iload_n dX8_unpackBlock_90 rfl rfl ?_
              exact am_ri dX8_unpackBlock_91 rfl rfl rfl hq
            · omega
        refine am_aload_n dX8_unpackBlock_31 rfl rfl ?_
        refine am_iconst (v := nI 0) dX8_unpackBlock_32 rfl (by decide +kernel) ?_
        refine am_iconst (v := nI 5) dX8_unpackBlock_33 rfl (by decide +kernel) ?_
        refine am_vi (t_X8_takeTree0 (d - 1) _ hu2 a2 s2 hr2 hta2 hE hE1 wT2 sT2 (by omega)) k_X8_takeTree l_X8_83 dX8_unpackBlock_34 rfl rfl rfl rfl hu2 (by omega) (Nat.le_refl _) (Nat.le_refl _) (fun x h3 hx => ?_)
        obtain ⟨rfl, lt3, f3, s3, E3, t3, ln3, sh3, rd3⟩ := hx
        rw [show treR f E 19 5 (fun n k => lnsR f E true n n 0 k (fun _ => 0)) (k + 16) = tTR f E (k + 16) from rfl] at *
        obtain ⟨⟨flT, kT, alT, lenT⟩, eT⟩ : ∃ p, p = tTR f E (k + 16) := ⟨_, rfl⟩
        rw [← eT] at lt3 s3 E3 t3 ln3 rd3 ⊢
        dsimp only at lt3 s3 E3 t3 ln3 rd3 ⊢
        have F3 : am_fr h h3 frU := F2.tr f3 (fun j hj => frU_in (by simp at hj; omega))
        have hu3 := (f3 30 (by simp)).trans hu2
        have hp3 := hp2.at (h' := h3) (f3 3 (by simp)) (f3 4 (by simp))
        have hr3 := (f3 1 (by simp)).trans hr2
        have hta3 := (f3 2 (by simp)).trans hta2
        have a3 := (f3 5 (by simp)).trans a2
        have wC3 := wC2.at (h' := h3) (fun j a b => f3 j (by simp; omega))
        have wP3 := wP2.at (h' := h3) (fun j a b => f3 j (by simp; omega))
        have sC3 := sC2.at (h' := h3) (fun j a b => f3 j (by simp; omega))
        have sP3 := sP2.at (h' := h3) (fun j a b => f3 j (by simp; omega))
        refine am_istore_n dX8_unpackBlock_37 rfl rfl ?_
        refine am_iload_n dX8_unpackBlock_38 rfl rfl ?_
        refine am_nif_ne 50 dX8_unpackBlock_39 rfl rfl (by omega) (fun hcT => ?_) (fun hcT => ?_)
        · refine am_iload_n dX8_unpackBlock_50 rfl rfl ?_
          refine am_nif_ne 61 dX8_unpackBlock_51 rfl rfl (by omega) (fun hc => ?_) (fun hc => ?_)
          · refine am_iconst (v := nI 0) dX8_unpackBlock_61 rfl (by decide +kernel) ?_
            refine am_istore_n dX8_unpackBlock_62 rfl rfl ?_
            have eB : (blkR f E wa k bs co cp) = ((flT, kT, bs, co, cp), (lenT, zN, zN)) := by
              unfold blkR
              rw [if_neg (by omega), if_neg (by omega), ← eT, if_pos (by show flT ≠ 0; omega)]
            exact fault 0 flT h3 hcT lt3 (by omega) (by rw [eB]; exact ⟨rfl, lt3, F3, s3, E3, hp3, Nat.le_of_lt hbl, a3, ⟨sh3, sC3, sP3⟩, ln3, wC3.ln, wP3.ln⟩)
          · omega
        · subst hcT
          refine am_aload_n dX8_unpackBlock_42 rfl rfl ?_
          refine am_iconst (v := nI 1) dX8_unpackBlock_43 rfl (by decide +kernel) ?_
          refine am_bipush (v := nI 9) dX8_unpackBlock_44 rfl (by decide +kernel) ?_
          refine am_vi (t_X8_takeTree1 (d - 1) _ hu3 a3 s3 hr3 hta3 hE E3 wC3 sC3 t3 (rd3 rfl) (by omega)) k_X8_takeTree l_X8_83 dX8_unpackBlock_46 rfl rfl rfl rfl hu3 (by omega) (Nat.le_refl _) (Nat.le_refl _) (fun x h4 hx => ?_)
          obtain ⟨rfl, lt4, f4, s4, E4, t4, ln4, sh4, rd4⟩ := hx
          rw [show treR f E 510 9 (fun n k => lncR f E n lenT alT n 0 k (fun _ => 0)) kT = tCR f E lenT alT kT from rfl] at *
          obtain ⟨⟨flC, kC, alC, lenC⟩, eC⟩ : ∃ p, p = tCR f E lenT alT kT := ⟨_, rfl⟩
          rw [← eC] at lt4 s4 E4 t4 ln4 rd4 ⊢
          dsimp only at lt4 s4 E4 t4 ln4 rd4 ⊢
          have F4 : am_fr h h4 frU := F3.tr f4 (fun j hj => frU_in (by simp at hj; omega))
          have hu4 := (f4 30 (by simp)).trans hu3
          have hp4 := hp3.at (h' := h4) (f4 3 (by simp)) (f4 4 (by simp))
          have hr4 := (f4 1 (by simp)).trans hr3
          have hta4 := (f4 2 (by simp)).trans hta3
          have a4 := (f4 5 (by simp)).trans a3
          have wP4 := wP3.at (h' := h4) (fun j a b => f4 j (by simp; omega))
          have sP4 := sP3.at (h' := h4) (fun j a b => f4 j (by simp; omega))
          have sT4 := sh3.at (h' := h4) (fun j a b => f4 j (by simp; omega))
          have lnT4 := ln3.at (h' := h4) (f4 7 (by simp))
          refine am_istore_n dX8_unpackBlock_49 rfl rfl ?_
          refine am_iload_n dX8_unpackBlock_50 rfl rfl ?_
          refine am_nif_ne 61 dX8_unpackBlock_51 rfl rfl (by omega) (fun hcC => ?_) (fun hcC => ?_)
          · refine am_iconst (v := nI 0) dX8_unpackBlock_61 rfl (by decide +kernel) ?_
            refine am_istore_n dX8_unpackBlock_62 rfl rfl ?_
            have eB : (blkR f E wa k bs co cp) = ((flC, kC, bs, co, cp), (lenT, lenC, zN)) := by
              unfold blkR
              rw [if_neg (by omega), if_neg (by omega), ← eT]
              dsimp only
              rw [if_neg (by omega), ← eC, if_pos (by show flC ≠ 0; omega)]
            exact fault 0 flC h4 hcC lt4 (by omega) (by rw [eB]; exact ⟨rfl, lt4, F4, s4, E4, hp4, Nat.le_of_lt hbl, a4, ⟨sT4, sh4, sP4⟩, lnT4, ln4, wP4.ln⟩)
          · subst hcC
            refine am_aload_n dX8_unpackBlock_54 rfl rfl ?_
            refine am_iconst (v := nI 2) dX8_unpackBlock_55 rfl (by decide +kernel) ?_
            refine am_iconst (v := nI 4) dX8_unpackBlock_56 rfl (by decide +kernel) ?_
            refine am_vi (t_X8_takeTree2 (d - 1) _ hu4 a4 s4 hr4 hta4 hE E4 wP4 sP4 (by omega)) k_X8_takeTree l_X8_83 dX8_unpackBlock_57 rfl rfl rfl rfl hu4 (by omega) (Nat.le_refl _) (Nat.le_refl _) (fun x h5 hx => ?_)
            obtain ⟨rfl, lt5, f5, s5, E5, t5, ln5, sh5, rd5⟩ := hx
            rw [show treR f E 14 4 (fun n k => lnsR f E false n n 0 k (fun _ => 0)) kC = tPR f E kC from rfl] at *
            obtain ⟨⟨flP, kP, alP, lenP⟩, eP⟩ : ∃ p, p = tPR f E kC := ⟨_, rfl⟩
            rw [← eP] at lt5 s5 E5 t5 ln5 rd5 ⊢
            dsimp only at lt5 s5 E5 t5 ln5 rd5 ⊢
            have F5 : am_fr h h5 frU := F4.tr f5 (fun j hj => frU_in (by simp at hj; omega))
            have hu5 := (f5 30 (by simp)).trans hu4
            have hp5 := hp4.at (h' := h5) (f5 3 (by simp)) (f5 4 (by simp))
            have hr5 := (f5 1 (by simp)).trans hr4
            have hta5 := (f5 2 (by simp)).trans hta4
            have a5 := (f5 5 (by simp)).trans a4
            have sT5 := sT4.at (h' := h5) (fun j a b => f5 j (by simp; omega))
            have sC5 := sh4.at (h' := h5) (fun j a b => f5 j (by simp; omega))
            have lnT5 := lnT4.at (h' := h5) (f5 7 (by simp))
            have lnC5 := ln4.at (h' := h5) (f5 15 (by simp))
            have tC5 := (f5 14 (by simp)).trans t4
            have rC5 := (rd4 rfl).at (h' := h5) (fun j a b => f5 j (by simp; omega))
            by_cases hcP : flP = 0
            · subst hcP
              have eB : (blkR f E wa k bs co cp) = (cdsR lenC alC lenP alP f E wa (num f k 16) kP bs co cp, (lenT, lenC, lenP)) := by
                unfold blkR
                rw [if_neg (by omega), if_neg (by omega), ← eT]
                dsimp only
                rw [if_neg (by omega), ← eC]
                dsimp only
                rw [if_neg (by omega), ← eP, if_neg (by show ¬ (0 : Nat) ≠ 0; omega)]
              have rP5 := rd5 rfl
              refine am_istore_n dX8_unpackBlock_60 rfl rfl ?_
              refine am_iconst (v := nI 0) dX8_unpackBlock_61 rfl (by decide +kernel) ?_
              refine am_istore_n dX8_unpackBlock_62 rfl rfl ?_
              have loop : ∀ (q i k' : Nat) (bs' : List Int32) (co' cp' : Nat) (H : am_H), cdsR lenC alC lenP alP f E wa q k' bs' co' cp' = (blkR f E wa k bs co cp).1 → i + q = num f k 16 → am_fr h5 H [3, 4, 5, 31] → H 31 = some (bsO 1 E k') → k' ≤ E → rws H 3 4 12000 bs' → bs'.length ≤ wa → H 5 = some (acO op (bl + 1) co' cp' bi) → am_At l D dA m_X8_unpackBlock d 0 0 0 0 n0 none (am_qi fun x h' => x = nI (blkR f E wa k bs co cp).1.1 ∧ (blkR f E wa k bs co cp).1.1 < 7 ∧ bhd h h' E wa op (bl + 1) bi (blkR f E wa k bs co cp).1 (blkR f E wa k bs co cp).2) 0 0 63 [some (am_r 30), some (.inl (nI (num f k 16))), some (.inl (nI 0)), some (.inl (nI i))] [] H := by
                intro q
                induction q with
                | zero =>
                  intro i k' bs' co' cp' H hR hq hfr g31 hk' hw hwl g5
                  have hR : (0, k', bs', co', cp') = (blkR f E wa k bs co cp).1 := hR
                  have FH : am_fr h H frU := F5.tr hfr (fun j hj => frU_in (by simp at hj; omega))
                  have post : nI 0 = nI (blkR f E wa k bs co cp).1.1 ∧ (blkR f E wa k bs co cp).1.1 < 7 ∧ bhd h H E wa op (bl + 1) bi (blkR f E wa k bs co cp).1 (blkR f E wa k bs co cp).2 := by
                    rw [← hR, eB]
                    exact ⟨rfl, by show 0 < 7; omega, FH, g31, hk', hw, hwl, g5, ⟨sT5.at (fun j a b => hfr j (by simp; omega)), sC5.at (fun j a b => hfr j (by simp; omega)), sh5.at (fun j a b => hfr j (by simp; omega))⟩, lnT5.at (hfr 7 (by simp)), lnC5.at (hfr 15 (by simp)), ln5.at (hfr 23 (by simp))⟩
                  refine am_iload_n dX8_unpackBlock_63 rfl rfl ?_
                  refine am_iload_n dX8_unpackBlock_64 rfl rfl ?_
                  refine am_ncmp_ge 90 dX8_unpackBlock_65 rfl rfl (by omega) (by omega) (fun hc => ?_) (fun hc => ?_)
                  · refine am_iload_n dX8_unpackBlock_90 rfl rfl ?_
                    exact am_ri dX8_unpackBlock_91 rfl rfl rfl post
                  · omega
                | succ q ih =>
                  intro i k' bs' co' cp' H hR hq hfr g31 hk' hw hwl g5
                  rw [cdsR] at hR
                  have FH : am_fr h H frU := F5.tr hfr (fun j hj => frU_in (by simp at hj; omega))
                  have huH := (hfr 30 (by simp)).trans hu5
                  have hrH := (hfr 1 (by simp)).trans hr5
                  have htaH := (hfr 2 (by simp)).trans hta5
                  have tCH := (hfr 14 (by simp)).trans tC5
                  have tPH := (hfr 22 (by simp)).trans t5
                  have rCH := rC5.at (h' := H) (fun j a b => hfr j (by simp; omega))
                  have rPH := rP5.at (h' := H) (fun j a b => hfr j (by simp; omega))
                  refine am_iload_n dX8_unpackBlock_63 rfl rfl ?_
                  refine am_iload_n dX8_unpackBlock_64 rfl rfl ?_
                  refine am_ncmp_ge 90 dX8_unpackBlock_65 rfl rfl (by omega) (by omega) (fun hc => ?_) (fun hc => ?_)
                  · omega
                  · refine am_iload_n dX8_unpackBlock_68 rfl rfl ?_
                    refine am_nif_ne 90 dX8_unpackBlock_69 rfl rfl (by omega) (fun hcz => ?_) (fun hcz => ?_)
                    · omega
                    · refine am_aload_n dX8_unpackBlock_72 rfl rfl ?_
                      refine am_vi (t_X8_wantsMore (d - 1) _ huH hw (by omega) (by omega) (by omega)) k_X8_wantsMore l_X8_59 dX8_unpackBlock_73 rfl rfl rfl rfl huH (by omega) (Nat.le_refl _) (Nat.le_refl _) (fun x h6 hx => ?_)
                      obtain ⟨rfl, hh⟩ := hx
                      obtain rfl := hh.symm
                      refine am_bif_eq 90 dX8_unpackBlock_76 rfl rfl (fun hcw => ?_) (fun hcw => ?_)
                      · have hcw : wa ≤ bs'.length := by simpa using hcw
                        rw [if_pos hcw] at hR
                        have post : nI 0 = nI (blkR f E wa k bs co cp).1.1 ∧ (blkR f E wa k bs co cp).1.1 < 7 ∧ bhd h H E wa op (bl + 1) bi (blkR f E wa k bs co cp).1 (blkR f E wa k bs co cp).2 := by
                          rw [← hR, eB]
                          exact ⟨rfl, by show 0 < 7; omega, FH, g31, hk', hw, hwl, g5, ⟨sT5.at (fun j a b => hfr j (by simp; omega)), sC5.at (fun j a b => hfr j (by simp; omega)), sh5.at (fun j a b => hfr j (by simp; omega))⟩, lnT5.at (hfr 7 (by simp)), lnC5.at (hfr 15 (by simp)), ln5.at (hfr 23 (by simp))⟩
                        refine am_iload_n dX8_unpackBlock_90 rfl rfl ?_
                        exact am_ri dX8_unpackBlock_91 rfl rfl rfl post
                      · have hcw : bs'.length < wa := by simpa using hcw
                        rw [if_neg (by omega)] at hR
                        refine am_aload_n dX8_unpackBlock_79 rfl rfl ?_
                        refine am_vi (t_X8_unpackCode (d - 1) _ huH hw g5 g31 hrH htaH hE hk' hwa hcw tCH rCH tPH rPH (by omega)) k_X8_unpackCode l_X8_87 dX8_unpackBlock_80 rfl rfl rfl rfl huH (by omega) (Nat.le_refl _) (Nat.le_refl _) (fun x h6 hx => ?_)
                        have h7 := oneR_lt lenC alC lenP alP f E wa k' bs' co' cp'
                        obtain ⟨⟨fl, kk, bb, cc, pp⟩, eo⟩ : ∃ p, p = oneR lenC alC lenP alP f E wa k' bs' co' cp' := ⟨_, rfl⟩
                        rw [← eo] at hx hR h7
                        dsimp only at hx hR h7
                        obtain ⟨rfl, f6, s6, w6, a6, E6, L6⟩ := hx
                        have hfr6 : am_fr h5 h6 [3, 4, 5, 31] := hfr.tr f6 (by simp)
                        refine am_istore_n dX8_unpackBlock_83 rfl rfl ?_
                        refine am_iinc (n := 1) dX8_unpackBlock_84 rfl rfl (nI_1 i) ?_
                        refine am_goto 63 dX8_unpackBlock_87 rfl rfl ?_
                        by_cases hf : fl = 0
                        · subst hf
                          rw [if_pos rfl] at hR
                          exact ih (i + 1) kk bb cc pp h6 hR (by omega) hfr6 s6 E6 w6 L6 a6
                        · rw [if_neg hf] at hR
                          refine fault (i + 1) fl h6 (by omega) h7 (by omega) ?_
                          rw [← hR, eB]
                          exact ⟨rfl, h7, F5.tr hfr6 (fun j hj => frU_in (by simp at hj; omega)), s6, E6, w6, L6, a6, ⟨sT5.at (fun j a b => hfr6 j (by simp; omega)), sC5.at (fun j a b => hfr6 j (by simp; omega)), sh5.at (fun j a b => hfr6 j (by simp; omega))⟩, lnT5.at (hfr6 7 (by simp)), lnC5.at (hfr6 15 (by simp)), ln5.at (hfr6 23 (by simp))⟩
              exact loop (num f k 16) 0 kP bs co cp h5 (by rw [eB]) (by omega) am_fr.rf s5 E5 hp5 (Nat.le_of_lt hbl) a5
            · have eB : (blkR f E wa k bs co cp) = ((flP, kP, bs, co, cp), (lenT, lenC, lenP)) := by
                unfold blkR
                rw [if_neg (by omega), if_neg (by omega), ← eT]
                dsimp only
                rw [if_neg (by omega), ← eC]
                dsimp only
                rw [if_neg (by omega), ← eP, if_pos (by show flP ≠ 0; omega)]
              refine am_istore_n dX8_unpackBlock_60 rfl rfl ?_
              refine am_iconst (v := nI 0) dX8_unpackBlock_61 rfl (by decide +kernel) ?_
              refine am_istore_n dX8_unpackBlock_62 rfl rfl ?_
              exact fault 0 flP h5 (by omega) lt5 (by omega) (by rw [eB]; exact ⟨rfl, lt5, F5, s5, E5, hp5, Nat.le_of_lt hbl, a5, ⟨sT5, sC5, sh5⟩, lnT5, lnC5, ln5⟩)
      · have eB : (blkR f E wa k bs co cp) = ((6, k + 16, bs, co, cp), (zN, zN, zN)) := by
          unfold blkR
          rw [if_neg (by omega), if_pos hc]
        refine am_bipush (v := nI 6) dX8_unpackBlock_28 rfl (by decide +kernel) ?_
        exact am_ri dX8_unpackBlock_30 rfl rfl rfl (by rw [eB]; exact ⟨rfl, by show 6 < 7; omega, F2, s2, hE1, hp2, Nat.le_of_lt hbl, a2, ⟨sT2, sC2, sP2⟩, wT2.ln, wC2.ln, wP2.ln⟩)
    · exact absurd hc (am_nm1 (by omega))
  · obtain ⟨rfl, e2⟩ := hx2 (by omega)
    have f2 : am_fr h1 h2 [31] := by rw [e2]; exact am_fr.rf.set (by simp)
    have s2 : h2 31 = some (bsO 1 E E) := by rw [e2]; exact am_set_eq
    have F2 : am_fr h h2 frU := F1.tr f2 (fun j hj => frU_in (by simp at hj; omega))
    have eB : (blkR f E wa k bs co cp) = ((1, E, bs, co, cp), (zN, zN, zN)) := by
      unfold blkR
      rw [if_pos (by omega)]
    refine am_istore_n dX8_unpackBlock_16 rfl rfl ?_
    refine am_iload_n dX8_unpackBlock_17 rfl rfl ?_
    refine am_iconst (v := -1) dX8_unpackBlock_18 rfl (by decide +kernel) ?_
    refine am_icmp_ne 24 dX8_unpackBlock_19 rfl rfl (fun hc => ?_) (fun hc => ?_)
    · exact absurd rfl hc
    · refine am_iconst (v := nI 1) dX8_unpackBlock_22 rfl (by decide +kernel) ?_
      exact am_ri dX8_unpackBlock_23 rfl rfl rfl (by rw [eB]; exact ⟨rfl, by show 1 < 7; omega, F2, s2, Nat.le_refl _, hp1.at (f2 3 (by simp)) (f2 4 (by simp)), Nat.le_of_lt hbl, (f2 5 (by simp)).trans a1, ⟨sT1.at (fun j a b => f2 j (by simp; omega)), sC1.at (fun j a b => f2 j (by simp; omega)), sP1.at (fun j a b => f2 j (by simp; omega))⟩, wT1.ln.at (f2 7 (by simp)), wC1.ln.at (f2 15 (by simp)), wP1.ln.at (f2 23 (by simp))⟩)
end UNP5
