/-! ===== Unpacker: trees ===== -/
section UNP4
variable {l : Launch} {D : va_G} {dA : Bool → ClassId}
theorem lnsR_lt (f : Nat → Int32) (E : Nat) (gp : Bool) (n : Nat) : ∀ (q i k : Nat) (len : Nat → Nat), (lnsR f E gp n q i k len).1 < 7
  | 0, _, _, _ => by show 0 < 7; omega
  | q + 1, i, k, len => by
    rw [lnsR]
    split
    · show 0 < 7; omega
    · split
      · show 1 < 7; omega
      · split
        · show 2 < 7; omega
        · split
          · split
            · show 1 < 7; omega
            · exact lnsR_lt f E gp n q _ _ _
          · exact lnsR_lt f E gp n q _ _ _
theorem lncR_lt (f : Nat → Int32) (E n : Nat) (lenT : Nat → Nat) (alT : Int32) : ∀ (q i k : Nat) (len : Nat → Nat), (lncR f E n lenT alT q i k len).1 < 7
  | 0, _, _, _ => by show (if _ then 3 else 0) < 7; split <;> omega
  | q + 1, i, k, len => by
    rw [lncR]
    split
    · show (if _ then 3 else 0) < 7; split <;> omega
    · split
      · show 1 < 7; omega
      · split
        · show 1 < 7; omega
        · exact lncR_lt f E n lenT alT q _ _ _
theorem rdy_alone {h : am_H} {t m s : Nat} {len : Nat → Nat} (hs : s < m) (hm : m ≤ 510) : rdy h t m (nI s) len := ⟨fun g => absurd g (am_nm1 (by omega)), fun _ => ⟨s, hs, rfl⟩⟩
theorem rdy_stl {h : am_H} {t m : Nat} {len : Nat → Nat} (a : stl h t m len) (b : krf len m = 65536) (c : ∀ s, s < m → len s ≤ 16) : rdy h t m (-1) len := ⟨fun _ => ⟨a, b, c⟩, fun g => absurd rfl g⟩
/-- a wiped tree holds lengths 0 -/
theorem wpd.ln {h : am_H} {t m : Nat} (a : wpd h t m) : lnA h (t + 1) m (fun _ => 0) := by
  obtain ⟨-, ⟨f, e, g⟩, -⟩ := a
  exact ⟨f, e, fun s hs => ⟨g s hs, Nat.zero_le _⟩⟩
set_option maxHeartbeats 4000000 in
set_option maxRecDepth 100000 in
theorem t_X8_takeTree0 (d n0 : Nat) {h : am_H} {wa : Nat} (hu : h 30 = some (unO wa)) {op : Bool} {bl co cp bi : Nat} (hac : h 5 = some (acO op bl co cp bi)) {E k c : Nat} {f : Nat → Int32} (hs : h 31 = some (bsO 1 E k)) (hr : h 1 = some (rwO 2 c)) (hta : h 2 = some (.inl (false, 4000, f))) (hE : E ≤ 32000) (hk : k ≤ E) (hw : wpd h 6 19) (hsh : tsh h 6 19) (hd : 4 ≤ d) : am_Ct l D dA m_X8_takeTree d 0 0 n0 [am_r 30, .inl (nI 0), .inl (nI 5)] h (am_qi fun x h' => x = nI (treR f E 19 5 (fun n k => lnsR f E true n n 0 k (fun _ => 0)) k).1 ∧ (treR f E 19 5 (fun n k => lnsR f E true n n 0 k (fun _ => 0)) k).1 < 7 ∧ am_fr h h' [31, 6, 7, 8, 10, 11, 12, 13] ∧ h' 31 = some (bsO 1 E (treR f E 19 5 (fun n k => lnsR f E true n n 0 k (fun _ => 0)) k).2.1) ∧ (treR f E 19 5 (fun n k => lnsR f E true n n 0 k (fun _ => 0)) k).2.1 ≤ E ∧ h' 6 = some (trO 6 (treR f E 19 5 (fun n k => lnsR f E true n n 0 k (fun _ => 0)) k).2.2.1) ∧ lnA h' 7 19 (treR f E 19 5 (fun n k => lnsR f E true n n 0 k (fun _ => 0)) k).2.2.2 ∧ tsh h' 6 19 ∧ ((treR f E 19 5 (fun n k => lnsR f E true n n 0 k (fun _ => 0)) k).1 = 0 → rdy h' 6 19 (treR f E 19 5 (fun n k => lnsR f E true n n 0 k (fun _ => 0)) k).2.2.1 (treR f E 19 5 (fun n k => lnsR f E true n n 0 k (fun _ => 0)) k).2.2.2)) := by
  refine am_Ci (by decide +kernel) rfl rfl ?_
  have hnl := num_lt f k 5
  have hnl2 := num_lt f (k + 5) 5
  have ht := hw.1
  have hln := hw.ln
  refine am_aload_n dX8_takeTree_0 rfl rfl ?_
  refine am_get f_X8_24 dX8_takeTree_1 rfl hu rfl ?_
  refine am_iload_n dX8_takeTree_4 rfl rfl ?_
  refine am_vr (t_X0_tree0 (d - 1) _ hac) k_X0_tree l_X8_28 dX8_takeTree_5 rfl rfl rfl rfl hac (by omega) (Nat.le_refl _) (Nat.le_refl _) (fun x h1 hx => ?_)
  obtain ⟨rfl, hh⟩ := hx
  obtain rfl := hh.symm
  refine am_astore_n dX8_takeTree_8 rfl rfl ?_
  refine am_aload_n dX8_takeTree_9 rfl rfl ?_
  refine am_get f_X8_14 dX8_takeTree_10 rfl hu rfl ?_
  refine am_iload_n dX8_takeTree_13 rfl rfl ?_
  refine am_vi (t_X2_take (d - 1) _ hs hr hta (by omega) (by decide) hk (by decide) (by decide) (b := 5) (by omega)) k_X2_take l_X8_79 dX8_takeTree_14 rfl rfl rfl rfl hs (by omega) (Nat.le_refl _) (Nat.le_refl _) (fun x h2 hx => ?_)
  obtain ⟨hx1, hx2⟩ := hx
  by_cases hE1 : k + 5 ≤ E
  · obtain ⟨rfl, e2⟩ := hx1 hE1
    have f2 : am_fr h h2 [31] := by rw [e2]; exact am_fr.rf.set (by simp)
    have k31 : h2 31 = some (bsO 1 E (k + 5)) := by rw [e2]; exact am_set_eq
    have hu2 := (f2 30 (by simp)).trans hu
    have hr2 := (f2 1 (by simp)).trans hr
    have hta2 := (f2 2 (by simp)).trans hta
    have ht2 := (f2 6 (by simp)).trans ht
    have hln2 := hln.at (h' := h2) (f2 7 (by simp))
    have hsh2 := hsh.at (h' := h2) (fun j a b => f2 j (by simp; omega))
    obtain ⟨lf, hl1, hl2⟩ := id hln2
    refine am_istore dX8_takeTree_17 rfl rfl ?_
    refine am_iload dX8_takeTree_19 rfl rfl ?_
    refine am_iconst (v := -1) dX8_takeTree_21 rfl (by decide +kernel) ?_
    refine am_icmp_ne 27 dX8_takeTree_22 rfl rfl (fun hc => ?_) (fun hc => ?_)
    · refine am_iload dX8_takeTree_27 rfl rfl ?_
      refine am_aload_n dX8_takeTree_29 rfl rfl ?_
      refine am_vi (t_X7_symbols (d - 1) _ ht2 hl1 (by omega)) k_X7_symbols l_X8_90 dX8_takeTree_30 rfl rfl rfl rfl ht2 (by omega) (Nat.le_refl _) (Nat.le_refl _) (fun x h1 hx => ?_)
      obtain ⟨rfl, hh⟩ := hx
      obtain rfl := hh.symm
      refine am_ncmp_le 38 dX8_takeTree_33 rfl rfl (by omega) (by omega) (fun hc => ?_) (fun hc => ?_)
      · refine am_iload dX8_takeTree_38 rfl rfl ?_
        refine am_nif_ne 50 dX8_takeTree_40 rfl rfl (by omega) (fun hc => ?_) (fun hc => ?_)
        · refine am_iload_n dX8_takeTree_50 rfl rfl ?_
          refine am_iconst (v := nI 1) dX8_takeTree_51 rfl (by decide +kernel) ?_
          refine am_ncmp_ne 64 dX8_takeTree_52 rfl rfl (by omega) (by omega) (fun hc => ?_) (fun hc => ?_)
          · refine am_aload_n dX8_takeTree_64 rfl rfl ?_
            refine am_aload_n dX8_takeTree_65 rfl rfl ?_
            refine am_iload dX8_takeTree_66 rfl rfl ?_
            refine am_iload_n dX8_takeTree_68 rfl rfl ?_
            refine am_nif_ne 76 dX8_takeTree_69 rfl rfl (by omega) (fun hc => ?_) (fun hc => ?_)
            · omega
            · refine am_iconst (v := nI 1) dX8_takeTree_72 rfl (by decide +kernel) ?_
              refine am_goto 77 dX8_takeTree_73 rfl rfl ?_
              rw [show nI 1 = am_bz true from rfl]
              refine am_vi (t_X8_takeLengths (d - 1) _ hu2 k31 hr2 hta2 hE hE1 ht2 hln2 (by omega) (fun j a b => by omega) (gp := true) (by omega) (by omega)) k_X8_takeLengths l_X8_102 dX8_takeTree_77 rfl rfl rfl rfl hu2 (by omega) (Nat.le_refl _) (Nat.le_refl _) (fun x h3 hx => ?_)
              obtain ⟨rfl, f3, m31, mE, hln3⟩ := hx
              have hlt := lnsR_lt f E true (num f k 5) (num f k 5) 0 (k + 5) (fun _ => 0)
              obtain ⟨⟨fl, kp, ln⟩, eL⟩ : ∃ p, p = lnsR f E true (num f k 5) (num f k 5) 0 (k + 5) (fun _ => 0) := ⟨_, rfl⟩
              rw [← eL] at m31 mE hln3 hlt ⊢
              dsimp only at m31 mE hln3 hlt ⊢
              have eR : (treR f E 19 5 (fun n k => lnsR f E true n n 0 k (fun _ => 0)) k) = ((if fl = 0 then (if krf ln 19 = 65536 then 0 else 2) else fl), kp, -1, ln) := by
                unfold treR
                rw [if_neg (by omega), if_neg (by omega), if_neg (by omega)]
                simp only [← eL]
              have ht3 := (f3 6 (by simp)).trans ht2
              have hsh3 : tsh h3 6 19 := by
                obtain ⟨-, -, b2, b3, b4, b5, b6, b7⟩ := hsh2
                obtain ⟨lf3, q1, q2⟩ := hln3
                exact ⟨⟨_, ht3⟩, ⟨_, q1⟩, b2.at (f3 _ (by simp)), b3.at (f3 _ (by simp)), b4.at (f3 _ (by simp)), b5.at (f3 _ (by simp)), b6.at (f3 _ (by simp)), b7.at (f3 _ (by simp))⟩
              refine am_istore dX8_takeTree_80 rfl rfl ?_
              refine am_iload dX8_takeTree_82 rfl rfl ?_
              refine am_nif_eq 90 dX8_takeTree_84 rfl rfl (by omega) (fun hc => ?_) (fun hc => ?_)
              · subst hc
                obtain ⟨-, -, ⟨c2, b2⟩, -, ⟨c4, b4⟩, ⟨c5, b5⟩, ⟨c6, b6⟩, ⟨c7, b7⟩⟩ := id hsh3
                obtain ⟨lf3, q1, q2⟩ := id hln3
                refine am_aload_n dX8_takeTree_90 rfl rfl ?_
                refine am_vi (t_X7_settle (d - 1) _ ht3 q1 (by omega) (by omega) (fun s hs => (q2 s hs).1) (fun s hs => (q2 s hs).2) b2 b4 b5 b6 b7 (by omega)) k_X7_settle l_X8_106 dX8_takeTree_91 rfl rfl rfl rfl ht3 (by omega) (Nat.le_refl _) (Nat.le_refl _) (fun x h4 hx => ?_)
                obtain ⟨rfl, f4, hst, c2, c4, c5, c6, c7, b2, b4, b5, b6, b7⟩ := hx
                have hsh4 : tsh h4 6 19 := by
                  obtain ⟨-, -, -, b3, -⟩ := hsh3
                  exact ⟨⟨_, (f4 6 (by simp)).trans ht3⟩, ⟨_, (f4 7 (by simp)).trans q1⟩, ⟨_, b2⟩, b3.at (f4 _ (by simp)), ⟨_, b4⟩, ⟨_, b5⟩, ⟨_, b6⟩, ⟨_, b7⟩⟩
                have hfr4 : am_fr h h4 [31, 6, 7, 8, 10, 11, 12, 13] := ((am_fr.rf.tr f2 (by simp)).tr f3 (by simp)).tr f4 (by simp)
                refine am_bif_eq 101 dX8_takeTree_94 rfl rfl (fun hk9 => ?_) (fun hk9 => ?_)
                · have hk9 : ¬ krf ln 19 = 65536 := by simpa using hk9
                  refine am_iconst (v := nI 2) dX8_takeTree_101 rfl (by decide +kernel) ?_
                  exact am_ri dX8_takeTree_102 rfl rfl rfl (by rw [eR, if_pos rfl, if_neg hk9]; exact ⟨rfl, (by show 2 < 7; omega), hfr4, (f4 31 (by simp)).trans m31, mE, (f4 6 (by simp)).trans ht3, hln3.at (f4 7 (by simp)), hsh4, fun g => (by cases g)⟩)
                · have hk9 : krf ln 19 = 65536 := by simpa using hk9
                  refine am_iconst (v := nI 0) dX8_takeTree_97 rfl (by decide +kernel) ?_
                  refine am_goto 102 dX8_takeTree_98 rfl rfl ?_
                  exact am_ri dX8_takeTree_102 rfl rfl rfl (by rw [eR, if_pos rfl, if_pos hk9]; exact ⟨rfl, (by show 0 < 7; omega), hfr4, (f4 31 (by simp)).trans m31, mE, (f4 6 (by simp)).trans ht3, hln3.at (f4 7 (by simp)), hsh4, fun _ => rdy_stl (hst hk9) hk9 (fun s hs => (q2 s hs).2)⟩)
              · refine am_iload dX8_takeTree_87 rfl rfl ?_
                exact am_ri dX8_takeTree_89 rfl rfl rfl (by rw [eR, if_neg (by omega)]; exact ⟨rfl, hlt, (am_fr.rf.tr f2 (by simp)).tr f3 (by simp), m31, mE, ht3, hln3, hsh3, fun g => absurd g (by show ¬ fl = 0; omega)⟩)
          · omega
        · refine am_aload_n dX8_takeTree_43 rfl rfl ?_
          refine am_aload_n dX8_takeTree_44 rfl rfl ?_
          refine am_iload_n dX8_takeTree_45 rfl rfl ?_
          refine am_vi (t_X8_takeAlone (d - 1) _ hu2 k31 hr2 hta2 hE hE1 ht2 hl1 (by omega) (fun j a b => by omega) (b := 5) (by omega) (by omega)) k_X8_takeAlone l_X8_95 dX8_takeTree_46 rfl rfl rfl rfl hu2 (by omega) (Nat.le_refl _) (Nat.le_refl _) (fun x h3 hx => ?_)
          obtain ⟨hx3, hx4, hx5⟩ := hx
          by_cases hE2 : k + 5 + 5 ≤ E
          · rcases Nat.lt_or_ge (num f (k + 5) 5) 19 with g | g
            · obtain ⟨rfl, e3⟩ := hx5 hE2 g
              have eR : (treR f E 19 5 (fun n k => lnsR f E true n n 0 k (fun _ => 0)) k) = (0, k + 5 + 5, nI (num f (k + 5) 5), fun _ => 0) := by
                unfold treR
                rw [if_neg (by omega), if_neg (by omega), if_pos hc, if_neg (by omega), if_neg (by omega)]
              have f3 : am_fr h2 h3 [31, 6] := by rw [e3]; exact (am_fr.rf.set (by simp)).set (by simp)
              have m31 : h3 31 = some (bsO 1 E (k + 5 + 5)) := by rw [e3]; exact (am_set_ne (by decide)).trans am_set_eq
              have mt : h3 6 = some (trO 6 (nI (num f (k + 5) 5))) := by rw [e3]; exact am_set_eq
              have hsh3 : tsh h3 6 19 := by
                obtain ⟨-, b1, b2, b3, b4, b5, b6, b7⟩ := hsh2
                exact ⟨⟨_, mt⟩, b1.at (f3 _ (by simp)), b2.at (f3 _ (by simp)), b3.at (f3 _ (by simp)), b4.at (f3 _ (by simp)), b5.at (f3 _ (by simp)), b6.at (f3 _ (by simp)), b7.at (f3 _ (by simp))⟩
              exact am_ri dX8_takeTree_49 rfl rfl rfl (by rw [eR]; exact ⟨rfl, (by show 0 < 7; omega), (am_fr.rf.tr f2 (by simp)).tr f3 (by simp), m31, hE2, mt, hln2.at (f3 7 (by simp)), hsh3, fun _ => rdy_alone g (by omega)⟩)
            · obtain ⟨rfl, e3⟩ := hx4 hE2 g
              have eR : (treR f E 19 5 (fun n k => lnsR f E true n n 0 k (fun _ => 0)) k) = (3, k + 5 + 5, -1, fun _ => 0) := by
                unfold treR
                rw [if_neg (by omega), if_neg (by omega), if_pos hc, if_neg (by omega), if_pos g]
              have f3 : am_fr h2 h3 [31] := by rw [e3]; exact am_fr.rf.set (by simp)
              have m31 : h3 31 = some (bsO 1 E (k + 5 + 5)) := by rw [e3]; exact am_set_eq
              exact am_ri dX8_takeTree_49 rfl rfl rfl (by rw [eR]; exact ⟨rfl, (by show 3 < 7; omega), (am_fr.rf.tr f2 (by simp)).tr f3 (by simp), m31, hE2, (f3 6 (by simp)).trans ht2, hln2.at (f3 7 (by simp)), hsh2.at (fun j a b => f3 j (by simp; omega)), fun g => (by cases g)⟩)
          · obtain ⟨rfl, e3⟩ := hx3 (by omega)
            have eR : (treR f E 19 5 (fun n k => lnsR f E true n n 0 k (fun _ => 0)) k) = (1, E, -1, fun _ => 0) := by
              unfold treR
              rw [if_neg (by omega), if_neg (by omega), if_pos hc, if_pos (by omega)]
            have f3 : am_fr h2 h3 [31] := by rw [e3]; exact am_fr.rf.set (by simp)
            have m31 : h3 31 = some (bsO 1 E E) := by rw [e3]; exact am_set_eq
            exact am_ri dX8_takeTree_49 rfl rfl rfl (by rw [eR]; exact ⟨rfl, (by show 1 < 7; omega), (am_fr.rf.tr f2 (by simp)).tr f3 (by simp), m31, Nat.le_refl _, (f3 6 (by simp)).trans ht2, hln2.at (f3 7 (by simp)), hsh2.at (fun j a b => f3 j (by simp; omega)), fun g => (by cases g)⟩)
      · have eR : (treR f E 19 5 (fun n k => lnsR f E true n n 0 k (fun _ => 0)) k) = (3, k + 5, -1, fun _ => 0) := by
          unfold treR
          rw [if_neg (by omega), if_pos hc]
        refine am_iconst (v := nI 3) dX8_takeTree_36 rfl (by decide +kernel) ?_
        exact am_ri dX8_takeTree_37 rfl rfl rfl (by rw [eR]; exact ⟨rfl, (by show 3 < 7; omega), am_fr.rf.tr f2 (by simp), k31, hE1, ht2, hln2, hsh2, fun g => (by cases g)⟩)
    · exact absurd hc (am_nm1 (by omega))
  · obtain ⟨rfl, e2⟩ := hx2 (by omega)
    have f2 : am_fr h h2 [31] := by rw [e2]; exact am_fr.rf.set (by simp)
    have k31 : h2 31 = some (bsO 1 E E) := by rw [e2]; exact am_set_eq
    have eR : (treR f E 19 5 (fun n k => lnsR f E true n n 0 k (fun _ => 0)) k) = (1, E, -1, fun _ => 0) := by
      unfold treR
      rw [if_pos (by omega)]
    refine am_istore dX8_takeTree_17 rfl rfl ?_
    refine am_iload dX8_takeTree_19 rfl rfl ?_
    refine am_iconst (v := -1) dX8_takeTree_21 rfl (by decide +kernel) ?_
    refine am_icmp_ne 27 dX8_takeTree_22 rfl rfl (fun hc => ?_) (fun hc => ?_)
    · exact absurd rfl hc
    · refine am_iconst (v := nI 1) dX8_takeTree_25 rfl (by decide +kernel) ?_
      exact am_ri dX8_takeTree_26 rfl rfl rfl (by rw [eR]; exact ⟨rfl, (by show 1 < 7; omega), am_fr.rf.tr f2 (by simp), k31, Nat.le_refl _, (f2 6 (by simp)).trans ht, hln.at (f2 7 (by simp)), hsh.at (fun j a b => f2 j (by simp; omega)), fun g => (by cases g)⟩)
set_option maxHeartbeats 4000000 in
set_option maxRecDepth 100000 in
theorem t_X8_takeTree1 (d n0 : Nat) {h : am_H} {wa : Nat} (hu : h 30 = some (unO wa)) {op : Bool} {bl co cp bi : Nat} (hac : h 5 = some (acO op bl co cp bi)) {E k c : Nat} {f : Nat → Int32} (hs : h 31 = some (bsO 1 E k)) (hr : h 1 = some (rwO 2 c)) (hta : h 2 = some (.inl (false, 4000, f))) (hE : E ≤ 32000) (hk : k ≤ E) (hw : wpd h 14 510) (hsh : tsh h 14 510) {alT : Int32} {lenT : Nat → Nat} (hT : h 6 = some (trO 6 alT)) (hrT : rdy h 6 19 alT lenT) (hd : 4 ≤ d) : am_Ct l D dA m_X8_takeTree d 0 0 n0 [am_r 30, .inl (nI 1), .inl (nI 9)] h (am_qi fun x h' => x = nI (treR f E 510 9 (fun n k => lncR f E n lenT alT n 0 k (fun _ => 0)) k).1 ∧ (treR f E 510 9 (fun n k => lncR f E n lenT alT n 0 k (fun _ => 0)) k).1 < 7 ∧ am_fr h h' [31, 14, 15, 16, 18, 19, 20, 21] ∧ h' 31 = some (bsO 1 E (treR f E 510 9 (fun n k => lncR f E n lenT alT n 0 k (fun _ => 0)) k).2.1) ∧ (treR f E 510 9 (fun n k => lncR f E n lenT alT n 0 k (fun _ => 0)) k).2.1 ≤ E ∧ h' 14 = some (trO 14 (treR f E 510 9 (fun n k => lncR f E n lenT alT n 0 k (fun _ => 0)) k).2.2.1) ∧ lnA h' 15 510 (treR f E 510 9 (fun n k => lncR f E n lenT alT n 0 k (fun _ => 0)) k).2.2.2 ∧ tsh h' 14 510 ∧ ((treR f E 510 9 (fun n k => lncR f E n lenT alT n 0 k (fun _ => 0)) k).1 = 0 → rdy h' 14 510 (treR f E 510 9 (fun n k => lncR f E n lenT alT n 0 k (fun _ => 0)) k).2.2.1 (treR f E 510 9 (fun n k => lncR f E n lenT alT n 0 k (fun _ => 0)) k).2.2.2)) := by
  refine am_Ci (by decide +kernel) rfl rfl ?_
  have hnl := num_lt f k 9
  have hnl2 := num_lt f (k + 9) 9
  have ht := hw.1
  have hln := hw.ln
  refine am_aload_n dX8_takeTree_0 rfl rfl ?_
  refine am_get f_X8_24 dX8_takeTree_1 rfl hu rfl ?_
  refine am_iload_n dX8_takeTree_4 rfl rfl ?_
  refine am_vr (t_X0_tree1 (d - 1) _ hac) k_X0_tree l_X8_28 dX8_takeTree_5 rfl rfl rfl rfl hac (by omega) (Nat.le_refl _) (Nat.le_refl _) (fun x h1 hx => ?_)
  obtain ⟨rfl, hh⟩ := hx
  obtain rfl := hh.symm
  refine am_astore_n dX8_takeTree_8 rfl rfl ?_
  refine am_aload_n dX8_takeTree_9 rfl rfl ?_
  refine am_get f_X8_14 dX8_takeTree_10 rfl hu rfl ?_
  refine am_iload_n dX8_takeTree_13 rfl rfl ?_
  refine am_vi (t_X2_take (d - 1) _ hs hr hta (by omega) (by decide) hk (by decide) (by decide) (b := 9) (by omega)) k_X2_take l_X8_79 dX8_takeTree_14 rfl rfl rfl rfl hs (by omega) (Nat.le_refl _) (Nat.le_refl _) (fun x h2 hx => ?_)
  obtain ⟨hx1, hx2⟩ := hx
  by_cases hE1 : k + 9 ≤ E
  · obtain ⟨rfl, e2⟩ := hx1 hE1
    have f2 : am_fr h h2 [31] := by rw [e2]; exact am_fr.rf.set (by simp)
    have k31 : h2 31 = some (bsO 1 E (k + 9)) := by rw [e2]; exact am_set_eq
    have hu2 := (f2 30 (by simp)).trans hu
    have hr2 := (f2 1 (by simp)).trans hr
    have hta2 := (f2 2 (by simp)).trans hta
    have ht2 := (f2 14 (by simp)).trans ht
    have hln2 := hln.at (h' := h2) (f2 15 (by simp))
    have hsh2 := hsh.at (h' := h2) (fun j a b => f2 j (by simp; omega))
    obtain ⟨lf, hl1, hl2⟩ := id hln2
    refine am_istore dX8_takeTree_17 rfl rfl ?_
    refine am_iload dX8_takeTree_19 rfl rfl ?_
    refine am_iconst (v := -1) dX8_takeTree_21 rfl (by decide +kernel) ?_
    refine am_icmp_ne 27 dX8_takeTree_22 rfl rfl (fun hc => ?_) (fun hc => ?_)
    · refine am_iload dX8_takeTree_27 rfl rfl ?_
      refine am_aload_n dX8_takeTree_29 rfl rfl ?_
      refine am_vi (t_X7_symbols (d - 1) _ ht2 hl1 (by omega)) k_X7_symbols l_X8_90 dX8_takeTree_30 rfl rfl rfl rfl ht2 (by omega) (Nat.le_refl _) (Nat.le_refl _) (fun x h1 hx => ?_)
      obtain ⟨rfl, hh⟩ := hx
      obtain rfl := hh.symm
      refine am_ncmp_le 38 dX8_takeTree_33 rfl rfl (by omega) (by omega) (fun hc => ?_) (fun hc => ?_)
      · refine am_iload dX8_takeTree_38 rfl rfl ?_
        refine am_nif_ne 50 dX8_takeTree_40 rfl rfl (by omega) (fun hc => ?_) (fun hc => ?_)
        · refine am_iload_n dX8_takeTree_50 rfl rfl ?_
          refine am_iconst (v := nI 1) dX8_takeTree_51 rfl (by decide +kernel) ?_
          refine am_ncmp_ne 64 dX8_takeTree_52 rfl rfl (by omega) (by omega) (fun hc => ?_) (fun hc => ?_)
          · omega
          · have hT2 := (f2 6 (by simp)).trans hT
            have hrT2 := hrT.at (h' := h2) (fun j a b => f2 j (by simp; omega))
            refine am_aload_n dX8_takeTree_55 rfl rfl ?_
            refine am_iload dX8_takeTree_56 rfl rfl ?_
            refine am_vi (t_X8_takeLengthsByT (d - 1) _ hu2 k31 hr2 hta2 hE hE1 hT2 hrT2 ht2 hln2 (by omega) (by omega)) k_X8_takeLengthsByT l_X8_99 dX8_takeTree_58 rfl rfl rfl rfl hu2 (by omega) (Nat.le_refl _) (Nat.le_refl _) (fun x h3 hx => ?_)
            obtain ⟨rfl, f3, m31, mE, hln3⟩ := hx
            have hlt := lncR_lt f E (num f k 9) lenT alT (num f k 9) 0 (k + 9) (fun _ => 0)
            obtain ⟨⟨fl, kp, ln⟩, eL⟩ : ∃ p, p = lncR f E (num f k 9) lenT alT (num f k 9) 0 (k + 9) (fun _ => 0) := ⟨_, rfl⟩
            rw [← eL] at m31 mE hln3 hlt ⊢
            dsimp only at m31 mE hln3 hlt ⊢
            have eR : (treR f E 510 9 (fun n k => lncR f E n lenT alT n 0 k (fun _ => 0)) k) = ((if fl = 0 then (if krf ln 510 = 65536 then 0 else 2) else fl), kp, -1, ln) := by
              unfold treR
              rw [if_neg (by omega), if_neg (by omega), if_neg (by omega)]
              simp only [← eL]
            have ht3 := (f3 14 (by simp)).trans ht2
            have hsh3 : tsh h3 14 510 := by
              obtain ⟨-, -, b2, b3, b4, b5, b6, b7⟩ := hsh2
              obtain ⟨lf3, q1, q2⟩ := hln3
              exact ⟨⟨_, ht3⟩, ⟨_, q1⟩, b2.at (f3 _ (by simp)), b3.at (f3 _ (by simp)), b4.at (f3 _ (by simp)), b5.at (f3 _ (by simp)), b6.at (f3 _ (by simp)), b7.at (f3 _ (by simp))⟩
            refine am_goto 80 dX8_takeTree_61 rfl rfl ?_
            refine am_istore dX8_takeTree_80 rfl rfl ?_
            refine am_iload dX8_takeTree_82 rfl rfl ?_
            refine am_nif_eq 90 dX8_takeTree_84 rfl rfl (by omega) (fun hc => ?_) (fun hc => ?_)
            · subst hc
              obtain ⟨-, -, ⟨c2, b2⟩, -, ⟨c4, b4⟩, ⟨c5, b5⟩, ⟨c6, b6⟩, ⟨c7, b7⟩⟩ := id hsh3
              obtain ⟨lf3, q1, q2⟩ := id hln3
              refine am_aload_n dX8_takeTree_90 rfl rfl ?_
              refine am_vi (t_X7_settle (d - 1) _ ht3 q1 (by omega) (by omega) (fun s hs => (q2 s hs).1) (fun s hs => (q2 s hs).2) b2 b4 b5 b6 b7 (by omega)) k_X7_settle l_X8_106 dX8_takeTree_91 rfl rfl rfl rfl ht3 (by omega) (Nat.le_refl _) (Nat.le_refl _) (fun x h4 hx => ?_)
              obtain ⟨rfl, f4, hst, c2, c4, c5, c6, c7, b2, b4, b5, b6, b7⟩ := hx
              have hsh4 : tsh h4 14 510 := by
                obtain ⟨-, -, -, b3, -⟩ := hsh3
                exact ⟨⟨_, (f4 14 (by simp)).trans ht3⟩, ⟨_, (f4 15 (by simp)).trans q1⟩, ⟨_, b2⟩, b3.at (f4 _ (by simp)), ⟨_, b4⟩, ⟨_, b5⟩, ⟨_, b6⟩, ⟨_, b7⟩⟩
              have hfr4 : am_fr h h4 [31, 14, 15, 16, 18, 19, 20, 21] := ((am_fr.rf.tr f2 (by simp)).tr f3 (by simp)).tr f4 (by simp)
              refine am_bif_eq 101 dX8_takeTree_94 rfl rfl (fun hk9 => ?_) (fun hk9 => ?_)
              · have hk9 : ¬ krf ln 510 = 65536 := by simpa using hk9
                refine am_iconst (v := nI 2) dX8_takeTree_101 rfl (by decide +kernel) ?_
                exact am_ri dX8_takeTree_102 rfl rfl rfl (by rw [eR, if_pos rfl, if_neg hk9]; exact ⟨rfl, (by show 2 < 7; omega), hfr4, (f4 31 (by simp)).trans m31, mE, (f4 14 (by simp)).trans ht3, hln3.at (f4 15 (by simp)), hsh4, fun g => (by cases g)⟩)
              · have hk9 : krf ln 510 = 65536 := by simpa using hk9
                refine am_iconst (v := nI 0) dX8_takeTree_97 rfl (by decide +kernel) ?_
                refine am_goto 102 dX8_takeTree_98 rfl rfl ?_
                exact am_ri dX8_takeTree_102 rfl rfl rfl (by rw [eR, if_pos rfl, if_pos hk9]; exact ⟨rfl, (by show 0 < 7; omega), hfr4, (f4 31 (by simp)).trans m31, mE, (f4 14 (by simp)).trans ht3, hln3.at (f4 15 (by simp)), hsh4, fun _ => rdy_stl (hst hk9) hk9 (fun s hs => (q2 s hs).2)⟩)
            · refine am_iload dX8_takeTree_87 rfl rfl ?_
              exact am_ri dX8_takeTree_89 rfl rfl rfl (by rw [eR, if_neg (by omega)]; exact ⟨rfl, hlt, (am_fr.rf.tr f2 (by simp)).tr f3 (by simp), m31, mE, ht3, hln3, hsh3, fun g => absurd g (by show ¬ fl = 0; omega)⟩)
        · refine am_aload_n dX8_takeTree_43 rfl rfl ?_
          refine am_aload_n dX8_takeTree_44 rfl rfl ?_
          refine am_iload_n dX8_takeTree_45 rfl rfl ?_
          refine am_vi (t_X8_takeAlone (d - 1) _ hu2 k31 hr2 hta2 hE hE1 ht2 hl1 (by omega) (fun j a b => by omega) (b := 9) (by omega) (by omega)) k_X8_takeAlone l_X8_95 dX8_takeTree_46 rfl rfl rfl rfl hu2 (by omega) (Nat.le_refl _) (Nat.le_refl _) (fun x h3 hx => ?_)
          obtain ⟨hx3, hx4, hx5⟩ := hx
          by_cases hE2 : k + 9 + 9 ≤ E
          · rcases Nat.lt_or_ge (num f (k + 9) 9) 510 with g | g
            · obtain ⟨rfl, e3⟩ := hx5 hE2 g
              have eR : (treR f E 510 9 (fun n k => lncR f E n lenT alT n 0 k (fun _ => 0)) k) = (0, k + 9 + 9, nI (num f (k + 9) 9), fun _ => 0) := by
                unfold treR
                rw [if_neg (by omega), if_neg (by omega), if_pos hc, if_neg (by omega), if_neg (by omega)]
              have f3 : am_fr h2 h3 [31, 14] := by rw [e3]; exact (am_fr.rf.set (by simp)).set (by simp)
              have m31 : h3 31 = some (bsO 1 E (k + 9 + 9)) := by rw [e3]; exact (am_set_ne (by decide)).trans am_set_eq
              have mt : h3 14 = some (trO 14 (nI (num f (k + 9) 9))) := by rw [e3]; exact am_set_eq
              have hsh3 : tsh h3 14 510 := by
                obtain ⟨-, b1, b2, b3, b4, b5, b6, b7⟩ := hsh2
                exact ⟨⟨_, mt⟩, b1.at (f3 _ (by simp)), b2.at (f3 _ (by simp)), b3.at (f3 _ (by simp)), b4.at (f3 _ (by simp)), b5.at (f3 _ (by simp)), b6.at (f3 _ (by simp)), b7.at (f3 _ (by simp))⟩
              exact am_ri dX8_takeTree_49 rfl rfl rfl (by rw [eR]; exact ⟨rfl, (by show 0 < 7; omega), (am_fr.rf.tr f2 (by simp)).tr f3 (by simp), m31, hE2, mt, hln2.at (f3 15 (by simp)), hsh3, fun _ => rdy_alone g (by omega)⟩)
            · obtain ⟨rfl, e3⟩ := hx4 hE2 g
              have eR : (treR f E 510 9 (fun n k => lncR f E n lenT alT n 0 k (fun _ => 0)) k) = (3, k + 9 + 9, -1, fun _ => 0) := by
                unfold treR
                rw [if_neg (by omega), if_neg (by omega), if_pos hc, if_neg (by omega), if_pos g]
              have f3 : am_fr h2 h3 [31] := by rw [e3]; exact am_fr.rf.set (by simp)
              have m31 : h3 31 = some (bsO 1 E (k + 9 + 9)) := by rw [e3]; exact am_set_eq
              exact am_ri dX8_takeTree_49 rfl rfl rfl (by rw [eR]; exact ⟨rfl, (by show 3 < 7; omega), (am_fr.rf.tr f2 (by simp)).tr f3 (by simp), m31, hE2, (f3 14 (by simp)).trans ht2, hln2.at (f3 15 (by simp)), hsh2.at (fun j a b => f3 j (by simp; omega)), fun g => (by cases g)⟩)
          · obtain ⟨rfl, e3⟩ := hx3 (by omega)
            have eR : (treR f E 510 9 (fun n k => lncR f E n lenT alT n 0 k (fun _ => 0)) k) = (1, E, -1, fun _ => 0) := by
              unfold treR
              rw [if_neg (by omega), if_neg (by omega), if_pos hc, if_pos (by omega)]
            have f3 : am_fr h2 h3 [31] := by rw [e3]; exact am_fr.rf.set (by simp)
            have m31 : h3 31 = some (bsO 1 E E) := by rw [e3]; exact am_set_eq
            exact am_ri dX8_takeTree_49 rfl rfl rfl (by rw [eR]; exact ⟨rfl, (by show 1 < 7; omega), (am_fr.rf.tr f2 (by simp)).tr f3 (by simp), m31, Nat.le_refl _, (f3 14 (by simp)).trans ht2, hln2.at (f3 15 (by simp)), hsh2.at (fun j a b => f3 j (by simp; omega)), fun g => (by cases g)⟩)
      · have eR : (treR f E 510 9 (fun n k => lncR f E n lenT alT n 0 k (fun _ => 0)) k) = (3, k + 9, -1, fun _ => 0) := by
          unfold treR
          rw [if_neg (by omega), if_pos hc]
        refine am_iconst (v := nI 3) dX8_takeTree_36 rfl (by decide +kernel) ?_
        exact am_ri dX8_takeTree_37 rfl rfl rfl (by rw [eR]; exact ⟨rfl, (by show 3 < 7; omega), am_fr.rf.tr f2 (by simp), k31, hE1, ht2, hln2, hsh2, fun g => (by cases g)⟩)
    · exact absurd hc (am_nm1 (by omega))
  · obtain ⟨rfl, e2⟩ := hx2 (by omega)
    have f2 : am_fr h h2 [31] := by rw [e2]; exact am_fr.rf.set (by simp)
    have k31 : h2 31 = some (bsO 1 E E) := by rw [e2]; exact am_set_eq
    have eR : (treR f E 510 9 (fun n k => lncR f E n lenT alT n 0 k (fun _ => 0)) k) = (1, E, -1, fun _ => 0) := by
      unfold treR
      rw [if_pos (by omega)]
    refine am_istore dX8_takeTree_17 rfl rfl ?_
    refine am_iload dX8_takeTree_19 rfl rfl ?_
    refine am_iconst (v := -1) dX8_takeTree_21 rfl (by decide +kernel) ?_
    refine am_icmp_ne 27 dX8_takeTree_22 rfl rfl (fun hc => ?_) (fun hc => ?_)
    · exact absurd rfl hc
    · refine am_iconst (v := nI 1) dX8_takeTree_25 rfl (by decide +kernel) ?_
      exact am_ri dX8_takeTree_26 rfl rfl rfl (by rw [eR]; exact ⟨rfl, (by show 1 < 7; omega), am_fr.rf.tr f2 (by simp), k31, Nat.le_refl _, (f2 14 (by simp)).trans ht, hln.at (f2 15 (by simp)), hsh.at (fun j a b => f2 j (by simp; omega)), fun g => (by cases g)⟩)
set_option maxHeartbeats 4000000 in
set_option maxRecDepth 100000 in
theorem t_X8_takeTree2 (d n0 : Nat) {h : am_H} {wa : Nat} (hu : h 30 = some (unO wa)) {op : Bool} {bl co cp bi : Nat} (hac : h 5 = some (acO op bl co cp bi)) {E k c : Nat} {f : Nat → Int32} (hs : h 31 = some (bsO 1 E k)) (hr : h 1 = some (rwO 2 c)) (hta : h 2 = some (.inl (false, 4000, f))) (hE : E ≤ 32000) (hk : k ≤ E) (hw : wpd h 22 14) (hsh : tsh h 22 14) (hd : 4 ≤ d) : am_Ct l D dA m_X8_takeTree d 0 0 n0 [am_r 30, .inl (nI 2), .inl (nI 4)] h (am_qi fun x h' => x = nI (treR f E 14 4 (fun n k => lnsR f E false n n 0 k (fun _ => 0)) k).1 ∧ (treR f E 14 4 (fun n k => lnsR f E false n n 0 k (fun _ => 0)) k).1 < 7 ∧ am_fr h h' [31, 22, 23, 24, 26, 27, 28, 29] ∧ h' 31 = some (bsO 1 E (treR f E 14 4 (fun n k => lnsR f E false n n 0 k (fun _ => 0)) k).2.1) ∧ (treR f E 14 4 (fun n k => lnsR f E false n n 0 k (fun _ => 0)) k).2.1 ≤ E ∧ h' 22 = some (trO 22 (treR f E 14 4 (fun n k => lnsR f E false n n 0 k (fun _ => 0)) k).2.2.1) ∧ lnA h' 23 14 (treR f E 14 4 (fun n k => lnsR f E false n n 0 k (fun _ => 0)) k).2.2.2 ∧ tsh h' 22 14 ∧ ((treR f E 14 4 (fun n k => lnsR f E false n n 0 k (fun _ => 0)) k).1 = 0 → rdy h' 22 14 (treR f E 14 4 (fun n k => lnsR f E false n n 0 k (fun _ => 0)) k).2.2.1 (treR f E 14 4 (fun n k => lnsR f E false n n 0 k (fun _ => 0)) k).2.2.2)) := by
  refine am_Ci (by decide +kernel) rfl rfl ?_
  have hnl := num_lt f k 4
  have hnl2 := num_lt f (k + 4) 4
  have ht := hw.1
  have hln := hw.ln
  refine am_aload_n dX8_takeTree_0 rfl rfl ?_
  refine am_get f_X8_24 dX8_takeTree_1 rfl hu rfl ?_
  refine am_iload_n dX8_takeTree_4 rfl rfl ?_
  refine am_vr (t_X0_tree2 (d - 1) _ hac) k_X0_tree l_X8_28 dX8_takeTree_5 rfl rfl rfl rfl hac (by omega) (Nat.le_refl _) (Nat.le_refl _) (fun x h1 hx => ?_)
  obtain ⟨rfl, hh⟩ := hx
  obtain rfl := hh.symm
  refine am_astore_n dX8_takeTree_8 rfl rfl ?_
  refine am_aload_n dX8_takeTree_9 rfl rfl ?_
  refine am_get f_X8_14 dX8_takeTree_10 rfl hu rfl ?_
  refine am_iload_n dX8_takeTree_13 rfl rfl ?_
  refine am_vi (t_X2_take (d - 1) _ hs hr hta (by omega) (by decide) hk (by decide) (by decide) (b := 4) (by omega)) k_X2_take l_X8_79 dX8_takeTree_14 rfl rfl rfl rfl hs (by omega) (Nat.le_refl _) (Nat.le_refl _) (fun x h2 hx => ?_)
  obtain ⟨hx1, hx2⟩ := hx
  by_cases hE1 : k + 4 ≤ E
  · obtain ⟨rfl, e2⟩ := hx1 hE1
    have f2 : am_fr h h2 [31] := by rw [e2]; exact am_fr.rf.set (by simp)
    have k31 : h2 31 = some (bsO 1 E (k + 4)) := by rw [e2]; exact am_set_eq
    have hu2 := (f2 30 (by simp)).trans hu
    have hr2 := (f2 1 (by simp)).trans hr
    have hta2 := (f2 2 (by simp)).trans hta
    have ht2 := (f2 22 (by simp)).trans ht
    have hln2 := hln.at (h' := h2) (f2 23 (by simp))
    have hsh2 := hsh.at (h' := h2) (fun j a b => f2 j (by simp; omega))
    obtain ⟨lf, hl1, hl2⟩ := id hln2
    refine am_istore dX8_takeTree_17 rfl rfl ?_
    refine am_iload dX8_takeTree_19 rfl rfl ?_
    refine am_iconst (v := -1) dX8_takeTree_21 rfl (by decide +kernel) ?_
    refine am_icmp_ne 27 dX8_takeTree_22 rfl rfl (fun hc => ?_) (fun hc => ?_)
    · refine am_iload dX8_takeTree_27 rfl rfl ?_
      refine am_aload_n dX8_takeTree_29 rfl rfl ?_
      refine am_vi (t_X7_symbols (d - 1) _ ht2 hl1 (by omega)) k_X7_symbols l_X8_90 dX8_takeTree_30 rfl rfl rfl rfl ht2 (by omega) (Nat.le_refl _) (Nat.le_refl _) (fun x h1 hx => ?_)
      obtain ⟨rfl, hh⟩ := hx
      obtain rfl := hh.symm
      refine am_ncmp_le 38 dX8_takeTree_33 rfl rfl (by omega) (by omega) (fun hc => ?_) (fun hc => ?_)
      · refine am_iload dX8_takeTree_38 rfl rfl ?_
        refine am_nif_ne 50 dX8_takeTree_40 rfl rfl (by omega) (fun hc => ?_) (fun hc => ?_)
        · refine am_iload_n dX8_takeTree_50 rfl rfl ?_
          refine am_iconst (v := nI 1) dX8_takeTree_51 rfl (by decide +kernel) ?_
          refine am_ncmp_ne 64 dX8_takeTree_52 rfl rfl (by omega) (by omega) (fun hc => ?_) (fun hc => ?_)
          · refine am_aload_n dX8_takeTree_64 rfl rfl ?_
            refine am_aload_n dX8_takeTree_65 rfl rfl ?_
            refine am_iload dX8_takeTree_66 rfl rfl ?_
            refine am_iload_n dX8_takeTree_68 rfl rfl ?_
            refine am_nif_ne 76 dX8_takeTree_69 rfl rfl (by omega) (fun hc => ?_) (fun hc => ?_)
            · refine am_iconst (v := nI 0) dX8_takeTree_76 rfl (by decide +kernel) ?_
              rw [show nI 0 = am_bz false from rfl]
              refine am_vi (t_X8_takeLengths (d - 1) _ hu2 k31 hr2 hta2 hE hE1 ht2 hln2 (by omega) (fun j a b => by omega) (gp := false) (by omega) (by omega)) k_X8_takeLengths l_X8_102 dX8_takeTree_77 rfl rfl rfl rfl hu2 (by omega) (Nat.le_refl _) (Nat.le_refl _) (fun x h3 hx => ?_)
              obtain ⟨rfl, f3, m31, mE, hln3⟩ := hx
              have hlt := lnsR_lt f E false (num f k 4) (num f k 4) 0 (k + 4) (fun _ => 0)
              obtain ⟨⟨fl, kp, ln⟩, eL⟩ : ∃ p, p = lnsR f E false (num f k 4) (num f k 4) 0 (k + 4) (fun _ => 0) := ⟨_, rfl⟩
              rw [← eL] at m31 mE hln3 hlt ⊢
              dsimp only at m31 mE hln3 hlt ⊢
              have eR : (treR f E 14 4 (fun n k => lnsR f E false n n 0 k (fun _ => 0)) k) = ((if fl = 0 then (if krf ln 14 = 65536 then 0 else 2) else fl), kp, -1, ln) := by
                unfold treR
                rw [if_neg (by omega), if_neg (by omega), if_neg (by omega)]
                simp only [← eL]
              have ht3 := (f3 22 (by simp)).trans ht2
              have hsh3 : tsh h3 22 14 := by
                obtain ⟨-, -, b2, b3, b4, b5, b6, b7⟩ := hsh2
                obtain ⟨lf3, q1, q2⟩ := hln3
                exact ⟨⟨_, ht3⟩, ⟨_, q1⟩, b2.at (f3 _ (by simp)), b3.at (f3 _ (by simp)), b4.at (f3 _ (by simp)), b5.at (f3 _ (by simp)), b6.at (f3 _ (by simp)), b7.at (f3 _ (by simp))⟩
              refine am_istore dX8_takeTree_80 rfl rfl ?_
              refine am_iload dX8_takeTree_82 rfl rfl ?_
              refine am_nif_eq 90 dX8_takeTree_84 rfl rfl (by omega) (fun hc => ?_) (fun hc => ?_)
              · subst hc
                obtain ⟨-, -, ⟨c2, b2⟩, -, ⟨c4, b4⟩, ⟨c5, b5⟩, ⟨c6, b6⟩, ⟨c7, b7⟩⟩ := id hsh3
                obtain ⟨lf3, q1, q2⟩ := id hln3
                refine am_aload_n dX8_takeTree_90 rfl rfl ?_
                refine am_vi (t_X7_settle (d - 1) _ ht3 q1 (by omega) (by omega) (fun s hs => (q2 s hs).1) (fun s hs => (q2 s hs).2) b2 b4 b5 b6 b7 (by omega)) k_X7_settle l_X8_106 dX8_takeTree_91 rfl rfl rfl rfl ht3 (by omega) (Nat.le_refl _) (Nat.le_refl _) (fun x h4 hx => ?_)
                obtain ⟨rfl, f4, hst, c2, c4, c5, c6, c7, b2, b4, b5, b6, b7⟩ := hx
                have hsh4 : tsh h4 22 14 := by
                  obtain ⟨-, -, -, b3, -⟩ := hsh3
                  exact ⟨⟨_, (f4 22 (by simp)).trans ht3⟩, ⟨_, (f4 23 (by simp)).trans q1⟩, ⟨_, b2⟩, b3.at (f4 _ (by simp)), ⟨_, b4⟩, ⟨_, b5⟩, ⟨_, b6⟩, ⟨_, b7⟩⟩
                have hfr4 : am_fr h h4 [31, 22, 23, 24, 26, 27, 28, 29] := ((am_fr.rf.tr f2 (by simp)).tr f3 (by simp)).tr f4 (by simp)
                refine am_bif_eq 101 dX8_takeTree_94 rfl rfl (fun hk9 => ?_) (fun hk9 => ?_)
                · have hk9 : ¬ krf ln 14 = 65536 := by simpa using hk9
                  refine am_iconst (v := nI 2) dX8_takeTree_101 rfl (by decide +kernel) ?_
                  exact am_ri dX8_takeTree_102 rfl rfl rfl (by rw [eR, if_pos rfl, if_neg hk9]; exact ⟨rfl, (by show 2 < 7; omega), hfr4, (f4 31 (by simp)).trans m31, mE, (f4 22 (by simp)).trans ht3, hln3.at (f4 23 (by simp)), hsh4, fun g => (by cases g)⟩)
                · have hk9 : krf ln 14 = 65536 := by simpa using hk9
                  refine am_iconst (v := nI 0) dX8_takeTree_97 rfl (by decide +kernel) ?_
                  refine am_goto 102 dX8_takeTree_98 rfl rfl ?_
                  exact am_ri dX8_takeTree_102 rfl rfl rfl (by rw [eR, if_pos rfl, if_pos hk9]; exact ⟨rfl, (by show 0 < 7; omega), hfr4, (f4 31 (by simp)).trans m31, mE, (f4 22 (by simp)).trans ht3, hln3.at (f4 23 (by simp)), hsh4, fun _ => rdy_stl (hst hk9) hk9 (fun s hs => (q2 s hs).2)⟩)
              · refine am_iload dX8_takeTree_87 rfl rfl ?_
                exact am_ri dX8_takeTree_89 rfl rfl rfl (by rw [eR, if_neg (by omega)]; exact ⟨rfl, hlt, (am_fr.rf.tr f2 (by simp)).tr f3 (by simp), m31, mE, ht3, hln3, hsh3, fun g => absurd g (by show ¬ fl = 0; omega)⟩)
            · omega
          · omega
        · refine am_aload_n dX8_takeTree_43 rfl rfl ?_
          refine am_aload_n dX8_takeTree_44 rfl rfl ?_
          refine am_iload_n dX8_takeTree_45 rfl rfl ?_
          refine am_vi (t_X8_takeAlone (d - 1) _ hu2 k31 hr2 hta2 hE hE1 ht2 hl1 (by omega) (fun j a b => by omega) (b := 4) (by omega) (by omega)) k_X8_takeAlone l_X8_95 dX8_takeTree_46 rfl rfl rfl rfl hu2 (by omega) (Nat.le_refl _) (Nat.le_refl _) (fun x h3 hx => ?_)
          obtain ⟨hx3, hx4, hx5⟩ := hx
          by_cases hE2 : k + 4 + 4 ≤ E
          · rcases Nat.lt_or_ge (num f (k + 4) 4) 14 with g | g
            · obtain ⟨rfl, e3⟩ := hx5 hE2 g
              have eR : (treR f E 14 4 (fun n k => lnsR f E false n n 0 k (fun _ => 0)) k) = (0, k + 4 + 4, nI (num f (k + 4) 4), fun _ => 0) := by
                unfold treR
                rw [if_neg (by omega), if_neg (by omega), if_pos hc, if_neg (by omega), if_neg (by omega)]
              have f3 : am_fr h2 h3 [31, 22] := by rw [e3]; exact (am_fr.rf.set (by simp)).set (by simp)
              have m31 : h3 31 = some (bsO 1 E (k + 4 + 4)) := by rw [e3]; exact (am_set_ne (by decide)).trans am_set_eq
              have mt : h3 22 = some (trO 22 (nI (num f (k + 4) 4))) := by rw [e3]; exact am_set_eq
              have hsh3 : tsh h3 22 14 := by
                obtain ⟨-, b1, b2, b3, b4, b5, b6, b7⟩ := hsh2
                exact ⟨⟨_, mt⟩, b1.at (f3 _ (by simp)), b2.at (f3 _ (by simp)), b3.at (f3 _ (by simp)), b4.at (f3 _ (by simp)), b5.at (f3 _ (by simp)), b6.at (f3 _ (by simp)), b7.at (f3 _ (by simp))⟩
              exact am_ri dX8_takeTree_49 rfl rfl rfl (by rw [eR]; exact ⟨rfl, (by show 0 < 7; omega), (am_fr.rf.tr f2 (by simp)).tr f3 (by simp), m31, hE2, mt, hln2.at (f3 23 (by simp)), hsh3, fun _ => rdy_alone g (by omega)⟩)
            · obtain ⟨rfl, e3⟩ := hx4 hE2 g
              have eR : (treR f E 14 4 (fun n k => lnsR f E false n n 0 k (fun _ => 0)) k) = (3, k + 4 + 4, -1, fun _ => 0) := by
                unfold treR
                rw [if_neg (by omega), if_neg (by omega), if_pos hc, if_neg (by omega), if_pos g]
              have f3 : am_fr h2 h3 [31] := by rw [e3]; exact am_fr.rf.set (by simp)
              have m31 : h3 31 = some (bsO 1 E (k + 4 + 4)) := by rw [e3]; exact am_set_eq
              exact am_ri dX8_takeTree_49 rfl rfl rfl (by rw [eR]; exact ⟨rfl, (by show 3 < 7; omega), (am_fr.rf.tr f2 (by simp)).tr f3 (by simp), m31, hE2, (f3 22 (by simp)).trans ht2, hln2.at (f3 23 (by simp)), hsh2.at (fun j a b => f3 j (by simp; omega)), fun g => (by cases g)⟩)
          · obtain ⟨rfl, e3⟩ := hx3 (by omega)
            have eR : (treR f E 14 4 (fun n k => lnsR f E false n n 0 k (fun _ => 0)) k) = (1, E, -1, fun _ => 0) := by
              unfold treR
              rw [if_neg (by omega), if_neg (by omega), if_pos hc, if_pos (by omega)]
            have f3 : am_fr h2 h3 [31] := by rw [e3]; exact am_fr.rf.set (by simp)
            have m31 : h3 31 = some (bsO 1 E E) := by rw [e3]; exact am_set_eq
            exact am_ri dX8_takeTree_49 rfl rfl rfl (by rw [eR]; exact ⟨rfl, (by show 1 < 7; omega), (am_fr.rf.tr f2 (by simp)).tr f3 (by simp), m31, Nat.le_refl _, (f3 22 (by simp)).trans ht2, hln2.at (f3 23 (by simp)), hsh2.at (fun j a b => f3 j (by simp; omega)), fun g => (by cases g)⟩)
      · have eR : (treR f E 14 4 (fun n k => lnsR f E false n n 0 k (fun _ => 0)) k) = (3, k + 4, -1, fun _ => 0) := by
          unfold treR
          rw [if_neg (by omega), if_pos hc]
        refine am_iconst (v := nI 3) dX8_takeTree_36 rfl (by decide +kernel) ?_
        exact am_ri dX8_takeTree_37 rfl rfl rfl (by rw [eR]; exact ⟨rfl, (by show 3 < 7; omega), am_fr.rf.tr f2 (by simp), k31, hE1, ht2, hln2, hsh2, fun g => (by cases g)⟩)
    · exact absurd hc (am_nm1 (by omega))
  · obtain ⟨rfl, e2⟩ := hx2 (by omega)
    have f2 : am_fr h h2 [31] := by rw [e2]; exact am_fr.rf.set (by simp)
    have k31 : h2 31 = some (bsO 1 E E) := by rw [e2]; exact am_set_eq
    have eR : (treR f E 14 4 (fun n k => lnsR f E false n n 0 k (fun _ => 0)) k) = (1, E, -1, fun _ => 0) := by
      unfold treR
      rw [if_pos (by omega)]
    refine am_istore dX8_takeTree_17 rfl rfl ?_
    refine am_iload dX8_takeTree_19 rfl rfl ?_
    refine am_iconst (v := -1) dX8_takeTree_21 rfl (by decide +kernel) ?_
    refine am_icmp_ne 27 dX8_takeTree_22 rfl rfl (fun hc => ?_) (fun hc => ?_)
    · exact absurd rfl hc
    · refine am_iconst (v := nI 1) dX8_takeTree_25 rfl (by decide +kernel) ?_
      exact am_ri dX8_takeTree_26 rfl rfl rfl (by rw [eR]; exact ⟨rfl, (by show 1 < 7; omega), am_fr.rf.tr f2 (by simp), k31, Nat.le_refl _, (f2 22 (by simp)).trans ht, hln.at (f2 23 (by simp)), hsh.at (fun j a b => f2 j (by simp; omega)), fun g => (by cases g)⟩)
end UNP4
