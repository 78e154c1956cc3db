/-! ===== the reference: C read ===== -/
section MOD4
variable {l : Launch} {D : va_G} {dA : Bool → ClassId}
theorem sy_m {gl gc ga : Nat → Int32} {t : Nat} {al : Int32} {len : Nat → Nat} (hr : mrd gl gc ga t al len) (f : Nat → Int32) (k : Nat) : SR len (sym t) al f k (sy len (sym t) al f k).1 (sy len (sym t) al f k).2 := by
  have he : ∃ p : Nat × Nat, SR len (sym t) al f k p.1 p.2 := by
    by_cases g : al = -1
    · obtain ⟨n, j, hd⟩ := dec_ex (fun s hs => (hr.2.1 s hs).2) (hr.2.2.1 g).1 f k
      obtain ⟨s, a, b, c⟩ := cnt_nth hd.2.2.2.2
      exact ⟨(n, s), a, Or.inr ⟨g, b, by rw [c]; exact hd⟩⟩
    · obtain ⟨s, a, b⟩ := hr.2.2.2 g
      exact ⟨(0, s), a, Or.inl ⟨g, b, rfl⟩⟩
  unfold sy
  rw [dif_pos he]
  exact Classical.choose_spec he
theorem SR_w {len : Nat → Nat} {m : Nat} {al : Int32} {f : Nat → Int32} {k w y : Nat} (h : SR len m al f k w y) : w ≤ 16 ∧ y < m := by
  refine ⟨?_, h.1⟩
  rcases h.2 with ⟨-, -, h⟩ | ⟨-, -, h⟩
  · omega
  · exact h.2.1
theorem mrd.at {gl gc ga gl' gc' ga' : Nat → Int32} {t : Nat} {al : Int32} {len : Nat → Nat} (x : mrd gl gc ga t al len) (h1 : ∀ s, s < sym t → gl' (600 * t + s) = gl (600 * t + s)) (h2 : ∀ s, s < sym t → gc' (600 * t + s) = gc (600 * t + s)) (h3 : ga' t = ga t) : mrd gl' gc' ga' t al len := ⟨h3.trans x.1, fun s hs => ⟨(h1 s hs).trans (x.2.1 s hs).1, (x.2.1 s hs).2⟩, fun g => ⟨(x.2.2.1 g).1, fun s hs hl => (h2 s hs).trans ((x.2.2.1 g).2 s hs hl)⟩, x.2.2.2⟩
set_option maxHeartbeats 4000000 in
set_option maxRecDepth 100000 in
theorem t_X10_great (d n0 : Nat) {h : am_H} {ct md : Nat} {to : Bool} {bl co cp bi en tc : Nat} {gl gc ga : Nat → Int32} (X : rdH h h (mO ct md to bl co cp bi en 0 tc) gl gc ga) {f : Nat → Int32} (hf : h 47 = some (.inl (false, 4000, f))) (hE : en ≤ 32000) (hk : bi ≤ en) {alT : Int32} {lenT : Nat → Nat} (hT : mrd gl gc ga 0 alT lenT) (hz : ∀ s, s < sym 1 → gl (600 * 1 + s) = nI 0) (hga : ga 1 = -1) (hd : 3 ≤ d) : am_Ct l D dA m_X10_great d 0 0 n0 [am_r 46] h (am_qv fun h' => trP h h' (fun bi fa => (mO ct md to bl co cp bi en fa tc)) gl gc ga 1 en (treR f en (sym 1) 9 (fun n k => lncR f en n lenT alT n 0 k (fun _ => 0)) bi)) := by
  refine am_Cv (by decide +kernel) rfl rfl ?_
  have hs1 : sym 1 = 510 := rfl
  have hs0 : sym 0 = 19 := rfl
  refine am_aload_n dX10_great_0 rfl rfl ?_
  refine am_iconst (v := nI 1) dX10_great_1 rfl (by decide +kernel) ?_
  refine am_bipush (v := nI 9) dX10_great_2 rfl (by decide +kernel) ?_
  refine am_vi (t_X10_many (d - 1) _ X hf hE hk (t := 1) (nb := 9) (by omega) (by omega) (by omega) (by omega)) k_X10_many l_X10_97 dX10_great_4 rfl rfl rfl rfl X.2.1 (by omega) (Nat.le_refl _) (Nat.le_refl _) (fun x h1 hx => ?_)
  obtain ⟨ga', F, k', n', rfl, rfl, hga', hcase⟩ := hx
  have Y := (X.m (mO ct md to bl co cp k' en F tc)).a ga'
  obtain ⟨H0, eH0⟩ : ∃ H0, H0 = am_set (am_set h 46 (mO ct md to bl co cp k' en F tc)) 51 (.inl (false, 3, ga')) := ⟨_, rfl⟩
  rw [← eH0] at Y ⊢
  clear eH0
  refine am_istore_n dX10_great_7 rfl rfl ?_
  refine am_iconst (v := nI 0) dX10_great_8 rfl (by decide +kernel) ?_
  refine am_istore_n dX10_great_9 rfl rfl ?_
  have none : ∀ (T : Nat × Nat × Int32 × (Nat → Nat)), (treR f en (sym 1) 9 (fun n k => lncR f en n lenT alT n 0 k (fun _ => 0)) bi) = T → n' = 0 → T.1 = F → T.2.1 = k' → (∀ s, T.2.2.2 s = 0) → (T.1 = 0 → T.2.2.1 ≠ -1 ∧ ga' 1 = T.2.2.1 ∧ ∃ s, s < sym 1 ∧ T.2.2.1 = nI s) → k' ≤ en → F < 10 → ∀ x5, am_At l D dA m_X10_great d 0 0 0 0 n0 none (am_qv fun h' => trP h h' (fun bi fa => (mO ct md to bl co cp bi en fa tc)) gl gc ga 1 en (treR f en (sym 1) 9 (fun n k => lncR f en n lenT alT n 0 k (fun _ => 0)) bi)) 0 0 10 [some (am_r 46), some (.inl (nI n')), some (.inl (nI 0)), x5] [] H0 := by
    intro T eT hn0 e1 e2 e3 e4 hke hF x5
    subst hn0
    rw [eT]
    refine am_iload_n dX10_great_10 rfl rfl ?_
    refine am_iload_n dX10_great_11 rfl rfl ?_
    refine am_ncmp_ge 114 dX10_great_12 rfl rfl (by omega) (by omega) (fun hc => ?_) (fun hc => ?_)
    · refine am_iload_n dX10_great_114 rfl rfl ?_
      refine am_nif_le 130 dX10_great_115 rfl rfl (by omega) (fun hq => ?_) (fun hq => ?_)
      · exact am_rv dX10_great_130 rfl rfl rfl ⟨gl, gc, ga', by rw [e1, e2]; exact Y, fun s hs => by rw [e3 s]; exact ⟨hz s hs, Nat.zero_le _⟩, fun j hj => ⟨rfl, rfl⟩, hga', fun g => ⟨(e4 g).2.1, fun s hs => by rw [e3 s]; exact ⟨hz s hs, Nat.zero_le _⟩, fun q => absurd q (e4 g).1, fun _ => (e4 g).2.2⟩, by rw [e2]; exact hke, by rw [e1]; exact hF⟩
      · omega
    · omega
  rcases hcase with ⟨a1, rfl, e9, rfl⟩ | ⟨a1, a2, rfl, rfl, rfl⟩ | ⟨a1, a2, a3, rfl, e9, rfl⟩ | ⟨a1, a2, a3, rfl, rfl, rfl⟩ | ⟨a1, a2, a3, rfl, rfl, rfl, a4⟩ | ⟨a1, a2, a3, rfl, rfl, rfl, a4⟩
  · exact none (1, en, -1, fun _ => 0) (by unfold treR; rw [if_pos a1]) rfl rfl e9.symm (fun _ => rfl) (fun g => by cases g) (Nat.le_of_eq e9) (by omega) _
  · exact none (3, bi + 9, -1, fun _ => 0) (by unfold treR; rw [if_neg (by omega), if_pos a2]) rfl rfl rfl (fun _ => rfl) (fun g => by cases g) a1 (by omega) _
  · exact none (1, en, -1, fun _ => 0) (by unfold treR; rw [if_neg (by omega), if_neg (by omega), if_pos a2, if_pos a3]) rfl rfl e9.symm (fun _ => rfl) (fun g => by cases g) (Nat.le_of_eq e9) (by omega) _
  · exact none (3, bi + 9 + 9, -1, fun _ => 0) (by unfold treR; rw [if_neg (by omega), if_neg (by omega), if_pos a2, if_neg (by omega), if_pos a3]) rfl rfl rfl (fun _ => rfl) (fun g => by cases g) a1 (by omega) _
  · exact none (0, bi + 9 + 9, nI (num f (bi + 9) 9), fun _ => 0) (by unfold treR; rw [if_neg (by omega), if_neg (by omega), if_pos a2, if_neg (by omega), if_neg (by omega)]) rfl rfl rfl (fun _ => rfl) (fun g => ⟨am_nm1 (by omega), a4, _, a3, rfl⟩) a1 (by omega) _
  obtain ⟨n, en0⟩ : ∃ n, n = num f bi 9 := ⟨_, rfl⟩
  have hTT : ∀ R, lncR f en n lenT alT n 0 (bi + 9) (fun _ => 0) = R → (treR f en (sym 1) 9 (fun n k => lncR f en n lenT alT n 0 k (fun _ => 0)) bi) = ((if R.1 = 0 then (if krf R.2.2 (sym 1) = 65536 then 0 else 2) else R.1), R.2.1, -1, R.2.2) := by
    intro R eR
    unfold treR
    rw [if_neg (by omega), if_neg (by omega), if_neg (by omega), ← en0]
    subst eR
    rfl
  rw [← en0] at a2 a3 ⊢
  clear none en0
  obtain ⟨R, eR⟩ : ∃ R, R = lncR f en n lenT alT n 0 (bi + 9) (fun _ => 0) := ⟨_, rfl⟩
  have hTT := hTT R eR.symm
  rw [hTT]
  clear hTT
  have tail : ∀ (H : am_H) (F kb : Nat) (g : Nat → Int32) (x4 x5 : Option am_V), rdH h H (mO ct md to bl co cp kb en F tc) g gc ga' → R.1 = F → R.2.1 = kb → (∀ s, s < sym 1 → g (600 * 1 + s) = nI (R.2.2 s) ∧ R.2.2 s ≤ 16) → (∀ j, (∀ s, s < sym 1 → j ≠ 600 * 1 + s) → g j = gl j) → kb ≤ en → F < 10 → am_At l D dA m_X10_great d 0 0 0 0 n0 none (am_qv fun h' => trP h h' (fun bi fa => (mO ct md to bl co cp bi en fa tc)) gl gc ga 1 en ((if R.1 = 0 then (if krf R.2.2 (sym 1) = 65536 then 0 else 2) else R.1), R.2.1, (-1 : Int32), R.2.2)) 0 0 114 [some (am_r 46), some (.inl (nI n)), x4, x5] [] H := by
    intro H F kb g x4 x5 Z e1 e2 e3 e4 hke hF
    refine am_iload_n dX10_great_114 rfl rfl ?_
    refine am_nif_le 130 dX10_great_115 rfl rfl (by omega) (fun hq => ?_) (fun hq => ?_)
    · omega
    · refine am_aload_n dX10_great_118 rfl rfl ?_
      refine am_get f_X10_73 dX10_great_119 rfl Z.2.1 rfl ?_
      refine am_nif_ne 130 dX10_great_122 rfl rfl (by omega) (fun hq2 => ?_) (fun hq2 => ?_)
      · exact am_rv dX10_great_130 rfl rfl rfl ⟨g, gc, ga', by show rdH h H (mO ct md to bl co cp R.2.1 en (if R.1 = 0 then _ else R.1) tc) _ _ _; rw [if_neg (by omega), e1, e2]; exact Z, e3, fun j hj => ⟨e4 j hj, rfl⟩, hga', fun z => by rw [if_neg (by omega)] at z; omega, by show R.2.1 ≤ en; omega, by show (if R.1 = 0 then _ else R.1) < 10; rw [if_neg (by omega)]; omega⟩
      · subst hq2
        refine am_aload_n dX10_great_125 rfl rfl ?_
        refine am_iconst (v := nI 1) dX10_great_126 rfl (by decide +kernel) ?_
        refine am_vv (t_X10_complete (d - 1) _ Z.2.1 (t := 1) (by omega) Z.2.2.1 (len := R.2.2) (fun s hs => (e3 s hs).1) (fun s hs => (e3 s hs).2) Z.2.2.2.1 (by omega)) k_X10_complete l_X10_101 dX10_great_127 rfl rfl rfl rfl Z.2.1 (by omega) (Nat.le_refl _) (Nat.le_refl _) (fun h1 hx => ?_)
        obtain ⟨gc', rfl, c1, c2⟩ := hx
        refine am_rv dX10_great_130 rfl rfl rfl ⟨g, gc', ga', by show rdH h _ (mO ct md to bl co cp R.2.1 en (if R.1 = 0 then _ else R.1) tc) _ _ _; rw [if_pos e1, e2]; exact (Z.m _).c gc', e3, fun j hj => ⟨e4 j hj, c2 j hj⟩, hga', fun z => ⟨a4.trans hga, e3, fun _ => ⟨?_, c1⟩, fun q => absurd rfl q⟩, by show R.2.1 ≤ en; omega, by show (if R.1 = 0 then _ else R.1) < 10; rw [if_pos e1]; split <;> omega⟩
        have z : (if R.1 = 0 then (if krf R.2.2 (sym 1) = 65536 then 0 else 2) else R.1) = 0 := z
        rw [if_pos e1] at z
        by_cases zz : krf R.2.2 (sym 1) = 65536
        · exact zz
        · rw [if_neg zz] at z
          cases z
  have ex10 : ∀ (H : am_H) (F kb i : Nat) (g : Nat → Int32) (x5 : Option am_V), rdH h H (mO ct md to bl co cp kb en F tc) g gc ga' → R.1 = F → R.2.1 = kb → (∀ s, s < sym 1 → g (600 * 1 + s) = nI (R.2.2 s) ∧ R.2.2 s ≤ 16) → (∀ j, (∀ s, s < sym 1 → j ≠ 600 * 1 + s) → g j = gl j) → kb ≤ en → F < 10 → 0 < F → i < 2 ^ 20 → am_At l D dA m_X10_great d 0 0 0 0 n0 none (am_qv fun h' => trP h h' (fun bi fa => (mO ct md to bl co cp bi en fa tc)) gl gc ga 1 en ((if R.1 = 0 then (if krf R.2.2 (sym 1) = 65536 then 0 else 2) else R.1), R.2.1, (-1 : Int32), R.2.2)) 0 0 10 [some (am_r 46), some (.inl (nI n)), some (.inl (nI i)), x5] [] H := by
    intro H F kb i g x5 Z e1 e2 e3 e4 hke hF hF0 hi
    refine am_iload_n dX10_great_10 rfl rfl ?_
    refine am_iload_n dX10_great_11 rfl rfl ?_
    refine am_ncmp_ge 114 dX10_great_12 rfl rfl (by omega) (by omega) (fun hc => ?_) (fun hc => ?_)
    · exact tail H F kb g _ _ Z e1 e2 e3 e4 hke hF
    · refine am_aload_n dX10_great_15 rfl rfl ?_
      refine am_get f_X10_73 dX10_great_16 rfl Z.2.1 rfl ?_
      refine am_nif_ne 114 dX10_great_19 rfl rfl (by omega) (fun hq => ?_) (fun hq => ?_)
      · exact tail H F kb g _ _ Z e1 e2 e3 e4 hke hF
      · omega
  have ex94 : ∀ (H : am_H) (F kb i : Nat) (g : Nat → Int32) (x5 : Option am_V), rdH h H (mO ct md to bl co cp kb en F tc) g gc ga' → R.1 = F → R.2.1 = kb → (∀ s, s < sym 1 → g (600 * 1 + s) = nI (R.2.2 s) ∧ R.2.2 s ≤ 16) → (∀ j, (∀ s, s < sym 1 → j ≠ 600 * 1 + s) → g j = gl j) → kb ≤ en → F < 10 → 0 < F → i < 2 ^ 20 → am_At l D dA m_X10_great d 0 0 0 0 n0 none (am_qv fun h' => trP h h' (fun bi fa => (mO ct md to bl co cp bi en fa tc)) gl gc ga 1 en ((if R.1 = 0 then (if krf R.2.2 (sym 1) = 65536 then 0 else 2) else R.1), R.2.1, (-1 : Int32), R.2.2)) 0 0 94 [some (am_r 46), some (.inl (nI n)), some (.inl (nI i)), x5] [] H := by
    intro H F kb i g x5 Z e1 e2 e3 e4 hke hF hF0 hi
    refine am_aload_n dX10_great_94 rfl rfl ?_
    refine am_get f_X10_73 dX10_great_95 rfl Z.2.1 rfl ?_
    refine am_nif_ne 111 dX10_great_98 rfl rfl (by omega) (fun hc => ?_) (fun hc => ?_)
    · refine am_goto 10 dX10_great_111 rfl rfl ?_
      exact ex10 H F kb i g _ Z e1 e2 e3 e4 hke hF hF0 hi
    · omega
  have loop : ∀ (q i kb : Nat) (len : Nat → Nat) (g : Nat → Int32) (H : am_H) (x5 : Option am_V), n ≤ i + q → i ≤ n → rdH h H (mO ct md to bl co cp kb en 0 tc) g gc ga' → lncR f en n lenT alT q i kb len = R → (∀ s, s < sym 1 → g (600 * 1 + s) = nI (len s) ∧ len s ≤ 16) → (∀ j, (∀ s, s < sym 1 → j ≠ 600 * 1 + s) → g j = gl j) → kb ≤ en → am_At l D dA m_X10_great d 0 0 0 0 n0 none (am_qv fun h' => trP h h' (fun bi fa => (mO ct md to bl co cp bi en fa tc)) gl gc ga 1 en ((if R.1 = 0 then (if krf R.2.2 (sym 1) = 65536 then 0 else 2) else R.1), R.2.1, (-1 : Int32), R.2.2)) 0 0 10 [some (am_r 46), some (.inl (nI n)), some (.inl (nI i)), x5] [] H := by
    intro q
    induction q with
    | zero =>
      intro i kb len g H x5 hq hi Z hR g1 g2 hke
      rw [lncR, if_neg (by omega)] at hR
      refine am_iload_n dX10_great_10 rfl rfl ?_
      refine am_iload_n dX10_great_11 rfl rfl ?_
      refine am_ncmp_ge 114 dX10_great_12 rfl rfl (by omega) (by omega) (fun hc => ?_) (fun hc => ?_)
      · exact tail H 0 kb g _ _ Z (by rw [← hR]) (by rw [← hR]) (by rw [← hR]; exact g1) g2 hke (by omega)
      · omega
    | succ q ih =>
      intro i kb len g H x5 hq hi Z hR g1 g2 hke
      rw [lncR] at hR
      refine am_iload_n dX10_great_10 rfl rfl ?_
      refine am_iload_n dX10_great_11 rfl rfl ?_
      refine am_ncmp_ge 114 dX10_great_12 rfl rfl (by omega) (by omega) (fun hc => ?_) (fun hc => ?_)
      · rw [if_pos hc, if_neg (by omega)] at hR
        exact tail H 0 kb g _ _ Z (by rw [← hR]) (by rw [← hR]) (by rw [← hR]; exact g1) g2 hke (by omega)
      · rw [if_neg (by omega)] at hR
        refine am_aload_n dX10_great_15 rfl rfl ?_
        refine am_get f_X10_73 dX10_great_16 rfl Z.2.1 rfl ?_
        refine am_nif_ne 114 dX10_great_19 rfl rfl (by omega) (fun hq0 => ?_) (fun hq0 => ?_)
        · omega
        · have hTg : mrd g gc ga' 0 alT lenT := hT.at (fun s hs => g2 _ (fun z hz => by omega)) (fun s hs => rfl) (hga' 0 (by omega))
          have hSR := sy_m hTg f kb
          have hSR : SR lenT (sym 0) alT f kb (sy lenT 19 alT f kb).1 (sy lenT 19 alT f kb).2 := hSR
          obtain ⟨w, ew⟩ : ∃ w, w = (sy lenT 19 alT f kb).1 := ⟨_, rfl⟩
          obtain ⟨y, ey⟩ : ∃ y, y = (sy lenT 19 alT f kb).2 := ⟨_, rfl⟩
          rw [← ew, ← ey] at hR hSR
          have hwy := SR_w hSR
          have Z' : rdH H H _ g gc ga' := ⟨am_fr.rf, Z.2⟩
          refine am_aload_n dX10_great_22 rfl rfl ?_
          refine am_iconst (v := nI 0) dX10_great_23 rfl (by decide +kernel) ?_
          refine am_vi (t_X10_symbol (d - 1) _ Z' ((Z.tp (by simp)).trans hf) hE hke (t := 0) (by omega) hTg hSR (by omega)) k_X10_symbol l_X10_104 dX10_great_24 rfl rfl rfl rfl Z.2.1 (by omega) (Nat.le_refl _) (Nat.le_refl _) (fun z h2 hx => ?_)
          obtain ⟨hx1, hx2⟩ := hx
          by_cases hE3 : kb + w ≤ en
          · obtain ⟨rfl, rfl⟩ := hx1 hE3
            rw [if_neg (by omega)] at hR
            have Z1 := Z.m (mO ct md to bl co cp (kb + w) en 0 tc)
            refine am_istore_n dX10_great_27 rfl rfl ?_
            refine am_iload_n dX10_great_28 rfl rfl ?_
            refine am_iconst (v := nI 2) dX10_great_29 rfl (by decide +kernel) ?_
            refine am_ncmp_le 59 dX10_great_30 rfl rfl (by omega) (by omega) (fun hy2 => ?_) (fun hy2 => ?_)
            · refine am_iload_n dX10_great_59 rfl rfl ?_
              refine am_iload_n dX10_great_60 rfl rfl ?_
              refine am_nif_ne 68 dX10_great_61 rfl rfl (by omega) (fun hy0 => ?_) (fun hy0 => ?_)
              · refine am_iload_n dX10_great_68 rfl rfl ?_
                refine am_iconst (v := nI 1) dX10_great_69 rfl (by decide +kernel) ?_
                refine am_ncmp_ne 83 dX10_great_70 rfl rfl (by omega) (by omega) (fun hy1 => ?_) (fun hy1 => ?_)
                · skip
                  have eb : bbh y = 9 := by rw [show y = 2 by omega]; rfl
                  have el : lsf y = 20 := by rw [show y = 2 by omega]; rfl
                  rw [eb, el] at hR
                  refine am_bipush (v := nI 20) dX10_great_83 rfl (by decide +kernel) ?_
                  refine am_aload_n dX10_great_85 rfl rfl ?_
                  refine am_bipush (v := nI 9) dX10_great_86 rfl (by decide +kernel) ?_
                  refine am_vi (t_X10_take (d - 1) _ Z1.2.1 ((Z1.tp (by simp)).trans hf) hE hE3 (n := 9) (by omega) (by omega)) k_X10_take l_X10_90 dX10_great_88 rfl rfl rfl rfl Z1.2.1 (by omega) (Nat.le_refl _) (Nat.le_refl _) (fun z h4 hx => ?_)
                  obtain ⟨hy3, hy4⟩ := hx
                  by_cases hE4 : kb + w + 9 ≤ en
                  · obtain ⟨rfl, rfl⟩ := hy3 hE4
                    rw [if_neg (by omega)] at hR
                    have hnl := num_lt f (kb + w) 9
                    have Z4 := Z1.m (mO ct md to bl co cp (kb + w + 9) en 0 tc)
                    refine am_iadd dX10_great_91 rfl ?_
                    rw [nI_add]
                    refine am_iadd dX10_great_92 rfl ?_
                    rw [nI_add]
                    refine am_istore_n dX10_great_93 rfl rfl ?_
                    refine am_aload_n dX10_great_94 rfl rfl ?_
                    refine am_get f_X10_73 dX10_great_95 rfl Z4.2.1 rfl ?_
                    refine am_nif_ne 111 dX10_great_98 rfl rfl (by omega) (fun h98 => ?_) (fun h98 => ?_)
                    · omega
                    · rw [if_neg (by omega)] at hR
                      refine am_iload_n dX10_great_101 rfl rfl ?_
                      refine am_iload_n dX10_great_102 rfl rfl ?_
                      refine am_ncmp_le 111 dX10_great_103 rfl rfl (by omega) (by omega) (fun h103 => ?_) (fun h103 => ?_)
                      · refine am_goto 10 dX10_great_111 rfl rfl ?_
                        exact ih (i + (20 + num f (kb + w) 9)) (kb + w + 9) len g _ _ (by omega) (by omega) Z4 hR g1 g2 hE4
                      · refine am_aload_n dX10_great_106 rfl rfl ?_
                        refine am_iconst (v := nI 3) dX10_great_107 rfl (by decide +kernel) ?_
                        refine am_vv (t_X10_fails (d - 1) _ Z4.2.1 (by omega) (v := 3)) k_X10_fails l_X10_86 dX10_great_108 rfl rfl rfl rfl Z4.2.1 (by omega) (Nat.le_refl _) (Nat.le_refl _) (fun h6 hx => ?_)
                        rw [if_pos rfl] at hx
                        subst hx
                        have Z7 := Z4.m (mO ct md to bl co cp (kb + w + 9) en 3 tc)
                        refine am_goto 10 dX10_great_111 rfl rfl ?_
                        have hR3 : (3, kb + w + 9, len) = R := by
                          rw [← hR]
                          cases q with
                          | zero => rw [lncR, if_pos (by omega)]
                          | succ q => rw [lncR, if_pos (by omega), if_pos (by omega)]
                        exact ex10 _ 3 (kb + w + 9) (i + (20 + num f (kb + w) 9)) g _ Z7 (by rw [← hR3]) (by rw [← hR3]) (by rw [← hR3]; exact g1) g2 hE4 (by omega) (by omega) (by omega)
                  · obtain ⟨rfl, rfl⟩ := hy4 (by omega)
                    rw [if_pos (by omega)] at hR
                    have hnl := num_lt f (kb + w) (en - (kb + w))
                    have pp : 2 ^ (en - (kb + w)) ≤ 2 ^ 9 := Nat.pow_le_pow_right (by omega) (by omega)
                    have Z4 := Z1.m (mO ct md to bl co cp en en 1 tc)
                    refine am_iadd dX10_great_91 rfl ?_
                    rw [nI_add]
                    refine am_iadd dX10_great_92 rfl ?_
                    rw [nI_add]
                    refine am_istore_n dX10_great_93 rfl rfl ?_
                    exact ex94 _ 1 en _ g _ Z4 (by rw [← hR]) (by rw [← hR]) (by rw [← hR]; exact g1) g2 (Nat.le_refl _) (by omega) (by omega) (by omega)
                · skip
                  have eb : bbh y = 4 := by rw [show y = 1 by omega]; rfl
                  have el : lsf y = 3 := by rw [show y = 1 by omega]; rfl
                  rw [eb, el] at hR
                  refine am_iconst (v := nI 3) dX10_great_73 rfl (by decide +kernel) ?_
                  refine am_aload_n dX10_great_74 rfl rfl ?_
                  refine am_iconst (v := nI 4) dX10_great_75 rfl (by decide +kernel) ?_
                  refine am_vi (t_X10_take (d - 1) _ Z1.2.1 ((Z1.tp (by simp)).trans hf) hE hE3 (n := 4) (by omega) (by omega)) k_X10_take l_X10_90 dX10_great_76 rfl rfl rfl rfl Z1.2.1 (by omega) (Nat.le_refl _) (Nat.le_refl _) (fun z h4 hx => ?_)
                  obtain ⟨hy3, hy4⟩ := hx
                  by_cases hE4 : kb + w + 4 ≤ en
                  · obtain ⟨rfl, rfl⟩ := hy3 hE4
                    rw [if_neg (by omega)] at hR
                    have hnl := num_lt f (kb + w) 4
                    have Z4 := Z1.m (mO ct md to bl co cp (kb + w + 4) en 0 tc)
                    refine am_iadd dX10_great_79 rfl ?_
                    rw [nI_add]
                    refine am_goto 92 dX10_great_80 rfl rfl ?_
                    refine am_iadd dX10_great_92 rfl ?_
                    rw [nI_add]
                    refine am_istore_n dX10_great_93 rfl rfl ?_
                    refine am_aload_n dX10_great_94 rfl rfl ?_
                    refine am_get f_X10_73 dX10_great_95 rfl Z4.2.1 rfl ?_
                    refine am_nif_ne 111 dX10_great_98 rfl rfl (by omega) (fun h98 => ?_) (fun h98 => ?_)
                    · omega
                    · rw [if_neg (by omega)] at hR
                      refine am_iload_n dX10_great_101 rfl rfl ?_
                      refine am_iload_n dX10_great_102 rfl rfl ?_
                      refine am_ncmp_le 111 dX10_great_103 rfl rfl (by omega) (by omega) (fun h103 => ?_) (fun h103 => ?_)
                      · refine am_goto 10 dX10_great_111 rfl rfl ?_
                        exact ih (i + (3 + num f (kb + w) 4)) (kb + w + 4) len g _ _ (by omega) (by omega) Z4 hR g1 g2 hE4
                      · refine am_aload_n dX10_great_106 rfl rfl ?_
                        refine am_iconst (v := nI 3) dX10_great_107 rfl (by decide +kernel) ?_
                        refine am_vv (t_X10_fails (d - 1) _ Z4.2.1 (by omega) (v := 3)) k_X10_fails l_X10_86 dX10_great_108 rfl rfl rfl rfl Z4.2.1 (by omega) (Nat.le_refl _) (Nat.le_refl _) (fun h6 hx => ?_)
                        rw [if_pos rfl] at hx
                        subst hx
                        have Z7 := Z4.m (mO ct md to bl co cp (kb + w + 4) en 3 tc)
                        refine am_goto 10 dX10_great_111 rfl rfl ?_
                        have hR3 : (3, kb + w + 4, len) = R := by
                          rw [← hR]
                          cases q with
                          | zero => rw [lncR, if_pos (by omega)]
                          | succ q => rw [lncR, if_pos (by omega), if_pos (by omega)]
                        exact ex10 _ 3 (kb + w + 4) (i + (3 + num f (kb + w) 4)) g _ Z7 (by rw [← hR3]) (by rw [← hR3]) (by rw [← hR3]; exact g1) g2 hE4 (by omega) (by omega) (by omega)
                  · obtain ⟨rfl, rfl⟩ := hy4 (by omega)
                    rw [if_pos (by omega)] at hR
                    have hnl := num_lt f (kb + w) (en - (kb + w))
                    have pp : 2 ^ (en - (kb + w)) ≤ 2 ^ 4 := Nat.pow_le_pow_right (by omega) (by omega)
                    have Z4 := Z1.m (mO ct md to bl co cp en en 1 tc)
                    refine am_iadd dX10_great_79 rfl ?_
                    rw [nI_add]
                    refine am_goto 92 dX10_great_80 rfl rfl ?_
                    refine am_iadd dX10_great_92 rfl ?_
                    rw [nI_add]
                    refine am_istore_n dX10_great_93 rfl rfl ?_
                    exact ex94 _ 1 en _ g _ Z4 (by rw [← hR]) (by rw [← hR]) (by rw [← hR]; exact g1) g2 (Nat.le_refl _) (by omega) (by omega) (by omega)
              · have eb : bbh y = 0 := by rw [show y = 0 by omega]; rfl
                have el : lsf y = 1 := by rw [show y = 0 by omega]; rfl
                rw [eb, el, if_neg (by omega), show num f (kb + w) 0 = 0 from rfl] at hR
                refine am_iconst (v := nI 1) dX10_great_64 rfl (by decide +kernel) ?_
                refine am_goto 92 dX10_great_65 rfl rfl ?_
                refine am_iadd dX10_great_92 rfl ?_
                rw [nI_add]
                refine am_istore_n dX10_great_93 rfl rfl ?_
                refine am_aload_n dX10_great_94 rfl rfl ?_
                refine am_get f_X10_73 dX10_great_95 rfl Z1.2.1 rfl ?_
                refine am_nif_ne 111 dX10_great_98 rfl rfl (by omega) (fun h98 => ?_) (fun h98 => ?_)
                · omega
                · rw [if_neg (by omega)] at hR
                  refine am_iload_n dX10_great_101 rfl rfl ?_
                  refine am_iload_n dX10_great_102 rfl rfl ?_
                  refine am_ncmp_le 111 dX10_great_103 rfl rfl (by omega) (by omega) (fun h103 => ?_) (fun h103 => ?_)
                  · refine am_goto 10 dX10_great_111 rfl rfl ?_
                    exact ih (i + (1 + 0)) (kb + w + 0) len g _ _ (by omega) (by omega) Z1 hR g1 g2 hE3
                  · refine am_aload_n dX10_great_106 rfl rfl ?_
                    refine am_iconst (v := nI 3) dX10_great_107 rfl (by decide +kernel) ?_
                    refine am_vv (t_X10_fails (d - 1) _ Z1.2.1 (by omega) (v := 3)) k_X10_fails l_X10_86 dX10_great_108 rfl rfl rfl rfl Z1.2.1 (by omega) (Nat.le_refl _) (Nat.le_refl _) (fun h6 hx => ?_)
                    rw [if_pos rfl] at hx
                    subst hx
                    have Z7 := Z1.m (mO ct md to bl co cp (kb + w + 0) en 3 tc)
                    refine am_goto 10 dX10_great_111 rfl rfl ?_
                    have hR3 : (3, kb + w + 0, len) = R := by
                      rw [← hR]
                      cases q with
                      | zero => rw [lncR, if_pos (by omega)]
                      | succ q => rw [lncR, if_pos (by omega), if_pos (by omega)]
                    exact ex10 _ 3 (kb + w + 0) (i + (1 + 0)) g _ Z7 (by rw [← hR3]) (by rw [← hR3]) (by rw [← hR3]; exact g1) g2 hE3 (by omega) (by omega) (by omega)
            · have eb : bbh y = 0 := by unfold bbh; rw [if_neg (by omega), if_neg (by omega)]
              have el : lsf y = 1 := by unfold lsf; rw [if_neg (by omega), if_neg (by omega)]
              rw [eb, el, if_neg (by omega), show num f (kb + w) 0 = 0 from rfl, if_pos (by omega)] at hR
              have g1' : ∀ s, s < sym 1 → upd g (600 + i) (nI (y - 2)) (600 * 1 + s) = nI (updN len i (y - 2) s) ∧ updN len i (y - 2) s ≤ 16 := by
                intro s hs
                by_cases zs : s = i
                · subst zs; rw [show 600 * 1 + s = 600 + s by omega, upd_eq, updN_eq]; exact ⟨rfl, by omega⟩
                · rw [upd_ne (by omega), updN_ne zs]; exact g1 s hs
              have g2' : ∀ j, (∀ s, s < sym 1 → j ≠ 600 * 1 + s) → upd g (600 + i) (nI (y - 2)) j = gl j := fun j hj => by
                rw [upd_ne (by have := hj i (by omega); omega)]; exact g2 j hj
              have Z3 := Z1.ln (upd g (600 + i) (nI (y - 2)))
              refine am_aload_n dX10_great_33 rfl rfl ?_
              refine am_get f_X10_73 dX10_great_34 rfl Z1.2.1 rfl ?_
              refine am_nif_ne 53 dX10_great_37 rfl rfl (by omega) (fun h37 => ?_) (fun h37 => ?_)
              · omega
              · refine am_aload_n dX10_great_40 rfl rfl ?_
                refine am_get f_X10_16 dX10_great_41 rfl Z1.2.1 rfl ?_
                refine am_sipush (v := nI 600) dX10_great_44 rfl (by decide +kernel) ?_
                refine am_iload_n dX10_great_47 rfl rfl ?_
                refine am_iadd dX10_great_48 rfl ?_
                rw [nI_add]
                refine am_iload_n dX10_great_49 rfl rfl ?_
                refine am_iconst (v := nI 2) dX10_great_50 rfl (by decide +kernel) ?_
                refine am_isub dX10_great_51 rfl ?_
                rw [pk_sub (by omega)]
                refine am_iast dX10_great_52 rfl Z1.2.2.1 (by omega) (by omega) ?_
                refine am_iinc (n := 1) dX10_great_53 rfl rfl (nI_1 i) ?_
                refine am_goto 111 dX10_great_56 rfl rfl ?_
                refine am_goto 10 dX10_great_111 rfl rfl ?_
                exact ih (i + 1) _ _ _ _ _ (by omega) (by omega) Z3 hR g1' g2' hE3
          · obtain ⟨rfl, rfl⟩ := hx2 (by omega)
            rw [if_pos (by omega)] at hR
            have Z1 := Z.m (mO ct md to bl co cp en en 1 tc)
            refine am_istore_n dX10_great_27 rfl rfl ?_
            refine am_iload_n dX10_great_28 rfl rfl ?_
            refine am_iconst (v := nI 2) dX10_great_29 rfl (by decide +kernel) ?_
            refine am_ncmp_le 59 dX10_great_30 rfl rfl (by omega) (by omega) (fun hy2 => ?_) (fun hy2 => ?_)
            · refine am_iload_n dX10_great_59 rfl rfl ?_
              refine am_iload_n dX10_great_60 rfl rfl ?_
              refine am_nif_ne 68 dX10_great_61 rfl rfl (by omega) (fun hy0 => ?_) (fun hy0 => ?_)
              · omega
              · refine am_iconst (v := nI 1) dX10_great_64 rfl (by decide +kernel) ?_
                refine am_goto 92 dX10_great_65 rfl rfl ?_
                refine am_iadd dX10_great_92 rfl ?_
                rw [nI_add]
                refine am_istore_n dX10_great_93 rfl rfl ?_
                exact ex94 _ 1 en _ g _ Z1 (by rw [← hR]) (by rw [← hR]) (by rw [← hR]; exact g1) g2 (Nat.le_refl _) (by omega) (by omega) (by omega)
            · omega
  exact loop n 0 (bi + 9) (fun _ => 0) gl H0 _ (by omega) (by omega) Y eR.symm (fun s hs => ⟨hz s hs, Nat.zero_le _⟩) (fun j _ => rfl) a1
end MOD4
